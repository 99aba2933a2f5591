/-! the law's market, built: the wishes, and the whole -/
section MK3
variable {n : Nat} {xs : Nat → Int32} {I I1 I' I2 : Mem} {K K1 K' K2 : Kt} {ns s p w y : Nat}
theorem AL.nw {a r k : Nat} {sh : Nat × Nat} (A : AL K I a r k) (hI : ∀ c, c ≠ kN K → I1 c = I c) : AL (kNew K sh) I1 a r k :=
  ⟨A.1.nw, by rw [hI a (Nat.ne_of_lt A.1.2)]; exact A.2.1, A.2.2.imp (fun z => ⟨z.1, by rw [kn_g (Nat.ne_of_lt A.1.2)]; exact z.2⟩) (fun z => ⟨z.1, by rw [kn_g (Nat.ne_of_lt A.1.2)]; exact z.2.1, z.2.2.nw⟩)⟩
theorem AL.r {a r k : Nat} (A : AL K I a r k) (hk : 1 ≤ k) : r < kN K := by
  rcases A.2.2 with z | z
  · omega
  · exact z.2.2.2
theorem HB.nw {sh : Nat × Nat} (H : HB K I ns s p w) (hI : ∀ c, c ≠ kN K → I1 c = I c) : HB (kNew K sh) I1 ns s p w := by
  have hm := Nat.ne_of_lt H.m.2
  refine ⟨⟨⟨H.m.nw, by rw [kn_g hm]; exact H.g7⟩, by rw [kn_g hm]; exact H.g8, by rw [kn_g hm]; exact H.g9⟩, ⟨H.lp.nw hI, H.ls.nw hI, H.lw.nw hI⟩, fun i hi => ?_, fun i hi => ?_, fun i hi => ?_⟩
  · rw [kn_g (Nat.ne_of_lt (H.ls.r (by omega)))]
    exact ⟨(H.2.2.1 i hi).1, (H.2.2.1 i hi).2.nw⟩
  · rw [kn_g (Nat.ne_of_lt (H.lp.r (by omega)))]
    exact ⟨(H.2.2.2.1 i hi).1, (H.2.2.2.1 i hi).2.nw⟩
  · rw [kn_g (Nat.ne_of_lt (H.lw.r (by omega)))]
    exact ⟨(H.2.2.2.2 i hi).1, (H.2.2.2.2 i hi).2.nw⟩
theorem mk_347 (hn : n ≤ 260) (h2 : 1 ≤ ns ∧ ns ≤ 2) : ∀ d w, w + d = 4 → ∀ f, d < f → ∀ I K, HB K I ns ns 2 w → HV I ns ns 2 w y → kN K = 423 + ns + (if w = 0 then 0 else w + 1) →
    ∃ I' K', l_L_market_347 n xs f I K 415 (nI ns) (nI w) = some (415, I', K') ∧ HB K' I' ns ns 2 4 ∧ HV I' ns ns 2 4 y ∧ kN K' = 428 + ns ∧ Fb K K' I I' := by
  intro d
  induction d with
  | zero =>
    intro w hs f hf I K H V hk
    obtain rfl : w = 4 := by omega
    cases f with
    | zero => omega
    | succ f =>
      refine ⟨I, K, ?_, H, V, by rw [hk, if_neg (by omega)]; omega, Fb.refl⟩
      unfold l_L_market_347
      rw [if_pos (show (4 : Int32) ≤ nI 4 by decide)]
  | succ d ih =>
    intro w hs f hf I K H V hk
    cases f with
    | zero => omega
    | succ f =>
      have hk2 : kN K = wd ns w := by
        rw [hk]
        unfold wd
        split <;> omega
      have hg := wd_ge (ns := ns) (k := w)
      obtain ⟨v, hv⟩ := cell_some (n := n) (xs := xs) (I := I) (K := K) (k := 5 + w) (by omega) hn
      obtain ⟨a, z1, ha⟩ := an_31 v
      obtain ⟨b, z2, hb⟩ := an_3 (ush v 5)
      obtain ⟨c, z3, hc⟩ := an_15 (ush v 7)
      obtain ⟨t, z4, ht⟩ := an_3 (ush v 11)
      have m3 : nI c - nI c / 10 * 10 = nI (c % 10) := md_g (m := 10) (by omega) (by decide) (by decide)
      have m2 : nI t - nI t / 2 * 2 = nI (t % 2) := md_g (m := 2) (by omega) (by decide) (by decide)
      have mn : nI t - nI t / nI ns * nI ns = nI (t % ns) := md_g (by omega) (by omega) (by omega)
      have htn : t % ns < ns := Nat.mod_lt _ (by omega)
      have hwl : ∀ j, j < w → wd ns j < kN K := fun j hj => (H.2.2.2.2 j hj).2.2
      have core : ∀ I1 : Mem, (∀ q, q ≠ kN K → I1 q = I q) → (I1 (kN K) 0 = nI (1 + a) ∧ I1 (kN K) 1 = nI b ∧ I1 (kN K) 2 = nI (c % 10)) → ((∃ u, u < ns ∧ I1 (kN K) 3 = nI u ∧ I1 (kN K) 4 = -1 ∧ ¬ I (419 + 2 * u) 0 ≤ nI (stk I ns u w)) ∨ (I1 (kN K) 3 = -1 ∧ ∃ o, I1 (kN K) 4 = nI o ∧ o < 2)) → ((I1 (kN K) 5 = -1 ∧ I1 (kN K) 6 = -1 ∧ I1 (kN K) 7 = -1) ∧ I1 (kN K) 8 = 0 ∧ I1 (kN K) 9 = 0) →
          ∃ I' K', l_L_market_474 n xs (l_L_market_347 n xs f) I1 (kNew K (10, 10)) 415 (nI ns) (nI w) (kN K) = some (415, I', K') ∧ HB K' I' ns ns 2 4 ∧ HV I' ns ns 2 4 y ∧ kN K' = 428 + ns ∧ Fb K K' I I' := by
        intro I1 hI v0 v1 v2
        obtain ⟨I2, K2, q1, q2, q3, q4, q5, q6, q7, q8, q9⟩ := H.lw.obj (ci := 10) (n := 10) hI (fun h => by subst h; rw [hk]; rw [if_pos rfl]; omega) (by omega) (by omega) (by rw [hk]; split <;> omega) (Or.inr (Or.inl rfl)) (by decide)
        have H2 := H.w1 (by omega) h2 hk2 q5 q6 q2 q3 q8 (by rw [q4]; split <;> omega) q9
        have hc1 : ∀ q, q < kN K → q ≠ 418 → q ≠ 424 + ns → I2 q = I q := q6
        have ewd : ∀ j, j < w → I2 (wd ns j) = I (wd ns j) := fun j hj => hc1 _ (hwl j hj) (by have := wd_ge (ns := ns) (k := j); omega) (wd_ge (ns := ns) (k := j)).2
        have V2' : HV I2 ns ns 2 w y := V.mv (hc1 415 (by omega) (by decide) (by omega)) (fun i hi => hc1 _ (by omega) (by omega) (by omega)) (fun i hi => hc1 _ (by omega) (by omega) (by omega)) ewd (Or.inr rfl)
        have V2 : HV I2 ns ns 2 (w + 1) y := by
          refine ⟨V2'.1, V2'.2.1, V2'.2.2.1, fun i hi => ?_⟩
          by_cases h : i = w
          · subst h
            refine ⟨1 + a, b, c % 10, ?_⟩
            rw [← hk2, q7]
            refine ⟨⟨v0.1, by omega, by omega⟩, ⟨v0.2.1, by omega⟩, ⟨v0.2.2, by omega⟩, v1.imp (fun z => ?_) id, v2⟩
            obtain ⟨u, u1', u2', u3', u4'⟩ := z
            refine ⟨u, u1', u2', u3', ?_⟩
            have e : stk I2 ns u i = stk I ns u i := sCnt_eq (fun j hj => by rw [ewd j hj])
            rw [e, hc1 (419 + 2 * u) (by omega) (by omega) (by omega)]
            exact u4'
          · exact V2'.2.2.2 i (by omega)
        obtain ⟨I3, K3, r1, r2, r3, r4, r5⟩ := ih (w + 1) (by omega) f (by omega) I2 K2 H2 V2 (by rw [q4, hk, if_neg (show ¬ w + 1 = 0 by omega)]; split <;> omega)
        refine ⟨I3, K3, ?_, r2, r3, r4, (Fb.of q5 q6 (by omega) (by decide) (by omega)).trans r5⟩
        rw [← r1]
        have Hn := H.nw (sh := (10, 10)) hI
        unfold l_L_market_474
        rw [cO_n Hn.m, b1_so, gR_e Hn.g9, b1_so, cO_n Hn.lw.1, b1_so, q1, b3_so, nI_s1]
      have hB : ∀ q, q ≠ kN K → (u2 (u2 (u2 (u2 (u2 (u2 (u2 (u2 (u1 I (kN K) fun _ => 0) (kN K) 3 (-1)) (kN K) 4 (-1)) (kN K) 5 (-1)) (kN K) 6 (-1)) (kN K) 7 (-1)) (kN K) 0 (nI (1 + a))) (kN K) 1 (nI b)) (kN K) 2 (nI (c % 10))) q = I q := fun q hq => by
        rw [u2_a hq, u2_a hq, u2_a hq, u2_a hq, u2_a hq, u2_a hq, u2_a hq, u2_a hq, u1_n hq]
      generalize eB : u2 (u2 (u2 (u2 (u2 (u2 (u2 (u2 (u1 I (kN K) fun _ => 0) (kN K) 3 (-1)) (kN K) 4 (-1)) (kN K) 5 (-1)) (kN K) 6 (-1)) (kN K) 7 (-1)) (kN K) 0 (nI (1 + a))) (kN K) 1 (nI b)) (kN K) 2 (nI (c % 10)) = IB at hB
      have f0 : IB (kN K) 0 = nI (1 + a) := by rw [← eB, u2_k (by decide), u2_k (by decide), u2_s]
      have f1 : IB (kN K) 1 = nI b := by rw [← eB, u2_k (by decide), u2_s]
      have f2 : IB (kN K) 2 = nI (c % 10) := by rw [← eB, u2_s]
      have f3 : IB (kN K) 3 = -1 := by rw [← eB, u2_k (by decide), u2_k (by decide), u2_k (by decide), u2_k (by decide), u2_k (by decide), u2_k (by decide), u2_k (by decide), u2_s]
      have f4 : IB (kN K) 4 = -1 := by rw [← eB, u2_k (by decide), u2_k (by decide), u2_k (by decide), u2_k (by decide), u2_k (by decide), u2_k (by decide), u2_s]
      have f5 : IB (kN K) 5 = -1 := by rw [← eB, u2_k (by decide), u2_k (by decide), u2_k (by decide), u2_k (by decide), u2_k (by decide), u2_s]
      have f6 : IB (kN K) 6 = -1 := by rw [← eB, u2_k (by decide), u2_k (by decide), u2_k (by decide), u2_k (by decide), u2_s]
      have f7 : IB (kN K) 7 = -1 := by rw [← eB, u2_k (by decide), u2_k (by decide), u2_k (by decide), u2_s]
      have f8 : IB (kN K) 8 = 0 := by rw [← eB, u2_k (by decide), u2_k (by decide), u2_k (by decide), u2_k (by decide), u2_k (by decide), u2_k (by decide), u2_k (by decide), u2_k (by decide), u1_s]
      have f9 : IB (kN K) 9 = 0 := by rw [← eB, u2_k (by decide), u2_k (by decide), u2_k (by decide), u2_k (by decide), u2_k (by decide), u2_k (by decide), u2_k (by decide), u2_k (by decide), u1_s]
      have Hn := H.nw (sh := (10, 10)) hB
      have own : ∃ I' K', l_L_market_465 n xs (l_L_market_347 n xs f) IB (kNew K (10, 10)) 415 (nI ns) (nI w) (kN K) (nI t) = some (415, I', K') ∧ HB K' I' ns ns 2 4 ∧ HV I' ns ns 2 4 y ∧ kN K' = 428 + ns ∧ Fb K K' I I' := by
        unfold l_L_market_465
        rw [cO_n LO.mk, b1_so, m2, pu_so, b1_so]
        refine core _ (fun q hq => by rw [u2_a hq]; exact hB q hq) ⟨?_, ?_, ?_⟩ (Or.inr ⟨?_, t % 2, u2_s, Nat.mod_lt _ (by decide)⟩) ⟨⟨?_, ?_, ?_⟩, ?_, ?_⟩
        · rw [u2_k (by decide)]; exact f0
        · rw [u2_k (by decide)]; exact f1
        · rw [u2_k (by decide)]; exact f2
        · rw [u2_k (by decide)]; exact f3
        · rw [u2_k (by decide)]; exact f5
        · rw [u2_k (by decide)]; exact f6
        · rw [u2_k (by decide)]; exact f7
        · rw [u2_k (by decide)]; exact f8
        · rw [u2_k (by decide)]; exact f9
      unfold l_L_market_347
      rw [if_neg (show ¬ (4 : Int32) ≤ nI w from nle_f (a := 4) (by omega) (by decide)), show (5 : Int32) + nI w = nI (5 + w) from nI_add 5 w, hv, b1_so, cL_n (by rw [hk]; split <;> omega), b1_so, puN_e, b2_so]
      unfold f_X12_init
      rw [cO_n LO.mk, b1_so, pu_so, b1_so, b1_so, pu_so, b1_so, b1_so, pu_so, b1_so, b1_so, pu_so, b1_so, b1_so, pu_so, b1_so, b1_so, b1_so, z1, show (1 : Int32) + nI a = nI (1 + a) from nI_add 1 a, pu_so, b1_so, b1_so, z2, pu_so, b1_so, b1_so, z3, m3, pu_so, b1_so, eB, z4]
      by_cases h9 : (2 : Int32) ≤ nI t
      · rw [if_pos h9]
        exact own
      · have estk : stk IB ns (t % ns) w = stk I ns (t % ns) w := sCnt_eq (fun j hj => by rw [hB _ (Nat.ne_of_lt (hwl j hj))])
        have est : IB (419 + 2 * (t % ns)) = I (419 + 2 * (t % ns)) := hB _ (by rw [hk]; split <;> omega)
        rw [if_neg h9, nz_n (by omega) (by omega), b1_so, cO_n Hn.m, b1_so, mn, stock_row Hn (by omega), b1_so, b1_so, gR_e Hn.g8, b1_so, b1_so, cO_n Hn.ls.1, b1_so, Hn.ls.get htn (by omega) (Hn.2.2.1 _ htn).1, b1_so, cA_n (Hn.2.2.1 _ htn).2, b1_so, b1_so, show ix 0 4 = some 0 from rfl, b1_so, estk, est]
        by_cases h8 : I (419 + 2 * (t % ns)) 0 ≤ nI (stk I ns (t % ns) w)
        · rw [if_pos h8]
          exact own
        · rw [if_neg h8, b1_so, b1_so, pu_so, b1_so]
          refine core _ (fun q hq => by rw [u2_a hq]; exact hB q hq) ⟨?_, ?_, ?_⟩ (Or.inl ⟨t % ns, htn, u2_s, ?_, h8⟩) ⟨⟨?_, ?_, ?_⟩, ?_, ?_⟩
          · rw [u2_k (by decide)]; exact f0
          · rw [u2_k (by decide)]; exact f1
          · rw [u2_k (by decide)]; exact f2
          · rw [u2_k (by decide)]; exact f4
          · rw [u2_k (by decide)]; exact f5
          · rw [u2_k (by decide)]; exact f6
          · rw [u2_k (by decide)]; exact f7
          · rw [u2_k (by decide)]; exact f8
          · rw [u2_k (by decide)]; exact f9
/-- a new list -/
theorem lnew {j : Nat} (hm : LO K 8 415) (hL : kN K < 800000) (hk : 415 < kN K) : f_Jx4a65c_init_da8c8 (u1 I (kN K) (fun _ => 0)) (kNew K (11, 3)) (kN K) = some (u2 (u1 I (kN K) (fun _ => 0)) (kN K) 0 0, kPut (kNew K (11, 3)) (kN K) 1 (xE 43)) := by
  unfold f_Jx4a65c_init_da8c8 f_Jxc12de_init_da8c8 f_Jxa1e45_init_da8c8
  rw [b1_so, cO_n LO.mk, b1_so, pu_so, b1_so, b1_so, b1_so, puG_e, b1_so]
theorem market_row (hn : n ≤ 260) (hk : kN K = 415) : ∃ ns y I' K', f_L_market n xs I K = some (415, I', K') ∧ (1 ≤ ns ∧ ns ≤ 2) ∧ HB K' I' ns ns 2 4 ∧ HV I' ns ns 2 4 y ∧ kN K' = 428 + ns ∧ Fb K K' I I' := by
  obtain ⟨v, hv⟩ : ∃ v, ∀ I K, f_L_cell n xs I K 0 = some v := by
    unfold f_L_cell
    by_cases h : nI n ≤ 0
    · exact ⟨0, fun _ _ => if_pos h⟩
    · have h2 : 0 < n := by
        rw [show (0 : Int32) = nI 0 from rfl, nJ_e (by omega) (by omega)] at h
        omega
      exact ⟨xs 0, fun _ _ => by rw [if_neg h, show ix 0 n = some 0 from ix_n (j := 0) h2 (by omega), b1_so]⟩
  obtain ⟨b, z1, hb⟩ := an_3 v
  obtain ⟨r, z2, hr⟩ := an_3 (ush v 2)
  obtain ⟨e, z3, he⟩ := an_31 (ush v 4)
  obtain ⟨a, z4, ha⟩ := an_3 (ush v 10)
  obtain ⟨t, z5, ht⟩ := an_3 (ush v 13)
  obtain ⟨x, z6, hx⟩ := an_31 (ush v 15)
  obtain ⟨s, z7, hs⟩ := an_1 (ush v 20)
  have ma : nI a - nI a / nI (4 + b) * nI (4 + b) = nI (a % (4 + b)) := md_g (by omega) (by omega) (by omega)
  have mt : nI t - nI t / nI (4 + b) * nI (4 + b) = nI (t % (4 + b)) := md_g (by omega) (by omega) (by omega)
  have hla : a % (4 + b) < 4 + b := Nat.mod_lt _ (by omega)
  have hlt : t % (4 + b) < 4 + b := Nat.mod_lt _ (by omega)
  -- the tables once the three lists are there
  let KA := kNew K (8, 10)
  let KB := kPut (kPut (kNew KA (11, 3)) 416 1 (xE 43)) 415 7 416
  let KC := kPut (kPut (kNew KB (11, 3)) 417 1 (xE 43)) 415 8 417
  let KD := kPut (kPut (kNew KC (11, 3)) 418 1 (xE 43)) 415 9 418
  have nA : kN KA = 416 := by show kN K + 1 = 416; omega
  have nB : kN KB = 417 := by show kN KA + 1 = 417; omega
  have nC : kN KC = 418 := by show kN KB + 1 = 418; omega
  have nD : kN KD = 419 := by show kN KC + 1 = 419; omega
  have mA : LO KA 8 415 := by rw [← hk]; exact LO.mk
  have mB : LO KB 8 415 := (show LO (kNew KA (11, 3)) 8 415 from mA.nw)
  have mC : LO KC 8 415 := (show LO (kNew KB (11, 3)) 8 415 from mB.nw)
  have mD : LO KD 8 415 := (show LO (kNew KC (11, 3)) 8 415 from mC.nw)
  have lB : LO KB 11 416 := (show LO (kNew KA (11, 3)) 11 416 from by rw [← nA]; exact LO.mk)
  have lC : LO KC 11 416 := (show LO (kNew KB (11, 3)) 11 416 from lB.nw)
  have lD : LO KD 11 416 := (show LO (kNew KC (11, 3)) 11 416 from lC.nw)
  have sC : LO KC 11 417 := (show LO (kNew KB (11, 3)) 11 417 from by rw [← nB]; exact LO.mk)
  have sD : LO KD 11 417 := (show LO (kNew KC (11, 3)) 11 417 from sC.nw)
  have wD : LO KD 11 418 := (show LO (kNew KC (11, 3)) 11 418 from by rw [← nC]; exact LO.mk)
  have gB7 : kG KB 415 7 = some 416 := kp_s
  have gB1 : kG KB 416 1 = some (xE 43) := (congrFun (kp_a (by decide)) 1).trans kp_s
  have gC8 : kG KC 415 8 = some 417 := kp_s
  have gC7 : kG KC 415 7 = some 416 := (kp_k (by decide)).trans ((congrFun (kp_a (by decide)) 7).trans ((congrFun (kn_g (by omega)) 7).trans gB7))
  have gC1 : kG KC 417 1 = some (xE 43) := (congrFun (kp_a (by decide)) 1).trans kp_s
  have gC6 : kG KC 416 1 = some (xE 43) := (congrFun (kp_a (by decide)) 1).trans ((congrFun (kp_a (by decide)) 1).trans ((congrFun (kn_g (by omega)) 1).trans gB1))
  have gD9 : kG KD 415 9 = some 418 := kp_s
  have gD8 : kG KD 415 8 = some 417 := (kp_k (by decide)).trans ((congrFun (kp_a (by decide)) 8).trans ((congrFun (kn_g (by omega)) 8).trans gC8))
  have gD7 : kG KD 415 7 = some 416 := (kp_k (by decide)).trans ((congrFun (kp_a (by decide)) 7).trans ((congrFun (kn_g (by omega)) 7).trans gC7))
  have gDw : kG KD 418 1 = some (xE 43) := (congrFun (kp_a (by decide)) 1).trans kp_s
  have gDs : kG KD 417 1 = some (xE 43) := (congrFun (kp_a (by decide)) 1).trans ((congrFun (kp_a (by decide)) 1).trans ((congrFun (kn_g (by omega)) 1).trans gC1))
  have gDl : kG KD 416 1 = some (xE 43) := (congrFun (kp_a (by decide)) 1).trans ((congrFun (kp_a (by decide)) 1).trans ((congrFun (kn_g (by omega)) 1).trans gC6))
  let I0 := u2 (u2 (u2 (u2 (u1 I 415 fun _ => 0) 415 2 3) 415 3 10) 415 4 (-1)) 415 5 (-1)
  let IA := u2 (u1 I0 416 fun _ => 0) 416 0 0
  let IB := u2 (u1 IA 417 fun _ => 0) 417 0 0
  let IC := u2 (u1 IB 418 fun _ => 0) 418 0 0
  have i0 : ∀ c, c ≠ 415 → I0 c = I c := fun c h => (u2_a h).trans ((u2_a h).trans ((u2_a h).trans ((u2_a h).trans (u1_n h))))
  have iA : ∀ c, c ≠ 416 → IA c = I0 c := fun c h => (u2_a h).trans (u1_n h)
  have iB : ∀ c, c ≠ 417 → IB c = IA c := fun c h => (u2_a h).trans (u1_n h)
  have iC : ∀ c, c ≠ 418 → IC c = IB c := fun c h => (u2_a h).trans (u1_n h)
  have zA : IC 416 2 = 0 := by
    rw [iC _ (by decide), iB _ (by decide)]
    exact (u2_k (by decide)).trans (congrFun u1_s 2)
  have zB : IC 417 2 = 0 := by
    rw [iC _ (by decide)]
    exact (u2_k (by decide)).trans (congrFun u1_s 2)
  have zC : IC 418 2 = 0 := (u2_k (by decide)).trans (congrFun u1_s 2)
  have e0 : IC 415 = I0 415 := by rw [iC _ (by decide), iB _ (by decide), iA _ (by decide)]
  have c1 : I0 415 1 = 0 := (u2_k (by decide)).trans ((u2_k (by decide)).trans ((u2_k (by decide)).trans ((u2_k (by decide)).trans (congrFun u1_s 1))))
  have c4 : I0 415 4 = -1 := (u2_k (by decide)).trans u2_s
  have c5 : I0 415 5 = -1 := u2_s
  have hinit : f_X10_init (u1 I 415 fun _ => 0) KA 415 = some (IC, KD) := by
    unfold f_X10_init
    have q1 := lnew (I := I0) (K := KA) (j := 0) mA (by omega) (by omega)
    have q2 := lnew (I := IA) (K := KB) (j := 0) mB (by omega) (by omega)
    have q3 := lnew (I := IB) (K := KC) (j := 0) mC (by omega) (by omega)
    rw [nA] at q1; rw [nB] at q2; rw [nC] at q3
    rw [cO_n mA, b1_so, pu_so, b1_so, b1_so, pu_so, b1_so, b1_so, pu_so, b1_so, b1_so, pu_so, b1_so, cL_n (by omega), b1_so, puN_e, b2_so, nA, q1, b2_so, cO_n (show LO (kPut (kNew KA (11, 3)) 416 1 (xE 43)) 8 415 from mB), b1_so, puG_e, b1_so]
    show (b1 (cL KB) fun _ => b2 (puN IA KB (11, 3)) fun I30 K31 => b2 (f_Jx4a65c_init_da8c8 I30 K31 (kN KB)) fun I34 K35 => b1 (cO K35 8 415) fun _ => b1 (puG K35 415 8 (kN KB)) fun K39 => b1 (cL K39) fun _ => b2 (puN I34 K39 (11, 3)) fun I42 K43 => b2 (f_Jx4a65c_init_da8c8 I42 K43 (kN K39)) fun I46 K47 => b1 (cO K47 8 415) fun _ => b1 (puG K47 415 9 (kN K39)) fun K51 => some (I46, K51)) = _
    rw [cL_n (by omega), b1_so, puN_e, b2_so, nB, q2, b2_so, cO_n (show LO (kPut (kNew KB (11, 3)) 417 1 (xE 43)) 8 415 from mC), b1_so, puG_e, b1_so]
    show (b1 (cL KC) fun _ => b2 (puN IB KC (11, 3)) fun I42 K43 => b2 (f_Jx4a65c_init_da8c8 I42 K43 (kN KC)) fun I46 K47 => b1 (cO K47 8 415) fun _ => b1 (puG K47 415 9 (kN KC)) fun K51 => some (I46, K51)) = _
    rw [cL_n (by omega), b1_so, puN_e, b2_so, nC, q3, b2_so, cO_n (show LO (kPut (kNew KC (11, 3)) 418 1 (xE 43)) 8 415 from mD), b1_so, puG_e, b1_so]
  have hF : ∀ I2 : Mem, (∀ c, c ≠ 415 → I2 c = IC c) → Fb K KD I I2 := fun I2 h2 => by
    refine ⟨⟨by omega, ?_⟩, fun c hc => ⟨?_, ?_, ?_⟩⟩
    · have g1 : gz KD = gz K + 19 := by
        show gz (kNew KC (11, 3)) = _
        rw [gz_new]
        show gz (kNew KB (11, 3)) + 3 = _
        rw [gz_new]
        show gz (kNew KA (11, 3)) + 3 + 3 = _
        rw [gz_new]
        show gz (kNew K (8, 10)) + 3 + 3 + 3 = _
        rw [gz_new]
      omega
    · rw [h2 c (by omega), iC c (by omega), iB c (by omega), iA c (by omega), i0 c (by omega)]
    · show kS (kNew KC (11, 3)) c = _
      rw [kn_s (by omega)]
      show kS (kNew KB (11, 3)) c = _
      rw [kn_s (by omega)]
      show kS (kNew KA (11, 3)) c = _
      rw [kn_s (by omega)]
      exact kn_s (by omega)
    · rw [show kG KD c = kG KC c from (kp_a (by omega)).trans ((kp_a (by omega)).trans (kn_g (by omega))), show kG KC c = kG KB c from (kp_a (by omega)).trans ((kp_a (by omega)).trans (kn_g (by omega))), show kG KB c = kG KA c from (kp_a (by omega)).trans ((kp_a (by omega)).trans (kn_g (by omega)))]
      exact kn_g (by omega)
  have fin : ∀ I2 : Mem, (∀ c, c ≠ 415 → I2 c = IC c) → V1 (I2 415) (4 + b) → ∃ ns y I' K', l_L_market_101 n xs I2 KD 415 v = some (415, I', K') ∧ (1 ≤ ns ∧ ns ≤ 2) ∧ HB K' I' ns ns 2 4 ∧ HV I' ns ns 2 4 y ∧ kN K' = 428 + ns ∧ Fb K K' I I' := fun I2 h2 hV => by
    have hB : HB KD I2 (1 + s) 0 0 0 := ⟨⟨⟨mD, gD7⟩, gD8, gD9⟩, ⟨⟨lD, by rw [h2 _ (by decide)]; exact zA, Or.inl ⟨rfl, gDl⟩⟩, ⟨sD, by rw [h2 _ (by decide)]; exact zB, Or.inl ⟨rfl, gDs⟩⟩, ⟨wD, by rw [h2 _ (by decide)]; exact zC, Or.inl ⟨rfl, gDw⟩⟩⟩, fun i h => absurd h (Nat.not_lt_zero i), fun i h => absurd h (Nat.not_lt_zero i), fun i h => absurd h (Nat.not_lt_zero i)⟩
    have hVV : HV I2 (1 + s) 0 0 0 (4 + b) := ⟨hV, fun i h => absurd h (Nat.not_lt_zero i), fun i h => absurd h (Nat.not_lt_zero i), fun i h => absurd h (Nat.not_lt_zero i)⟩
    obtain ⟨I3, K3, a1, a2, a3, a4, a5⟩ := mk_113 (xs := xs) hn (show 1 ≤ 1 + s ∧ 1 + s ≤ 2 by omega) (1 + s) 0 (by omega) FU (FU_up (by omega)) I2 KD hB hVV (by rw [nD]; rfl)
    obtain ⟨I4, K4, b1', b2', b3', b4', b5'⟩ := mk_196 (xs := xs) hn (show 1 ≤ 1 + s ∧ 1 + s ≤ 2 by omega) 2 0 rfl FU (FU_up (by decide)) I3 K3 a2 a3 (by rw [a4]; rfl)
    obtain ⟨I5, K5, c1', c2', c3', c4', c5'⟩ := mk_347 (xs := xs) hn (show 1 ≤ 1 + s ∧ 1 + s ≤ 2 by omega) 4 0 rfl FU (FU_up (by decide)) I4 K4 b2' b3' (by rw [b4']; rfl)
    refine ⟨1 + s, 4 + b, I5, K5, ?_, by omega, c2', c3', c4', (((hF I2 h2).trans a5).trans b5').trans c5'⟩
    unfold l_L_market_101
    rw [z7, show (1 : Int32) + nI s = nI (1 + s) from nI_add 1 s]
    exact a1.trans (b1'.trans c1')
  have fin66 : ∀ I2 : Mem, (∀ c, c ≠ 415 → I2 c = IC c) → ((I2 415 0 = nI (4 + b)) ∧ I2 415 1 = 0 ∧ I2 415 2 = nI r ∧ I2 415 3 = nI e ∧ I2 415 5 = -1) → (I2 415 4 = -1 ∨ I2 415 4 = nI (a % (4 + b))) → ∃ ns y I' K', l_L_market_66 n xs I2 KD 415 v = some (415, I', K') ∧ (1 ≤ ns ∧ ns ≤ 2) ∧ HB K' I' ns ns 2 4 ∧ HV I' ns ns 2 4 y ∧ kN K' = 428 + ns ∧ Fb K K' I I' := fun I2 h2 hv1 hv4 => by
    obtain ⟨w0, w1, w2, w3, w5⟩ := hv1
    have hv4' : I2 415 4 = -1 ∨ ∃ q, I2 415 4 = nI q ∧ q < 4 + b := hv4.imp id (fun z => ⟨_, z, hla⟩)
    unfold l_L_market_66
    by_cases h : (ush v 12) &&& 1 = 0
    · rw [if_pos h, cO_n mD, b1_so, w0, nz_n (by omega) (by omega), b1_so, b1_so, z5, mt, pu_so, b1_so, b1_so, z6, pu_so, b1_so]
      refine fin _ (fun c hc => by rw [u2_a hc, u2_a hc]; exact h2 c hc) ⟨⟨?_, by omega, by omega⟩, ?_, ⟨r, ?_, by omega⟩, ⟨e, ?_, by omega⟩, ?_, Or.inr ⟨t % (4 + b), x, ⟨?_, hlt⟩, u2_s, by omega⟩⟩
      · rw [u2_k (by decide), u2_k (by decide)]; exact w0
      · rw [u2_k (by decide), u2_k (by decide)]; exact w1
      · rw [u2_k (by decide), u2_k (by decide)]; exact w2
      · rw [u2_k (by decide), u2_k (by decide)]; exact w3
      · rw [u2_k (by decide), u2_k (by decide)]; exact hv4'
      · rw [u2_k (by decide)]; exact u2_s
    · rw [if_neg h]
      exact fin I2 h2 ⟨⟨w0, by omega, by omega⟩, w1, ⟨r, w2, by omega⟩, ⟨e, w3, by omega⟩, hv4', Or.inl w5⟩
  unfold f_L_market
  rw [cL_n (by omega), b1_so, puN_e, b2_so, hk]
  show ∃ ns y I' K', (b2 (f_X10_init (u1 I 415 fun _ => 0) KA 415) fun I6 K7 => _) = some (415, I', K') ∧ _
  rw [hinit, b2_so, hv, b1_so, cO_n mD, b1_so, z1, show (4 : Int32) + nI b = nI (4 + b) from nI_add 4 b, pu_so, b1_so, b1_so, z2, pu_so, b1_so, b1_so, z3, pu_so, b1_so]
  by_cases h : (ush v 9) &&& 1 = 0
  · rw [if_pos h, b1_so, show u2 (u2 (u2 IC 415 0 (nI (4 + b))) 415 2 (nI r)) 415 3 (nI e) 415 0 = nI (4 + b) from (u2_k (by decide)).trans ((u2_k (by decide)).trans u2_s), nz_n (by omega) (by omega), b1_so, b1_so, z4, ma, pu_so, b1_so]
    refine fin66 _ (fun c hc => by rw [u2_a hc, u2_a hc, u2_a hc, u2_a hc]) ⟨?_, ?_, ?_, ?_, ?_⟩ (Or.inr u2_s)
    · rw [u2_k (by decide), u2_k (by decide), u2_k (by decide), u2_s]
    · rw [u2_k (by decide), u2_k (by decide), u2_k (by decide), u2_k (by decide), e0]; exact c1
    · rw [u2_k (by decide), u2_k (by decide), u2_s]
    · rw [u2_k (by decide), u2_s]
    · rw [u2_k (by decide), u2_k (by decide), u2_k (by decide), u2_k (by decide), e0]; exact c5
  · rw [if_neg h]
    refine fin66 _ (fun c hc => by rw [u2_a hc, u2_a hc, u2_a hc]) ⟨?_, ?_, ?_, ?_, ?_⟩ (Or.inl ?_)
    · rw [u2_k (by decide), u2_k (by decide), u2_s]
    · rw [u2_k (by decide), u2_k (by decide), u2_k (by decide), e0]; exact c1
    · rw [u2_k (by decide), u2_s]
    · rw [u2_s]
    · rw [u2_k (by decide), u2_k (by decide), u2_k (by decide), e0]; exact c5
    · rw [u2_k (by decide), u2_k (by decide), u2_k (by decide), e0]; exact c4
end MK3
