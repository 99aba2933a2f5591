/-! the rounds, after two days at most -/
section RND2
variable {n : Nat} {xs : Nat → Int32} {I : Mem} {K : Kt} {w ns x6 x7 D D2 : Nat} {x5 : Int32} {N N' : Nat → Int32}
theorem rounds2 (hn : n ≤ 260) (hx : x6 ≠ x7 ∧ x6 < xB ∧ x7 < xB) : ∀ d i, i + d = 20 → ∀ f, d < f → ∀ I K N, PI I w N ns → NV N ns (100 * i + 2) → RC K w x6 x7 → iT N 2 ns = x5 → Gd1 K (l_L_law_68 n xs f I K w x5 x6 x7 (nI i)) := by
  intro d
  induction d with
  | zero =>
    intro i hi f hf I K N P V R e5
    obtain rfl : i = 20 := by omega
    cases f with
    | zero => omega
    | succ f =>
      refine ⟨I, K, ?_, rfl, rfl⟩
      show (if (20 : Int32) ≤ nI 20 then (b1 (cW K w) fun _ => o1 (f_X9_imbalance I w) fun v49 => if v49 = 0 then (some (1, I, K)) else (some (0, I, K))) else _) = _
      rw [if_pos (show (20 : Int32) ≤ nI 20 by decide), cW_n R.1, b1_so, P.1.imbalance V.2.2.1, o1_ok, if_pos rfl]
  | succ d ih =>
    intro i hi f hf I K N P V R e5
    cases f with
    | zero => omega
    | succ f =>
    have V1 : NV N ns (100 * (i + 1) + 2) := ⟨V.1, V.2.1.imp fun d z => ⟨z.1, by omega⟩, V.2.2⟩
    have hc : ∀ I K N, PI I w N ns → NV N ns (100 * (i + 1) + 2) → RC K w x6 x7 → iT N 2 ns = x5 → Gd1 K (l_L_law_68 n xs f I K w x5 x6 x7 (nI i + 1)) := fun I K N P V R e => by
      rw [nI_s1]
      exact ih (i + 1) (by omega) f (by omega) I K N P V R e
    obtain ⟨v, hv⟩ := cell_some (n := n) (xs := xs) (I := I) (K := K) (k := 10 + i) (by omega) hn
    obtain ⟨h, s1, s2⟩ := sees_row P.1 R.1 R.2.1 hx.2.1
    obtain ⟨sl, z1, hsl⟩ := an_1 v
    obtain ⟨I1, r1, P1, S1⟩ := P.save hsl
    obtain ⟨p, zp, hp⟩ := an_1 (ush v 5)
    obtain ⟨k, zk, hk⟩ := an_3 (ush v 6)
    obtain ⟨t, zt, ht⟩ := an_1 (ush v 8)
    obtain ⟨q, zq, hq⟩ := an_7 (ush v 9)
    have zd : (1 : Int32) + nI q = nI (1 + q) := nI_add 1 q
    have hns := V.2.2.2
    have hst : t % ns < ns := Nat.mod_lt _ (by omega)
    have zs := md_n t ht ns hns.2 hns.1
    have RK : RC (kJs K x6 h) w x6 x7 := R
    have hh : ∀ j, j < 60 → kJ (kJs K x6 h) x6 j = sG N ns j := fun j hj => by
      rw [show kJ (kJs K x6 h) x6 = h from u1_s]
      exact s2 j hj
    have h0 : kJ (kJs K x6 h) x6 0 = (N 1).toInt64 := hh 0 (by decide)
    have WFN := P.1.2.f
    have go : ∀ {I2 : Mem} {N2 : Nat → Int32}, PI I2 w N2 ns → NV N2 ns (100 * (i + 1) + 2) → Kp I1 I2 w → iT N2 2 ns = x5 → Gd1 K (l_L_law_730 n xs (l_L_law_68 n xs f) I2 (kJs K x6 h) w x5 x6 x7 (nI i) v (nI sl)) := fun P2 V2 k2 e2 =>
      Gd1.js (law730 (D2 := 100 * (i + 1) + 2) hc P2 V2 V1 (S1.kp k2) hsl RK hx hh e2 e5)
    have goT : ∀ {I2 : Mem} {N2 : Nat → Int32}, PI I2 w N2 ns → Ag N N2 → Tq N N2 2 ns 4 → Kp I1 I2 w → Gd1 K (l_L_law_730 n xs (l_L_law_68 n xs f) I2 (kJs K x6 h) w x5 x6 x7 (nI i) v (nI sl)) := fun P2 A2 T2 k2 =>
      go P2 (V1.ag A2 T2) k2 (T2.1.2.trans e5)
    have goD : ∀ {I2 : Mem} {e : Nat}, e ≤ 100 → PI I2 w (sDays N 2 ns 4 e) ns → Kp I1 I2 w → Gd1 K (l_L_law_730 n xs (l_L_law_68 n xs f) I2 (kJs K x6 h) w x5 x6 x7 (nI i) v (nI sl)) := fun {I2 e} he P2 k2 => by
      have V3 := V.days WFN e
      exact go P2 ⟨V3.1, V3.2.1.imp fun d z => ⟨z.1, by omega⟩, V3.2.2⟩ k2 ((t_days WFN e).2.1.2.trans e5)
    have cw : cW (kJs K x6 h) w = some () := cW_n RK.1
    have ca : cA (kJs K x6 h) 103 x6 = some 60 := cA_n RK.2.1
    show Gd1 K (if (20 : Int32) ≤ nI i then _ else _)
    rw [if_neg (show ¬ (20 : Int32) ≤ nI i from nle_f (a := 20) (by omega) (by omega))]
    rw [show (10 : Int32) + nI i = nI (10 + i) from nI_add 10 i, hv, b1_so, cW_n R.1, b1_so, P.1.stallCount, o1_ok, ns_nz hns, b1_so, s1, b2_so, cw, b1_so, z1, r1, o2_ok, ca, b1_so, show ix 0 60 = some 0 from rfl, b1_so, h0, lgc, if_pos rfl, all_row P1.1 RK.1, b1_so, if_pos e5, b1_so, P1.1.imbalance V.2.2.1, o1_ok, if_pos rfl]
    by_cases w5 : 5 ≤ (ush v 1) &&& 15
    · rw [if_pos w5]
      by_cases w7 : 7 ≤ (ush v 1) &&& 15
      · rw [if_pos w7]
        by_cases w9 : 9 ≤ (ush v 1) &&& 15
        · rw [if_pos w9]
          by_cases w11 : 11 ≤ (ush v 1) &&& 15
          · rw [if_pos w11]
            by_cases w13 : 13 ≤ (ush v 1) &&& 15
            · rw [if_pos w13]
              by_cases e13 : (ush v 1) &&& 15 = 13
              · -- the limit
                rw [if_pos e13]
                obtain ⟨I2, a1, P2, k2⟩ := P1.setLimit hp (d := 1 + q) (by omega)
                have e3 : pN (upd N (11 + 14 * p + 4) (nI (1 + q))) p 4 = nI (1 + q) := upd_s
                have h20 : kJ (kJs K x6 h) x6 (20 + p) = (pN N p 4).toInt64 := by
                  rw [hh _ (by omega)]
                  show sGp N 4 2 ns (20 + p) = _
                  unfold sGp
                  rw [if_neg (by omega), if_neg (by omega), if_neg (by omega), if_neg (by omega), if_neg (by omega), if_pos (by omega), show 20 + p - 20 = p by omega]
                rw [b1_so, zp, zq, zd, a1, o2_ok, b1_so, show (20 : Int32) + nI p = nI (20 + p) from nI_add 20 p, ix_n (by omega) (by decide), b1_so, h20, lgc, if_pos rfl, b1_so, P2.1.shoppingLimit hp, o1_ok, e3, if_pos rfl]
                exact goT P2 (Ag.u (nfx_p (by omega) (Or.inr (by decide)))) (t_pu hp (by decide) (by decide)) k2
              · rw [if_neg e13]
                by_cases e14 : (ush v 1) &&& 15 = 14
                · -- the margin
                  rw [if_pos e14]
                  obtain ⟨I2, a1, P2, k2⟩ := P1.setMargin hst (d := 1 + q) (by omega)
                  have e3 : sN (upd N (95 + 4 * (t % ns) + 3) (nI (1 + q))) (t % ns) 3 = nI (1 + q) := upd_s
                  rw [b1_so, zt, zs, P1.1.margin hst, o1_ok, b1_so, zq, zd, a1, o2_ok, if_pos rfl, b1_so, P2.1.margin hst, o1_ok, e3, if_pos rfl]
                  exact goT P2 (Ag.u (nfx_s (by omega) (by decide))) (Tq.u (by omega) (fun p hp => by omega) (fun t ht => by omega) (fun w hw => by omega)) k2
                · -- the birthday
                  rw [if_neg e14, b1_so, zp, P1.1.untilBirthday hp, o1_ok]
                  obtain ⟨⟨y, y1, y2, y3, hbd⟩, -, -⟩ := V.1
                  obtain ⟨b, b1', b2'⟩ := hbd p hp
                  obtain ⟨dd, d1, d2⟩ := V.2.1
                  have hty : dd % y < y := Nat.mod_lt _ (by omega)
                  have eD : sDay N = nI (dd % y) := sDay_n d1 y1 (by omega) (by omega) (by omega)
                  have eU := b_wait b2' hty y3
                  rw [b1', eD, y1, eU]
                  have hu : (if dd % y ≤ b then b - dd % y else b + y - dd % y) < 60 := by split <;> omega
                  generalize eu : (if dd % y ≤ b then b - dd % y else b + y - dd % y) = u at hu ⊢
                  by_cases u0 : u = 0
                  · rw [u0, if_pos (show nI 0 ≤ 0 by decide)]
                    exact goT P1 Ag.refl Tq.refl Kp.refl
                  · rw [if_neg (show ¬ nI u ≤ 0 from nle_f (a := u) (b := 0) (by omega) (by omega)), b1_so]
                    obtain ⟨g, I2, a1, P2, k2, gg⟩ := P1.advance (d := u) (by omega)
                    have hg : g ≤ 4 := by
                      have := sCnt_lE (Q := fun w => wN (sDays N 2 ns 4 u) w 3 = 2) 4
                      have e4 : sGrN (sDays N 2 ns 4 u) 4 ≤ 4 := this
                      omega
                    have A := a_days WFN d1 u
                    have e0' : sDays N 2 ns 4 u 0 = nI y := by rw [A 0 (Or.inl (by decide)), upd_n (by decide), y1]
                    have e1' : sDays N 2 ns 4 u 1 = nI (dd + u) := by rw [A 1 (Or.inl (by decide)), upd_s]
                    have ep' : pN (sDays N 2 ns 4 u) p 1 = nI b := by
                      show sDays N 2 ns 4 u (11 + 14 * p + 1) = _
                      rw [A _ (Or.inr (Or.inl ⟨p, 1, by omega, Or.inl rfl, rfl⟩)), upd_n (by omega)]
                      exact b1'
                    have eb : (dd + u) % y = b := by
                      rw [← Nat.mod_add_mod]
                      by_cases hle : dd % y ≤ b
                      · rw [if_pos hle] at eu
                        rw [show dd % y + u = b by omega, Nat.mod_eq_of_lt b2']
                      · rw [if_neg hle] at eu
                        rw [show dd % y + u = b + y by omega, Nat.add_mod_right, Nat.mod_eq_of_lt b2']
                    have eD' : sDay (sDays N 2 ns 4 u) = nI b := by
                      rw [sDay_n e1' e0' (by omega) (by omega) (by omega), eb]
                    rw [a1, o2_ok, if_neg (nln (by omega)), b1_so, P2.1.untilBirthday hp, o1_ok, ep', eD', Int32.sub_self, if_pos (Int32.le_refl _), if_pos rfl, b1_so, P2.1.dayOfYear, o1_ok, b1_so, P2.1.birthday hp, o1_ok, ep', eD', if_pos rfl]
                    exact goD (by omega) P2 k2
            · -- the grant
              rw [if_neg w13, b1_so, zp, P1.1.bestGrant hp, o1_ok]
              cases hz : sGreat N 4 p with
              | none =>
                rw [show oI none = -1 from rfl, if_neg (by decide)]
                unfold l_L_law_541
                rw [cw, b1_so, P1.1.happiness hp, o1_ok, if_pos (by decide)]
                exact goT P1 Ag.refl Tq.refl Kp.refl
              | some b =>
                obtain ⟨g1, ⟨g2, g3⟩, g4⟩ := sBest_in hz
                rw [show oI (some b) = nI b from rfl, if_pos (zle (by omega)), b1_so, P1.1.value g1, o1_ok]
                unfold l_L_law_541
                obtain ⟨I2, a1, P2, k2⟩ := P1.grant g1 g4 g2
                have e2 : kJ (kJs K x6 h) x6 2 = (nI (sGrN N 4)).toInt64 := hh 2 (by decide)
                have e3 : (nI (sGrN N 4)).toInt64 + (1 : Int64) = (nI (sGrN N 4 + 1)).toInt64 := inc64 _ (sCnt_lE 4)
                rw [cw, b1_so, P1.1.happiness hp, o1_ok, if_neg (nln (by omega)), b1_so, a1, o2_ok, at_n g3 (by omega), if_pos rfl, b1_so, P2.1.isGranted g1, o1_ok, bI_t gr_f, if_neg (by decide), b1_so, P2.1.grantedCount, o1_ok, ca, b1_so, show ix 2 60 = some 2 from rfl, b1_so, e2, e3, g_gr WFN g1 g2, lgc, if_pos rfl]
                exact goT P2 (a_gr WFN g1 g2) (t_gr WFN g1 g2) k2
          · -- the return
            rw [if_neg w11, b1_so, zk, P1.1.refund hk, o1_ok, b1_so, P1.1.returnObstacle hk, o1_ok]
            by_cases h9 : sWhyRet N 4 k = 0
            · obtain ⟨I2, a1, P2, k2⟩ := P1.ret hk h9
              obtain ⟨q3, q5, -⟩ := whyRet1 h9
              obtain ⟨f3, f4, f5⟩ := ret_f WFN hk h9
              have eo : (if wN (sRet N k) k 3 = 1 then wN (sRet N k) k 4 else (-1 : Int32)) = -1 := if_neg (by rw [f3]; decide)
              rw [if_pos h9, b1_so, a1, o2_ok, if_neg q5, if_pos rfl, b1_so, P2.1.owner hk, o1_ok, eo, if_pos rfl, b1_so, P2.1.stallOf hk, o1_ok, if_pos f3, f4, if_pos (zle (by omega))]
              exact goT P2 (a_ret WFN hk h9) (t_ret WFN hk h9) k2
            · rw [if_neg h9]
              exact goT P1 Ag.refl Tq.refl Kp.refl
        · -- the sale
          rw [if_neg w9, b1_so, zk, P1.1.bestOffer hk, o1_ok]
          cases hz : sBestOff N ns 4 k with
          | none =>
            rw [show oI none = -1 from rfl, if_neg (by decide)]
            unfold l_L_law_406
            rw [if_pos (by decide)]
            exact goT P1 Ag.refl Tq.refl Kp.refl
          | some b =>
            obtain ⟨g1, g2⟩ := sBest_in hz
            have g3 := whySell1 g2
            obtain ⟨f3, f4, f5⟩ := sell_f (N := N) (s := b) (w := k)
            obtain ⟨I2, a1, P2, k2⟩ := P1.sell g1 hk g2
            rw [show oI (some b) = nI b from rfl, if_pos (zle (by omega)), b1_so, P1.1.offer hk g1 g3, o1_ok]
            unfold l_L_law_406
            rw [if_neg (nln (by omega)), cw, b1_so, a1, o2_ok, if_pos rfl, b1_so, P2.1.stallOf hk, o1_ok, if_pos f3, f4, if_pos rfl, b1_so, P2.1.purchaseDay hk, o1_ok, f5, if_pos rfl]
            exact goT P2 (a_sell WFN hk g3 g1) (t_sell WFN hk g3 g1) k2
      · -- the purchase
        rw [if_neg w7, b1_so, zp, P1.1.cheapestWish hp, o1_ok]
        cases hz : sCheap N 4 p (pN N p 0) with
        | none =>
          rw [show oI none = -1 from rfl, if_neg (by decide)]
          unfold l_L_law_316
          rw [if_pos (by decide)]
          exact goT P1 Ag.refl Tq.refl Kp.refl
        | some b =>
          obtain ⟨g1, g2, -⟩ := sBest_in hz
          have g3 := whyBuy0 g2
          obtain ⟨f3, f4, f5⟩ := buy_f WFN (p := p) g1 g3
          obtain ⟨I2, a1, P2, k2⟩ := P1.buy hp g1 g2
          rw [show oI (some b) = nI b from rfl, if_pos (zle (by omega)), b1_so, P1.1.price g1 g3, o1_ok]
          unfold l_L_law_316
          rw [if_neg (nln (by omega)), cw, b1_so, P1.1.buyObstacle hp g1, o1_ok, if_pos g2, b1_so, a1, o2_ok, if_pos rfl, b1_so, P2.1.owner g1, o1_ok, if_pos f3, f4, if_pos rfl, b1_so, P2.1.purchasePrice g1, o1_ok, f5, if_pos rfl]
          exact goT P2 (a_buy WFN g1 g3 hp) (t_buy WFN g1 g3 hp) k2
    · -- the days
      obtain ⟨I2, a2, P2, k2⟩ := P1.coinsAfter hp (d := 1 + q) (by omega)
      obtain ⟨I3, a3, P3, k3⟩ := P2.valueAfter hk (d := 1 + q) (by omega)
      obtain ⟨g, I4, a4, P4, k4, gg⟩ := P3.advance (d := 1 + q) (by omega)
      have hg : g ≤ 4 := by
        have := sCnt_lE (Q := fun w => wN (sDays N 2 ns 4 (1 + q)) w 3 = 2) 4
        have e4 : sGrN (sDays N 2 ns 4 (1 + q)) 4 ≤ 4 := this
        omega
      have T := (t_days WFN (1 + q)).2
      have h10 : kJ (kJs K x6 h) x6 (10 + k) = (wN N k 2).toInt64 := by
        rw [hh _ (by omega)]
        show sGp N 4 2 ns (10 + k) = _
        unfold sGp
        rw [if_neg (by omega), if_neg (by omega), if_neg (by omega), if_pos (by omega), show 10 + k - 10 = k by omega]
      have fin := goD (e := 1 + q) (by omega) P4 ((k2.trans k3).trans k4)
      rw [if_neg w5, b1_so, zp, zq, zd, a2, o2_ok, b1_so, zk, a3, o2_ok, b1_so, P3.1.isGranted hk, o1_ok, b1_so, a4, o2_ok, if_neg (nln (by omega)), b1_so, P4.1.coins hp, o1_ok, if_pos rfl, b1_so, P4.1.value hk, o1_ok, if_pos rfl, b1_so, P4.1.wear hk, o1_ok, b1_so, show (10 : Int32) + nI k = nI (10 + k) from nI_add 10 k, ix_n (by omega) (by decide), b1_so, h10, if_neg (lg_ge (T.2 k hk).2)]
      by_cases hG : wN N k 3 = 2
      · rw [bI_t hG, if_neg (by decide), b1_so, P4.1.isGranted hk, o1_ok, bI_t ((T.2 k hk).1 hG), if_neg (by decide)]
        exact fin
      · rw [bI_f hG, if_pos rfl]
        exact fin
end RND2
