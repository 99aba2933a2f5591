/-! what the law counts: the money, the wear, what is granted -/
def pT (N : Nat → Int32) : Nat → Int32
  | 0 => 0
  | p + 1 => pT N p + pN N p 0
def kT (N : Nat → Int32) (b : Int32) : Nat → Int32
  | 0 => b
  | s + 1 => kT N b s + sN N s 1
def iT (N : Nat → Int32) (np ns : Nat) : Int32 := kT N (pT N np) ns
def Tq (N N' : Nat → Int32) (np ns nw : Nat) : Prop := (N' 7 = N 7 ∧ iT N' np ns = iT N np ns) ∧ ∀ w, w < nw → (wN N w 3 = 2 → wN N' w 3 = 2) ∧ wN N w 2 ≤ wN N' w 2
section TQ
variable {N N' : Nat → Int32} {np ns nw : Nat}
theorem pT_eq : ∀ n, (∀ p, p < n → pN N' p 0 = pN N p 0) → pT N' n = pT N n
  | 0, _ => rfl
  | n + 1, h => by
    show pT N' n + pN N' n 0 = pT N n + pN N n 0
    rw [pT_eq n (fun p hp => h p (by omega)), h n (by omega)]
theorem kT_eq {b : Int32} : ∀ n, (∀ s, s < n → sN N' s 1 = sN N s 1) → kT N' b n = kT N b n
  | 0, _ => rfl
  | n + 1, h => by
    show kT N' b n + sN N' n 1 = kT N b n + sN N n 1
    rw [kT_eq n (fun p hp => h p (by omega)), h n (by omega)]
theorem kT_b {b y : Int32} : ∀ n, kT N (b + y) n = kT N b n + y
  | 0 => rfl
  | n + 1 => by
    show kT N (b + y) n + sN N n 1 = kT N b n + sN N n 1 + y
    rw [kT_b n]
    generalize kT N b n = q
    generalize sN N n 1 = r
    grind
theorem pT_u {p : Nat} {x : Int32} : ∀ n, p < n → pT (upd N (11 + 14 * p + 0) x) n = pT N n + (x - pN N p 0)
  | 0, h => absurd h (Nat.not_lt_zero p)
  | n + 1, h => by
    show pT (upd N (11 + 14 * p + 0) x) n + upd N (11 + 14 * p + 0) x (11 + 14 * n + 0) = pT N n + pN N n 0 + (x - pN N p 0)
    by_cases e : p = n
    · subst e
      rw [upd_s, pT_eq (N := N) (N' := upd N (11 + 14 * p + 0) x) p (fun q hq => (upd_n (by omega) : upd N (11 + 14 * p + 0) x (11 + 14 * q + 0) = N (11 + 14 * q + 0)))]
      generalize pT N p = q
      generalize pN N p 0 = r
      grind
    · rw [upd_n (by omega), pT_u n (by omega)]
      show _ + pN N n 0 = _
      generalize pT N n = q
      generalize pN N n 0 = r
      generalize pN N p 0 = t
      grind
theorem kT_u {s : Nat} {x b : Int32} : ∀ n, s < n → kT (upd N (95 + 4 * s + 1) x) b n = kT N b n + (x - sN N s 1)
  | 0, h => absurd h (Nat.not_lt_zero s)
  | n + 1, h => by
    show kT (upd N (95 + 4 * s + 1) x) b n + upd N (95 + 4 * s + 1) x (95 + 4 * n + 1) = kT N b n + sN N n 1 + (x - sN N s 1)
    by_cases e : s = n
    · subst e
      rw [upd_s, kT_eq (N := N) (N' := upd N (95 + 4 * s + 1) x) s (fun q hq => (upd_n (by omega) : upd N (95 + 4 * s + 1) x (95 + 4 * q + 1) = N (95 + 4 * q + 1)))]
      generalize kT N b s = q
      generalize sN N s 1 = r
      grind
    · rw [upd_n (by omega), kT_u n (by omega)]
      show _ + sN N n 1 = _
      generalize kT N b n = q
      generalize sN N n 1 = r
      generalize sN N s 1 = t
      grind
theorem iT_eq (h1 : ∀ p, p < np → pN N' p 0 = pN N p 0) (h2 : ∀ s, s < ns → sN N' s 1 = sN N s 1) : iT N' np ns = iT N np ns := by
  unfold iT
  rw [kT_eq ns h2, pT_eq np h1]
theorem iT_pay {s p : Nat} {c : Int32} (hs : s < ns) (hp : p < np) (b1 : np ≤ 6) (b2 : ns ≤ 5) : iT (sPay N s p c) np ns = iT N np ns := by
  unfold iT sPay
  have e1 : pN (upd N (95 + 4 * s + 1) (sN N s 1 - c)) p 0 = pN N p 0 := upd_n (by omega)
  have e2 : ∀ x b, kT (upd (upd N (95 + 4 * s + 1) (sN N s 1 - c)) (11 + 14 * p + 0) x) b ns = kT (upd N (95 + 4 * s + 1) (sN N s 1 - c)) b ns := fun x b => kT_eq ns (fun t ht => upd_n (by omega))
  have e3 : pT (upd N (95 + 4 * s + 1) (sN N s 1 - c)) np = pT N np := pT_eq np (fun q hq => upd_n (by omega))
  rw [e2, pT_u np hp, e1, e3, kT_u ns hs, kT_b]
  generalize kT N (pT N np) ns = q
  generalize pN N p 0 = r
  generalize sN N s 1 = t
  grind
theorem Tq.refl : Tq N N np ns nw := ⟨⟨rfl, rfl⟩, fun w _ => ⟨fun h => h, Int32.le_refl _⟩⟩
theorem Tq.trans {N2 : Nat → Int32} (h : Tq N N' np ns nw) (h2 : Tq N' N2 np ns nw) : Tq N N2 np ns nw := ⟨⟨h2.1.1.trans h.1.1, h2.1.2.trans h.1.2⟩, fun w hw => ⟨fun e => (h2.2 w hw).1 ((h.2 w hw).1 e), Int32.le_trans (h.2 w hw).2 (h2.2 w hw).2⟩⟩
theorem Tq.u {j : Nat} {x : Int32} (h7 : j ≠ 7) (hp : ∀ p, p < np → j ≠ 11 + 14 * p) (hs : ∀ s, s < ns → j ≠ 95 + 4 * s + 1) (hw : ∀ w, w < nw → j ≠ 115 + 15 * w + 2 ∧ j ≠ 115 + 15 * w + 3) : Tq N (upd N j x) np ns nw :=
  ⟨⟨upd_n (Ne.symm h7), iT_eq (fun p h => upd_n (fun e => hp p h (by omega))) (fun s h => upd_n (fun e => hs s h (by omega)))⟩, fun w h => ⟨fun e => (upd_n (fun z => (hw w h).2 (by omega)) : upd N j x (115 + 15 * w + 3) = _).trans e, by
    have e : wN (upd N j x) w 2 = wN N w 2 := upd_n (fun z => (hw w h).1 (by omega))
    rw [e]
    exact Int32.le_refl _⟩⟩
theorem t_pay {s p : Nat} {c : Int32} (hs : s < ns) (hp : p < np) (b1 : np ≤ 6) (b2 : ns ≤ 5) : Tq N (sPay N s p c) np ns nw := by
  have e : ∀ j, j ≠ 95 + 4 * s + 1 → j ≠ 11 + 14 * p + 0 → sPay N s p c j = N j := fun j h1 h2 => (upd_n h2).trans (upd_n h1)
  refine ⟨⟨e 7 (by omega) (by omega), iT_pay hs hp b1 b2⟩, fun w hw => ⟨fun h => (e _ (by omega) (by omega)).trans h, ?_⟩⟩
  have e2 : wN (sPay N s p c) w 2 = wN N w 2 := e _ (by omega) (by omega)
  rw [e2]
  exact Int32.le_refl _
theorem t_mv {w : Nat} {h a x y z : Int32} (h3 : ¬ wN N w 3 = 2) (b1 : np ≤ 6) (b2 : ns ≤ 5) : Tq N (sMv N w h a x y z) np ns nw := by
  have e : ∀ j, (j < 115 + 15 * w + 3 ∨ 115 + 15 * w + 7 < j) → sMv N w h a x y z j = N j := fun j hj =>
    (upd_n (by omega)).trans ((upd_n (by omega)).trans ((upd_n (by omega)).trans ((upd_n (by omega)).trans (upd_n (by omega)))))
  refine ⟨⟨e 7 (by omega), iT_eq (fun p hp => e _ (by omega)) (fun s hs => e _ (by omega))⟩, fun v hv => ⟨fun h2 => ?_, ?_⟩⟩
  · by_cases ev : v = w
    · subst ev; exact absurd h2 h3
    · exact (e _ (by omega)).trans h2
  · have e2 : wN (sMv N w h a x y z) v 2 = wN N v 2 := e _ (by omega)
    rw [e2]
    exact Int32.le_refl _
theorem n2_0 {x : Int32} (h : x = 0) : ¬ x = 2 := by rw [h]; decide
theorem n2_1 {x : Int32} (h : x = 1) : ¬ x = 2 := by rw [h]; decide
theorem pay3 {s p w : Nat} {c : Int32} (hs : s < 5) (hp : p < 6) : wN (sPay N s p c) w 3 = wN N w 3 := (upd_n (by omega)).trans (upd_n (by omega))
theorem t_get (H : WF N np ns nw) {p w : Nat} {c : Int32} (hw : w < nw) (h3 : wN N w 3 = 0) (hp : p < np) : Tq N (sGet N p w c) np ns nw := by
  obtain ⟨h1, h2⟩ := H.a0 hw h3
  have b1 := H.p.2
  have b2 := H.s.2
  rw [sGet_mv]
  exact (t_pay h2 hp b1 b2).trans (t_mv (by rw [pay3 (by omega) (by omega)]; exact n2_0 h3) b1 b2)
theorem t_star {s : Nat} {x : Int32} (hs : s < ns) (b2 : ns ≤ 5) (b1 : np ≤ 6) : Tq N (upd N (95 + 4 * s + 2) x) np ns nw := Tq.u (by omega) (fun p hp => by omega) (fun t ht => by omega) (fun w hw => by omega)
theorem t_buy (H : WF N np ns nw) {p w : Nat} (hw : w < nw) (h3 : wN N w 3 = 0) (hp : p < np) : Tq N (sBuy N p w) np ns nw := by
  obtain ⟨h1, h2⟩ := H.a0 hw h3
  exact (t_get H hw h3 hp).trans (t_star h2 H.s.2 H.p.2)
theorem t_sell (H : WF N np ns nw) {s w : Nat} (hw : w < nw) (h3 : wN N w 3 = 1) (hs : s < ns) : Tq N (sSell N w s) np ns nw := by
  obtain ⟨h1, h2⟩ := H.a1 hw h3
  have b1 := H.p.2
  have b2 := H.s.2
  unfold sSell
  rw [sGo_mv]
  exact (t_pay hs h2 b1 b2).trans (t_mv (by rw [pay3 (by omega) (by omega)]; exact n2_1 h3) b1 b2)
theorem t_ret (H : WF N np ns nw) {w : Nat} (hw : w < nw) (h : sWhyRet N nw w = 0) : Tq N (sRet N w) np ns nw := by
  obtain ⟨h3, h5, hF⟩ := whyRet1 h
  obtain ⟨h1, h2⟩ := H.a1 hw h3
  obtain ⟨h6, h7⟩ := H.a7 hw h3 h5
  have b1 := H.p.2
  have b2 := H.s.2
  unfold sRet
  rw [sGo_mv]
  exact ((t_pay h7 h2 b1 b2).trans (t_mv (by rw [pay3 (by omega) (by omega)]; exact n2_1 h3) b1 b2)).trans (t_star h7 b2 b1)
theorem t_pu {p k : Nat} {x : Int32} (hp : p < np) (hk : 0 < k ∧ k < 14) (b1 : np ≤ 6) : Tq N (upd N (11 + 14 * p + k) x) np ns nw := Tq.u (by omega) (fun q hq => by omega) (fun t ht => by omega) (fun w hw => by omega)
theorem t_gr (H : WF N np ns nw) {w : Nat} (hw : w < nw) (h3 : wN N w 3 = 1) : Tq N (sGr N w) np ns nw := by
  obtain ⟨h1, h2⟩ := H.a1 hw h3
  have b1 := H.p.2
  unfold sGr
  rw [sGo_mv]
  exact (t_pu h2 (by decide) b1).trans (t_mv (by rw [show wN (upd N (11 + 14 * aT N w + 3) (pN N (aT N w) 3 + sVal N w)) w 3 = wN N w 3 from upd_n (by omega)]; exact n2_1 h3) b1 H.s.2)
theorem t_cel (H : WF N np ns nw) {p : Nat} (hp : p < np) : Tq N (sCel N nw p) np ns nw := by
  have b1 := H.p.2
  have A : Tq N (upd N (11 + 14 * p + 2) (pN N p 2 + 1)) np ns nw := t_pu hp (by decide) b1
  have H2 := H.free (j := 11 + 14 * p + 2) (x := pN N p 2 + 1) (Or.inl ⟨p, 2, by omega, by decide, rfl⟩)
  unfold sCel
  by_cases h1 : pN N p 1 = sDay N
  · rw [if_pos h1]
    by_cases h5 : pN N p 5 = 1
    · rw [if_pos h5]
      cases hz : sGreat (upd N (11 + 14 * p + 2) (pN N p 2 + 1)) nw p with
      | none => exact A
      | some w =>
        obtain ⟨g1, g2⟩ := sBest_in hz
        exact A.trans (t_gr H2 g1 g2.1.1)
    · rw [if_neg h5]; exact A
  · rw [if_neg h1]; exact Tq.refl
theorem t_shop (H : WF N np ns nw) {p : Nat} (hp : p < np) : Tq N (sShop N nw p) np ns nw := by
  unfold sShop
  split
  · exact Tq.refl
  · cases hz : sCheap N nw p (pN N p 4) with
    | none => exact Tq.refl
    | some w =>
      obtain ⟨g1, g2⟩ := sBest_in hz
      exact t_buy H g1 (whyBuy0 g2.1) hp
theorem t_bgo (H : WF N np ns nw) {p : Nat} : ∀ n, n ≤ nw → Tq N (sBgo N ns nw p n) np ns nw := by
  intro n
  induction n with
  | zero => intro _; exact Tq.refl
  | succ n ih =>
    intro hn
    by_cases hb : wN N (nw - (n + 1)) 3 = 1 ∧ wN N (nw - (n + 1)) 4 = nI p
    · have e : sBgo N ns nw p (n + 1) = (match sBarg N ns nw (nw - (n + 1)) with
        | none => sBgo N ns nw p n
        | some N' => N') := if_pos hb
      rw [e]
      unfold sBarg
      cases hz : sBestOff N ns nw (nw - (n + 1)) with
      | none => exact ih (by omega)
      | some s =>
        obtain ⟨g1, g2⟩ := sBest_in hz
        dsimp only
        by_cases hv : sLeast N (nw - (n + 1)) < sOff N (nw - (n + 1)) s
        · rw [if_pos hv]
          exact t_sell H (by omega) hb.1 g1
        · rw [if_neg hv]
          exact ih (by omega)
    · have e : sBgo N ns nw p (n + 1) = sBgo N ns nw p n := if_neg hb
      rw [e]
      exact ih (by omega)
theorem t_auc (H : WF N np ns nw) {s : Nat} : Tq N (sAuc N np nw s) np ns nw := by
  unfold sAuc
  cases hz : sDear N nw s with
  | none => exact Tq.refl
  | some w =>
    obtain ⟨g1, g2⟩ := sBest_in hz
    dsimp only
    cases hy : sBidder N np nw w with
    | none => exact Tq.refl
    | some p =>
      obtain ⟨k1, k2⟩ := sBest_in hy
      dsimp only
      by_cases h9 : (if 1 < sVal N w / 2 then sVal N w / 2 else 1) ≤ sBid N p w
      · rw [if_pos h9]; exact t_get H g1 g2.1 k1
      · rw [if_neg h9]; exact Tq.refl
theorem t_wrr (H : WF N np ns nw) {w : Nat} (hw : w < nw) (ht : wN N w 3 = 1 ∨ wN N w 3 = 0) : Tq N (upd N (115 + 15 * w + 2) (wN N w 2 + 1)) np ns nw := by
  have b1 := H.p.2
  have b2 := H.s.2
  obtain ⟨-, b, e, -, ⟨e1, e2⟩, -⟩ := H.2.2.2.1 w hw
  have q : ∀ j, j ≠ 115 + 15 * w + 2 → upd N (115 + 15 * w + 2) (wN N w 2 + 1) j = N j := fun j h => upd_n h
  refine ⟨⟨q 7 (by omega), iT_eq (fun p hp => q _ (by omega)) (fun s hs => q _ (by omega))⟩, fun v hv => ⟨fun h2 => (q _ (by omega)).trans h2, ?_⟩⟩
  by_cases ev : v = w
  · subst ev
    have e3 : wN (upd N (115 + 15 * v + 2) (wN N v 2 + 1)) v 2 = wN N v 2 + 1 := upd_s
    rw [e3, e1, nI_s1]
    exact nI_le (by omega) (by omega)
  · have e3 : wN (upd N (115 + 15 * w + 2) (wN N w 2 + 1)) v 2 = wN N v 2 := q _ (by omega)
    rw [e3]
    exact Int32.le_refl _
theorem t_wear (H : WF N np ns nw) {w : Nat} (hw : w < nw) : Tq N (sWear N w) np ns nw := by
  have b1 := H.p.2
  unfold sWear
  by_cases h : wN N w 3 = 1 ∨ wN N w 3 = 0
  · rw [if_pos h]
    by_cases h10 : wN N w 2 + 1 = 10
    · rw [if_pos h10, sGo_mv]
      exact (t_wrr H hw h).trans (t_mv (by
        rw [show wN (upd N (115 + 15 * w + 2) (wN N w 2 + 1)) w 3 = wN N w 3 from upd_n (by omega)]
        rcases h with h | h
        · exact n2_1 h
        · exact n2_0 h) b1 H.s.2)
    · rw [if_neg h10]; exact t_wrr H hw h
  · rw [if_neg h]; exact Tq.refl
theorem t_it {g : Nat → (Nat → Int32) → Nat → Int32} (V : (Nat → Int32) → Prop) {n : Nat} : ∀ {N : Nat → Int32}, V N → (∀ i M, i < n → V M → V (g i M) ∧ Tq M (g i M) np ns nw) → V (sIt g n N) ∧ Tq N (sIt g n N) np ns nw := by
  induction n with
  | zero => intro N h _; exact ⟨h, Tq.refl⟩
  | succ n ih =>
    intro N h hs
    obtain ⟨a1, a2⟩ := ih h (fun i M hi => hs i M (by omega))
    obtain ⟨c1, c2⟩ := hs n _ (Nat.lt_succ_self n) a1
    exact ⟨c1, a2.trans c2⟩
theorem t_P6 (H : WF N np ns nw) : Tq N (sP6 N nw) np ns nw := by
  have b1 := H.p.2
  have T1 : Tq N (upd N 1 (N 1 + 1)) np ns nw := Tq.u (by decide) (fun p hp => by omega) (fun t ht => by omega) (fun w hw => by omega)
  have H1 : WF (upd N 1 (N 1 + 1)) np ns nw := H.free (Or.inr (Or.inr (Or.inl rfl)))
  unfold sP6 sP7
  by_cases h : sDay (upd N 1 (N 1 + 1)) = 0
  · rw [if_pos h]
    exact T1.trans (t_it (g := fun w N => sWear N w) (fun M => WF M np ns nw) (n := nw) H1 (fun i M hi hM => ⟨(r_wears (I := fun _ _ => 0) (m := 0) hM hi).2, t_wear hM hi⟩)).2
  · rw [if_neg h]; exact T1
theorem t_pass (H : WF N np ns nw) : Tq N (sPass N np ns nw) np ns nw := by
  have b1 := H.p.2
  unfold sPass sP2 sP3 sP4 sP5
  have g1 := t_it (np := np) (ns := ns) (nw := nw) (g := fun p N => sCel N nw p) (fun M => WF M np ns nw) (n := np) H (fun i M hi hM => ⟨(r_celebrates (I := fun _ _ => 0) (m := 0) hM hi).2, t_cel hM hi⟩)
  have g2 := t_it (np := np) (ns := ns) (nw := nw) (g := fun p N => sShop N nw p) (fun M => WF M np ns nw) (n := np) g1.1 (fun i M hi hM => ⟨(r_shops (I := fun _ _ => 0) (m := 0) hM hi).2, t_shop hM hi⟩)
  have g3 := t_it (np := np) (ns := ns) (nw := nw) (g := fun p N => sBgOnce N ns nw p) (fun M => WF M np ns nw) (n := np) g2.1 (fun i M hi hM => ⟨(r_bargainsOnce (I := fun _ _ => 0) (m := 0) hM hi).2, by
    unfold sBgOnce
    split
    · exact Tq.refl
    · exact t_bgo hM nw (Nat.le_refl _)⟩)
  have A3 := (g1.2.trans g2.2).trans g3.2
  have H3 := g3.1
  generalize sIt (fun p N => sBgOnce N ns nw p) np (sIt (fun p N => sShop N nw p) np (sIt (fun p N => sCel N nw p) np N)) = M at A3 H3 ⊢
  have k4 : ∃ M', M' = (if sDay M = M 8 then sIt (fun s N => sAuc N np nw s) ns M else M) ∧ WF M' np ns nw ∧ Tq M M' np ns nw := by
    refine ⟨_, rfl, ?_⟩
    by_cases h : sDay M = M 8
    · rw [if_pos h]
      exact t_it (g := fun s N => sAuc N np nw s) (fun M => WF M np ns nw) (n := ns) H3 (fun i M hi hM => ⟨(r_auctions (I := fun _ _ => 0) (m := 0) hM (s := i)).2, t_auc hM⟩)
    · rw [if_neg h]; exact ⟨H3, Tq.refl⟩
  obtain ⟨M4, e4, H4, A4⟩ := k4
  rw [← e4]
  have k5 : ∃ M', M' = (if 0 < ns ∧ sDay M4 = M4 9 then sIt (fun p N => sTax N ns p) np M4 else M4) ∧ WF M' np ns nw ∧ Tq M4 M' np ns nw := by
    refine ⟨_, rfl, ?_⟩
    by_cases h : 0 < ns ∧ sDay M4 = M4 9
    · rw [if_pos h]
      exact t_it (g := fun p N => sTax N ns p) (fun M => WF M np ns nw) (n := np) H4 (fun i M hi hM => by
        have := sPoor_le (N := M) (ns - 1)
        exact ⟨(r_paysTax (I := fun _ _ => 0) (m := 0) hM h.1 hi).2, t_pay (by omega) hi hM.p.2 hM.s.2⟩)
    · rw [if_neg h]; exact ⟨H4, Tq.refl⟩
  obtain ⟨M5, e5, H5, A5⟩ := k5
  rw [← e5]
  exact ((A3.trans A4).trans A5).trans (t_P6 H5)
theorem t_days (H : WF N np ns nw) : ∀ d, WF (sDays N np ns nw d) np ns nw ∧ Tq N (sDays N np ns nw d) np ns nw
  | 0 => ⟨H, Tq.refl⟩
  | d + 1 => by
    obtain ⟨W, T⟩ := t_days H d
    exact ⟨(r_passes (I := fun _ _ => 0) (m := 0) W).2, T.trans (t_pass W)⟩
end TQ
