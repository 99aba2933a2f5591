/-! what trades and days never touch: the counts, the year, the birthdays, the names -/
def fxI (i : Nat) : Prop := i < 5 ∨ (∃ p k, p < 6 ∧ (k = 1 ∨ (7 ≤ k ∧ k < 14)) ∧ i = 11 + 14 * p + k) ∨ ∃ w k, w < 16 ∧ 8 ≤ k ∧ k < 15 ∧ i = 115 + 15 * w + k
def Ag (N N' : Nat → Int32) : Prop := ∀ i, fxI i → N' i = N i
theorem nfx_p {p k : Nat} (hp : p < 6) (hk : k = 0 ∨ (2 ≤ k ∧ k < 7)) : ¬ fxI (11 + 14 * p + k) := by
  rintro (h | ⟨p', k', h1, h2, h3⟩ | ⟨w, k', h1, h2, h3, h4⟩)
  · omega
  · omega
  · omega
theorem nfx_s {s k : Nat} (hs : s < 5) (hk : k < 4) : ¬ fxI (95 + 4 * s + k) := by
  rintro (h | ⟨p', k', h1, h2, h3⟩ | ⟨w, k', h1, h2, h3, h4⟩)
  · omega
  · omega
  · omega
theorem nfx_w {w k : Nat} (hk : k < 8) : ¬ fxI (115 + 15 * w + k) := by
  rintro (h | ⟨p', k', h1, h2, h3⟩ | ⟨w, k', h1, h2, h3, h4⟩)
  · omega
  · omega
  · omega
section FXs
variable {np ns nw : Nat} {N N' : Nat → Int32}
theorem Ag.refl : Ag N N := fun _ _ => rfl
theorem Ag.trans {N2 : Nat → Int32} (h : Ag N N') (h2 : Ag N' N2) : Ag N N2 := fun i hi => (h2 i hi).trans (h i hi)
theorem Ag.u {j : Nat} {x : Int32} (h : ¬ fxI j) : Ag N (upd N j x) := fun i hi => upd_n (fun e => h (e ▸ hi))
theorem a_pay {s p : Nat} {c : Int32} (hs : s < 5) (hp : p < 6) : Ag N (sPay N s p c) := (Ag.u (nfx_s hs (by decide))).trans (Ag.u (nfx_p hp (Or.inl rfl)))
theorem a_mv {w : Nat} {h a x y z : Int32} : Ag N (sMv N w h a x y z) := ((((Ag.u (nfx_w (by decide))).trans (Ag.u (nfx_w (by decide)))).trans (Ag.u (nfx_w (by decide)))).trans (Ag.u (nfx_w (by decide)))).trans (Ag.u (nfx_w (by decide)))
theorem a_get (H : WF N np ns nw) {p w : Nat} {c : Int32} (hw : w < nw) (h3 : wN N w 3 = 0) (hp : p < np) : Ag N (sGet N p w c) := by
  obtain ⟨h1, h2⟩ := H.a0 hw h3
  have b1 := H.p.2
  have b2 := H.s.2
  rw [sGet_mv]
  exact (a_pay (by omega) (by omega)).trans a_mv
theorem a_buy (H : WF N np ns nw) {p w : Nat} (hw : w < nw) (h3 : wN N w 3 = 0) (hp : p < np) : Ag N (sBuy N p w) := by
  obtain ⟨h1, h2⟩ := H.a0 hw h3
  have b2 := H.s.2
  exact (a_get H hw h3 hp).trans (Ag.u (nfx_s (by omega) (by decide)))
theorem a_sell (H : WF N np ns nw) {s w : Nat} (hw : w < nw) (h3 : wN N w 3 = 1) (hs : s < ns) : Ag N (sSell N w s) := by
  obtain ⟨h1, h2⟩ := H.a1 hw h3
  have b1 := H.p.2
  have b2 := H.s.2
  unfold sSell
  rw [sGo_mv]
  exact (a_pay (by omega) (by omega)).trans a_mv
theorem a_ret (H : WF N np ns nw) {w : Nat} (hw : w < nw) (h : sWhyRet N nw w = 0) : Ag N (sRet N w) := by
  obtain ⟨h3, h5, hF⟩ := whyRet1 h
  obtain ⟨h1, h2⟩ := H.a1 hw h3
  obtain ⟨h6, h7⟩ := H.a7 hw h3 h5
  have b1 := H.p.2
  have b2 := H.s.2
  unfold sRet
  rw [sGo_mv]
  exact ((a_pay (by omega) (by omega)).trans a_mv).trans (Ag.u (nfx_s (by omega) (by decide)))
theorem a_gr (H : WF N np ns nw) {w : Nat} (hw : w < nw) (h3 : wN N w 3 = 1) : Ag N (sGr N w) := by
  obtain ⟨h1, h2⟩ := H.a1 hw h3
  have b1 := H.p.2
  unfold sGr
  rw [sGo_mv]
  exact (Ag.u (nfx_p (by omega) (Or.inr ⟨by decide, by decide⟩))).trans a_mv
theorem a_cel (H : WF N np ns nw) {p : Nat} (hp : p < np) : Ag N (sCel N nw p) := by
  have b1 := H.p.2
  have A : Ag N (upd N (11 + 14 * p + 2) (pN N p 2 + 1)) := Ag.u (nfx_p (by omega) (Or.inr ⟨by decide, by decide⟩))
  have H2 := H.free (j := 11 + 14 * p + 2) (x := pN N p 2 + 1) (Or.inl ⟨p, 2, by omega, by decide, rfl⟩)
  unfold sCel
  by_cases h1 : pN N p 1 = sDay N
  · rw [if_pos h1]
    by_cases h5 : pN N p 5 = 1
    · rw [if_pos h5]
      cases hz : sGreat (upd N (11 + 14 * p + 2) (pN N p 2 + 1)) nw p with
      | none => exact A
      | some w =>
        obtain ⟨g1, g2⟩ := sBest_in hz
        exact A.trans (a_gr H2 g1 g2.1.1)
    · rw [if_neg h5]; exact A
  · rw [if_neg h1]; exact Ag.refl
theorem a_shop (H : WF N np ns nw) {p : Nat} (hp : p < np) : Ag N (sShop N nw p) := by
  unfold sShop
  split
  · exact Ag.refl
  · cases hz : sCheap N nw p (pN N p 4) with
    | none => exact Ag.refl
    | some w =>
      obtain ⟨g1, g2⟩ := sBest_in hz
      exact a_buy H g1 (whyBuy0 g2.1) hp
theorem a_bgo (H : WF N np ns nw) {p : Nat} : ∀ n, n ≤ nw → Ag N (sBgo N ns nw p n) := by
  intro n
  induction n with
  | zero => intro _; exact Ag.refl
  | succ n ih =>
    intro hn
    by_cases hb : wN N (nw - (n + 1)) 3 = 1 ∧ wN N (nw - (n + 1)) 4 = nI p
    · have e : sBgo N ns nw p (n + 1) = (match sBarg N ns nw (nw - (n + 1)) with
        | none => sBgo N ns nw p n
        | some N' => N') := if_pos hb
      rw [e]
      unfold sBarg
      cases hz : sBestOff N ns nw (nw - (n + 1)) with
      | none => exact ih (by omega)
      | some s =>
        obtain ⟨g1, g2⟩ := sBest_in hz
        dsimp only
        by_cases hv : sLeast N (nw - (n + 1)) < sOff N (nw - (n + 1)) s
        · rw [if_pos hv]
          exact a_sell H (by omega) hb.1 g1
        · rw [if_neg hv]
          exact ih (by omega)
    · have e : sBgo N ns nw p (n + 1) = sBgo N ns nw p n := if_neg hb
      rw [e]
      exact ih (by omega)
theorem a_auc (H : WF N np ns nw) {s : Nat} : Ag N (sAuc N np nw s) := by
  unfold sAuc
  cases hz : sDear N nw s with
  | none => exact Ag.refl
  | some w =>
    obtain ⟨g1, g2⟩ := sBest_in hz
    dsimp only
    cases hy : sBidder N np nw w with
    | none => exact Ag.refl
    | some p =>
      obtain ⟨k1, k2⟩ := sBest_in hy
      dsimp only
      by_cases h9 : (if 1 < sVal N w / 2 then sVal N w / 2 else 1) ≤ sBid N p w
      · rw [if_pos h9]; exact a_get H g1 g2.1 k1
      · rw [if_neg h9]; exact Ag.refl
theorem a_wear {w : Nat} : Ag N (sWear N w) := by
  unfold sWear
  by_cases h : wN N w 3 = 1 ∨ wN N w 3 = 0
  · rw [if_pos h]
    by_cases h10 : wN N w 2 + 1 = 10
    · rw [if_pos h10, sGo_mv]; exact (Ag.u (nfx_w (by decide))).trans a_mv
    · rw [if_neg h10]; exact Ag.u (nfx_w (by decide))
  · rw [if_neg h]; exact Ag.refl
theorem a_it {g : Nat → (Nat → Int32) → Nat → Int32} (V : (Nat → Int32) → Prop) {n : Nat} : ∀ {N : Nat → Int32}, V N → (∀ i M, i < n → V M → V (g i M) ∧ Ag M (g i M)) → V (sIt g n N) ∧ Ag N (sIt g n N) := by
  induction n with
  | zero => intro N h _; exact ⟨h, Ag.refl⟩
  | succ n ih =>
    intro N h hs
    obtain ⟨a1, a2⟩ := ih h (fun i M hi => hs i M (by omega))
    obtain ⟨c1, c2⟩ := hs n _ (Nat.lt_succ_self n) a1
    exact ⟨c1, a2.trans c2⟩
theorem Ag.day (h : Ag N N') : Ag (upd N 1 (N 1 + 1)) (upd N' 1 (N' 1 + 1)) := by
  have h1 : N' 1 = N 1 := h 1 (Or.inl (by decide))
  intro i hi
  by_cases e : i = 1
  · subst e; rw [upd_s, upd_s, h1]
  · rw [upd_n e, upd_n e]; exact h i hi
theorem a_P6 : Ag (upd N 1 (N 1 + 1)) (sP6 N nw) := by
  unfold sP6 sP7
  by_cases h : sDay (upd N 1 (N 1 + 1)) = 0
  · rw [if_pos h]
    exact (a_it (fun _ => True) (n := nw) trivial (fun i M _ _ => ⟨trivial, a_wear⟩)).2
  · rw [if_neg h]; exact Ag.refl
theorem a_pass (H : WF N np ns nw) : Ag (upd N 1 (N 1 + 1)) (sPass N np ns nw) := by
  have b1 := H.p.2
  unfold sPass sP2 sP3 sP4 sP5
  have g1 := a_it (g := fun p N => sCel N nw p) (fun M => WF M np ns nw) (n := np) H (fun i M hi hM => ⟨(r_celebrates (I := fun _ _ => 0) (m := 0) hM hi).2, a_cel hM hi⟩)
  have g2 := a_it (g := fun p N => sShop N nw p) (fun M => WF M np ns nw) (n := np) g1.1 (fun i M hi hM => ⟨(r_shops (I := fun _ _ => 0) (m := 0) hM hi).2, a_shop hM hi⟩)
  have g3 := a_it (g := fun p N => sBgOnce N ns nw p) (fun M => WF M np ns nw) (n := np) g2.1 (fun i M hi hM => ⟨(r_bargainsOnce (I := fun _ _ => 0) (m := 0) hM hi).2, by
    unfold sBgOnce
    split
    · exact Ag.refl
    · exact a_bgo hM nw (Nat.le_refl _)⟩)
  have A3 := (g1.2.trans g2.2).trans g3.2
  have H3 := g3.1
  generalize sIt (fun p N => sBgOnce N ns nw p) np (sIt (fun p N => sShop N nw p) np (sIt (fun p N => sCel N nw p) np N)) = M at A3 H3 ⊢
  have k4 : ∃ M', M' = (if sDay M = M 8 then sIt (fun s N => sAuc N np nw s) ns M else M) ∧ WF M' np ns nw ∧ Ag M M' := by
    refine ⟨_, rfl, ?_⟩
    by_cases h : sDay M = M 8
    · rw [if_pos h]
      exact a_it (g := fun s N => sAuc N np nw s) (fun M => WF M np ns nw) (n := ns) H3 (fun i M hi hM => ⟨(r_auctions (I := fun _ _ => 0) (m := 0) hM (s := i)).2, a_auc hM⟩)
    · rw [if_neg h]; exact ⟨H3, Ag.refl⟩
  obtain ⟨M4, e4, H4, A4⟩ := k4
  rw [← e4]
  have k5 : ∃ M', M' = (if 0 < ns ∧ sDay M4 = M4 9 then sIt (fun p N => sTax N ns p) np M4 else M4) ∧ Ag M4 M' := by
    refine ⟨_, rfl, ?_⟩
    by_cases h : 0 < ns ∧ sDay M4 = M4 9
    · rw [if_pos h]
      have b2 := H4.s.2
      exact (a_it (g := fun p N => sTax N ns p) (fun M => WF M np ns nw) (n := np) H4 (fun i M hi hM => by
        have := sPoor_le (N := M) (ns - 1)
        exact ⟨(r_paysTax (I := fun _ _ => 0) (m := 0) hM h.1 hi).2, a_pay (by omega) (by omega)⟩)).2
    · rw [if_neg h]; exact Ag.refl
  obtain ⟨M5, e5, A5⟩ := k5
  rw [← e5]
  exact (((A3.trans A4).trans A5).day).trans a_P6
theorem a_days (H : WF N np ns nw) {x : Nat} (h1 : N 1 = nI x) : ∀ d, Ag (upd N 1 (nI (x + d))) (sDays N np ns nw d)
  | 0 => by
    intro i hi
    show N i = _
    by_cases e : i = 1
    · subst e; rw [upd_s, h1, Nat.add_zero]
    · rw [upd_n e]
  | d + 1 => by
    have ih := a_days H h1 d
    have W : WF (sDays N np ns nw d) np ns nw := by
      have key : ∀ d, WF (sDays N np ns nw d) np ns nw := by
        intro d
        induction d with
        | zero => exact H
        | succ d ih => exact (r_passes (I := fun _ _ => 0) (m := 0) ih).2
      exact key d
    have h2 := a_pass W
    have e1 : sDays N np ns nw d 1 = nI (x + d) := (ih 1 (Or.inl (by decide))).trans upd_s
    intro i hi
    show sPass (sDays N np ns nw d) np ns nw i = _
    rw [h2 i hi]
    by_cases e : i = 1
    · subst e
      rw [upd_s, upd_s, e1, nI_s1]
      rfl
    · rw [upd_n e, upd_n e, ih i hi, upd_n e]
/-- a name: one to six letters -/
def NmOk (N : Nat → Int32) (a : Nat) : Prop := ∃ l, N a = nI l ∧ 1 ≤ l ∧ l ≤ 6 ∧ ∀ i, i < l → ∃ c, N (a + 1 + i) = nI c ∧ 97 ≤ c ∧ c ≤ 122
def FX (N : Nat → Int32) (np nw : Nat) : Prop := (∃ y, N 0 = nI y ∧ 4 ≤ y ∧ y ≤ 60 ∧ ∀ p, p < np → ∃ b, pN N p 1 = nI b ∧ b < y) ∧ (∀ p, p < np → NmOk N (11 + 14 * p + 7)) ∧ ∀ w, w < nw → NmOk N (115 + 15 * w + 8)
theorem FX.ag (F : FX N np nw) (A : ∀ i, fxI i → i ≠ 1 → N' i = N i) (b1 : np ≤ 6) (b3 : nw ≤ 16) : FX N' np nw := by
  obtain ⟨⟨y, y1, y2, y3, y4⟩, f2, f3⟩ := F
  refine ⟨⟨y, (A 0 (Or.inl (by decide)) (by decide)).trans y1, y2, y3, fun p hp => ?_⟩, fun p hp => ?_, fun w hw => ?_⟩
  · obtain ⟨b, c1, c2⟩ := y4 p hp
    exact ⟨b, (A _ (Or.inr (Or.inl ⟨p, 1, by omega, Or.inl rfl, rfl⟩)) (by omega)).trans c1, c2⟩
  · obtain ⟨l, l1, l2, l3, l4⟩ := f2 p hp
    refine ⟨l, (A _ (Or.inr (Or.inl ⟨p, 7, by omega, Or.inr ⟨by decide, by decide⟩, rfl⟩)) (by omega)).trans l1, l2, l3, fun i hi => ?_⟩
    obtain ⟨c, c1, c2⟩ := l4 i hi
    exact ⟨c, (A _ (Or.inr (Or.inl ⟨p, 8 + i, by omega, Or.inr ⟨by omega, by omega⟩, by omega⟩)) (by omega)).trans c1, c2⟩
  · obtain ⟨l, l1, l2, l3, l4⟩ := f3 w hw
    refine ⟨l, (A _ (Or.inr (Or.inr ⟨w, 8, by omega, by decide, by decide, rfl⟩)) (by omega)).trans l1, l2, l3, fun i hi => ?_⟩
    obtain ⟨c, c1, c2⟩ := l4 i hi
    exact ⟨c, (A _ (Or.inr (Or.inr ⟨w, 9 + i, by omega, by omega, by omega, by omega⟩)) (by omega)).trans c1, c2⟩
end FXs
