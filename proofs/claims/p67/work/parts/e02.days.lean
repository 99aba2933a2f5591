/-! the days keep coins, cash and prices -/
section CD
variable {N N' : Nat → Int32} {np ns nw D : Nat}
theorem CC.cel (H : WF N np ns nw) (C : CC N np ns nw) {p : Nat} (hp : p < np) : CC (sCel N nw p) np ns nw := by
  have b1 := H.p.2
  have b2 := H.s.2
  have A : CC (upd N (11 + 14 * p + 2) (pN N p 2 + 1)) np ns nw := ⟨C.1.up (fun q hq => by omega) (fun q hq => by omega), C.2.up (by omega)⟩
  have H2 := H.free (j := 11 + 14 * p + 2) (x := pN N p 2 + 1) (Or.inl ⟨p, 2, by omega, by decide, rfl⟩)
  unfold sCel
  by_cases h1 : pN N p 1 = sDay N
  · rw [if_pos h1]
    by_cases h5 : pN N p 5 = 1
    · rw [if_pos h5]
      cases hz : sGreat (upd N (11 + 14 * p + 2) (pN N p 2 + 1)) nw p with
      | none => exact A
      | some w =>
        obtain ⟨g1, g2⟩ := sBest_in hz
        exact CC.gr H2 A g1 g2.1.1
    · rw [if_neg h5]; exact A
  · rw [if_neg h1]; exact C
theorem CC.shop (H : WF N np ns nw) (C : CC N np ns nw) {p : Nat} (hp : p < np) : CC (sShop N nw p) np ns nw := by
  unfold sShop
  split
  · exact C
  · cases hz : sCheap N nw p (pN N p 4) with
    | none => exact C
    | some w =>
      obtain ⟨g1, g2⟩ := sBest_in hz
      exact CC.buy H C hp g1 g2.1
theorem CC.bgo (H : WF N np ns nw) (C : CC N np ns nw) {p : Nat} : ∀ n, n ≤ nw → CC (sBgo N ns nw p n) np ns nw := by
  intro n
  induction n with
  | zero => intro _; exact C
  | succ n ih =>
    intro hn
    by_cases hb : wN N (nw - (n + 1)) 3 = 1 ∧ wN N (nw - (n + 1)) 4 = nI p
    · have e : sBgo N ns nw p (n + 1) = (match sBarg N ns nw (nw - (n + 1)) with
        | none => sBgo N ns nw p n
        | some N' => N') := if_pos hb
      rw [e]
      unfold sBarg
      cases hz : sBestOff N ns nw (nw - (n + 1)) with
      | none => exact ih (by omega)
      | some s =>
        obtain ⟨g1, g2⟩ := sBest_in hz
        dsimp only
        by_cases hv : sLeast N (nw - (n + 1)) < sOff N (nw - (n + 1)) s
        · rw [if_pos hv]
          exact CC.sell H C g1 (by omega) hb.1 (whySellC g2)
        · rw [if_neg hv]
          exact ih (by omega)
    · have e : sBgo N ns nw p (n + 1) = sBgo N ns nw p n := if_neg hb
      rw [e]
      exact ih (by omega)
theorem sVal_n (H : WF N np ns nw) {w : Nat} (hw : w < nw) : ∃ k, sVal N w = nI k ∧ k ≤ 99 := by
  obtain ⟨-, b, e, q1, q2, q3⟩ := H.2.2.2.1 w hw
  have c1 : b * (10 - e) ≤ 99 * 10 := Nat.mul_le_mul q1.2.2 (by omega)
  refine ⟨b * (10 - e) / 10, ?_, by omega⟩
  unfold sVal
  rw [q1.1, q2.1, show (10 : Int32) = nI 10 from rfl, pk_sub (by omega), pk_mul, pk_div (by omega) (by decide) (by decide)]
theorem sBid_n (H : WF N np ns nw) (C : CC N np ns nw) {p w : Nat} (hp : p < np) (hw : w < nw) : ∃ k, sBid N p w = nI k ∧ k ≤ nT (pN N p 0) := by
  obtain ⟨b, d1, d2, d3⟩ := C.1.c hp
  obtain ⟨v, v1, v2⟩ := sVal_n H hw
  unfold sBid
  rw [v1, ← d3, d1, show (2 : Int32) = nI 2 from rfl, pk_div (by omega) (by decide) (by decide)]
  split
  · rename_i h
    refine ⟨v, rfl, ?_⟩
    have := nle (Int32.le_of_lt h) (by omega) (by omega)
    omega
  · exact ⟨b / 2, rfl, by omega⟩
theorem CC.auc (H : WF N np ns nw) (C : CC N np ns nw) {s : Nat} : CC (sAuc N np nw s) np ns nw := by
  unfold sAuc
  cases hz : sDear N nw s with
  | none => exact C
  | some w =>
    obtain ⟨g1, g2⟩ := sBest_in hz
    dsimp only
    cases hy : sBidder N np nw w with
    | none => exact C
    | some p =>
      obtain ⟨k1, k2⟩ := sBest_in hy
      dsimp only
      by_cases h9 : (if 1 < sVal N w / 2 then sVal N w / 2 else 1) ≤ sBid N p w
      · rw [if_pos h9]
        obtain ⟨k, e1, e2⟩ := sBid_n H C k1 g1
        rw [e1]
        exact CC.get H C k1 g1 g2.1 e2
      · rw [if_neg h9]; exact C
theorem CC.tax (H : WF N np ns nw) (C : CC N np ns nw) (h0 : 0 < ns) {p : Nat} (hp : p < np) : CC (sTax N ns p) np ns nw := by
  have b1 := H.p.2
  have b2 := H.s.2
  obtain ⟨b, d1, d2, d3⟩ := C.1.c hp
  obtain ⟨t, t1, t2⟩ := C.2.2.1
  have c1 : b * t ≤ 10989 * 50 := Nat.mul_le_mul d2 t2
  have c2 : b * t ≤ b * 50 := Nat.mul_le_mul (Nat.le_refl _) t2
  have hs := sPoor_le (N := N) (ns - 1)
  unfold sTax
  rw [d1, t1, show (100 : Int32) = nI 100 from rfl, pk_mul, pk_div (by omega) (by decide) (by decide)]
  exact ⟨C.1.pay2 b1 b2 (by omega) hp (by omega), C.2.pay (by omega) (by omega)⟩
theorem CX.wr (h : CX N nw) {w : Nat} {x : Int32} : CX (upd N (115 + 15 * w + 2) x) nw := h.congr (upd_n (by omega)) (upd_n (by omega)) (fun q _ => ⟨upd_n (by omega), upd_n (by omega), upd_n (by omega)⟩)
theorem CC.wear (H : WF N np ns nw) (C : CC N np ns nw) {w : Nat} : CC (sWear N w) np ns nw := by
  have b1 := H.p.2
  have b2 := H.s.2
  have A : CC (upd N (115 + 15 * w + 2) (wN N w 2 + 1)) np ns nw := ⟨C.1.up (fun q hq => by omega) (fun q hq => by omega), C.2.wr⟩
  unfold sWear
  split
  · split
    · rw [sGo_mv]
      exact ⟨A.1.mv b1 b2, A.2.mv (fun z => absurd z (by decide))⟩
    · exact A
  · exact C
theorem cc_it {V : (Nat → Int32) → Prop} {g : Nat → (Nat → Int32) → Nat → Int32} {n : Nat} : ∀ {N : Nat → Int32}, V N → (∀ i M, i < n → V M → V (g i M)) → V (sIt g n N) := by
  induction n with
  | zero => intro N h _; exact h
  | succ n ih =>
    intro N h hs
    exact hs n _ (Nat.lt_succ_self n) (ih h (fun i M hi => hs i M (by omega)))
abbrev WC (np ns nw : Nat) (N : Nat → Int32) : Prop := WF N np ns nw ∧ CC N np ns nw
theorem CC.pass (H : WF N np ns nw) (C : CC N np ns nw) : CC (sPass N np ns nw) np ns nw := by
  have b1 := H.p.2
  have b2 := H.s.2
  unfold sPass sP2 sP3 sP4 sP5
  have g1 := cc_it (V := WC np ns nw) (g := fun p N => sCel N nw p) (n := np) ⟨H, C⟩ (fun i M hi hM => ⟨(r_celebrates (I := fun _ _ => 0) (m := 0) hM.1 hi).2, CC.cel hM.1 hM.2 hi⟩)
  have g2 := cc_it (V := WC np ns nw) (g := fun p N => sShop N nw p) (n := np) g1 (fun i M hi hM => ⟨(r_shops (I := fun _ _ => 0) (m := 0) hM.1 hi).2, CC.shop hM.1 hM.2 hi⟩)
  have g3 := cc_it (V := WC np ns nw) (g := fun p N => sBgOnce N ns nw p) (n := np) g2 (fun i M hi hM => ⟨(r_bargainsOnce (I := fun _ _ => 0) (m := 0) hM.1 hi).2, by
    unfold sBgOnce
    split
    · exact hM.2
    · exact CC.bgo hM.1 hM.2 nw (Nat.le_refl _)⟩)
  generalize sIt (fun p N => sBgOnce N ns nw p) np (sIt (fun p N => sShop N nw p) np (sIt (fun p N => sCel N nw p) np N)) = M at g3 ⊢
  have k4 : ∃ M', M' = (if sDay M = M 8 then sIt (fun s N => sAuc N np nw s) ns M else M) ∧ WC np ns nw M' := by
    refine ⟨_, rfl, ?_⟩
    by_cases h : sDay M = M 8
    · rw [if_pos h]
      exact cc_it (V := WC np ns nw) (g := fun s N => sAuc N np nw s) (n := ns) g3 (fun i M hi hM => ⟨(r_auctions (I := fun _ _ => 0) (m := 0) hM.1 (s := i)).2, CC.auc hM.1 hM.2⟩)
    · rw [if_neg h]; exact g3
  obtain ⟨M4, e4, g4⟩ := k4
  rw [← e4]
  have k5 : ∃ M', M' = (if 0 < ns ∧ sDay M4 = M4 9 then sIt (fun p N => sTax N ns p) np M4 else M4) ∧ WC np ns nw M' := by
    refine ⟨_, rfl, ?_⟩
    by_cases h : 0 < ns ∧ sDay M4 = M4 9
    · rw [if_pos h]
      exact cc_it (V := WC np ns nw) (g := fun p N => sTax N ns p) (n := np) g4 (fun i M hi hM => ⟨(r_paysTax (I := fun _ _ => 0) (m := 0) hM.1 h.1 hi).2, CC.tax hM.1 hM.2 h.1 hi⟩)
    · rw [if_neg h]; exact g4
  obtain ⟨M5, e5, g5⟩ := k5
  rw [← e5]
  have H6 : WF (upd M5 1 (M5 1 + 1)) np ns nw := g5.1.free (Or.inr (Or.inr (Or.inl rfl)))
  have C6 : CC (upd M5 1 (M5 1 + 1)) np ns nw := ⟨g5.2.1.up (fun q hq => by omega) (fun q hq => by omega), g5.2.2.up (by decide)⟩
  unfold sP6 sP7
  split
  · have := cc_it (V := fun M => CC M np ns nw) (g := fun w N => sWear N w) (n := nw) C6 (fun i M hi hM => by
      unfold sWear
      have A : CC (upd M (115 + 15 * i + 2) (wN M i 2 + 1)) np ns nw := ⟨hM.1.up (fun q hq => by omega) (fun q hq => by omega), hM.2.wr⟩
      split
      · split
        · rw [sGo_mv]
          exact ⟨A.1.mv b1 b2, A.2.mv (fun z => absurd z (by decide))⟩
        · exact A
      · exact hM)
    exact this
  · exact C6
theorem WF.days (H : WF N np ns nw) : ∀ d, WF (sDays N np ns nw d) np ns nw := by
  intro d
  induction d with
  | zero => exact H
  | succ d ih => exact (r_passes (I := fun _ _ => 0) (m := 0) ih).2
theorem CC.days (H : WF N np ns nw) (C : CC N np ns nw) : ∀ d, CC (sDays N np ns nw d) np ns nw := by
  intro d
  induction d with
  | zero => exact C
  | succ d ih => exact CC.pass (H.days d) ih
theorem Gd.days (G : Gd N np ns nw D) (H : WF N np ns nw) (d : Nat) : Gd (sDays N np ns nw d) np ns nw (D + d) := by
  have b1 := H.p.2
  have b3 := H.w.2
  have C := CC.days H G.cc d
  obtain ⟨h1, ⟨x, h2, h3⟩, -, -, h6⟩ := G
  have A := a_days H h2 d
  refine ⟨h1.ag (fun i hi h9 => (A i hi).trans (upd_n h9)) b1 b3, ⟨x + d, (A 1 (Or.inl (by decide))).trans upd_s, by omega⟩, C.1, C.2, h6⟩
end CD

