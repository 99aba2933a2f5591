/-! the whole day -/
def sIt (g : Nat → (Nat → Int32) → Nat → Int32) : Nat → (Nat → Int32) → Nat → Int32
  | 0, N => N
  | n + 1, N => g n (sIt g n N)
theorem mem_loop {ρ : Type} {I : Mem} {m n : Nat} {N : Nat → Int32} (l : Nat → Mem → Int32 → Option ρ) (g : Nat → (Nat → Int32) → Nat → Int32) (V : (Nat → Int32) → Prop) (r : (Nat → Int32) → Option ρ) (h0 : V N) (hn : n < 1000000000)
    (hs : ∀ i, i < n → ∀ N', V N' → V (g i N') ∧ ∀ f, l (f + 1) (sM I m N') (nI i) = l f (sM I m (g i N')) (nI (i + 1))) (hx : ∀ N', V N' → ∀ f, l (f + 1) (sM I m N') (nI n) = r N') : l FU (sM I m N) 0 = r (sIt g n N) ∧ V (sIt g n N) := by
  have hv : ∀ i, i ≤ n → V (sIt g i N) := by
    intro i
    induction i with
    | zero => intro _; exact h0
    | succ i ih => intro hi; exact (hs i (by omega) _ (ih (by omega))).1
  refine ⟨?_, hv n (Nat.le_refl n)⟩
  exact up_loop (fun f (z : Mem × Int32) => l f z.1 z.2) (fun i => (sM I m (sIt g i N), nI i)) n _ (fun i hi f => (hs i hi _ (hv i (by omega))).2 f) (fun f => hx _ (hv n (Nat.le_refl n)) f) (FU_up hn)
section RH
variable {I : Mem} {m np ns nw : Nat} {N : Nat → Int32}
theorem hd_pay {s p j : Nat} {c : Int32} (h : j < 11) : sPay N s p c j = N j := by
  unfold sPay
  rw [upd_n (by omega), upd_n (by omega)]
theorem hd_mv {w j : Nat} {h a x y z : Int32} (hj : j < 115) : sMv N w h a x y z j = N j := by
  unfold sMv
  rw [upd_n (by omega), upd_n (by omega), upd_n (by omega), upd_n (by omega), upd_n (by omega)]
theorem hd_auc {s j : Nat} (h : j < 11) : sAuc N np nw s j = N j := by
  unfold sAuc
  cases sDear N nw s with
  | none => rfl
  | some w =>
    dsimp only
    cases sBidder N np nw w with
    | none => rfl
    | some p =>
      dsimp only
      by_cases h9 : (if 1 < sVal N w / 2 then sVal N w / 2 else 1) ≤ sBid N p w
      · rw [if_pos h9, sGet_mv, hd_mv (by omega), hd_pay h]
      · rw [if_neg h9]
theorem hd_tax {p j : Nat} (h : j < 11) : sTax N ns p j = N j := hd_pay h
theorem hd_wear {w j : Nat} (h : j < 11) : sWear N w j = N j := by
  unfold sWear
  split
  · split
    · rw [sGo_mv, hd_mv (by omega), upd_n (by omega)]
    · rw [upd_n (by omega)]
  · rfl
theorem WF.wr (H : WF N np ns nw) {w e : Nat} {x : Int32} (hw : w < nw) (hx : x = nI e) (h1 : e ≤ 10) (h2 : (wN N w 3 = 0 ∨ wN N w 3 = 1) → e ≤ 9) : WF (upd N (115 + 15 * w + 2) x) np ns nw := by
  obtain ⟨⟨g1, g2, g3⟩, hy, hw1, hx1, hs, hp⟩ := H
  have b1 := g1.2
  have b2 := g2.2
  have b3 := g3.2
  have hn : ∀ j, j < 115 → upd N (115 + 15 * w + 2) x j = N j := fun j hj => upd_n (by omega)
  have hk : ∀ i k, k < 15 → k ≠ 2 → wN (upd N (115 + 15 * w + 2) x) i k = wN N i k := fun i k a b => wN_n (by omega)
  refine ⟨⟨⟨(hn 2 (by decide)).trans g1.1, b1⟩, ⟨(hn 3 (by decide)).trans g2.1, b2⟩, ⟨(hn 4 (by decide)).trans g3.1, b3⟩⟩, by rw [hn 0 (by decide)]; exact hy, fun i hi => ?_, fun i hi => ?_, fun s hs9 => ?_, fun p hp9 => ?_⟩
  · have := hw1 i hi
    unfold WY aT sE at this ⊢
    rw [hk i 3 (by decide) (by decide), hk i 4 (by decide) (by decide), hk i 5 (by decide) (by decide), hk i 7 (by decide) (by decide)]
    exact this
  · rw [hk i 3 (by decide) (by decide), hk i 0 (by decide) (by decide)]
    obtain ⟨a1, b, e9, a2, a3, a4⟩ := hx1 i hi
    by_cases h : i = w
    · subst h
      exact ⟨a1, b, e, a2, ⟨by rw [wN_w]; exact hx, h1⟩, h2⟩
    · rw [wN_n (by omega)]
      exact ⟨a1, b, e9, a2, a3, a4⟩
  · obtain ⟨c, t, g, a1, a2, a3, a4⟩ := hs s hs9
    refine ⟨c, t, g, by rw [sN_n (by omega)]; exact a1, by rw [sN_n (by omega)]; exact a2, by rw [sN_n (by omega)]; exact a3, ?_⟩
    have : sStock (upd N (115 + 15 * w + 2) x) nw (nI s) = sStock N nw (nI s) := sCnt_eq (fun i hi => by rw [hk i 3 (by decide) (by decide), hk i 4 (by decide) (by decide)])
    rw [this]
    exact a4
  · rw [pN_n (by omega), pN_n (by omega)]
    have : sOwns (upd N (115 + 15 * w + 2) x) nw (nI p) = sOwns N nw (nI p) := sCnt_eq (fun i hi => by rw [hk i 3 (by decide) (by decide), hk i 4 (by decide) (by decide)])
    rw [this]
    exact hp p hp9
theorem sMv_cm {w j : Nat} {h a x y z v : Int32} (hj : j < 115 + 15 * w + 3) : sMv (upd N j v) w h a x y z = upd (sMv N w h a x y z) j v := by
  unfold sMv
  rw [upd_cm (k := j) (j := 115 + 15 * w + 3) (by omega), upd_cm (k := j) (j := 115 + 15 * w + 4) (by omega), upd_cm (k := j) (j := 115 + 15 * w + 5) (by omega), upd_cm (k := j) (j := 115 + 15 * w + 6) (by omega), upd_cm (k := j) (j := 115 + 15 * w + 7) (by omega)]
theorem r_wears (H : WF N np ns nw) {w : Nat} (hw : w < nw) : f_Y_wears (sM I m N) m (nI w) = some (sM I m (sWear N w)) ∧ WF (sWear N w) np ns nw := by
  have b3 := H.w.2
  obtain ⟨-, b, e, q1, q2, q3⟩ := H.2.2.2.1 w hw
  unfold sWear
  by_cases h : wN N w 3 = 1 ∨ wN N w 3 = 0
  · rw [if_pos h]
    have q4 := q3 h.symm
    have e1 : wN N w 2 + 1 = nI (e + 1) := by rw [q2.1, nI_s1]
    have hx : f_Y_wears (sM I m N) m (nI w) = l_Y_wears_17 (sM I m N) m (nI w) := by
      by_cases h1 : wN N w 3 = 1
      · simp (disch := omega) only [f_Y_wears, r_isOwned, h1, b1_so, b2_so, b3_so, e1_ok, e1_er, e2_ok, e2_er, e3_ok, e3_er, bI_so, bI_so', bI_0, bI_1, cB_bI, nI_s1, nJ_et, nJ_ef, nJ_lt, nJ_lf, pu_sM, sM_s, if_true, if_false, ite_self, Nat.lt_irrefl, Int32.zero_add, Int32.add_zero, not_true_eq_false, not_false_eq_true, rfw0, rfw1, rfw2, rfw3, rfw4, rfw5, rfw6, rfw7, rfp0, rfp1, rfp2, rfp3, rfp4, rfp5, rfp6, rfs0, rfs1, rfs2, rfs3, rwp0, rwp1, rwp2, rwp3, rwp4, rwp5, rwp6, rwp7, rpp0, rpp1, rpp2, rpp3, rpp4, rpp5, rpp6, rsp0, rsp1, rsp2, rsp3]
      · have h0 : wN N w 3 = 0 := h.resolve_left h1
        simp (disch := omega) only [f_Y_wears, r_isOwned, r_isInStall, h1, h0, show ((0 : Int32) = 1) = False from eq_false (by decide), b1_so, b2_so, b3_so, e1_ok, e1_er, e2_ok, e2_er, e3_ok, e3_er, bI_so, bI_so', bI_0, bI_1, cB_bI, nI_s1, nJ_et, nJ_ef, nJ_lt, nJ_lf, pu_sM, sM_s, if_true, if_false, ite_self, Nat.lt_irrefl, Int32.zero_add, Int32.add_zero, not_true_eq_false, not_false_eq_true, rfw0, rfw1, rfw2, rfw3, rfw4, rfw5, rfw6, rfw7, rfp0, rfp1, rfp2, rfp3, rfp4, rfp5, rfp6, rfs0, rfs1, rfs2, rfs3, rwp0, rwp1, rwp2, rwp3, rwp4, rwp5, rwp6, rwp7, rpp0, rpp1, rpp2, rpp3, rpp4, rpp5, rpp6, rsp0, rsp1, rsp2, rsp3]
    rw [hx]
    by_cases h10 : wN N w 2 + 1 = 10
    · rw [if_pos h10]
      constructor
      · simp (disch := omega) only [l_Y_wears_17, h10, r_goesTo, b1_so, b2_so, b3_so, e1_ok, e1_er, e2_ok, e2_er, e3_ok, e3_er, bI_so, bI_so', bI_0, bI_1, cB_bI, nI_s1, nJ_et, nJ_ef, nJ_lt, nJ_lf, pu_sM, sM_s, if_true, if_false, ite_self, Nat.lt_irrefl, Int32.zero_add, Int32.add_zero, not_true_eq_false, not_false_eq_true, rfw0, rfw1, rfw2, rfw3, rfw4, rfw5, rfw6, rfw7, rfp0, rfp1, rfp2, rfp3, rfp4, rfp5, rfp6, rfs0, rfs1, rfs2, rfs3, rwp0, rwp1, rwp2, rwp3, rwp4, rwp5, rwp6, rwp7, rpp0, rpp1, rpp2, rpp3, rpp4, rpp5, rpp6, rsp0, rsp1, rsp2, rsp3, wN_w, wN_n, pN_p, pN_n, sN_s, sN_n, upd_s, upd_n]
      · rw [sGo_mv, sMv_cm (by omega)]
        have h11 : e + 1 = 10 := by
          rw [e1] at h10
          exact (nI_eq (b := 10) (by omega) (by decide)).mp h10
        refine (H.mv hw h.symm (Or.inr (Or.inr (Or.inr rfl)))).wr hw e1 (by omega) (fun h9 => ?_)
        have k3 : wN (sMv N w 3 (-1) (-1) (-1) (-1)) w 3 = 3 := by
          unfold sMv
          rw [wN_n (by omega), wN_n (by omega), wN_n (by omega), wN_n (by omega), wN_w]
        rw [k3] at h9
        exact absurd h9 (by decide)
    · rw [if_neg h10]
      constructor
      · simp (disch := omega) only [l_Y_wears_17, h10, b1_so, b2_so, b3_so, e1_ok, e1_er, e2_ok, e2_er, e3_ok, e3_er, bI_so, bI_so', bI_0, bI_1, cB_bI, nI_s1, nJ_et, nJ_ef, nJ_lt, nJ_lf, pu_sM, sM_s, if_true, if_false, ite_self, Nat.lt_irrefl, Int32.zero_add, Int32.add_zero, not_true_eq_false, not_false_eq_true, rfw0, rfw1, rfw2, rfw3, rfw4, rfw5, rfw6, rfw7, rfp0, rfp1, rfp2, rfp3, rfp4, rfp5, rfp6, rfs0, rfs1, rfs2, rfs3, rwp0, rwp1, rwp2, rwp3, rwp4, rwp5, rwp6, rwp7, rpp0, rpp1, rpp2, rpp3, rpp4, rpp5, rpp6, rsp0, rsp1, rsp2, rsp3, wN_w, wN_n, pN_p, pN_n, sN_s, sN_n, upd_s, upd_n]
      · have h11 : ¬ e + 1 = 10 := fun h9 => h10 (by rw [e1, h9]; rfl)
        exact H.wr hw e1 (by omega) (fun _ => by omega)
  · rw [if_neg h]
    refine ⟨?_, H⟩
    have h1 : ¬ wN N w 3 = 1 := fun h9 => h (Or.inl h9)
    have h0 : ¬ wN N w 3 = 0 := fun h9 => h (Or.inr h9)
    simp (disch := omega) only [f_Y_wears, r_isOwned, r_isInStall, h1, h0, b1_so, b2_so, b3_so, e1_ok, e1_er, e2_ok, e2_er, e3_ok, e3_er, bI_so, bI_so', bI_0, bI_1, cB_bI, nI_s1, nJ_et, nJ_ef, nJ_lt, nJ_lf, pu_sM, sM_s, if_true, if_false, ite_self, Nat.lt_irrefl, Int32.zero_add, Int32.add_zero, not_true_eq_false, not_false_eq_true, rfw0, rfw1, rfw2, rfw3, rfw4, rfw5, rfw6, rfw7, rfp0, rfp1, rfp2, rfp3, rfp4, rfp5, rfp6, rfs0, rfs1, rfs2, rfs3, rwp0, rwp1, rwp2, rwp3, rwp4, rwp5, rwp6, rwp7, rpp0, rpp1, rpp2, rpp3, rpp4, rpp5, rpp6, rsp0, rsp1, rsp2, rsp3]
theorem sDay_hd {N' : Nat → Int32} (h : ∀ j, j < 11 → N' j = N j) : sDay N' = sDay N := by
  unfold sDay
  rw [h 0 (by decide), h 1 (by decide)]
/-- what is always so, with the first numbers as they were -/
def WH (N : Nat → Int32) (np ns nw : Nat) (N' : Nat → Int32) : Prop := WF N' np ns nw ∧ ∀ j, j < 11 → N' j = N j
def sP7 (N : Nat → Int32) (nw : Nat) : Nat → Int32 := if sDay N = 0 then sIt (fun w N => sWear N w) nw N else N
theorem r_p164 (H : WF N np ns nw) : l_Y_passes_164 FU (sM I m N) m 0 = some (sM I m (sP7 N nw)) ∧ WF (sP7 N nw) np ns nw := by
  have b3 := H.w.2
  unfold sP7
  by_cases h : sDay N = 0
  · rw [if_pos h]
    have := mem_loop (I := I) (m := m) (n := nw) (N := N) (fun f a b => l_Y_passes_164 f a m b) (fun w N => sWear N w) (WH N np ns nw) (fun N' => some (sM I m N')) ⟨H, fun _ _ => rfl⟩ (by omega) (fun i hi N' hV => ?_) (fun N' hV f => ?_)
    · exact ⟨this.1, this.2.1⟩
    · obtain ⟨j1, j2⟩ := r_wears (I := I) (m := m) hV.1 hi
      refine ⟨⟨j2, fun j hj => (hd_wear hj).trans (hV.2 j hj)⟩, fun f => ?_⟩
      have hd := r_today (I := I) (m := m) hV.1
      have h4 := hV.1.w.1
      simp (disch := omega) only [l_Y_passes_164, ix4, h4, hd, sDay_hd hV.2, h, j1, b1_so, b2_so, b3_so, e1_ok, e1_er, e2_ok, e2_er, e3_ok, e3_er, bI_so, bI_so', bI_0, bI_1, cB_bI, nI_s1, nJ_et, nJ_ef, nJ_lt, nJ_lf, pu_sM, sM_s, if_true, if_false, ite_self, Nat.lt_irrefl, Int32.zero_add, Int32.add_zero, not_true_eq_false, not_false_eq_true, rfw0, rfw1, rfw2, rfw3, rfw4, rfw5, rfw6, rfw7, rfp0, rfp1, rfp2, rfp3, rfp4, rfp5, rfp6, rfs0, rfs1, rfs2, rfs3, rwp0, rwp1, rwp2, rwp3, rwp4, rwp5, rwp6, rwp7, rpp0, rpp1, rpp2, rpp3, rpp4, rpp5, rpp6, rsp0, rsp1, rsp2, rsp3]
    · have h4 := hV.1.w.1
      simp (disch := omega) only [l_Y_passes_164, ix4, h4, b1_so, b2_so, b3_so, e1_ok, e1_er, e2_ok, e2_er, e3_ok, e3_er, bI_so, bI_so', bI_0, bI_1, cB_bI, nI_s1, nJ_et, nJ_ef, nJ_lt, nJ_lf, pu_sM, sM_s, if_true, if_false, ite_self, Nat.lt_irrefl, Int32.zero_add, Int32.add_zero, not_true_eq_false, not_false_eq_true, rfw0, rfw1, rfw2, rfw3, rfw4, rfw5, rfw6, rfw7, rfp0, rfp1, rfp2, rfp3, rfp4, rfp5, rfp6, rfs0, rfs1, rfs2, rfs3, rwp0, rwp1, rwp2, rwp3, rwp4, rwp5, rwp6, rwp7, rpp0, rpp1, rpp2, rpp3, rpp4, rpp5, rpp6, rsp0, rsp1, rsp2, rsp3]
  · rw [if_neg h]
    refine ⟨?_, H⟩
    have h4 := H.w.1
    obtain ⟨g, hg⟩ : ∃ g, FU = g + 1 := ⟨FU - 1, by have := FU_ge; omega⟩
    rw [hg]
    have hd := r_today (I := I) (m := m) H
    by_cases h0 : nw = 0
    · subst h0
      simp (disch := omega) only [l_Y_passes_164, ix4, h4, show (0 : Int32) = nI 0 from rfl, b1_so, b2_so, b3_so, e1_ok, e1_er, e2_ok, e2_er, e3_ok, e3_er, bI_so, bI_so', bI_0, bI_1, cB_bI, nI_s1, nJ_et, nJ_ef, nJ_lt, nJ_lf, pu_sM, sM_s, if_true, if_false, ite_self, Nat.lt_irrefl, Int32.zero_add, Int32.add_zero, not_true_eq_false, not_false_eq_true, rfw0, rfw1, rfw2, rfw3, rfw4, rfw5, rfw6, rfw7, rfp0, rfp1, rfp2, rfp3, rfp4, rfp5, rfp6, rfs0, rfs1, rfs2, rfs3, rwp0, rwp1, rwp2, rwp3, rwp4, rwp5, rwp6, rwp7, rpp0, rpp1, rpp2, rpp3, rpp4, rpp5, rpp6, rsp0, rsp1, rsp2, rsp3]
    · have e0 : l_Y_passes_164 (g + 1) (sM I m N) m (nI 0) = some (sM I m N) := by
        simp (disch := omega) only [l_Y_passes_164, ix4, h4, hd, h, b1_so, b2_so, b3_so, e1_ok, e1_er, e2_ok, e2_er, e3_ok, e3_er, bI_so, bI_so', bI_0, bI_1, cB_bI, nI_s1, nJ_et, nJ_ef, nJ_lt, nJ_lf, pu_sM, sM_s, if_true, if_false, ite_self, Nat.lt_irrefl, Int32.zero_add, Int32.add_zero, not_true_eq_false, not_false_eq_true, rfw0, rfw1, rfw2, rfw3, rfw4, rfw5, rfw6, rfw7, rfp0, rfp1, rfp2, rfp3, rfp4, rfp5, rfp6, rfs0, rfs1, rfs2, rfs3, rwp0, rwp1, rwp2, rwp3, rwp4, rwp5, rwp6, rwp7, rpp0, rpp1, rpp2, rpp3, rpp4, rpp5, rpp6, rsp0, rsp1, rsp2, rsp3]
      exact e0
def sP6 (N : Nat → Int32) (nw : Nat) : Nat → Int32 := sP7 (upd N 1 (N 1 + 1)) nw
theorem r_p152 (H : WF N np ns nw) : l_Y_passes_152 (sM I m N) m = some (sM I m (sP6 N nw)) ∧ WF (sP6 N nw) np ns nw := by
  have H1 := H.free (j := 1) (x := N 1 + 1) (Or.inr (Or.inr (Or.inl rfl)))
  obtain ⟨j1, j2⟩ := r_p164 (I := I) (m := m) H1
  refine ⟨?_, j2⟩
  simp (disch := omega) only [l_Y_passes_152, ix1, j1, sP6, b1_so, b2_so, b3_so, e1_ok, e1_er, e2_ok, e2_er, e3_ok, e3_er, bI_so, bI_so', bI_0, bI_1, cB_bI, nI_s1, nJ_et, nJ_ef, nJ_lt, nJ_lf, pu_sM, sM_s, if_true, if_false, ite_self, Nat.lt_irrefl, Int32.zero_add, Int32.add_zero, not_true_eq_false, not_false_eq_true, rfw0, rfw1, rfw2, rfw3, rfw4, rfw5, rfw6, rfw7, rfp0, rfp1, rfp2, rfp3, rfp4, rfp5, rfp6, rfs0, rfs1, rfs2, rfs3, rwp0, rwp1, rwp2, rwp3, rwp4, rwp5, rwp6, rwp7, rpp0, rpp1, rpp2, rpp3, rpp4, rpp5, rpp6, rsp0, rsp1, rsp2, rsp3]
def sP5 (N : Nat → Int32) (np ns nw : Nat) : Nat → Int32 := sP6 (if 0 < ns ∧ sDay N = N 9 then sIt (fun p N => sTax N ns p) np N else N) nw
theorem r_p108 (H : WF N np ns nw) : l_Y_passes_108 FU (sM I m N) m 0 = some (sM I m (sP5 N np ns nw)) ∧ WF (sP5 N np ns nw) np ns nw := by
  have b1 := H.p.2
  have b2 := H.s.2
  unfold sP5
  by_cases h : 0 < ns ∧ sDay N = N 9
  · rw [if_pos h]
    have := mem_loop (I := I) (m := m) (n := np) (N := N) (fun f a b => l_Y_passes_108 f a m b) (fun p N => sTax N ns p) (WH N np ns nw) (fun N' => some (sM I m (sP6 N' nw))) ⟨H, fun _ _ => rfl⟩ (by omega) (fun i hi N' hV => ?_) (fun N' hV f => ?_)
    · exact ⟨this.1, (r_p152 (I := I) (m := m) this.2.1).2⟩
    · obtain ⟨j1, j2⟩ := r_paysTax (I := I) (m := m) hV.1 h.1 hi
      refine ⟨⟨j2, fun j hj => (hd_tax hj).trans (hV.2 j hj)⟩, fun f => ?_⟩
      have hd := r_today (I := I) (m := m) hV.1
      have h2 := hV.1.p.1
      have h3 := hV.1.s.1
      have e0 : (nI ns ≤ 0) = False := eq_false (nI_nle h.1 (by omega))
      have e9 := hV.2 9 (by decide)
      have hdd := sDay_hd hV.2
      simp (disch := omega) only [l_Y_passes_108, ix2, ix3, ix9, h2, h3, e0, e9, hd, hdd, h.2, j1, b1_so, b2_so, b3_so, e1_ok, e1_er, e2_ok, e2_er, e3_ok, e3_er, bI_so, bI_so', bI_0, bI_1, cB_bI, nI_s1, nJ_et, nJ_ef, nJ_lt, nJ_lf, pu_sM, sM_s, if_true, if_false, ite_self, Nat.lt_irrefl, Int32.zero_add, Int32.add_zero, not_true_eq_false, not_false_eq_true, rfw0, rfw1, rfw2, rfw3, rfw4, rfw5, rfw6, rfw7, rfp0, rfp1, rfp2, rfp3, rfp4, rfp5, rfp6, rfs0, rfs1, rfs2, rfs3, rwp0, rwp1, rwp2, rwp3, rwp4, rwp5, rwp6, rwp7, rpp0, rpp1, rpp2, rpp3, rpp4, rpp5, rpp6, rsp0, rsp1, rsp2, rsp3]
    · have h2 := hV.1.p.1
      have hw := (r_p152 (I := I) (m := m) hV.1).1
      simp (disch := omega) only [l_Y_passes_108, ix2, h2, hw, b1_so, b2_so, b3_so, e1_ok, e1_er, e2_ok, e2_er, e3_ok, e3_er, bI_so, bI_so', bI_0, bI_1, cB_bI, nI_s1, nJ_et, nJ_ef, nJ_lt, nJ_lf, pu_sM, sM_s, if_true, if_false, ite_self, Nat.lt_irrefl, Int32.zero_add, Int32.add_zero, not_true_eq_false, not_false_eq_true, rfw0, rfw1, rfw2, rfw3, rfw4, rfw5, rfw6, rfw7, rfp0, rfp1, rfp2, rfp3, rfp4, rfp5, rfp6, rfs0, rfs1, rfs2, rfs3, rwp0, rwp1, rwp2, rwp3, rwp4, rwp5, rwp6, rwp7, rpp0, rpp1, rpp2, rpp3, rpp4, rpp5, rpp6, rsp0, rsp1, rsp2, rsp3]
  · rw [if_neg h]
    refine ⟨?_, (r_p152 (I := I) (m := m) H).2⟩
    obtain ⟨g, hg⟩ : ∃ g, FU = g + 1 := ⟨FU - 1, by have := FU_ge; omega⟩
    rw [hg]
    have hw := (r_p152 (I := I) (m := m) H).1
    have h2 := H.p.1
    have h3 := H.s.1
    have hd := r_today (I := I) (m := m) H
    by_cases hp : np = 0
    · subst hp
      simp (disch := omega) only [l_Y_passes_108, ix2, h2, show (0 : Int32) = nI 0 from rfl, hw, b1_so, b2_so, b3_so, e1_ok, e1_er, e2_ok, e2_er, e3_ok, e3_er, bI_so, bI_so', bI_0, bI_1, cB_bI, nI_s1, nJ_et, nJ_ef, nJ_lt, nJ_lf, pu_sM, sM_s, if_true, if_false, ite_self, Nat.lt_irrefl, Int32.zero_add, Int32.add_zero, not_true_eq_false, not_false_eq_true, rfw0, rfw1, rfw2, rfw3, rfw4, rfw5, rfw6, rfw7, rfp0, rfp1, rfp2, rfp3, rfp4, rfp5, rfp6, rfs0, rfs1, rfs2, rfs3, rwp0, rwp1, rwp2, rwp3, rwp4, rwp5, rwp6, rwp7, rpp0, rpp1, rpp2, rpp3, rpp4, rpp5, rpp6, rsp0, rsp1, rsp2, rsp3]
    · have e : l_Y_passes_108 (g + 1) (sM I m N) m (nI 0) = some (sM I m (sP6 N nw)) := by
        by_cases hs : 0 < ns
        · have e0 : (nI ns ≤ 0) = False := eq_false (nI_nle hs (by omega))
          have e1 : ¬ sDay N = N 9 := fun h9 => h ⟨hs, h9⟩
          simp (disch := omega) only [l_Y_passes_108, ix2, ix3, ix9, h2, h3, e0, hd, e1, hw, b1_so, b2_so, b3_so, e1_ok, e1_er, e2_ok, e2_er, e3_ok, e3_er, bI_so, bI_so', bI_0, bI_1, cB_bI, nI_s1, nJ_et, nJ_ef, nJ_lt, nJ_lf, pu_sM, sM_s, if_true, if_false, ite_self, Nat.lt_irrefl, Int32.zero_add, Int32.add_zero, not_true_eq_false, not_false_eq_true, rfw0, rfw1, rfw2, rfw3, rfw4, rfw5, rfw6, rfw7, rfp0, rfp1, rfp2, rfp3, rfp4, rfp5, rfp6, rfs0, rfs1, rfs2, rfs3, rwp0, rwp1, rwp2, rwp3, rwp4, rwp5, rwp6, rwp7, rpp0, rpp1, rpp2, rpp3, rpp4, rpp5, rpp6, rsp0, rsp1, rsp2, rsp3]
        · have e0 : ns = 0 := by omega
          subst e0
          simp (disch := omega) only [l_Y_passes_108, ix2, ix3, h2, h3, hw, show (nI 0 ≤ 0) = True from eq_true (by decide), b1_so, b2_so, b3_so, e1_ok, e1_er, e2_ok, e2_er, e3_ok, e3_er, bI_so, bI_so', bI_0, bI_1, cB_bI, nI_s1, nJ_et, nJ_ef, nJ_lt, nJ_lf, pu_sM, sM_s, if_true, if_false, ite_self, Nat.lt_irrefl, Int32.zero_add, Int32.add_zero, not_true_eq_false, not_false_eq_true, rfw0, rfw1, rfw2, rfw3, rfw4, rfw5, rfw6, rfw7, rfp0, rfp1, rfp2, rfp3, rfp4, rfp5, rfp6, rfs0, rfs1, rfs2, rfs3, rwp0, rwp1, rwp2, rwp3, rwp4, rwp5, rwp6, rwp7, rpp0, rpp1, rpp2, rpp3, rpp4, rpp5, rpp6, rsp0, rsp1, rsp2, rsp3]
      exact e
def sP4 (N : Nat → Int32) (np ns nw : Nat) : Nat → Int32 := sP5 (if sDay N = N 8 then sIt (fun s N => sAuc N np nw s) ns N else N) np ns nw
theorem r_p71 (H : WF N np ns nw) : l_Y_passes_71 FU (sM I m N) m 0 = some (sM I m (sP4 N np ns nw)) ∧ WF (sP4 N np ns nw) np ns nw := by
  have b2 := H.s.2
  unfold sP4
  by_cases h : sDay N = N 8
  · rw [if_pos h]
    have := mem_loop (I := I) (m := m) (n := ns) (N := N) (fun f a b => l_Y_passes_71 f a m b) (fun s N => sAuc N np nw s) (WH N np ns nw) (fun N' => some (sM I m (sP5 N' np ns nw))) ⟨H, fun _ _ => rfl⟩ (by omega) (fun i hi N' hV => ?_) (fun N' hV f => ?_)
    · exact ⟨this.1, (r_p108 (I := I) (m := m) this.2.1).2⟩
    · obtain ⟨j1, j2⟩ := r_auctions (I := I) (m := m) hV.1 (s := i)
      refine ⟨⟨j2, fun j hj => (hd_auc hj).trans (hV.2 j hj)⟩, fun f => ?_⟩
      have hd := r_today (I := I) (m := m) hV.1
      have h3 := hV.1.s.1
      have e8 := hV.2 8 (by decide)
      have hdd := sDay_hd hV.2
      simp (disch := omega) only [l_Y_passes_71, ix3, ix8, h3, e8, hd, hdd, h, j1, b1_so, b2_so, b3_so, e1_ok, e1_er, e2_ok, e2_er, e3_ok, e3_er, bI_so, bI_so', bI_0, bI_1, cB_bI, nI_s1, nJ_et, nJ_ef, nJ_lt, nJ_lf, pu_sM, sM_s, if_true, if_false, ite_self, Nat.lt_irrefl, Int32.zero_add, Int32.add_zero, not_true_eq_false, not_false_eq_true, rfw0, rfw1, rfw2, rfw3, rfw4, rfw5, rfw6, rfw7, rfp0, rfp1, rfp2, rfp3, rfp4, rfp5, rfp6, rfs0, rfs1, rfs2, rfs3, rwp0, rwp1, rwp2, rwp3, rwp4, rwp5, rwp6, rwp7, rpp0, rpp1, rpp2, rpp3, rpp4, rpp5, rpp6, rsp0, rsp1, rsp2, rsp3]
    · have h3 := hV.1.s.1
      have hw := (r_p108 (I := I) (m := m) hV.1).1
      simp (disch := omega) only [l_Y_passes_71, ix3, h3, hw, b1_so, b2_so, b3_so, e1_ok, e1_er, e2_ok, e2_er, e3_ok, e3_er, bI_so, bI_so', bI_0, bI_1, cB_bI, nI_s1, nJ_et, nJ_ef, nJ_lt, nJ_lf, pu_sM, sM_s, if_true, if_false, ite_self, Nat.lt_irrefl, Int32.zero_add, Int32.add_zero, not_true_eq_false, not_false_eq_true, rfw0, rfw1, rfw2, rfw3, rfw4, rfw5, rfw6, rfw7, rfp0, rfp1, rfp2, rfp3, rfp4, rfp5, rfp6, rfs0, rfs1, rfs2, rfs3, rwp0, rwp1, rwp2, rwp3, rwp4, rwp5, rwp6, rwp7, rpp0, rpp1, rpp2, rpp3, rpp4, rpp5, rpp6, rsp0, rsp1, rsp2, rsp3]
  · rw [if_neg h]
    refine ⟨?_, (r_p108 (I := I) (m := m) H).2⟩
    obtain ⟨g, hg⟩ : ∃ g, FU = g + 1 := ⟨FU - 1, by have := FU_ge; omega⟩
    have hw := (r_p108 (I := I) (m := m) H).1
    have h3 := H.s.1
    have hd := r_today (I := I) (m := m) H
    have e : l_Y_passes_71 (g + 1) (sM I m N) m (nI 0) = l_Y_passes_108 FU (sM I m N) m 0 := by
      by_cases hs : ns = 0
      · subst hs
        simp (disch := omega) only [l_Y_passes_71, ix3, h3, b1_so, b2_so, b3_so, e1_ok, e1_er, e2_ok, e2_er, e3_ok, e3_er, bI_so, bI_so', bI_0, bI_1, cB_bI, nI_s1, nJ_et, nJ_ef, nJ_lt, nJ_lf, pu_sM, sM_s, if_true, if_false, ite_self, Nat.lt_irrefl, Int32.zero_add, Int32.add_zero, not_true_eq_false, not_false_eq_true, rfw0, rfw1, rfw2, rfw3, rfw4, rfw5, rfw6, rfw7, rfp0, rfp1, rfp2, rfp3, rfp4, rfp5, rfp6, rfs0, rfs1, rfs2, rfs3, rwp0, rwp1, rwp2, rwp3, rwp4, rwp5, rwp6, rwp7, rpp0, rpp1, rpp2, rpp3, rpp4, rpp5, rpp6, rsp0, rsp1, rsp2, rsp3]
      · simp (disch := omega) only [l_Y_passes_71, ix3, ix8, h3, hd, h, b1_so, b2_so, b3_so, e1_ok, e1_er, e2_ok, e2_er, e3_ok, e3_er, bI_so, bI_so', bI_0, bI_1, cB_bI, nI_s1, nJ_et, nJ_ef, nJ_lt, nJ_lf, pu_sM, sM_s, if_true, if_false, ite_self, Nat.lt_irrefl, Int32.zero_add, Int32.add_zero, not_true_eq_false, not_false_eq_true, rfw0, rfw1, rfw2, rfw3, rfw4, rfw5, rfw6, rfw7, rfp0, rfp1, rfp2, rfp3, rfp4, rfp5, rfp6, rfs0, rfs1, rfs2, rfs3, rwp0, rwp1, rwp2, rwp3, rwp4, rwp5, rwp6, rwp7, rpp0, rpp1, rpp2, rpp3, rpp4, rpp5, rpp6, rsp0, rsp1, rsp2, rsp3]
    rw [← hw, ← e, ← hg]
    rfl
def sP3 (N : Nat → Int32) (np ns nw : Nat) : Nat → Int32 := sP4 (sIt (fun p N => sBgOnce N ns nw p) np N) np ns nw
theorem r_p48 (H : WF N np ns nw) : l_Y_passes_48 FU (sM I m N) m 0 = some (sM I m (sP3 N np ns nw)) ∧ WF (sP3 N np ns nw) np ns nw := by
  have b1 := H.p.2
  have := mem_loop (I := I) (m := m) (n := np) (N := N) (fun f a b => l_Y_passes_48 f a m b) (fun p N => sBgOnce N ns nw p) (fun N' => WF N' np ns nw) (fun N' => some (sM I m (sP4 N' np ns nw))) H (by omega) (fun i hi N' hV => ?_) (fun N' hV f => ?_)
  · exact ⟨this.1, (r_p71 (I := I) (m := m) this.2).2⟩
  · obtain ⟨j1, j2⟩ := r_bargainsOnce (I := I) (m := m) hV hi
    refine ⟨j2, fun f => ?_⟩
    have h2 := hV.p.1
    simp (disch := omega) only [l_Y_passes_48, ix2, h2, j1, b1_so, b2_so, b3_so, e1_ok, e1_er, e2_ok, e2_er, e3_ok, e3_er, bI_so, bI_so', bI_0, bI_1, cB_bI, nI_s1, nJ_et, nJ_ef, nJ_lt, nJ_lf, pu_sM, sM_s, if_true, if_false, ite_self, Nat.lt_irrefl, Int32.zero_add, Int32.add_zero, not_true_eq_false, not_false_eq_true, rfw0, rfw1, rfw2, rfw3, rfw4, rfw5, rfw6, rfw7, rfp0, rfp1, rfp2, rfp3, rfp4, rfp5, rfp6, rfs0, rfs1, rfs2, rfs3, rwp0, rwp1, rwp2, rwp3, rwp4, rwp5, rwp6, rwp7, rpp0, rpp1, rpp2, rpp3, rpp4, rpp5, rpp6, rsp0, rsp1, rsp2, rsp3]
  · have h2 := hV.p.1
    have hw := (r_p71 (I := I) (m := m) hV).1
    simp (disch := omega) only [l_Y_passes_48, ix2, h2, hw, b1_so, b2_so, b3_so, e1_ok, e1_er, e2_ok, e2_er, e3_ok, e3_er, bI_so, bI_so', bI_0, bI_1, cB_bI, nI_s1, nJ_et, nJ_ef, nJ_lt, nJ_lf, pu_sM, sM_s, if_true, if_false, ite_self, Nat.lt_irrefl, Int32.zero_add, Int32.add_zero, not_true_eq_false, not_false_eq_true, rfw0, rfw1, rfw2, rfw3, rfw4, rfw5, rfw6, rfw7, rfp0, rfp1, rfp2, rfp3, rfp4, rfp5, rfp6, rfs0, rfs1, rfs2, rfs3, rwp0, rwp1, rwp2, rwp3, rwp4, rwp5, rwp6, rwp7, rpp0, rpp1, rpp2, rpp3, rpp4, rpp5, rpp6, rsp0, rsp1, rsp2, rsp3]
def sP2 (N : Nat → Int32) (np ns nw : Nat) : Nat → Int32 := sP3 (sIt (fun p N => sShop N nw p) np N) np ns nw
theorem r_p25 (H : WF N np ns nw) : l_Y_passes_25 FU (sM I m N) m 0 = some (sM I m (sP2 N np ns nw)) ∧ WF (sP2 N np ns nw) np ns nw := by
  have b1 := H.p.2
  have := mem_loop (I := I) (m := m) (n := np) (N := N) (fun f a b => l_Y_passes_25 f a m b) (fun p N => sShop N nw p) (fun N' => WF N' np ns nw) (fun N' => some (sM I m (sP3 N' np ns nw))) H (by omega) (fun i hi N' hV => ?_) (fun N' hV f => ?_)
  · exact ⟨this.1, (r_p48 (I := I) (m := m) this.2).2⟩
  · obtain ⟨j1, j2⟩ := r_shops (I := I) (m := m) hV hi
    refine ⟨j2, fun f => ?_⟩
    have h2 := hV.p.1
    simp (disch := omega) only [l_Y_passes_25, ix2, h2, j1, b1_so, b2_so, b3_so, e1_ok, e1_er, e2_ok, e2_er, e3_ok, e3_er, bI_so, bI_so', bI_0, bI_1, cB_bI, nI_s1, nJ_et, nJ_ef, nJ_lt, nJ_lf, pu_sM, sM_s, if_true, if_false, ite_self, Nat.lt_irrefl, Int32.zero_add, Int32.add_zero, not_true_eq_false, not_false_eq_true, rfw0, rfw1, rfw2, rfw3, rfw4, rfw5, rfw6, rfw7, rfp0, rfp1, rfp2, rfp3, rfp4, rfp5, rfp6, rfs0, rfs1, rfs2, rfs3, rwp0, rwp1, rwp2, rwp3, rwp4, rwp5, rwp6, rwp7, rpp0, rpp1, rpp2, rpp3, rpp4, rpp5, rpp6, rsp0, rsp1, rsp2, rsp3]
  · have h2 := hV.p.1
    have hw := (r_p48 (I := I) (m := m) hV).1
    simp (disch := omega) only [l_Y_passes_25, ix2, h2, hw, b1_so, b2_so, b3_so, e1_ok, e1_er, e2_ok, e2_er, e3_ok, e3_er, bI_so, bI_so', bI_0, bI_1, cB_bI, nI_s1, nJ_et, nJ_ef, nJ_lt, nJ_lf, pu_sM, sM_s, if_true, if_false, ite_self, Nat.lt_irrefl, Int32.zero_add, Int32.add_zero, not_true_eq_false, not_false_eq_true, rfw0, rfw1, rfw2, rfw3, rfw4, rfw5, rfw6, rfw7, rfp0, rfp1, rfp2, rfp3, rfp4, rfp5, rfp6, rfs0, rfs1, rfs2, rfs3, rwp0, rwp1, rwp2, rwp3, rwp4, rwp5, rwp6, rwp7, rpp0, rpp1, rpp2, rpp3, rpp4, rpp5, rpp6, rsp0, rsp1, rsp2, rsp3]
/-- a day -/
def sPass (N : Nat → Int32) (np ns nw : Nat) : Nat → Int32 := sP2 (sIt (fun p N => sCel N nw p) np N) np ns nw
theorem r_passes (H : WF N np ns nw) : f_Y_passes (sM I m N) m = some (sM I m (sPass N np ns nw)) ∧ WF (sPass N np ns nw) np ns nw := by
  have b1 := H.p.2
  have := mem_loop (I := I) (m := m) (n := np) (N := N) (fun f a b => l_Y_passes_2 f a m b) (fun p N => sCel N nw p) (fun N' => WF N' np ns nw) (fun N' => some (sM I m (sP2 N' np ns nw))) H (by omega) (fun i hi N' hV => ?_) (fun N' hV f => ?_)
  · exact ⟨this.1, (r_p25 (I := I) (m := m) this.2).2⟩
  · obtain ⟨j1, j2⟩ := r_celebrates (I := I) (m := m) hV hi
    refine ⟨j2, fun f => ?_⟩
    have h2 := hV.p.1
    simp (disch := omega) only [l_Y_passes_2, ix2, h2, j1, b1_so, b2_so, b3_so, e1_ok, e1_er, e2_ok, e2_er, e3_ok, e3_er, bI_so, bI_so', bI_0, bI_1, cB_bI, nI_s1, nJ_et, nJ_ef, nJ_lt, nJ_lf, pu_sM, sM_s, if_true, if_false, ite_self, Nat.lt_irrefl, Int32.zero_add, Int32.add_zero, not_true_eq_false, not_false_eq_true, rfw0, rfw1, rfw2, rfw3, rfw4, rfw5, rfw6, rfw7, rfp0, rfp1, rfp2, rfp3, rfp4, rfp5, rfp6, rfs0, rfs1, rfs2, rfs3, rwp0, rwp1, rwp2, rwp3, rwp4, rwp5, rwp6, rwp7, rpp0, rpp1, rpp2, rpp3, rpp4, rpp5, rpp6, rsp0, rsp1, rsp2, rsp3]
  · have h2 := hV.p.1
    have hw := (r_p25 (I := I) (m := m) hV).1
    simp (disch := omega) only [l_Y_passes_2, ix2, h2, hw, b1_so, b2_so, b3_so, e1_ok, e1_er, e2_ok, e2_er, e3_ok, e3_er, bI_so, bI_so', bI_0, bI_1, cB_bI, nI_s1, nJ_et, nJ_ef, nJ_lt, nJ_lf, pu_sM, sM_s, if_true, if_false, ite_self, Nat.lt_irrefl, Int32.zero_add, Int32.add_zero, not_true_eq_false, not_false_eq_true, rfw0, rfw1, rfw2, rfw3, rfw4, rfw5, rfw6, rfw7, rfp0, rfp1, rfp2, rfp3, rfp4, rfp5, rfp6, rfs0, rfs1, rfs2, rfs3, rwp0, rwp1, rwp2, rwp3, rwp4, rwp5, rwp6, rwp7, rpp0, rpp1, rpp2, rpp3, rpp4, rpp5, rpp6, rsp0, rsp1, rsp2, rsp3]
/-- some days -/
def sDays (N : Nat → Int32) (np ns nw d : Nat) : Nat → Int32 := sIt (fun _ N => sPass N np ns nw) d N
theorem r_passesMany (H : WF N np ns nw) {d : Nat} (hd : d < 1000) : f_Y_passesMany (sM I m N) m (nI d) = some (sM I m (sDays N np ns nw d)) ∧ WF (sDays N np ns nw d) np ns nw := by
  have := mem_loop (I := I) (m := m) (n := d) (N := N) (fun f a b => l_Y_passesMany_2 f a m (nI d) b) (fun _ N => sPass N np ns nw) (fun N' => WF N' np ns nw) (fun N' => some (sM I m N')) H (by omega) (fun i hi N' hV => ?_) (fun N' hV f => ?_)
  · exact this
  · obtain ⟨j1, j2⟩ := r_passes (I := I) (m := m) hV
    refine ⟨j2, fun f => ?_⟩
    simp (disch := omega) only [l_Y_passesMany_2, j1, b1_so, b2_so, b3_so, e1_ok, e1_er, e2_ok, e2_er, e3_ok, e3_er, bI_so, bI_so', bI_0, bI_1, cB_bI, nI_s1, nJ_et, nJ_ef, nJ_lt, nJ_lf, pu_sM, sM_s, if_true, if_false, ite_self, Nat.lt_irrefl, Int32.zero_add, Int32.add_zero, not_true_eq_false, not_false_eq_true, rfw0, rfw1, rfw2, rfw3, rfw4, rfw5, rfw6, rfw7, rfp0, rfp1, rfp2, rfp3, rfp4, rfp5, rfp6, rfs0, rfs1, rfs2, rfs3, rwp0, rwp1, rwp2, rwp3, rwp4, rwp5, rwp6, rwp7, rpp0, rpp1, rpp2, rpp3, rpp4, rpp5, rpp6, rsp0, rsp1, rsp2, rsp3]
  · simp (disch := omega) only [l_Y_passesMany_2, b1_so, b2_so, b3_so, e1_ok, e1_er, e2_ok, e2_er, e3_ok, e3_er, bI_so, bI_so', bI_0, bI_1, cB_bI, nI_s1, nJ_et, nJ_ef, nJ_lt, nJ_lf, pu_sM, sM_s, if_true, if_false, ite_self, Nat.lt_irrefl, Int32.zero_add, Int32.add_zero, not_true_eq_false, not_false_eq_true, rfw0, rfw1, rfw2, rfw3, rfw4, rfw5, rfw6, rfw7, rfp0, rfp1, rfp2, rfp3, rfp4, rfp5, rfp6, rfs0, rfs1, rfs2, rfs3, rwp0, rwp1, rwp2, rwp3, rwp4, rwp5, rwp6, rwp7, rpp0, rpp1, rpp2, rpp3, rpp4, rpp5, rpp6, rsp0, rsp1, rsp2, rsp3]
end RH
