/-! THE CLASS: a market in the class's heap shows the numbers -/
theorem ixn16 {w : Nat} (h : w < 16) : ix (nI w) 16 = some w := ix_n h (by decide)
theorem ixn6 {w : Nat} (h : w < 6) : ix (nI w) 6 = some w := ix_n h (by decide)
theorem ixn5 {w : Nat} (h : w < 5) : ix (nI w) 5 = some w := ix_n h (by decide)
/-- a name in five bits a letter -/
def sNmF (l a b c d e f : Int32) : Int32 := (((((if 0 < l then (a - 96) else 0) ||| (if 1 < l then ((b - 96) <<< (5 : Int32)) else 0)) ||| (if 2 < l then ((c - 96) <<< (10 : Int32)) else 0)) ||| (if 3 < l then ((d - 96) <<< (15 : Int32)) else 0)) ||| (if 4 < l then ((e - 96) <<< (20 : Int32)) else 0)) ||| (if 5 < l then ((f - 96) <<< (25 : Int32)) else 0)
def sNm (N : Nat → Int32) (a : Nat) : Int32 := sNmF (N a) (N (a + 1)) (N (a + 2)) (N (a + 3)) (N (a + 4)) (N (a + 5)) (N (a + 6))
theorem sNm_n {N : Nat → Int32} {a j : Nat} {x : Int32} (h : j < a ∨ a + 6 < j) : sNm (upd N j x) a = sNm N a := by
  unfold sNm
  rw [upd_n (by omega), upd_n (by omega), upd_n (by omega), upd_n (by omega), upd_n (by omega), upd_n (by omega), upd_n (by omega)]
def RP (c : Nat → Int32) (N : Nat → Int32) (p : Nat) : Prop := (c 0 = sNm N (11 + 14 * p + 7) ∧ c 1 = pN N p 0 ∧ c 2 = pN N p 1 ∧ c 3 = pN N p 2) ∧ c 4 = pN N p 3 ∧ c 5 = pN N p 4 ∧ c 6 = pN N p 5 ∧ c 7 = pN N p 6
def RS (c : Nat → Int32) (N : Nat → Int32) (s : Nat) : Prop := c 0 = sN N s 0 ∧ c 1 = sN N s 1 ∧ c 2 = sN N s 2 ∧ c 3 = sN N s 3
def RW (c : Nat → Int32) (N : Nat → Int32) (w : Nat) : Prop := (c 0 = sNm N (115 + 15 * w + 8) ∧ c 1 = wN N w 0 ∧ c 2 = wN N w 1 ∧ c 3 = wN N w 2) ∧ (c 4 = (if wN N w 3 = 0 then wN N w 4 else -1) ∧ c 5 = (if wN N w 3 = 1 then wN N w 4 else -1)) ∧ (c 6 = bI (wN N w 3 = 2) ∧ c 7 = bI (wN N w 3 = 3)) ∧ c 8 = wN N w 5 ∧ c 9 = wN N w 6 ∧ c 10 = wN N w 7
def RH (c : Nat → Int32) (N : Nat → Int32) : Prop := (c 3 = N 2 ∧ c 4 = N 3 ∧ c 5 = N 4) ∧ (c 6 = N 1 ∧ c 7 = N 0 ∧ c 8 = N 5 ∧ c 9 = N 6) ∧ c 10 = N 8 ∧ c 11 = N 9 ∧ c 12 = N 10 ∧ c 13 = N 7
def RM (I : Mem) (q : Nat) (N : Nat → Int32) (np ns nw : Nat) : Prop := WF N np ns nw ∧ (∃ y, N 0 = nI y ∧ 4 ≤ y ∧ y ≤ 60) ∧ RH (I q) N ∧ (∀ p, p < np → RP (I (q + 4 + p)) N p) ∧ (∀ s, s < ns → RS (I (q + 10 + s)) N s) ∧ ∀ w, w < nw → RW (I (q + 15 + w)) N w
section CA
variable {I : Mem} {q np ns nw : Nat} {N : Nat → Int32}
theorem RM.f (R : RM I q N np ns nw) : WF N np ns nw := R.1
theorem RM.h (R : RM I q N np ns nw) : RH (I q) N := R.2.2.1
theorem RM.p (R : RM I q N np ns nw) {p : Nat} (h : p < np) : RP (I (q + 4 + p)) N p := R.2.2.2.1 p h
theorem RM.s (R : RM I q N np ns nw) {s : Nat} (h : s < ns) : RS (I (q + 10 + s)) N s := R.2.2.2.2.1 s h
theorem RM.w (R : RM I q N np ns nw) {w : Nat} (h : w < nw) : RW (I (q + 15 + w)) N w := R.2.2.2.2.2 w h
theorem RM.h3 (R : RM I q N np ns nw) : I q 3 = nI np := R.h.1.1.trans R.f.p.1
theorem RM.h4 (R : RM I q N np ns nw) : I q 4 = nI ns := R.h.1.2.1.trans R.f.s.1
theorem RM.h5 (R : RM I q N np ns nw) : I q 5 = nI nw := R.h.1.2.2.trans R.f.w.1
theorem RM.h6 (R : RM I q N np ns nw) : I q 6 = N 1 := R.h.2.1.1
theorem RM.h7 (R : RM I q N np ns nw) : I q 7 = N 0 := R.h.2.1.2.1
theorem RM.h8 (R : RM I q N np ns nw) : I q 8 = N 5 := R.h.2.1.2.2.1
theorem RM.h9 (R : RM I q N np ns nw) : I q 9 = N 6 := R.h.2.1.2.2.2
theorem RM.h10 (R : RM I q N np ns nw) : I q 10 = N 8 := R.h.2.2.1
theorem RM.h11 (R : RM I q N np ns nw) : I q 11 = N 9 := R.h.2.2.2.1
theorem RM.h12 (R : RM I q N np ns nw) : I q 12 = N 10 := R.h.2.2.2.2.1
theorem RM.h13 (R : RM I q N np ns nw) : I q 13 = N 7 := R.h.2.2.2.2.2
theorem RM.p1 (R : RM I q N np ns nw) {p : Nat} (h : p < np) : I (q + 4 + p) 1 = pN N p 0 := (R.p h).1.2.1
theorem RM.p2 (R : RM I q N np ns nw) {p : Nat} (h : p < np) : I (q + 4 + p) 2 = pN N p 1 := (R.p h).1.2.2.1
theorem RM.p3 (R : RM I q N np ns nw) {p : Nat} (h : p < np) : I (q + 4 + p) 3 = pN N p 2 := (R.p h).1.2.2.2
theorem RM.p4 (R : RM I q N np ns nw) {p : Nat} (h : p < np) : I (q + 4 + p) 4 = pN N p 3 := (R.p h).2.1
theorem RM.p5 (R : RM I q N np ns nw) {p : Nat} (h : p < np) : I (q + 4 + p) 5 = pN N p 4 := (R.p h).2.2.1
theorem RM.p6 (R : RM I q N np ns nw) {p : Nat} (h : p < np) : I (q + 4 + p) 6 = pN N p 5 := (R.p h).2.2.2.1
theorem RM.p7 (R : RM I q N np ns nw) {p : Nat} (h : p < np) : I (q + 4 + p) 7 = pN N p 6 := (R.p h).2.2.2.2
theorem RM.s0 (R : RM I q N np ns nw) {s : Nat} (h : s < ns) : I (q + 10 + s) 0 = sN N s 0 := (R.s h).1
theorem RM.s1 (R : RM I q N np ns nw) {s : Nat} (h : s < ns) : I (q + 10 + s) 1 = sN N s 1 := (R.s h).2.1
theorem RM.s2 (R : RM I q N np ns nw) {s : Nat} (h : s < ns) : I (q + 10 + s) 2 = sN N s 2 := (R.s h).2.2.1
theorem RM.s3 (R : RM I q N np ns nw) {s : Nat} (h : s < ns) : I (q + 10 + s) 3 = sN N s 3 := (R.s h).2.2.2
theorem RM.w1 (R : RM I q N np ns nw) {w : Nat} (h : w < nw) : I (q + 15 + w) 1 = wN N w 0 := (R.w h).1.2.1
theorem RM.w2 (R : RM I q N np ns nw) {w : Nat} (h : w < nw) : I (q + 15 + w) 2 = wN N w 1 := (R.w h).1.2.2.1
theorem RM.w3 (R : RM I q N np ns nw) {w : Nat} (h : w < nw) : I (q + 15 + w) 3 = wN N w 2 := (R.w h).1.2.2.2
theorem RM.w4 (R : RM I q N np ns nw) {w : Nat} (h : w < nw) : I (q + 15 + w) 4 = (if wN N w 3 = 0 then wN N w 4 else -1) := (R.w h).2.1.1
theorem RM.w5 (R : RM I q N np ns nw) {w : Nat} (h : w < nw) : I (q + 15 + w) 5 = (if wN N w 3 = 1 then wN N w 4 else -1) := (R.w h).2.1.2
theorem RM.w6 (R : RM I q N np ns nw) {w : Nat} (h : w < nw) : I (q + 15 + w) 6 = bI (wN N w 3 = 2) := (R.w h).2.2.1.1
theorem RM.w7 (R : RM I q N np ns nw) {w : Nat} (h : w < nw) : I (q + 15 + w) 7 = bI (wN N w 3 = 3) := (R.w h).2.2.1.2
theorem RM.w8 (R : RM I q N np ns nw) {w : Nat} (h : w < nw) : I (q + 15 + w) 8 = wN N w 5 := (R.w h).2.2.2.1
theorem RM.w9 (R : RM I q N np ns nw) {w : Nat} (h : w < nw) : I (q + 15 + w) 9 = wN N w 6 := (R.w h).2.2.2.2.1
theorem RM.w10 (R : RM I q N np ns nw) {w : Nat} (h : w < nw) : I (q + 15 + w) 10 = wN N w 7 := (R.w h).2.2.2.2.2
theorem m1_n {a : Nat} (h : a < 2147483648) : ((-1 : Int32) = nI a) = False := eq_false fun h9 => by
  have h1 := oI_n h
  rw [← h9] at h1
  exact cast h1 rfl
theorem RM.w4s (R : RM I q N np ns nw) {w s : Nat} (h : w < nw) (hs : s < 2147483648) : (I (q + 15 + w) 4 = nI s) = (wN N w 3 = 0 ∧ wN N w 4 = nI s) := by
  rw [R.w4 h]
  by_cases h0 : wN N w 3 = 0
  · rw [if_pos h0]; simp [h0]
  · rw [if_neg h0, m1_n hs]; simp [h0]
theorem RM.w5s (R : RM I q N np ns nw) {w s : Nat} (h : w < nw) (hs : s < 2147483648) : (I (q + 15 + w) 5 = nI s) = (wN N w 3 = 1 ∧ wN N w 4 = nI s) := by
  rw [R.w5 h]
  by_cases h0 : wN N w 3 = 1
  · rw [if_pos h0]; simp [h0]
  · rw [if_neg h0, m1_n hs]; simp [h0]
theorem RM.w4n (R : RM I q N np ns nw) {w : Nat} (h : w < nw) : (I (q + 15 + w) 4 = -1) = ¬ wN N w 3 = 0 := by
  have b := R.f.s.2
  rw [R.w4 h]
  by_cases h0 : wN N w 3 = 0
  · obtain ⟨a1, a2⟩ := R.f.a0 h h0
    rw [if_pos h0, a1, oI_n (by omega)]; simp [h0]
  · rw [if_neg h0]; simp [h0]
theorem RM.w5n (R : RM I q N np ns nw) {w : Nat} (h : w < nw) : (I (q + 15 + w) 5 = -1) = ¬ wN N w 3 = 1 := by
  have b := R.f.p.2
  rw [R.w5 h]
  by_cases h0 : wN N w 3 = 1
  · obtain ⟨a1, a2⟩ := R.f.a1 h h0
    rw [if_pos h0, a1, oI_n (by omega)]; simp [h0]
  · rw [if_neg h0]; simp [h0]
theorem h_today (R : RM I q N np ns nw) : f_X3_today I q = some (sDay N) := by
  obtain ⟨y, y1, y2, y3⟩ := R.2.1
  have e : (N 0 ≤ 0) = False := by rw [y1]; exact eq_false (nI_nle (by omega) (by omega))
  simp (disch := omega) only [f_X3_today, R.h6, R.h7, e, nz_so R.f.y, sDay, b1_so, b2_so, b3_so, e1_ok, e1_er, e2_ok, e2_er, e3_ok, e3_er, bI_so, bI_so', bI_0, bI_1, cB_bI, nI_s1, nJ_et, nJ_ef, nJ_lt, nJ_lf, pu_sM, sM_s, if_true, if_false, ite_self, Nat.lt_irrefl, Int32.zero_add, Int32.add_zero, not_true_eq_false, not_false_eq_true, rfw0, rfw1, rfw2, rfw3, rfw4, rfw5, rfw6, rfw7, rfp0, rfp1, rfp2, rfp3, rfp4, rfp5, rfp6, rfs0, rfs1, rfs2, rfs3, rwp0, rwp1, rwp2, rwp3, rwp4, rwp5, rwp6, rwp7, rpp0, rpp1, rpp2, rpp3, rpp4, rpp5, rpp6, rsp0, rsp1, rsp2, rsp3, ixn16, ixn6, ixn5]
theorem sCnt_no {P : Nat → Prop} [DecidablePred P] {n : Nat} (h : ¬ P n) : nI (sCnt P n) = nI (sCnt P (n + 1)) := by
  show _ = nI (sCnt P n + (if P n then 1 else 0))
  rw [if_neg h]
  rfl
theorem sCnt_ye {P : Nat → Prop} [DecidablePred P] {n : Nat} (h : P n) : nI (sCnt P n) + 1 = nI (sCnt P (n + 1)) := by
  show _ = nI (sCnt P n + (if P n then 1 else 0))
  rw [if_pos h]
  exact (nI_succ _).symm
theorem h_ownedBy (R : RM I q N np ns nw) {p : Nat} (hp : p < 1000) : f_X3_ownedBy I q (nI p) = some (nI (sOwns N nw (nI p))) := by
  have b3 := R.f.w.2
  refine up_loop (fun f (s : Int32 × Int32) => l_X3_ownedBy_4 f I q (nI p) s.1 s.2) (fun i => (nI (sOwns N i (nI p)), nI i)) nw _ (fun i hi f => ?_) (fun f => ?_) (FU_up (by omega))
  · by_cases h : wN N i 3 = 1 ∧ wN N i 4 = nI p
    · have e := sCnt_ye (P := fun w => wN N w 3 = 1 ∧ wN N w 4 = nI p) h
      simp (disch := omega) only [l_X3_ownedBy_4, R.h5, R.w5s hi (show p < 2147483648 by omega), h, sOwns, e, and_self, b1_so, b2_so, b3_so, e1_ok, e1_er, e2_ok, e2_er, e3_ok, e3_er, bI_so, bI_so', bI_0, bI_1, cB_bI, nI_s1, nJ_et, nJ_ef, nJ_lt, nJ_lf, pu_sM, sM_s, if_true, if_false, ite_self, Nat.lt_irrefl, Int32.zero_add, Int32.add_zero, not_true_eq_false, not_false_eq_true, rfw0, rfw1, rfw2, rfw3, rfw4, rfw5, rfw6, rfw7, rfp0, rfp1, rfp2, rfp3, rfp4, rfp5, rfp6, rfs0, rfs1, rfs2, rfs3, rwp0, rwp1, rwp2, rwp3, rwp4, rwp5, rwp6, rwp7, rpp0, rpp1, rpp2, rpp3, rpp4, rpp5, rpp6, rsp0, rsp1, rsp2, rsp3, ixn16, ixn6, ixn5]
    · have e := sCnt_no (P := fun w => wN N w 3 = 1 ∧ wN N w 4 = nI p) h
      simp (disch := omega) only [l_X3_ownedBy_4, R.h5, R.w5s hi (show p < 2147483648 by omega), h, sOwns, e, b1_so, b2_so, b3_so, e1_ok, e1_er, e2_ok, e2_er, e3_ok, e3_er, bI_so, bI_so', bI_0, bI_1, cB_bI, nI_s1, nJ_et, nJ_ef, nJ_lt, nJ_lf, pu_sM, sM_s, if_true, if_false, ite_self, Nat.lt_irrefl, Int32.zero_add, Int32.add_zero, not_true_eq_false, not_false_eq_true, rfw0, rfw1, rfw2, rfw3, rfw4, rfw5, rfw6, rfw7, rfp0, rfp1, rfp2, rfp3, rfp4, rfp5, rfp6, rfs0, rfs1, rfs2, rfs3, rwp0, rwp1, rwp2, rwp3, rwp4, rwp5, rwp6, rwp7, rpp0, rpp1, rpp2, rpp3, rpp4, rpp5, rpp6, rsp0, rsp1, rsp2, rsp3, ixn16, ixn6, ixn5]
  · simp (disch := omega) only [l_X3_ownedBy_4, R.h5, b1_so, b2_so, b3_so, e1_ok, e1_er, e2_ok, e2_er, e3_ok, e3_er, bI_so, bI_so', bI_0, bI_1, cB_bI, nI_s1, nJ_et, nJ_ef, nJ_lt, nJ_lf, pu_sM, sM_s, if_true, if_false, ite_self, Nat.lt_irrefl, Int32.zero_add, Int32.add_zero, not_true_eq_false, not_false_eq_true, rfw0, rfw1, rfw2, rfw3, rfw4, rfw5, rfw6, rfw7, rfp0, rfp1, rfp2, rfp3, rfp4, rfp5, rfp6, rfs0, rfs1, rfs2, rfs3, rwp0, rwp1, rwp2, rwp3, rwp4, rwp5, rwp6, rwp7, rpp0, rpp1, rpp2, rpp3, rpp4, rpp5, rpp6, rsp0, rsp1, rsp2, rsp3, ixn16, ixn6, ixn5]
theorem h_stockOf (R : RM I q N np ns nw) {s : Nat} (hp : s < 1000) : f_X3_stockOf I q (nI s) = some (nI (sStock N nw (nI s))) := by
  have b3 := R.f.w.2
  refine up_loop (fun f (z : Int32 × Int32) => l_X3_stockOf_4 f I q (nI s) z.1 z.2) (fun i => (nI (sStock N i (nI s)), nI i)) nw _ (fun i hi f => ?_) (fun f => ?_) (FU_up (by omega))
  · by_cases h : wN N i 3 = 0 ∧ wN N i 4 = nI s
    · have e := sCnt_ye (P := fun w => wN N w 3 = 0 ∧ wN N w 4 = nI s) h
      simp (disch := omega) only [l_X3_stockOf_4, R.h5, R.w4s hi (show s < 2147483648 by omega), h, sStock, e, and_self, b1_so, b2_so, b3_so, e1_ok, e1_er, e2_ok, e2_er, e3_ok, e3_er, bI_so, bI_so', bI_0, bI_1, cB_bI, nI_s1, nJ_et, nJ_ef, nJ_lt, nJ_lf, pu_sM, sM_s, if_true, if_false, ite_self, Nat.lt_irrefl, Int32.zero_add, Int32.add_zero, not_true_eq_false, not_false_eq_true, rfw0, rfw1, rfw2, rfw3, rfw4, rfw5, rfw6, rfw7, rfp0, rfp1, rfp2, rfp3, rfp4, rfp5, rfp6, rfs0, rfs1, rfs2, rfs3, rwp0, rwp1, rwp2, rwp3, rwp4, rwp5, rwp6, rwp7, rpp0, rpp1, rpp2, rpp3, rpp4, rpp5, rpp6, rsp0, rsp1, rsp2, rsp3, ixn16, ixn6, ixn5]
    · have e := sCnt_no (P := fun w => wN N w 3 = 0 ∧ wN N w 4 = nI s) h
      simp (disch := omega) only [l_X3_stockOf_4, R.h5, R.w4s hi (show s < 2147483648 by omega), h, sStock, e, b1_so, b2_so, b3_so, e1_ok, e1_er, e2_ok, e2_er, e3_ok, e3_er, bI_so, bI_so', bI_0, bI_1, cB_bI, nI_s1, nJ_et, nJ_ef, nJ_lt, nJ_lf, pu_sM, sM_s, if_true, if_false, ite_self, Nat.lt_irrefl, Int32.zero_add, Int32.add_zero, not_true_eq_false, not_false_eq_true, rfw0, rfw1, rfw2, rfw3, rfw4, rfw5, rfw6, rfw7, rfp0, rfp1, rfp2, rfp3, rfp4, rfp5, rfp6, rfs0, rfs1, rfs2, rfs3, rwp0, rwp1, rwp2, rwp3, rwp4, rwp5, rwp6, rwp7, rpp0, rpp1, rpp2, rpp3, rpp4, rpp5, rpp6, rsp0, rsp1, rsp2, rsp3, ixn16, ixn6, ixn5]
  · simp (disch := omega) only [l_X3_stockOf_4, R.h5, b1_so, b2_so, b3_so, e1_ok, e1_er, e2_ok, e2_er, e3_ok, e3_er, bI_so, bI_so', bI_0, bI_1, cB_bI, nI_s1, nJ_et, nJ_ef, nJ_lt, nJ_lf, pu_sM, sM_s, if_true, if_false, ite_self, Nat.lt_irrefl, Int32.zero_add, Int32.add_zero, not_true_eq_false, not_false_eq_true, rfw0, rfw1, rfw2, rfw3, rfw4, rfw5, rfw6, rfw7, rfp0, rfp1, rfp2, rfp3, rfp4, rfp5, rfp6, rfs0, rfs1, rfs2, rfs3, rwp0, rwp1, rwp2, rwp3, rwp4, rwp5, rwp6, rwp7, rpp0, rpp1, rpp2, rpp3, rpp4, rpp5, rpp6, rsp0, rsp1, rsp2, rsp3, ixn16, ixn6, ixn5]
end CA
