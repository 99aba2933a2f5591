/-! the reference in front of a list -/
section RTX
variable {J J1 : Mem} {B : Nat → Int32} {n m p q x y c v lo hi o D : Nat} {L A R : List Nat} {N M : Nat → Int32}
/-- the token at the head of L is read -/
def RT (J : Mem) (m : Nat) (B : Nat → Int32) (n : Nat) (L : List Nat) (N : Nat → Int32) (o D : Nat) : Prop := ∃ p, ((n ≤ 500 ∧ p ≤ n) ∧ TxL B n p L) ∧ RTok J m B n p ∧ J (m + 1) = N ∧ J m 17 = nI o ∧ J m 18 = nI D
/-- it is not read yet -/
def RN (J : Mem) (m : Nat) (B : Nat → Int32) (n : Nat) (L : List Nat) (N : Nat → Int32) (o D : Nat) : Prop := ∃ p, ((n ≤ 500 ∧ p ≤ n) ∧ TxL B n p L) ∧ RBnd J m B n p ∧ J (m + 1) = N ∧ J m 17 = nI o ∧ J m 18 = nI D
theorem RN.go (S : RN J m B n L N o D) : ∃ J1, f_Y_goes J m = some J1 ∧ RT J1 m B n L N o D := by
  obtain ⟨p, ⟨hn, hs⟩, hb, h1, h2, h3⟩ := S
  obtain ⟨J1, g1, g2, g3⟩ := goes_row hn.1 hn.2 hb
  exact ⟨J1, g1, p, ⟨hn, hs⟩, g2, (g3.1 _ (by omega)).trans h1, (g3.2 17 (by decide)).trans h2, (g3.2 18 (by decide)).trans h3⟩
theorem RT.sp (S : RT J m B n (32 :: L) N o D) : RT J m B n L N o D := by
  obtain ⟨p, ⟨hn, hs⟩, hb, h1⟩ := S
  have e := tS_sp hs
  refine ⟨p + 1, ⟨⟨hn.1, hs.hd.1⟩, hs.tl⟩, ?_, h1⟩
  unfold RTok at hb ⊢
  rw [← tE_q e, ← e, ← tK_q e, ← tV_q e]
  exact hb
theorem RT.put (S : RT J m B n L N o D) : RT (sM J m M) m B n L M o D := by
  obtain ⟨p, h0, hb, h1, h2, h3⟩ := S
  exact ⟨p, h0, hb.rf (fun j _ _ => by rw [sM_n (by omega)]) (sM_n (by omega)), sM_s, by rw [sM_n (by omega)]; exact h2, by rw [sM_n (by omega)]; exact h3⟩
theorem RT.eN (S : RT J m B n L N o D) : J (m + 1) = N := by
  obtain ⟨p, h0, hb, h1, h2, h3⟩ := S
  exact h1
theorem RT.z10 (S : RT J m B n L N o D) : J m 10 = 0 := by
  obtain ⟨p, h0, hb, h1⟩ := S
  exact hb.1.1
theorem RT.l10 (S : RT J m B n L N o D) : J m 10 ≤ 0 := by rw [S.z10]; exact Int32.le_refl _
theorem RT.o17 (S : RT J m B n L N o D) : J m 17 = nI o := by
  obtain ⟨p, h0, hb, h1, h2, h3⟩ := S
  exact h2
theorem RT.d18 (S : RT J m B n L N o D) : J m 18 = nI D := by
  obtain ⟨p, h0, hb, h1, h2, h3⟩ := S
  exact h3
theorem RT.sm (S : RT J m B n L N o D) : sM J m N = J := sM_e S.eN
/-- behind the token -/
theorem RT.bh {k : Nat} (S : RT J m B n (A ++ L) N o D) (h : ∀ p, TxL B n p (A ++ L) → tS B n p = p ∧ tE B n p = p + A.length ∧ tK B n p = k) : RN J m B n L N o D := by
  obtain ⟨p, ⟨hn, hs⟩, hb, h1⟩ := S
  obtain ⟨e1, e2, e3⟩ := h p hs
  have hb2 := hb.bnd
  rw [e2] at hb2
  have hs2 := hs.app.1
  exact ⟨p + A.length, ⟨⟨hn.1, by have := hs2.1; omega⟩, hs2⟩, hb2, h1⟩
theorem NH.nil {l u : Nat} : NH l u [] := fun c T e => by cases e
theorem NH.cs {l u : Nat} (h : c < l ∨ u < c) : NH l u (c :: L) := fun d T e z => by
  obtain rfl : c = d := (List.cons.inj e).1
  omega
/-- words of the law -/
theorem sb_ok : ∀ x, x < 25 → x ≠ 18 → (sBy x ≠ [] ∧ (sBy x).length ≤ 7) ∧ ((sBy x).length = lenT.getD x 0) ∧ ∀ c, c ∈ sBy x → 97 ≤ c ∧ c ≤ 122 := by decide +kernel
theorem sb_eq : ∀ x, x < 25 → ∀ i, i < lenT.getD x 0 → (sBy x)[i]? = some (((bytT.getD x []).getD i 0).toInt.toNat) ∧ nI (((bytT.getD x []).getD i 0).toInt.toNat) = (bytT.getD x []).getD i 0 := by decide +kernel
theorem RT.wgo (S : RT J m B n (sBy x ++ L) N o D) (hx : x < 25) (h8 : x ≠ 18) (hL : NH 97 122 L) : ∃ J1, f_Y_goes J m = some J1 ∧ RT J1 m B n L N o D :=
  (S.bh (k := 1) fun p hs => tk_w (sb_ok x hx h8).1.1 (sb_ok x hx h8).2.2 (sb_ok x hx h8).1.2 hL hs).go
theorem RT.wd (S : RT J m B n (sBy x ++ L) N o D) (hx : x < 25) (h8 : x ≠ 18) (hL : NH 97 122 L) : ∃ p, (n ≤ 500 ∧ p ≤ n) ∧ RTok J m B n p ∧ Wd B n p x := by
  obtain ⟨p, ⟨hn, hs⟩, hb, h1⟩ := S
  obtain ⟨⟨a1, a2⟩, a3, a4⟩ := sb_ok x hx h8
  obtain ⟨e1, e2, e3⟩ := tk_w a1 a4 a2 hL hs
  refine ⟨p, hn, hb, e3, by rw [e1, e2, a3]; omega, fun i hi => ?_⟩
  obtain ⟨b1', b2'⟩ := sb_eq x hx i hi
  rw [e1, (hs.app.2 i _ b1').1, b2']
theorem RT.isy (S : RT J m B n (sBy x ++ L) N o D) (hx : x < 25) (h8 : x ≠ 18) (hL : NH 97 122 L) : f_Y_isWord J m x = some 1 := by
  obtain ⟨p, hn, hb, hw⟩ := S.wd hx h8 hL
  exact hb.word hn hx hw
theorem RT.isn (S : RT J m B n (sBy x ++ L) N o D) (hx : x < 25) (h8 : x ≠ 18) (hL : NH 97 122 L) (hy : y < 25) (hxy : x ≠ y) : f_Y_isWord J m y = some 0 := by
  obtain ⟨p, hn, hb, hw⟩ := S.wd hx h8 hL
  exact hb.noword hn hy fun h => hxy (hw.un hx hy h)
theorem RT.isk {k : Nat} (S : RT J m B n (A ++ L) N o D) (h : ∀ p, TxL B n p (A ++ L) → tS B n p = p ∧ tE B n p = p + A.length ∧ tK B n p = k) {j : Nat} (hj : j < 7) : f_Y_is J m (nI (kc j)) = some (bI (k = j)) := by
  obtain ⟨p, ⟨hn, hs⟩, hb, h1⟩ := S
  rw [is_row hb hj, (h p hs).2.2]
theorem RT.nw {k : Nat} (S : RT J m B n L N o D) (h : ∀ p, TxL B n p L → tK B n p = k) (h1 : k ≠ 1) (hy : y < 25) : f_Y_isWord J m y = some 0 := by
  obtain ⟨p, ⟨hn, hs⟩, hb, h2⟩ := S
  exact hb.noword hn hy fun z => h1 (by rw [← h p hs]; exact z.1)
/-- signs -/
theorem sg_k (hc : c = 59 ∨ c = 40 ∨ c = 41) : ∀ p, TxL B n p ([c] ++ L) → tS B n p = p ∧ tE B n p = p + [c].length ∧ tK B n p = (if c = 59 then 3 else if c = 40 then 4 else 5) := fun p h => tk_s hc h
theorem RT.sgo (S : RT J m B n (c :: L) N o D) (hc : c = 59 ∨ c = 40 ∨ c = 41) : ∃ J1, f_Y_goes J m = some J1 ∧ RT J1 m B n L N o D :=
  (RT.bh (A := [c]) S (sg_k hc)).go
theorem RT.sis (S : RT J m B n (c :: L) N o D) (hc : c = 59 ∨ c = 40 ∨ c = 41) {j : Nat} (hj : j < 7) : f_Y_is J m (nI (kc j)) = some (bI ((if c = 59 then 3 else if c = 40 then 4 else 5) = j)) := RT.isk (A := [c]) S (sg_k hc) hj
theorem RT.snw (S : RT J m B n (c :: L) N o D) (hc : c = 59 ∨ c = 40 ∨ c = 41) (hy : y < 25) : f_Y_isWord J m y = some 0 :=
  S.nw (k := if c = 59 then 3 else if c = 40 then 4 else 5) (fun p h => (sg_k hc p h).2.2) (by split <;> (try split) <;> decide) hy
theorem RT.enw (S : RT J m B n [] N o D) (hy : y < 25) : f_Y_isWord J m y = some 0 := S.nw (k := 0) (fun p h => tk_0 h) (by decide) hy
theorem RT.eis (S : RT J m B n [] N o D) {j : Nat} (hj : j < 7) : f_Y_is J m (nI (kc j)) = some (bI (0 = j)) := by
  obtain ⟨p, ⟨hn, hs⟩, hb, h1⟩ := S
  rw [is_row hb hj, tk_0 hs]
/-- numbers -/
theorem dg_all (hv : v < 1000) : (dig v ≠ [] ∧ (dig v).length ≤ 3) ∧ (∀ c, c ∈ dig v → 48 ≤ c ∧ c ≤ 57) ∧ dvl (dig v) 0 = v := by
  unfold dig
  rcases lg_c (x := v) (by omega) with ⟨h, e⟩ | ⟨h0, h, e⟩ | ⟨h0, h, e⟩ | ⟨h0, h, e⟩ | ⟨h, e⟩
  · rw [e]
    refine ⟨⟨by simp [dgs], by simp [dgs]⟩, fun c hc => ?_, ?_⟩
    · simp only [dgs, List.mem_cons, List.not_mem_nil, or_false] at hc
      omega
    · simp only [dgs, dvl, List.foldl]
      omega
  · rw [e]
    refine ⟨⟨by simp [dgs], by simp [dgs]⟩, fun c hc => ?_, ?_⟩
    · simp only [dgs, List.mem_cons, List.not_mem_nil, or_false] at hc
      omega
    · simp only [dgs, dvl, List.foldl]
      omega
  · rw [e]
    refine ⟨⟨by simp [dgs], by simp [dgs]⟩, fun c hc => ?_, ?_⟩
    · simp only [dgs, List.mem_cons, List.not_mem_nil, or_false] at hc
      omega
    · simp only [dgs, dvl, List.foldl]
      omega
  · omega
  · omega
theorem dg_k (hv : v < 1000) (hL : NH 48 57 L) : ∀ p, TxL B n p (dig v ++ L) → tS B n p = p ∧ tE B n p = p + (dig v).length ∧ tK B n p = 2 := fun p h => tk_d (dg_all hv).1.1 (dg_all hv).2.1 (dg_all hv).1.2 hL h
theorem RT.dgo (S : RT J m B n (dig v ++ L) N o D) (hv : v < 1000) (hL : NH 48 57 L) : ∃ J1, f_Y_goes J m = some J1 ∧ RT J1 m B n L N o D := (S.bh (dg_k hv hL)).go
theorem RT.nh (S : RT J m B n (dig v ++ L) N o D) (hv : v < 1000) (h1 : lo ≤ v) (h2 : v ≤ hi) (h3 : hi < 1000) (hL : NH 48 57 L) : f_Y_numberHere J m (nI lo) (nI hi) = some (nI v, J) := by
  have i2 := S.isk (dg_k hv hL) (j := 2) (by decide)
  rw [bI_t rfl, show nI (kc 2) = (3 : Int32) from rfl] at i2
  obtain ⟨p, ⟨hn, hs⟩, hb, h5⟩ := S
  obtain ⟨e1, e2, e3⟩ := dg_k hv hL p hs
  have e16 := hb.2.2.2.1 e3
  rw [tv_d hs e1 e2, (dg_all hv).2.2] at e16
  unfold f_Y_numberHere l_Y_numberHere_33
  rw [i2, b1_so, if_neg (by decide), e16, r_in, b1_so, bI_t (by rw [ilt (by omega) (by omega), ilt (by omega) (by omega)]; omega), if_neg (by decide), hb.1.1, if_pos (by decide)]
theorem RT.rn (S : RT J m B n (dig v ++ L) N o D) (hv : v < 1000) (h1 : lo ≤ v) (h2 : v ≤ hi) (h3 : hi < 1000) (hL : NH 48 57 L) : ∃ J1, f_Y_readNumber J m (nI lo) (nI hi) = some (nI v, J1) ∧ RT J1 m B n L N o D := by
  obtain ⟨J1, g1, g2⟩ := S.dgo hv hL
  refine ⟨J1, ?_, g2⟩
  unfold f_Y_readNumber
  rw [S.nh hv h1 h2 h3 hL, b2_so, g1, b1_so]
theorem RT.bg {j cap cnt : Nat} (S : RT J m B n (sBy x ++ L) N o D) (hx : x < 25) (h8 : x ≠ 18) (hL : NH 97 122 L) (hj : j < 355) (hc : N j = nI cnt) (h1 : cnt < cap) (h2 : cap < 1000) : ∃ J', f_Y_begins J m (nI j) (nI cap) = some J' ∧ RT J' m B n L N o D := by
  obtain ⟨J1, a1, a2⟩ := S.wgo hx h8 hL
  refine ⟨J1, ?_, a2⟩
  unfold f_Y_begins
  rw [ix_n hj (by decide), b1_so, S.eN, hc, if_neg (by rw [nJ_i (by omega) (by omega)]; omega)]
  unfold l_Y_begins_15
  rw [a1, b1_so]
end RTX
