/-! the law's items, read by the reference -/
section IYX
variable {J J1 : Mem} {B : Nat → Int32} {n m p q x y c v hi o D np ns nw s a b d e : Nat} {L A R : List Nat} {N M : Nat → Int32}
/-- the end, or a semicolon -/
def Nx (L : List Nat) : Prop := L = [] ∨ ∃ T, L = 59 :: T
theorem Nx.h (h : Nx L) {l u : Nat} (g : 59 < l ∨ u < 59) : NH l u L := by
  rcases h with rfl | ⟨T, rfl⟩
  · exact NH.nil
  · exact NH.cs g
theorem RT.xnw (S : RT J m B n L N o D) (h : Nx L) (hy : y < 25) : f_Y_isWord J m y = some 0 := by
  rcases h with rfl | ⟨T, rfl⟩
  · exact S.enw hy
  · exact S.snw (Or.inl rfl) hy
theorem NH.sp {l u : Nat} (h : 32 < l ∨ u < 32) : NH l u (32 :: L) := NH.cs h
theorem y_set {j : Nat} (S : RT J m B n (sBy x ++ (32 :: (dig v ++ L))) N o D) (hx : x < 25) (h8 : x ≠ 18) (hj : j < 355) (hv : v ≤ hi) (hh : hi < 1000) (hL : Nx L) : ∃ J', f_Y_readsSetting J m (nI j) (nI hi) = some J' ∧ RT J' m B n L (upd N j (nI v)) o D := by
  obtain ⟨J1, a1, a2⟩ := S.wgo hx h8 (NH.sp (by omega))
  obtain ⟨J2, b1', b2'⟩ := a2.sp.rn (lo := 0) (by omega) (Nat.zero_le _) hv hh (hL.h (by omega))
  have b1' : f_Y_readNumber J1 m 0 (nI hi) = some (nI v, J2) := b1'
  refine ⟨_, ?_, b2'.put⟩
  unfold f_Y_readsSetting
  rw [a1, b1_so, b1', b2_so, if_pos b2'.z10, ix_n hj (by decide), b1_so, pu_so, b1_so, u2_sM b2'.eN]
theorem y_tax (S : RT J m B n (sBy 15 ++ (32 :: (dig a ++ (32 :: (dig b ++ L))))) N o D) (h0 : N 0 = nI y) (hy : y < 1000) (ha : a < y) (hb : b ≤ 50) (hL : Nx L) : ∃ J', f_Y_readsTax J m = some J' ∧ RT J' m B n L (upd (upd N 9 (nI a)) 10 (nI b)) o D := by
  obtain ⟨J1, a1, a2⟩ := S.wgo (by decide) (by decide) (NH.sp (by omega))
  obtain ⟨J2, b1', b2'⟩ := a2.sp.rn (lo := 0) (hi := y - 1) (by omega) (Nat.zero_le _) (by omega) (by omega) (NH.sp (by omega))
  obtain ⟨J3, c1, c2⟩ := b2'.sp.rn (lo := 0) (hi := 50) (by omega) (Nat.zero_le _) hb (by omega) (hL.h (by omega))
  have b1' : f_Y_readNumber J1 m 0 (nI (y - 1)) = some (nI a, J2) := b1'
  have c1 : f_Y_readNumber J2 m 0 50 = some (nI b, J3) := c1
  have e1 : nI y - 1 = nI (y - 1) := pk_sub (b := 1) (by omega)
  refine ⟨_, ?_, c2.put⟩
  unfold f_Y_readsTax
  rw [a1, b1_so, ix0, b1_so, a2.eN, h0, e1, b1', b2_so, c1, b2_so, if_pos c2.l10, show ix 9 355 = some 9 from ix_n (j := 9) (by decide) (by decide), b1_so, pu_so, b1_so, show ix 10 355 = some 10 from ix_n (j := 10) (by decide) (by decide), b1_so, pu_so, b1_so, u2_sM c2.eN, u2_sM sM_s, sM_sM]
theorem y_limit (S : RT J m B n (sBy 5 ++ (32 :: (dig p ++ (32 :: (dig v ++ L))))) N o D) (h2 : N 2 = nI np) (hp : p < np) (hn : np ≤ 6) (hv : v ≤ 200) (hL : Nx L) : ∃ J', f_Y_readsLimit J m = some J' ∧ RT J' m B n L (upd N (11 + 14 * p + 4) (nI v)) o D := by
  obtain ⟨J1, a1, a2⟩ := S.wgo (by decide) (by decide) (NH.sp (by omega))
  have hh := a2.sp.nh (lo := 0) (hi := np - 1) (by omega) (Nat.zero_le _) (by omega) (by omega) (NH.sp (by omega))
  have hh : f_Y_numberHere J1 m 0 (nI (np - 1)) = some (nI p, J1) := hh
  obtain ⟨J2, b1', b2'⟩ := a2.sp.dgo (by omega) (NH.sp (by omega))
  obtain ⟨J3, c1, c2⟩ := b2'.sp.rn (lo := 0) (hi := 200) (by omega) (Nat.zero_le _) hv (by omega) (hL.h (by omega))
  have c1 : f_Y_readNumber J2 m 0 200 = some (nI v, J3) := c1
  have e1 : nI np - 1 = nI (np - 1) := pk_sub (b := 1) (by omega)
  have r : f_Y_putsPerson J3 m (nI p) 4 (nI v) = some (sM J3 m (upd N (11 + 14 * p + 4) (nI v))) := by
    have := pp_row (J := J3) (m := m) (w := p) (k := 4) (x := nI v) (by omega) (by decide)
    rw [c2.eN] at this
    exact this
  refine ⟨_, ?_, c2.put⟩
  unfold f_Y_readsLimit f_Y_personHere
  rw [a1, b1_so, ix2, b1_so, a2.eN, h2, e1, hh, b2_so, b2_so, b1', b1_so, c1, b2_so, if_pos c2.z10, r, b1_so]
/-- a stall -/
theorem y_stall (S : RT J m B n (sBy 0 ++ (32 :: (dig a ++ (32 :: (dig b ++ (32 :: (dig c ++ (32 :: (dig d ++ L))))))))) N o D) (h3 : N 3 = nI s) (hs : s < 5) (ha : 1 ≤ a ∧ a ≤ 8) (hb : b ≤ 999) (hc : c ≤ 50) (hd : d ≤ 100) (hL : Nx L) :
    ∃ J' N', f_Y_readsStall J m = some J' ∧ RT J' m B n L N' o D ∧ (∀ j, j ≠ 3 → j ≠ 7 → (j < 95 + 4 * s ∨ 95 + 4 * s + 3 < j) → N' j = N j) ∧ N' 3 = nI (s + 1) ∧ (sN N' s 0 = nI a ∧ sN N' s 1 = nI b ∧ sN N' s 2 = nI c ∧ sN N' s 3 = nI d) ∧ N' 7 = N 7 + nI b := by
  obtain ⟨J1, a1, a2⟩ := S.bg (j := 3) (cap := 5) (by decide) (by decide) (NH.sp (by omega)) (by decide) h3 hs (by decide)
  have a1 : f_Y_begins J m 3 5 = some J1 := a1
  obtain ⟨J2, b1', b2'⟩ := a2.sp.rn (lo := 1) (hi := 8) (by omega) ha.1 ha.2 (by omega) (NH.sp (by omega))
  have b1' : f_Y_readNumber J1 m 1 8 = some (nI a, J2) := b1'
  obtain ⟨J3, c1, c2⟩ := b2'.sp.rn (lo := 0) (hi := 999) (by omega) (Nat.zero_le _) hb (by omega) (NH.sp (by omega))
  have c1 : f_Y_readNumber J2 m 0 999 = some (nI b, J3) := c1
  obtain ⟨J4, d1, d2⟩ := c2.sp.rn (lo := 0) (hi := 50) (by omega) (Nat.zero_le _) hc (by omega) (NH.sp (by omega))
  have d1 : f_Y_readNumber J3 m 0 50 = some (nI c, J4) := d1
  obtain ⟨J5, e1, e2⟩ := d2.sp.rn (lo := 0) (hi := 100) (by omega) (Nat.zero_le _) hd (by omega) (hL.h (by omega))
  have e1 : f_Y_readNumber J4 m 0 100 = some (nI d, J5) := e1
  have ps0 : ∀ {J : Mem} {x : Int32}, f_Y_putsStall J m (nI s) 0 x = some (sM J m (upd (J (m + 1)) (95 + 4 * s + 0) x)) := ps_row (k := 0) hs (by decide)
  have ps1 : ∀ {J : Mem} {x : Int32}, f_Y_putsStall J m (nI s) 1 x = some (sM J m (upd (J (m + 1)) (95 + 4 * s + 1) x)) := ps_row (k := 1) hs (by decide)
  have ps2 : ∀ {J : Mem} {x : Int32}, f_Y_putsStall J m (nI s) 2 x = some (sM J m (upd (J (m + 1)) (95 + 4 * s + 2) x)) := ps_row (k := 2) hs (by decide)
  have ps3 : ∀ {J : Mem} {x : Int32}, f_Y_putsStall J m (nI s) 3 x = some (sM J m (upd (J (m + 1)) (95 + 4 * s + 3) x)) := ps_row (k := 3) hs (by decide)
  refine ⟨_, upd (upd (upd (upd (upd (upd N 3 (nI (s + 1))) (95 + 4 * s + 0) (nI a)) (95 + 4 * s + 1) (nI b)) (95 + 4 * s + 2) (nI c)) (95 + 4 * s + 3) (nI d)) 7 (N 7 + nI b), ?_, e2.put, fun j h1 h2 h3 => ?_, ?_, ⟨?_, ?_, ?_, ?_⟩, upd_s⟩
  · unfold f_Y_readsStall
    rw [a1, b1_so, b1', b2_so, c1, b2_so, d1, b2_so, e1, b2_so, if_pos e2.l10, ix3, b1_so, b1_so, b1_so, e2.eN, h3, nI_s1, pu_so, b1_so, u2_sM e2.eN, ps0, b1_so, sM_s, sM_sM, ps1, b1_so, sM_s, sM_sM, ps2, b1_so, sM_s, sM_sM, ps3, b1_so, sM_s, sM_sM, ix7, b1_so, b1_so, sM_s, pu_so, b1_so, u2_sM sM_s, sM_sM, upd_n (show (7 : Nat) ≠ 95 + 4 * s + 3 by omega), upd_n (show (7 : Nat) ≠ 95 + 4 * s + 2 by omega), upd_n (show (7 : Nat) ≠ 95 + 4 * s + 1 by omega), upd_n (show (7 : Nat) ≠ 95 + 4 * s + 0 by omega), upd_n (show (7 : Nat) ≠ 3 by omega)]
  · rw [upd_n h2, upd_n (by omega), upd_n (by omega), upd_n (by omega), upd_n (by omega), upd_n h1]
  · rw [upd_n (by omega), upd_n (by omega), upd_n (by omega), upd_n (by omega), upd_n (by omega), upd_s]
  · show upd _ _ _ (95 + 4 * s + 0) = _
    rw [upd_n (by omega), upd_n (by omega), upd_n (by omega), upd_n (by omega), upd_s]
  · show upd _ _ _ (95 + 4 * s + 1) = _
    rw [upd_n (by omega), upd_n (by omega), upd_n (by omega), upd_s]
  · show upd _ _ _ (95 + 4 * s + 2) = _
    rw [upd_n (by omega), upd_n (by omega), upd_s]
  · show upd _ _ _ (95 + 4 * s + 3) = _
    rw [upd_n (by omega), upd_s]
/-- names -/
theorem RT.lk (S : RT J m B n (A ++ L) N o D) (hne : A ≠ []) (hA : ∀ c, c ∈ A → 97 ≤ c ∧ c ≤ 122) (hl : A.length ≤ 6) (hL : NH 97 122 L) : f_Y_looksAtName J m = some J := by
  have i2 := S.isk (k := 1) (fun p h => tk_w hne hA (by omega) hL h) (j := 1) (by decide)
  rw [bI_t rfl, show nI (kc 1) = (2 : Int32) from rfl] at i2
  obtain ⟨p, ⟨hn, hs⟩, hb, h5⟩ := S
  obtain ⟨e1, e2, e3⟩ := tk_w hne hA (by omega) hL hs
  unfold f_Y_looksAtName
  rw [i2, b1_so, if_neg (by decide), hb.2.1.1, hb.2.1.2, e1, e2, pk_sub (by omega), if_pos (show nI _ ≤ (6 : Int32) from by rw [show (6 : Int32) = nI 6 from rfl, ile (by omega) (by omega)]; omega)]
theorem RT.tk {ba st cnt : Nat} (S : RT J m B n ((c :: A) ++ L) N o D) (hA : ∀ d, d ∈ (c :: A) → 97 ≤ d ∧ d ≤ 122) (hl : (c :: A).length ≤ 6) (hL : NH 97 122 L) (ha : ∀ i, i < cnt → ba + st * i + 6 < 355) (hc : cnt ≤ 16) (H : ∀ i, i < cnt → NmOk N (ba + st * i)) (hf : ∀ i, i < cnt → ¬ N (ba + st * i + 1) = nI c) : f_Y_isTaken J m (nI cnt) (nI ba) (nI st) (-1) = some 0 := by
  have hN := S.eN
  obtain ⟨p, ⟨hn, hs⟩, hb, h5⟩ := S
  obtain ⟨e1, e2, e3⟩ := tk_w (by simp) hA (by omega) hL hs
  have hlen := hs.1
  rw [List.length_append] at hlen
  have hpos : 0 < (c :: A).length := by rw [List.length_cons]; omega
  obtain ⟨v, q1, q2⟩ := tk_go (J := J) (m := m) (s := p) (e := p + (c :: A).length) (ba := ba) (st := st) (cnt := cnt) (x4 := -1) (by rw [hb.2.1.1, e2]) (by rw [hb.2.1.2, e1]) ⟨by omega, by omega⟩ ha hc (by rw [hN]; exact H) cnt 0 (Nat.zero_add _) FU (FU_up (by omega))
  rcases q2 with ⟨rfl, i, i1, i2, i3⟩ | ⟨rfl, q3⟩
  · exfalso
    have h0 := i3.2 0 (by omega)
    rw [hN, hb.1.2.2 (p + 0) (by omega)] at h0
    exact hf i i1.2 (h0.trans (hs.hd).2.1)
  · exact q1
theorem RT.nm (S : RT J m B n ((c :: A) ++ L) N o D) (hA : ∀ d, d ∈ (c :: A) → 97 ≤ d ∧ d ≤ 122) (hl : (c :: A).length ≤ 6) (hL : NH 97 122 L) (ha : a + 6 < 355) : ∃ M, f_Y_names J m (nI a) = some (sM J m M) ∧ (∀ j, (j < a ∨ a + 6 < j) → M j = N j) ∧ NmOk M a ∧ M (a + 1) = nI c := by
  have hN := S.eN
  obtain ⟨p, ⟨hn, hs⟩, hb, h5⟩ := S
  obtain ⟨e1, e2, e3⟩ := tk_w (by simp) hA (by omega) hL hs
  have hpos : 0 < (c :: A).length := by rw [List.length_cons]; omega
  have hlen := hs.1
  rw [List.length_append] at hlen
  obtain ⟨M, g1, g2, g3⟩ := nw_go (m := m) (a := a) (s := p) (l := (c :: A).length) (by omega) ha hl (c :: A).length 0 (Nat.zero_add _) FU (FU_up (by omega)) (u2 J (m + 1) a (nI (c :: A).length)) (by rw [u2_a (by omega), hb.2.1.1, e2]) (by rw [u2_a (by omega), hb.2.1.2, e1])
  have hsm : sM (u2 J (m + 1) a (nI (c :: A).length)) m M = sM J m M := by
    funext b
    by_cases hb : b = m + 1
    · rw [hb, sM_s, sM_s]
    · rw [sM_n hb, sM_n hb, u2_a hb]
  rw [hsm] at g1
  have h0 : M a = nI (c :: A).length := by rw [g2 a (by omega), u2_s]
  have hj : ∀ j, j < (c :: A).length → M (a + 1 + j) = B (p + j) := fun j hj => by rw [g3 j (Nat.zero_le _) hj, u2_a (by omega)]; exact hb.1.2.2 _ (by omega)
  refine ⟨M, ?_, fun j hj => ?_, ⟨(c :: A).length, h0, by omega, hl, fun i hi => ?_⟩, ?_⟩
  · unfold f_Y_names
    rw [ix_n (by omega) (by decide), b1_so, hb.2.1.1, hb.2.1.2, e1, e2, pk_sub (by omega), show p + (c :: A).length - p = (c :: A).length by omega, pu_so, b1_so]
    exact g1
  · rw [g2 j (by omega), u2_k (by omega), hN]
  · have hg : (c :: A)[i]? = some (c :: A)[i] := List.getElem?_eq_getElem hi
    have := hA _ (List.getElem_mem hi)
    exact ⟨(c :: A)[i], by rw [hj i hi, (hs.app.2 i _ hg).1], this⟩
  · exact (hj 0 hpos).trans (hs.hd).2.1
end IYX
