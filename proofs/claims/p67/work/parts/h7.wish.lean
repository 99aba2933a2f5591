/-! a wish, read by the reference -/
section IWX
variable {J J1 : Mem} {B : Nat → Int32} {n m p q x y c v hi o D np ns nw s a b d e f : Nat} {L A R W : List Nat} {N M : Nat → Int32} {h : Int32}
/-- where a wish is -/
def tPl (h : Int32) (x : Nat) (W : List Nat) : List Nat := if h = 0 then sBy 22 ++ (32 :: (dig x ++ W)) else sBy 23 ++ (32 :: (dig x ++ W))
/-- its wear, if there is any -/
def tWr (e : Nat) (L : List Nat) : List Nat := if e = 0 then L else 32 :: (sBy 24 ++ (32 :: (dig e ++ L)))
theorem tWr_h (hL : Nx L) {l k : Nat} (g : (59 < l ∨ k < 59) ∧ (32 < l ∨ k < 32)) : NH l k (tWr e L) := by
  unfold tWr
  split
  · exact hL.h (by omega)
  · exact NH.cs (by omega)
theorem y_wear (hw : nw < 16) (S : RT J m B n (tWr e L) M o D) (hL : Nx L) (he : e ≤ 9) (h2 : wN M nw 2 = 0) : ∃ J' M', f_Y_readsWear J m (nI nw) = some J' ∧ RT J' m B n L M' o D ∧ (∀ j, j ≠ 115 + 15 * nw + 2 → M' j = M j) ∧ wN M' nw 2 = nI e := by
  by_cases h0 : e = 0
  · subst h0
    refine ⟨J, M, ?_, S, fun _ _ => rfl, h2⟩
    unfold f_Y_readsWear
    rw [RT.xnw (L := L) S hL (by decide), b1_so, if_pos rfl]
  · have S : RT J m B n (32 :: (sBy 24 ++ (32 :: (dig e ++ L)))) M o D := by
      have := S
      unfold tWr at this
      rwa [if_neg h0] at this
    have w24 := S.sp.isy (by decide) (by decide) (NH.sp (by omega))
    obtain ⟨J1, a1, a2⟩ := S.sp.wgo (by decide) (by decide) (NH.sp (by omega))
    obtain ⟨J2, b1', b2'⟩ := a2.sp.rn (lo := 0) (hi := 9) (by omega) (Nat.zero_le _) he (by omega) (hL.h (by omega))
    have b1' : f_Y_readNumber J1 m 0 9 = some (nI e, J2) := b1'
    refine ⟨_, _, ?_, b2'.put, fun j hj => upd_n hj, upd_s⟩
    unfold f_Y_readsWear
    rw [w24, b1_so, if_neg (by decide), a1, b1_so, b1', b2_so, pq2 hw, b1_so, b2'.eN]
/-- it may be there -/
def hPl (M : Nat → Int32) (np ns nw : Nat) (h : Int32) (x : Nat) : Prop := (h = 0 ∧ x < ns ∧ ¬ nI (sStock M nw (nI x)) = sN M x 0) ∨ (h = 1 ∧ x < np ∧ sOwns M nw (nI x) < 4)
theorem y_place (hw : nw < 16) (S : RT J m B n (tPl h x W) M o D) (H : WF M np ns nw) (hp : hPl M np ns nw h x) (hW : NH 48 57 W) : ∃ J', f_Y_readsPlace J m (nI nw) = some J' ∧ RT J' m B n W (upd (upd M (115 + 15 * nw + 3) h) (115 + 15 * nw + 4) (nI x)) o D := by
  have b1' := H.p.2
  have b2' := H.s.2
  rcases hp with ⟨rfl, hx, hf⟩ | ⟨rfl, hx, hf⟩
  · have S : RT J m B n (sBy 22 ++ (32 :: (dig x ++ W))) M o D := S
    have w22 := S.isy (by decide) (by decide) (NH.sp (by omega))
    obtain ⟨J1, a1, a2⟩ := S.wgo (by decide) (by decide) (NH.sp (by omega))
    have a3 := a2.sp
    have hh := a3.nh (lo := 0) (hi := ns - 1) (by omega) (Nat.zero_le _) (by omega) (by omega) hW
    have hh : f_Y_numberHere J1 m 0 (nI (ns - 1)) = some (nI x, J1) := hh
    have e1 : nI ns - 1 = nI (ns - 1) := pk_sub (b := 1) (by omega)
    have gF := r_isFull (I := J1) (m := m) H (s := x) (by omega)
    rw [a3.sm, bI_f hf] at gF
    obtain ⟨J2, c1, c2⟩ := a3.dgo (by omega) hW
    refine ⟨_, ?_, c2.put⟩
    unfold f_Y_readsPlace l_Y_readsPlace_25 f_Y_stallHere
    rw [w22, b1_so, if_neg (show ¬ (1 : Int32) = 0 from by decide), a1, b1_so, if_neg (show ¬ (1 : Int32) = 0 from by decide), ix3, b1_so, a3.eN, H.s.1, e1, hh, b2_so, b2_so]
    unfold l_Y_readsPlace_44
    rw [if_neg (show ¬ (1 : Int32) = 0 from by decide), gF, b1_so]
    unfold l_Y_readsPlace_72
    rw [a3.rf, b1_so, c1, b1_so, if_neg (show ¬ (1 : Int32) = 0 from by decide), pl91 hw, c2.eN]
  · have S : RT J m B n (sBy 23 ++ (32 :: (dig x ++ W))) M o D := S
    have w22 := S.isn (by decide) (by decide) (NH.sp (by omega)) (y := 22) (by decide) (by decide)
    have w23 := S.isy (by decide) (by decide) (NH.sp (by omega))
    obtain ⟨J1, a1, a2⟩ := S.wgo (by decide) (by decide) (NH.sp (by omega))
    have a3 := a2.sp
    have hh := a3.nh (lo := 0) (hi := np - 1) (by omega) (Nat.zero_le _) (by omega) (by omega) hW
    have hh : f_Y_numberHere J1 m 0 (nI (np - 1)) = some (nI x, J1) := hh
    have e1 : nI np - 1 = nI (np - 1) := pk_sub (b := 1) (by omega)
    have gO := r_owns (I := J1) (m := m) (N := M) (p := nI x) H.w
    rw [a3.sm] at gO
    obtain ⟨J2, c1, c2⟩ := a3.dgo (by omega) hW
    refine ⟨_, ?_, c2.put⟩
    unfold f_Y_readsPlace l_Y_readsPlace_25 f_Y_personHere
    rw [w22, b1_so, if_pos rfl, w23, b1_so, if_neg (show ¬ (1 : Int32) = 0 from by decide), a1, b1_so, if_pos rfl, ix2, b1_so, a3.eN, H.p.1, e1, hh, b2_so, b2_so]
    unfold l_Y_readsPlace_44
    rw [if_pos rfl, gO, b1_so, if_neg (show ¬ nI _ = (4 : Int32) from by rw [show (4 : Int32) = nI 4 from rfl, nJ_i (by have : sOwns M nw (nI x) = sCnt (fun w => wN M w 3 = 1 ∧ wN M w 4 = nI x) nw := rfl; omega) (by omega)]; have : sOwns M nw (nI x) = sCnt (fun w => wN M w 3 = 1 ∧ wN M w 4 = nI x) nw := rfl; omega)]
    unfold l_Y_readsPlace_72
    rw [a3.rf, b1_so, c1, b1_so, if_pos rfl, pl91 hw, c2.eN]
theorem hPl.cg (hp : hPl N np ns nw h x) (hw : nw < 16) (b2 : ns ≤ 5) (hM : ∀ j, (j < 115 + 15 * nw ∨ 115 + 15 * nw + 14 < j) → M j = N j) : hPl M np ns nw h x := by
  have cO : ∀ x : Int32, sOwns M nw x = sOwns N nw x := fun x => sCnt_eq fun i hi => by rw [show wN M i 3 = wN N i 3 from hM _ (by omega), show wN M i 4 = wN N i 4 from hM _ (by omega)]
  have cS : ∀ x : Int32, sStock M nw x = sStock N nw x := fun x => sCnt_eq fun i hi => by rw [show wN M i 3 = wN N i 3 from hM _ (by omega), show wN M i 4 = wN N i 4 from hM _ (by omega)]
  rcases hp with ⟨h1, h2, h3⟩ | ⟨h1, h2, h3⟩
  · exact Or.inl ⟨h1, h2, by rw [cS, show sN M x 0 = sN N x 0 from hM _ (by omega)]; exact h3⟩
  · exact Or.inr ⟨h1, h2, by rw [cO]; exact h3⟩
theorem tPl_s (hp : hPl N np ns nw h x) : ∃ y, (y = 22 ∨ y = 23) ∧ tPl h x W = sBy y ++ (32 :: (dig x ++ W)) := by
  rcases hp with ⟨rfl, h2, h3⟩ | ⟨rfl, h2, h3⟩
  · exact ⟨22, Or.inl rfl, rfl⟩
  · exact ⟨23, Or.inr rfl, rfl⟩
theorem y_wish (S : RT J m B n (sBy 2 ++ (32 :: ((c :: A) ++ (32 :: (dig a ++ (32 :: (dig b ++ (32 :: tPl h x (tWr e L))))))))) N o D) (hA : ∀ d, d ∈ (c :: A) → 97 ≤ d ∧ d ≤ 122) (hl : (c :: A).length ≤ 6) (H : WF N np ns nw) (hw : nw < 16) (ha : 1 ≤ a ∧ a ≤ 99) (hb : b ≤ 99) (he : e ≤ 9) (hL : Nx L) (hp : hPl N np ns nw h x)
    (G : ∀ i, i < nw → NmOk N (115 + 15 * i + 8)) (hf : ∀ i, i < nw → ¬ N (123 + 15 * i + 1) = nI c) :
    ∃ J' N', f_Y_readsWish J m = some J' ∧ RT J' m B n L N' o D ∧ (∀ j, j ≠ 4 → (j < 115 + 15 * nw ∨ 115 + 15 * nw + 14 < j) → N' j = N j) ∧ N' 4 = nI (nw + 1) ∧ (wN N' nw 0 = nI a ∧ wN N' nw 2 = nI e) ∧ (wN N' nw 3 = h ∧ wN N' nw 4 = nI x ∧ wN N' nw 5 = -1) ∧ NmOk N' (115 + 15 * nw + 8) ∧ N' (123 + 15 * nw + 1) = nI c := by
  have hs5 := H.s.2
  obtain ⟨J1, a1, a2⟩ := S.bg (j := 4) (cap := 16) (by decide) (by decide) (NH.sp (by omega)) (by decide) H.w.1 hw (by decide)
  have a1 : f_Y_begins J m 4 16 = some J1 := a1
  have a3 := a2.sp
  have l1 := a3.lk (by simp) hA hl (NH.sp (by omega))
  have t1 := a3.tk (ba := 123) (st := 15) (cnt := nw) hA hl (NH.sp (by omega)) (fun i hi => by omega) (by omega) (fun i hi => by rw [show 123 + 15 * i = 115 + 15 * i + 8 by omega]; exact G i hi) hf
  have t1 : f_Y_isTaken J1 m (nI nw) 123 15 (-1) = some 0 := t1
  obtain ⟨M0, gf, u1, u2', u3⟩ := zw_go (m := m) hw 15 0 (by decide) FU (FU_up (by decide)) J1
  rw [a3.eN] at u2'
  have u1 : l_Y_readsWish_42 FU J1 m (nI nw) 0 = _ := u1
  obtain ⟨M1, n1, n2, n3, n4⟩ := (a3.put (M := M0)).nm (a := 115 + 15 * nw + 8) hA hl (NH.sp (by omega)) (by omega)
  rw [sM_sM] at n1
  have M1o : ∀ j, (j < 115 + 15 * nw ∨ 115 + 15 * nw + 14 < j) → M1 j = N j := fun j hj => (n2 j (by omega)).trans (u2' j (by omega))
  have M1z : ∀ k, k < 8 → wN M1 nw k = 0 := fun k hk => (n2 _ (by omega)).trans (u3 _ (by omega) (by omega))
  obtain ⟨J2, b1', b2'⟩ := (a3.put (M := M1)).vgo (by simp) hA (by omega) (NH.sp (by omega))
  obtain ⟨J3, c1, c2⟩ := b2'.sp.rn (lo := 1) (hi := 99) (by omega) ha.1 ha.2 (by omega) (NH.sp (by omega))
  have c1 : f_Y_readNumber J2 m 1 99 = some (nI a, J3) := c1
  have c3 := (c2.sp.put (M := upd M1 (115 + 15 * nw + 0) (nI a)))
  obtain ⟨J4, d1, d2⟩ := c3.rn (lo := 0) (hi := 99) (by omega) (Nat.zero_le _) (by omega) (by omega) (NH.sp (by omega))
  have d1 : f_Y_readNumber (sM J3 m (upd M1 (115 + 15 * nw + 0) (nI a))) m 0 99 = some (nI b, J4) := d1
  have d3 := (d2.sp.put (M := upd (upd M1 (115 + 15 * nw + 0) (nI a)) (115 + 15 * nw + 1) (nI b)))
  generalize hM3 : upd (upd M1 (115 + 15 * nw + 0) (nI a)) (115 + 15 * nw + 1) (nI b) = M3 at d3
  have m3 : ∀ j, j ≠ 115 + 15 * nw + 0 → j ≠ 115 + 15 * nw + 1 → M3 j = M1 j := fun j k0 k1 => by rw [← hM3, upd_n k1, upd_n k0]
  have m30 : wN M3 nw 0 = nI a := by
    show M3 (115 + 15 * nw + 0) = _
    rw [← hM3, upd_n (by omega), upd_s]
  have M3o : ∀ j, (j < 115 + 15 * nw ∨ 115 + 15 * nw + 14 < j) → M3 j = N j := fun j hj => (m3 j (by omega) (by omega)).trans (M1o j hj)
  obtain ⟨J5, e1, e2⟩ := y_place hw d3 (H.sl hw M3o) (hp.cg hw hs5 M3o) (tWr_h hL (by omega))
  have e3 := e2.put (M := sFg (upd (upd M3 (115 + 15 * nw + 3) h) (115 + 15 * nw + 4) (nI x)) nw)
  generalize hM4 : sFg (upd (upd M3 (115 + 15 * nw + 3) h) (115 + 15 * nw + 4) (nI x)) nw = M4 at e3
  have m4 : ∀ j, (j < 115 + 15 * nw + 3 ∨ 115 + 15 * nw + 7 < j) → M4 j = M3 j := fun j hj => by
    rw [← hM4]
    unfold sFg
    rw [upd_n (by omega), upd_n (by omega), upd_n (by omega), upd_n (by omega), upd_n (by omega)]
  have m43 : wN M4 nw 3 = h := by
    show M4 (115 + 15 * nw + 3) = _
    rw [← hM4]
    unfold sFg
    rw [upd_n (by omega), upd_n (by omega), upd_n (by omega), upd_n (by omega), upd_s]
  have m44 : wN M4 nw 4 = nI x := by
    show M4 (115 + 15 * nw + 4) = _
    rw [← hM4]
    unfold sFg
    rw [upd_n (by omega), upd_n (by omega), upd_n (by omega), upd_s]
  have m45 : wN M4 nw 5 = -1 := by
    show M4 (115 + 15 * nw + 5) = _
    rw [← hM4]
    unfold sFg
    rw [upd_n (by omega), upd_n (by omega), upd_s]
  obtain ⟨J6, M5, g1, g2, g3, g4⟩ := y_wear hw e3 hL he ((m4 _ (by omega)).trans ((m3 _ (by omega) (by omega)).trans (M1z 2 (by decide))))
  have n44 : M5 4 = nI nw := by rw [g3 _ (by omega), m4 _ (by omega), M3o _ (by omega)]; exact H.w.1
  refine ⟨_, upd M5 4 (nI (nw + 1)), ?_, g2.put, fun j h1 h3 => ?_, upd_s, ⟨?_, ?_⟩, ⟨?_, ?_, ?_⟩, ?_, ?_⟩
  · unfold f_Y_readsWish
    rw [a1, b1_so, ix4, b1_so, l1, b1_so, a2.eN, H.w.1, t1, b1_so, a3.rf, b1_so, if_pos a3.l10, u1]
    unfold l_Y_readsWish_42
    rw [if_pos (show (15 : Int32) ≤ nI 15 from by decide), lk_aw (by omega), n1, b1_so, b1', b1_so, c1, b2_so, pq0 hw, b1_so, c2.eN, d1, b2_so, pq1 hw, b1_so, d2.eN, hM3, e1, b1_so, fg_row hw, b1_so, e2.eN, hM4, g1, b1_so, ix4, b1_so, b1_so, g2.eN, n44, nI_s1, pu_so, b1_so, u2_sM g2.eN]
  · rw [upd_n h1, g3 j (by omega), m4 j (by omega), M3o j h3]
  · exact (upd_n (by omega)).trans ((g3 _ (by omega)).trans ((m4 _ (by omega)).trans m30))
  · exact (upd_n (by omega)).trans g4
  · exact (upd_n (by omega)).trans ((g3 _ (by omega)).trans m43)
  · exact (upd_n (by omega)).trans ((g3 _ (by omega)).trans m44)
  · exact (upd_n (by omega)).trans ((g3 _ (by omega)).trans m45)
  · exact n3.cg fun j h1 h2 => by rw [upd_n (by omega), g3 j (by omega), m4 j (by omega), m3 j (by omega) (by omega)]
  · rw [upd_n (by omega), g3 _ (by omega), m4 _ (by omega), m3 _ (by omega) (by omega), show 123 + 15 * nw + 1 = 115 + 15 * nw + 8 + 1 by omega, n4]
end IWX
