/-! the loop over the items; what is repeated -/
section ILX
variable {J J1 J0 : Mem} {B : Nat → Int32} {n m p q x y c v hi o o0 D D0 np ns nw s a b d e f : Nat} {L T W : List Nat} {N N0 M : Nat → Int32} {R : Mem → Nat → Option Mem}
theorem d_stall (S : RT J m B n (sBy 0 ++ (32 :: T)) N o D) : f_Y_readsItem R J m = f_Y_readsStall J m := by
  have X := S.isy (by decide) (by decide) (NH.sp (by omega))
  have Y : ∀ y, y < 25 → 0 ≠ y → f_Y_isWord J m y = some 0 := fun y h1 h2 => S.isn (by decide) (by decide) (NH.sp (by omega)) h1 h2
  unfold f_Y_readsItem
  rw [X, b1_so, if_neg (show ¬ (1 : Int32) = 0 from by decide), b1_id]
theorem d_person (S : RT J m B n (sBy 1 ++ (32 :: T)) N o D) : f_Y_readsItem R J m = f_Y_readsPerson J m := by
  have X := S.isy (by decide) (by decide) (NH.sp (by omega))
  have Y : ∀ y, y < 25 → 1 ≠ y → f_Y_isWord J m y = some 0 := fun y h1 h2 => S.isn (by decide) (by decide) (NH.sp (by omega)) h1 h2
  unfold f_Y_readsItem
  rw [Y 0 (by decide) (by decide), b1_so, if_pos rfl, X, b1_so, if_neg (show ¬ (1 : Int32) = 0 from by decide), b1_id]
theorem d_wish (S : RT J m B n (sBy 2 ++ (32 :: T)) N o D) : f_Y_readsItem R J m = f_Y_readsWish J m := by
  have X := S.isy (by decide) (by decide) (NH.sp (by omega))
  have Y : ∀ y, y < 25 → 2 ≠ y → f_Y_isWord J m y = some 0 := fun y h1 h2 => S.isn (by decide) (by decide) (NH.sp (by omega)) h1 h2
  unfold f_Y_readsItem
  rw [Y 0 (by decide) (by decide), b1_so, if_pos rfl, Y 1 (by decide) (by decide), b1_so, if_pos rfl, X, b1_so, if_neg (show ¬ (1 : Int32) = 0 from by decide), b1_id]
theorem d_regret (S : RT J m B n (sBy 3 ++ (32 :: T)) N o D) : f_Y_readsItem R J m = f_Y_readsSetting J m 5 30 := by
  have X := S.isy (by decide) (by decide) (NH.sp (by omega))
  have Y : ∀ y, y < 25 → 3 ≠ y → f_Y_isWord J m y = some 0 := fun y h1 h2 => S.isn (by decide) (by decide) (NH.sp (by omega)) h1 h2
  unfold f_Y_readsItem
  rw [Y 0 (by decide) (by decide), b1_so, if_pos rfl, Y 1 (by decide) (by decide), b1_so, if_pos rfl, Y 2 (by decide) (by decide), b1_so, if_pos rfl, X, b1_so, if_neg (show ¬ (1 : Int32) = 0 from by decide), b1_id]
theorem d_fee (S : RT J m B n (sBy 4 ++ (32 :: T)) N o D) : f_Y_readsItem R J m = f_Y_readsSetting J m 6 50 := by
  have X := S.isy (by decide) (by decide) (NH.sp (by omega))
  have Y : ∀ y, y < 25 → 4 ≠ y → f_Y_isWord J m y = some 0 := fun y h1 h2 => S.isn (by decide) (by decide) (NH.sp (by omega)) h1 h2
  unfold f_Y_readsItem
  rw [Y 0 (by decide) (by decide), b1_so, if_pos rfl, Y 1 (by decide) (by decide), b1_so, if_pos rfl, Y 2 (by decide) (by decide), b1_so, if_pos rfl, Y 3 (by decide) (by decide), b1_so, if_pos rfl, X, b1_so, if_neg (show ¬ (1 : Int32) = 0 from by decide), b1_id]
theorem d_auction (S : RT J m B n (sBy 14 ++ (32 :: T)) N o D) : f_Y_readsItem R J m = f_Y_readsSetting J m 8 (N 0 - 1) := by
  have X := S.isy (by decide) (by decide) (NH.sp (by omega))
  have Y : ∀ y, y < 25 → 14 ≠ y → f_Y_isWord J m y = some 0 := fun y h1 h2 => S.isn (by decide) (by decide) (NH.sp (by omega)) h1 h2
  unfold f_Y_readsItem
  rw [Y 0 (by decide) (by decide), b1_so, if_pos rfl, Y 1 (by decide) (by decide), b1_so, if_pos rfl, Y 2 (by decide) (by decide), b1_so, if_pos rfl, Y 3 (by decide) (by decide), b1_so, if_pos rfl, Y 4 (by decide) (by decide), b1_so, if_pos rfl, X, b1_so, if_neg (show ¬ (1 : Int32) = 0 from by decide), ix0, b1_so, S.eN, b1_id]
theorem d_tax (S : RT J m B n (sBy 15 ++ (32 :: T)) N o D) : f_Y_readsItem R J m = f_Y_readsTax J m := by
  have X := S.isy (by decide) (by decide) (NH.sp (by omega))
  have Y : ∀ y, y < 25 → 15 ≠ y → f_Y_isWord J m y = some 0 := fun y h1 h2 => S.isn (by decide) (by decide) (NH.sp (by omega)) h1 h2
  unfold f_Y_readsItem
  rw [Y 0 (by decide) (by decide), b1_so, if_pos rfl, Y 1 (by decide) (by decide), b1_so, if_pos rfl, Y 2 (by decide) (by decide), b1_so, if_pos rfl, Y 3 (by decide) (by decide), b1_so, if_pos rfl, Y 4 (by decide) (by decide), b1_so, if_pos rfl, Y 14 (by decide) (by decide), b1_so, if_pos rfl, X, b1_so, if_neg (show ¬ (1 : Int32) = 0 from by decide), b1_id]
theorem d_limit (S : RT J m B n (sBy 5 ++ (32 :: T)) N o D) : f_Y_readsItem R J m = f_Y_readsLimit J m := by
  have X := S.isy (by decide) (by decide) (NH.sp (by omega))
  have Y : ∀ y, y < 25 → 5 ≠ y → f_Y_isWord J m y = some 0 := fun y h1 h2 => S.isn (by decide) (by decide) (NH.sp (by omega)) h1 h2
  unfold f_Y_readsItem
  rw [Y 0 (by decide) (by decide), b1_so, if_pos rfl, Y 1 (by decide) (by decide), b1_so, if_pos rfl, Y 2 (by decide) (by decide), b1_so, if_pos rfl, Y 3 (by decide) (by decide), b1_so, if_pos rfl, Y 4 (by decide) (by decide), b1_so, if_pos rfl, Y 14 (by decide) (by decide), b1_so, if_pos rfl, Y 15 (by decide) (by decide), b1_so, if_pos rfl, X, b1_so, if_neg (show ¬ (1 : Int32) = 0 from by decide), b1_id]
theorem d_advance (S : RT J m B n (sBy 16 ++ (32 :: T)) N o D) : f_Y_readsItem R J m = f_Y_readsAdvance J m := by
  have X := S.isy (by decide) (by decide) (NH.sp (by omega))
  have Y : ∀ y, y < 25 → 16 ≠ y → f_Y_isWord J m y = some 0 := fun y h1 h2 => S.isn (by decide) (by decide) (NH.sp (by omega)) h1 h2
  unfold f_Y_readsItem
  rw [Y 0 (by decide) (by decide), b1_so, if_pos rfl, Y 1 (by decide) (by decide), b1_so, if_pos rfl, Y 2 (by decide) (by decide), b1_so, if_pos rfl, Y 3 (by decide) (by decide), b1_so, if_pos rfl, Y 4 (by decide) (by decide), b1_so, if_pos rfl, Y 14 (by decide) (by decide), b1_so, if_pos rfl, Y 15 (by decide) (by decide), b1_so, if_pos rfl, Y 5 (by decide) (by decide), b1_so, if_pos rfl, Y 13 (by decide) (by decide), b1_so, if_pos rfl, X, b1_so, if_neg (show ¬ (1 : Int32) = 0 from by decide), b1_id]
theorem d_repeat (S : RT J m B n (sBy 17 ++ (32 :: T)) N o D) : f_Y_readsItem R J m = R J m := by
  have X := S.isy (by decide) (by decide) (NH.sp (by omega))
  have Y : ∀ y, y < 25 → 17 ≠ y → f_Y_isWord J m y = some 0 := fun y h1 h2 => S.isn (by decide) (by decide) (NH.sp (by omega)) h1 h2
  unfold f_Y_readsItem
  rw [Y 0 (by decide) (by decide), b1_so, if_pos rfl, Y 1 (by decide) (by decide), b1_so, if_pos rfl, Y 2 (by decide) (by decide), b1_so, if_pos rfl, Y 3 (by decide) (by decide), b1_so, if_pos rfl, Y 4 (by decide) (by decide), b1_so, if_pos rfl, Y 14 (by decide) (by decide), b1_so, if_pos rfl, Y 15 (by decide) (by decide), b1_so, if_pos rfl, Y 5 (by decide) (by decide), b1_so, if_pos rfl, Y 13 (by decide) (by decide), b1_so, if_pos rfl, Y 16 (by decide) (by decide), b1_so, if_pos rfl, X, b1_so, if_neg (show ¬ (1 : Int32) = 0 from by decide), b1_id]
theorem lp_go {a : Mem → Nat → Option Mem} {P : Mem → Prop} (S : RT J m B n (59 :: T) N o D) (h : ∀ J1, RT J1 m B n T N o D → ∃ J2, a J1 m = some J2 ∧ P J2) : ∃ J2, l_Y_readsText_36 a (f + 1) J m = l_Y_readsText_36 a f J2 m ∧ P J2 := by
  have i3 := S.sis (Or.inl rfl) (j := 3) (by decide)
  rw [show nI (kc 3) = (4 : Int32) from rfl] at i3
  obtain ⟨J1, g1, g2⟩ := S.sgo (Or.inl rfl)
  obtain ⟨J2, c1, c2⟩ := h J1 g2
  refine ⟨J2, ?_, c2⟩
  show (b1 (f_Y_is J m 4) fun v12 => if v12 = 0 then (b1 (f_Y_is J m 1) fun v14 => if v14 = 0 then (b1 (f_Y_faults J m 1) fun I20 => l_Y_readsText_68 a I20 m) else (l_Y_readsText_68 a J m)) else (b1 (f_Y_goes J m) fun I22 => b1 (a I22 m) fun I24 => l_Y_readsText_36 a f I24 m)) = _
  rw [i3, b1_so, if_neg (by decide), g1, b1_so, c1, b1_so]
theorem lp_end {a : Mem → Nat → Option Mem} (S : RT J m B n [] N o D) (h2 : N 2 = nI np) (h3 : N 3 = nI ns) (b2 : 1 ≤ np ∧ np ≤ 6) (b3 : 1 ≤ ns ∧ ns ≤ 5) : l_Y_readsText_36 a (f + 1) J m = some J := by
  have i3 := S.eis (j := 3) (by decide)
  have i0 := S.eis (j := 0) (by decide)
  rw [show nI (kc 3) = (4 : Int32) from rfl] at i3
  rw [show nI (kc 0) = (1 : Int32) from rfl] at i0
  show (b1 (f_Y_is J m 4) fun v12 => if v12 = 0 then (b1 (f_Y_is J m 1) fun v14 => if v14 = 0 then (b1 (f_Y_faults J m 1) fun I20 => l_Y_readsText_68 a I20 m) else (l_Y_readsText_68 a J m)) else (b1 (f_Y_goes J m) fun I22 => b1 (a I22 m) fun I24 => l_Y_readsText_36 a f I24 m)) = _
  rw [i3, b1_so, if_pos (by decide), i0, b1_so, if_neg (by decide)]
  unfold l_Y_readsText_68
  rw [ix3, b1_so, S.eN, h3, if_neg (nI_ne0 (by omega) (by omega)), ix2, b1_so, h2, if_neg (nI_ne0 (by omega) (by omega))]
theorem RT.dep (S : RT J m B n L N o D) : RT (u2 J m 17 (nI q)) m B n L N q D := by
  obtain ⟨p, h0, hb, h1, h2, h3⟩ := S
  exact ⟨p, h0, hb.rf (fun j _ _ => u2_k (by omega)) (u2_a (by omega)), (u2_a (by omega)).trans h1, u2_s, (u2_k (by decide)).trans h3⟩
theorem RT.sim (S : RT J m B n L N o D) : RT (u2 J m 18 (nI q)) m B n L N o q := by
  obtain ⟨p, h0, hb, h1, h2, h3⟩ := S
  exact ⟨p, h0, hb.rf (fun j _ _ => u2_k (by omega)) (u2_a (by omega)), (u2_a (by omega)).trans h1, (u2_k (by decide)).trans h2, u2_s⟩
theorem RT.jump (S : RT J m B n L N o D) (S0 : RT J0 m B n (40 :: T) N0 o0 D0) : RN (u2 J m 13 (J0 m 13)) m B n T N o D := by
  obtain ⟨p0, ⟨hn, hs⟩, hb0, -⟩ := S0
  obtain ⟨e1, e2, e3⟩ := tk_s (Or.inr (Or.inl rfl)) hs
  obtain ⟨p, -, hb, h1, h2, h3⟩ := S
  refine ⟨p0 + 1, ⟨⟨hn.1, hs.hd.1⟩, hs.tl⟩, ⟨⟨(u2_k (by decide)).trans hb.1.1, (u2_k (by decide)).trans hb.1.2.1, fun i hi => by rw [u2_a (by omega)]; exact hb.1.2.2 i hi⟩, ?_, (u2_k (by decide)).trans hb.2.2.2.2⟩, (u2_a (by omega)).trans h1, (u2_k (by decide)).trans h2, (u2_k (by decide)).trans h3⟩
  rw [u2_s, hb0.2.1.1, e2]
theorem y_adv (S : RT J m B n (sBy 16 ++ (32 :: (dig v ++ L))) N o D) (H : WF N np ns nw) (hv : 1 ≤ v ∧ v ≤ 300) (hD : D + v ≤ 2000) (hL : NH 48 57 L) : ∃ J', f_Y_readsAdvance J m = some J' ∧ RT J' m B n L (sDays N np ns nw v) o (D + v) := by
  obtain ⟨J1, a1, a2⟩ := S.wgo (by decide) (by decide) (NH.sp (by omega))
  have hh := a2.sp.nh (lo := 1) (hi := 300) (by omega) hv.1 hv.2 (by omega) hL
  have hh : f_Y_numberHere J1 m 1 300 = some (nI v, J1) := hh
  obtain ⟨J2, b1', b2'⟩ := a2.sp.dgo (by omega) hL
  have b3 := b2'.sim (q := D + v)
  have r := (r_passesMany (I := u2 J2 m 18 (nI (D + v))) (m := m) H (d := v) (by omega)).1
  rw [b3.sm] at r
  refine ⟨_, ?_, b3.put⟩
  unfold f_Y_readsAdvance
  rw [a1, b1_so, hh, b2_so, if_pos a2.z10, a2.d18, nI_add, if_pos (show nI (D + v) ≤ (2000 : Int32) from by rw [show (2000 : Int32) = nI 2000 from rfl, ile (by omega) (by omega)]; exact hD)]
  unfold l_Y_readsAdvance_37
  rw [b1', b1_so, if_pos b2'.l10, b2'.d18, nI_add, pu_so, b1_so, r, b1_so]
theorem y_items (S : RN J m B n (sBy 16 ++ (32 :: (dig v ++ (41 :: L)))) N o D) (H : WF N np ns nw) (hv : 1 ≤ v ∧ v ≤ 300) (hD : D + v ≤ 2000) : ∃ J', f_Y_readsItems rI1 J m = some J' ∧ RT J' m B n (41 :: L) (sDays N np ns nw v) o (D + v) := by
  obtain ⟨F, hF⟩ := FU8
  obtain ⟨J1, a1, a2⟩ := S.go
  obtain ⟨J2, b1', b2'⟩ := y_adv a2 H hv hD (NH.cs (by omega))
  have i3 := b2'.sis (Or.inr (Or.inr rfl)) (j := 3) (by decide)
  have i5 := b2'.sis (Or.inr (Or.inr rfl)) (j := 5) (by decide)
  rw [show nI (kc 3) = (4 : Int32) from rfl] at i3
  rw [show nI (kc 5) = (6 : Int32) from rfl] at i5
  refine ⟨J2, ?_, b2'⟩
  unfold f_Y_readsItems
  rw [hF]
  show (b1 (f_Y_goes J m) fun I1 => b1 (rI1 I1 m) fun I3 => b1 (f_Y_is I3 m 4) fun v5 => if v5 = 0 then (b1 (f_Y_is I3 m 6) fun v7 => if v7 = 0 then (b1 (f_Y_faults I3 m 1) fun I9 => some (I9)) else (some (I3))) else (l_Y_readsItems_0 rI1 _ I3 m)) = _
  unfold rI1
  rw [a1, b1_so, d_advance a2, b1', b1_so, i3, b1_so, if_pos (by decide), i5, b1_so, if_neg (by decide)]
theorem y_repeat (S : RT J m B n (sBy 17 ++ (32 :: (dig 2 ++ (32 :: (40 :: (sBy 16 ++ (32 :: (dig 1 ++ (41 :: L)))))))))  N 0 0) (H : WF N np ns nw) (hL : Nx L) : ∃ J', f_Y_readsRepeat (f_Y_readsItems rI1) J m = some J' ∧ RT J' m B n L (sDays (sDays N np ns nw 1) np ns nw 1) 0 2 := by
  obtain ⟨F, hF⟩ := FU8
  obtain ⟨J1, a1, a2⟩ := S.wgo (by decide) (by decide) (NH.sp (by omega))
  obtain ⟨J2, b1', b2'⟩ := a2.sp.rn (lo := 1) (hi := 5) (by omega) (by omega) (by omega) (by omega) (NH.sp (by omega))
  have b1' : f_Y_readNumber J1 m 1 5 = some (2, J2) := b1'
  have b3 := b2'.sp
  have i4 := b3.sis (Or.inr (Or.inl rfl)) (j := 4) (by decide)
  rw [show nI (kc 4) = (5 : Int32) from rfl] at i4
  have b4 := b3.dep (q := 1)
  have H1 := (r_passesMany (I := J) (m := m) H (d := 1) (by omega)).2
  obtain ⟨J3, c1, c2⟩ := y_items (b4.jump b3) H (by omega) (by omega)
  obtain ⟨J4, d1, d2⟩ := y_items (c2.jump b3) H1 (by omega) (by omega)
  have d3 := d2.dep (q := 0)
  obtain ⟨J5, e1, e2⟩ := d3.sgo (Or.inr (Or.inr rfl))
  refine ⟨J5, ?_, e2⟩
  unfold f_Y_readsRepeat
  rw [S.o17, if_neg (show ¬ nI 0 = 3 by decide)]
  unfold l_Y_readsRepeat_13
  rw [a1, b1_so, b1', b2_so, i4, b1_so, if_neg (by decide)]
  unfold l_Y_readsRepeat_37
  rw [b3.o17, show nI 0 + 1 = nI 1 from rfl, pu_so, b1_so, hF]
  show (if (2 : Int32) ≤ 0 then _ else (if (u2 J2 m 17 (nI 1) m 10) = 0 then (b1 (pu (u2 J2 m 17 (nI 1)) m 13 (J2 m 13)) fun I12 => b1 (f_Y_readsItems rI1 I12 m) fun I13 => l_Y_readsRepeat_54 (f_Y_readsItems rI1) (F + 7) I13 m 2 (J2 m 13) (0 + 1)) else _)) = _
  rw [if_neg (by decide), if_pos b4.z10, pu_so, b1_so, c1, b1_so]
  show (if (2 : Int32) ≤ 0 + 1 then _ else (if (J3 m 10) = 0 then (b1 (pu J3 m 13 (J2 m 13)) fun I12 => b1 (f_Y_readsItems rI1 I12 m) fun I13 => l_Y_readsRepeat_54 (f_Y_readsItems rI1) (F + 6) I13 m 2 (J2 m 13) (0 + 1 + 1)) else _)) = _
  rw [if_neg (by decide), if_pos c2.z10, pu_so, b1_so, d1, b1_so]
  show (if (2 : Int32) ≤ 0 + 1 + 1 then (l_Y_readsRepeat_81 (f_Y_readsItems rI1) J4 m) else _) = _
  rw [if_pos (by decide)]
  unfold l_Y_readsRepeat_81
  rw [d2.o17, show nI 1 - 1 = nI 0 from by decide, pu_so, b1_so, e1, b1_so]
end ILX
