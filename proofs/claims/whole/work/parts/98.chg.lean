/-! changes: what they have in common; limit and margin -/
section CHG
variable {I J I' J' : Mem} {K : Kt} {w m kb gb D D' np ns nw : Nat} {N N' : Nat → Int32}
theorem ST2.fin (h : ST2 I' J' K w m kb gb D) (hf : ∀ a, (a < m ∨ m + 7 < a) → J' a = I' a) : ST J' K w m kb gb D := by
  have hL := h.1
  have hm := hL.2.2.1
  have hv := hL.2.2.2
  exact h.ifr (fun a _ _ => hf a (by omega)) (hf _ (by omega))
theorem SM_o {a : Nat} (h : a ≠ m + 1) : sM I m N a = I a := sM_n h
theorem ST.lo (S : ST I K w m kb gb D) : w + 414 ≤ m := S.1.2.2.1
/-- a change of the market: what both remember, and what is left to be shown -/
theorem ST.chg (S : ST I K w m kb gb D) (hl : I w 7 = 1) : ∃ I6, f_X9_rememberForUndo I w = some I6 ∧ (∀ a, a ≠ w → (a < w + 104 ∨ w + 352 ≤ a) → I6 a = I a) ∧ BM I6 (w + 37) ∧
    ∀ I8, (∀ a, (a < w + 37 ∨ w + 67 < a) → I8 a = I6 a) → BM I8 (w + 37) → I8 m = I m ∧ I8 (m + 1) = I (m + 1) ∧ ∃ J1, f_X10_remembers (u2 I8 m 0 0) m = some J1 ∧ J1 (m + 1) = I (m + 1) ∧ J1 m 6 = I m 6 ∧
      ∀ N' D', Snap I8 (w + 37) N' D' → D ≤ D' → (sM J1 m N') m 0 = 0 ∧ ST (sM J1 m N') K w m kb gb D' := by
  have hm := S.lo
  obtain ⟨I6, -, c1, -, c2, -⟩ := ST2.rem (ST.two.mp S) hl
  refine ⟨I6, c1, c2, S.2.2.1.1.2.1.fr fun a _ _ => c2 a (by omega) (by omega), fun I8 h8 hB => ?_⟩
  have e8 : ∀ a, m ≤ a → a ≤ m + 7 → I8 a = I a := fun a h1 h2 => (h8 a (by omega)).trans (c2 a (by omega) (by omega))
  have eu : ∀ a, a ≠ m → u2 I8 m 0 0 a = I8 a := fun a h => u2_a h
  have S2 : ST2 I (u2 I8 m 0 0) K w m kb gb D := (ST.two.mp S).jfr (fun a h1 h2 => (eu a (by omega)).trans (e8 a (by omega) h2)) (fun k hk => by rw [u2_k hk, e8 m (by omega) (by omega)])
  obtain ⟨I6', J1, d1, d2, d3, d4, d5, d6, d7⟩ := S2.rem hl
  obtain rfl : I6' = I6 := Option.some.inj (d1.symm.trans c1)
  refine ⟨e8 m (by omega) (by omega), e8 _ (by omega) (by omega), J1, d2, ?_, ?_, fun N' D' hS hD => ⟨?_, ?_⟩⟩
  · rw [d5 _ (by omega) (by omega), eu _ (by omega), e8 _ (by omega) (by omega)]
  · rw [d6 6 (by decide), u2_k (by decide), e8 m (by omega) (by omega)]
  · rw [sM_n (by omega), d6 0 (by decide), u2_s]
  have hv := S.1.2.2.2
  refine ST2.fin (I' := I8) (d7.mk' (J' := sM J1 m N') (I' := I8) (by rw [d4 7 (by decide) (by decide)]; exact hl) (fun a h1 h2 h3 => h8 a (by omega)) (h8 _ (by omega)) (fun a h1 h2 => sM_n (by omega)) (fun k hk => by rw [sM_n (by omega)]) (by rw [sM_s]; exact hS) hB hD) (fun a ha => ?_)
  rw [sM_n (by omega), d5 _ (by omega) (by omega), eu _ (by omega)]
theorem th3_0 {a b c : Prop} [Decidable a] [Decidable b] [Decidable c] (ha : a) (hb : b) (hc : c) : th3 a b c = 0 := by simp [th3, ha, hb, hc]
theorem th3_1 {a b c : Prop} [Decidable a] [Decidable b] [Decidable c] (ha : ¬ a) : th3 a b c = 1 := by simp [th3, ha]
theorem th3_2 {a b c : Prop} [Decidable a] [Decidable b] [Decidable c] (ha : a) (hb : ¬ b) : th3 a b c = 2 := by simp [th3, ha, hb]
theorem th3_3 {a b c : Prop} [Decidable a] [Decidable b] [Decidable c] (ha : a) (hb : b) (hc : ¬ c) : th3 a b c = 3 := by simp [th3, ha, hb, hc]
theorem isPerson_c {x : Int32} (h0 : I' m = I m) (h1 : I' (m + 1) = I (m + 1)) : f_X10_isPerson I' m x = f_X10_isPerson I m x := by
  unfold f_X10_isPerson
  rw [h0, h1]
theorem isStall_c {x : Int32} (h0 : I' m = I m) (h1 : I' (m + 1) = I (m + 1)) : f_X10_isStall I' m x = f_X10_isStall I m x := by
  unfold f_X10_isStall
  rw [h0, h1]
theorem isWish_c {x : Int32} (h0 : I' m = I m) (h1 : I' (m + 1) = I (m + 1)) : f_X10_isWish I' m x = f_X10_isWish I m x := by
  unfold f_X10_isWish
  rw [h0, h1]
theorem Gd.upd (G : Gd N np ns nw D) (b1 : np ≤ 6) (b2 : ns ≤ 5) (b3 : nw ≤ 16) {j : Nat} {x : Int32} (hj : ¬ fxI j) (hp : ∀ p, p < 6 → j ≠ 11 + 14 * p) (hs : ∀ s, s < 5 → j ≠ 95 + 4 * s + 1) (h6 : j ≠ 6 ∧ j ≠ 10 ∧ j < 115) : Gd (upd N j x) np ns nw D := by
  obtain ⟨h1, ⟨d, h2, h3⟩, h4, hX, h5⟩ := G
  have e1 : j ≠ 1 := fun e => hj (by rw [e]; exact Or.inl (by decide))
  exact ⟨h1.ag (fun i hi _ => (Ag.u hj) i hi) b1 b3, ⟨d, (upd_n (Ne.symm e1)).trans h2, h3⟩, h4.congr (fun p h => upd_n (by have := hp p (by omega); omega)) (fun s h => upd_n (by have := hs s (by omega); omega)), hX.congr (upd_n (Ne.symm h6.1)) (upd_n (Ne.symm h6.2.1)) (fun w _ => ⟨upd_n (by omega), upd_n (by omega), upd_n (by omega)⟩), h5⟩
theorem lc_ch {M9 M10 : MD} {c9 c10 : ByteArray} {es : List String} {As : List Value} {I1 I2 : Mem} {r : Except String Int32} {t b : Int32} (c1 : Ct M9 c9 (cst r) (cs6 r) (.ref w :: As) I K (Ro (rI r) I1 K)) (hE : Ec es r t) (c3 : ∀ Kj, MK Kj m → Ct M10 c10 0 0 (.ref m :: As) I1 Kj (Ro (.inl (some (.int b))) I2 Kj)) (ht : I2 m 0 = t) (hb : ∀ v, r = .ok v → b = v) (S : ST I2 K w m kb gb D) : LC M9 c9 M10 c10 es As I K w m kb gb D :=
  ⟨r, t, b, I1, I2, K, cst r, cs6 r, ⟨c1, hE, c3⟩, ⟨ht, hb⟩, S, ⟨Gm.refl, KA.refl⟩, by cases r <;> exact Nat.le_trans (Nat.le_of_ble_eq_true rfl) (Nat.le_add_right 2 _), by cases r <;> exact Nat.le_trans (Nat.le_of_ble_eq_true rfl) (Nat.le_add_right 12 _)⟩
theorem lc_er {M9 M10 : MD} {c9 c10 : ByteArray} {es : List String} {As : List Value} {E : String} {t b : Int32} (S : ST I K w m kb gb D) (c1 : Ct M9 c9 (cst (.error E : Except String Int32)) (cs6 (.error E : Except String Int32)) (.ref w :: As) I K (Ro (rI (.error E)) I K)) (hE : Ec es (.error E : Except String Int32) t) (c3 : ∀ Kj, MK Kj m → Ct M10 c10 0 0 (.ref m :: As) I Kj (Ro (.inl (some (.int b))) (u2 I m 0 t) Kj)) : LC M9 c9 M10 c10 es As I K w m kb gb (D + 300) :=
  lc_ch (r := .error E) c1 hE c3 u2_s (fun v h => by cases h) (S.th.le (Nat.le_add_right _ _))
theorem Ec0 {es : List String} {v : Int32} : Ec es (.ok v) 0 := rfl
theorem Ec1 {E : String} {es : List String} : Ec (E :: es) (.error E : Except String Int32) 1 := ⟨0, rfl, by decide, rfl⟩
theorem Ec2 {E F : String} {es : List String} : Ec (F :: E :: es) (.error E : Except String Int32) 2 := ⟨1, rfl, by decide, rfl⟩
theorem Ec3 {E F G : String} {es : List String} : Ec (F :: G :: E :: es) (.error E : Except String Int32) 3 := ⟨2, rfl, by decide, rfl⟩
theorem h_rng {x a b : Int32} : f_X9_checkRange x a b = if ¬ x < a ∧ ¬ b < x then some (.ok ()) else some (.error eIA) := by
  unfold f_X9_checkRange l_X9_checkRange_10
  by_cases h : x < a
  · rw [if_pos h, if_neg (fun z => z.1 h)]
  · rw [if_neg h]
    by_cases h2 : b < x
    · rw [if_neg (fun z => absurd h2 (Int32.not_lt.mpr z)), if_neg (fun z => z.2 h2)]
    · rw [if_pos (Int32.not_lt.mp h2), if_pos ⟨h, h2⟩]
theorem rng_of {x : Int32} {a b : Nat} (h : ¬ x < nI a ∧ ¬ nI b < x) (hb : a ≤ b ∧ b < 1000) : ∃ t, x = nI t ∧ t ≤ b := by
  have h1 := h.1
  have h2 := h.2
  rw [Int32.lt_iff_toInt_lt, nI_toInt (by omega)] at h1 h2
  refine ⟨x.toInt.toNat, ?_, by omega⟩
  apply Int32.toInt_inj.mp
  rw [nI_toInt (by omega)]
  omega
theorem lc_setLimit (S : ST I K w m kb gb D) {x y : Int32} : LC (mX9_setLimit 9) cX9_setLimit (mX10_setLimit 2) cX10_setLimit [eIS, eIX, eIA] [.int x, .int y] I K w m kb gb (D + 300) := by
  obtain ⟨l, np, ns, nw, B, G⟩ := S.br
  by_cases hL : l = true
  · have R := B.2 hL
    have b1 := R.f.p.2
    have b2 := R.f.s.2
    have b3 := R.f.w.2
    by_cases hx : ¬ x < 0 ∧ x < nI np
    · by_cases hy : ¬ y < 0 ∧ ¬ 200 < y
      · obtain ⟨p, rfl, hp⟩ := okI_of hx (by omega)
        obtain ⟨I6, c1, c2, c3, c4⟩ := S.chg (by rw [B.1.1, bI_t hL])
        obtain ⟨e0, e1, J1, d1, d2, d3, d4⟩ := c4 (u2 I6 (w + 37 + 4 + p) 5 y) (fun a h => u2_a (by omega)) ⟨fun i hi => by
          by_cases e : w + 37 + 4 + i = w + 37 + 4 + p
          · rw [e, u2_k (by decide), u2_k (by decide), ← e]; exact c3.1 i hi
          · rw [u2_a e]; exact c3.1 i hi, fun i hi => by rw [u2_a (by omega)]; exact c3.2 i hi⟩
        have R6 : RM I6 (w + 37) (I (m + 1)) np ns nw := R.fr fun a _ _ => c2 a (by omega) (by omega)
        obtain ⟨z1, z2⟩ := d4 _ (D + 300) ⟨np, ns, nw, R6.pu (x := y) hp (by decide), ((G hL).upd b1 b2 b3 (nfx_p (by omega) (Or.inr (by decide))) (fun _ _ => by omega) (fun _ _ => by omega) (by omega)).le (Nat.le_add_right _ _)⟩ (Nat.le_add_right _ _)
        refine lc_ch (r := .ok (pN (I (m + 1)) p 4)) (b := pN (I (m + 1)) p 4) (c_X9_setLimit 0 S.lw (I9 := u2 I6 (w + 37 + 4 + p) 5 y) ?_) Ec0 (fun Kj hM => c_X10_setLimit 0 hM ?_) z1 (fun v h => by cases h; rfl) z2
        · unfold f_X9_setLimit
          rw [h_personAt B, if_pos hL, if_pos hx, ixn6 (by omega), b1_so, e1_ok, ckA_n (by omega), b1_so, h_rng, if_pos hy, e1_ok, c1, b1_so, pu_so, b1_so, R6.p5 hp]
        · have hr := rfp4 (I := J1) (m := m) (N := J1 (m + 1)) (w := p) (by omega)
          have hw := rpp4 (I := J1) (m := m) (N := J1 (m + 1)) (w := p) (x := y) (by omega)
          rw [sM_i] at hr hw
          unfold f_X10_setLimit
          rw [isPerson_c e0 e1, r_isPerson B, b1_so, r_in, b1_so, e0, B.1.2, r_may, b2_so, bI_t ⟨hL, ⟨hL, hx⟩, hy⟩, if_neg (by decide), th3_0 hL ⟨hL, hx⟩ hy, d1, b1_so, hr, b1_so, hw, b1_so, d2]
      · refine lc_er (E := eIA) S (c_X9_setLimit 0 S.lw (x := .error eIA) ?_) Ec3 (fun Kj hM => c_X10_setLimit 0 hM (v := 0) ?_)
        · obtain ⟨p, rfl, hp⟩ := okI_of hx (by omega)
          unfold f_X9_setLimit
          rw [h_personAt B, if_pos hL, if_pos hx, ixn6 (by omega), b1_so, e1_ok, ckA_n (by omega), b1_so, h_rng, if_neg hy, e1_er]
        · unfold f_X10_setLimit
          rw [r_isPerson B, b1_so, r_in, b1_so, B.1.2, r_may, b2_so, bI_f (fun h => hy h.2.2), if_pos rfl, th3_3 hL ⟨hL, hx⟩ hy]
    · refine lc_er (E := eIX) S (c_X9_setLimit 0 S.lw (x := .error eIX) ?_) Ec2 (fun Kj hM => c_X10_setLimit 0 hM (v := 0) ?_)
      · unfold f_X9_setLimit
        rw [h_personAt B, if_pos hL, if_neg hx, e1_er]
      · unfold f_X10_setLimit
        rw [r_isPerson B, b1_so, r_in, b1_so, B.1.2, r_may, b2_so, bI_f (fun h => hx h.2.1.2), if_pos rfl, th3_2 hL (fun h => hx h.2)]
  · refine lc_er (E := eIS) S (c_X9_setLimit 0 S.lw (x := .error eIS) ?_) Ec1 (fun Kj hM => c_X10_setLimit 0 hM (v := 0) ?_)
    · unfold f_X9_setLimit
      rw [h_personAt B, if_neg hL, e1_er]
    · unfold f_X10_setLimit
      rw [r_isPerson B, b1_so, r_in, b1_so, B.1.2, r_may, b2_so, bI_f (fun h => hL h.1), if_pos rfl, th3_1 hL]
theorem lc_setMargin (S : ST I K w m kb gb D) {x y : Int32} : LC (mX9_setMargin 9) cX9_setMargin (mX10_setMargin 2) cX10_setMargin [eIS, eIX, eIA] [.int x, .int y] I K w m kb gb (D + 300) := by
  obtain ⟨l, np, ns, nw, B, G⟩ := S.br
  by_cases hL : l = true
  · have R := B.2 hL
    have b1 := R.f.p.2
    have b2 := R.f.s.2
    have b3 := R.f.w.2
    by_cases hx : ¬ x < 0 ∧ x < nI ns
    · by_cases hy : ¬ y < 0 ∧ ¬ 100 < y
      · obtain ⟨p, rfl, hp⟩ := okI_of hx (by omega)
        obtain ⟨I6, c1, c2, c3, c4⟩ := S.chg (by rw [B.1.1, bI_t hL])
        obtain ⟨e0, e1, J1, d1, d2, d3, d4⟩ := c4 (u2 I6 (w + 37 + 10 + p) 3 y) (fun a h => u2_a (by omega)) ⟨fun i hi => by rw [u2_a (by omega)]; exact c3.1 i hi, fun i hi => by rw [u2_a (by omega)]; exact c3.2 i hi⟩
        have R6 : RM I6 (w + 37) (I (m + 1)) np ns nw := R.fr fun a _ _ => c2 a (by omega) (by omega)
        have hW : WF (upd (I (m + 1)) (95 + 4 * p + 3) y) np ns nw := by
          obtain ⟨t, rfl, ht⟩ := rng_of (a := 0) (b := 100) hy (by decide)
          exact R.f.marg (by omega) rfl ht
        obtain ⟨z1, z2⟩ := d4 _ (D + 300) ⟨np, ns, nw, R6.su (x := y) hp (Or.inr (Or.inr rfl)) hW, ((G hL).upd b1 b2 b3 (nfx_s (by omega) (by decide)) (fun _ _ => by omega) (fun _ _ => by omega) (by omega)).le (Nat.le_add_right _ _)⟩ (Nat.le_add_right _ _)
        refine lc_ch (r := .ok (sN (I (m + 1)) p 3)) (b := sN (I (m + 1)) p 3) (c_X9_setMargin 0 S.lw (I9 := u2 I6 (w + 37 + 10 + p) 3 y) ?_) Ec0 (fun Kj hM => c_X10_setMargin 0 hM ?_) z1 (fun v h => by cases h; rfl) z2
        · unfold f_X9_setMargin
          rw [h_stallAt B, if_pos hL, if_pos hx, ixn5 (by omega), b1_so, e1_ok, ckA_n (by omega), b1_so, h_rng, if_pos hy, e1_ok, c1, b1_so, pu_so, b1_so, R6.s3 hp]
        · have hr := rfs3 (I := J1) (m := m) (N := J1 (m + 1)) (w := p) (by omega)
          have hw := rsp3 (I := J1) (m := m) (N := J1 (m + 1)) (w := p) (x := y) (by omega)
          rw [sM_i] at hr hw
          unfold f_X10_setMargin
          rw [isStall_c e0 e1, r_isStall B, b1_so, r_in, b1_so, e0, B.1.2, r_may, b2_so, bI_t ⟨hL, ⟨hL, hx⟩, hy⟩, if_neg (by decide), th3_0 hL ⟨hL, hx⟩ hy, d1, b1_so, hr, b1_so, hw, b1_so, d2]
      · refine lc_er (E := eIA) S (c_X9_setMargin 0 S.lw (x := .error eIA) ?_) Ec3 (fun Kj hM => c_X10_setMargin 0 hM (v := 0) ?_)
        · obtain ⟨p, rfl, hp⟩ := okI_of hx (by omega)
          unfold f_X9_setMargin
          rw [h_stallAt B, if_pos hL, if_pos hx, ixn5 (by omega), b1_so, e1_ok, ckA_n (by omega), b1_so, h_rng, if_neg hy, e1_er]
        · unfold f_X10_setMargin
          rw [r_isStall B, b1_so, r_in, b1_so, B.1.2, r_may, b2_so, bI_f (fun h => hy h.2.2), if_pos rfl, th3_3 hL ⟨hL, hx⟩ hy]
    · refine lc_er (E := eIX) S (c_X9_setMargin 0 S.lw (x := .error eIX) ?_) Ec2 (fun Kj hM => c_X10_setMargin 0 hM (v := 0) ?_)
      · unfold f_X9_setMargin
        rw [h_stallAt B, if_pos hL, if_neg hx, e1_er]
      · unfold f_X10_setMargin
        rw [r_isStall B, b1_so, r_in, b1_so, B.1.2, r_may, b2_so, bI_f (fun h => hx h.2.1.2), if_pos rfl, th3_2 hL (fun h => hx h.2)]
  · refine lc_er (E := eIS) S (c_X9_setMargin 0 S.lw (x := .error eIS) ?_) Ec1 (fun Kj hM => c_X10_setMargin 0 hM (v := 0) ?_)
    · unfold f_X9_setMargin
      rw [h_stallAt B, if_neg hL, e1_er]
    · unfold f_X10_setMargin
      rw [r_isStall B, b1_so, r_in, b1_so, B.1.2, r_may, b2_so, bI_f (fun h => hL h.1), if_pos rfl, th3_1 hL]
end CHG
