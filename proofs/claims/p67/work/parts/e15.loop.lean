/-! the loop over items, by levels -/
section LPL
variable {I J I1 I2 I3 J1 J2 J3 I' J' : Mem} {B : Nat → Int32} {n p q r k m c s t o np ns nw D : Nat} {N N' M : Nat → Int32}
/-- a simple item -/
theorem ItO.of0 {R : Option Mem} (h : Out0 I J r m B n p (f_X5_readItem I k r) R) (L : Lv I J r m N np ns nw D o) : ItO o I J r m B n p k t R := by
  have wp := w_pos (o := o)
  rcases h with ⟨I', J', k', p', N', np', ns', nw', D', ⟨h1, h2, h3⟩, ⟨h4, h5⟩, h6, ⟨h7, h8⟩, h9, h10⟩ | ⟨c, s, I', J', k', ⟨h1, h2, h3⟩, ⟨h4, h5, h6⟩, ⟨h7, h8⟩, h9, h10⟩
  · have key : ∀ f t, ∃ I'', Ld I'' J' r m B n p' ∧ It I' I'' r ∧ (e3 (f_X5_isItemNext I' k' r) (fun E I20 k21 => cEx E (some (0, I20, k21))) fun v19 I20 k21 => if v19 = 0 then (l_X5_read_39 f I20 k21 r 0 (nI t + 1)) else (l_X5_read_39 f I20 k21 r 1 (nI t + 1))) = HH r f FU I'' (tK B n p') t := fun f t => hh_scan h4
    obtain ⟨I1, g1, g2, g3⟩ := h4.scan (k := k')
    refine Or.inl ⟨I1, J', p', N', np', ns', nw', D', 1, FU, h2, ⟨g2, Lv.it (I := I') ⟨h6, ⟨h8.1.trans L.2.1.1, h8.2.1.trans L.2.1.2.1, h8.2.2.trans L.2.1.2.2⟩, (h10 17 (by omega)).trans L.2.2⟩ g3⟩, ⟨h5.2, h5.1.ok⟩, ⟨⟨fun a ha => (g3 a (by omega)).trans (h7 a (by omega)), fun i _ => ⟨by rw [g3 _ (by omega), h7 _ (by omega)], by rw [g3 _ (by omega), h7 _ (by omega)]⟩⟩, h9, fun j hj => h10 j (by omega)⟩, ⟨Nat.le_refl _, ?_⟩, Nat.le_add_right _ _, fun f ht => ?_⟩
    · exact Nat.le_trans (by have := h5.2; omega : 1 ≤ 1 * (p' - p)) (Nat.mul_le_mul_right _ wp)
    · rw [cl_item (by omega), h1, e3_ok, if_pos rfl, Nat.add_sub_cancel]
      unfold HH f_X5_isItemNext
      rw [g1, b2_so]
  · refine Or.inr ⟨1, Nat.le_add_left _ _, fun f ht => ⟨c, s, I', J', k', ⟨?_, h2, h3⟩, ⟨h4, h5, h6⟩, ⟨fun a ha => h7 a (by omega), h8⟩, h9, h10⟩⟩
    rw [cl_item (by omega), h1, e3_er, cEx_n]
/-- a body -/
theorem items_lv {R : Mem → Nat → Option Mem} (o1 : 1 ≤ o) (o3 : o ≤ 3) (hR : ItemSpec r m B n o R) : ItemsSpec r m B n o (f_Y_readsItems R) := by
  have wp := w_pos (o := o)
  have go : ∀ d, ∀ f', d < f' → ∀ (I J : Mem) (k s t : Nat) (N : Nat → Int32) (np ns nw D : Nat), n - s = d → n ≤ 500 ∧ s ≤ n → CTok I r B n s → RBnd J m B n s → Lv I J r m N np ns nw D o → ItsO o I J r m B n s k t (l_Y_readsItems_0 R f' J m) := by
    intro d
    induction d using Nat.strongRecOn with
    | _ d ih =>
      intro f' hf I J k s t N np ns nw D hd hn C Rb L
      obtain ⟨f', rfl⟩ : ∃ g, f' = g + 1 := ⟨f' - 1, by omega⟩
      obtain ⟨J1, a1, a2, a3⟩ := goes_row hn.1 hn.2 Rb
      have A : Af I J1 r m B n s := ⟨hn, C, a2⟩
      have head : l_Y_readsItems_0 R (f' + 1) J m = (b1 (R J1 m) fun I3 => b1 (f_Y_is I3 m 4) fun v5 => if v5 = 0 then (b1 (f_Y_is I3 m 6) fun v7 => if v7 = 0 then (b1 (f_Y_faults I3 m 1) fun I9 => some (I9)) else (some (I3))) else (l_Y_readsItems_0 R f' I3 m)) := by
        show (b1 (f_Y_goes J m) _) = _
        rw [a1, b1_so]
      rw [head]
      rcases hR I J1 k s t N np ns nw D A (L.jt a3) with ⟨I2, J2, p', N', np', ns', nw', D', cnt, g, h1, ⟨h2, h3⟩, ⟨h4, h5⟩, ⟨h6, h7⟩, ⟨h8, h9⟩, h10, h11⟩ | ⟨q, h1, h2⟩
      · have kt := tK_7 (B := B) (n := n) (p := p')
        have i3 := is_row h2.2.2 (k := 3) (by decide)
        have i5 := is_row h2.2.2 (k := 5) (by decide)
        rw [show nI (kc 3) = (4 : Int32) from rfl] at i3
        rw [show nI (kc 5) = (6 : Int32) from rfl] at i5
        have hp' := h2.1.2
        rw [h1, b1_so, i3, b1_so]
        obtain ⟨g', rfl⟩ : ∃ g', g = g' + 1 := ⟨g - 1, by have := FU_up (n := 100) (by decide); omega⟩
        by_cases k3 : tK B n p' = 3
        · rw [bI_t k3, if_neg (by decide)]
          have hE := tE_gt (B := B) (n := n) (p := p') (by rw [k3]; decide)
          have hS := tS_ge (B := B) (n := n) (p := p')
          have hlt : n - tE B n p' < d := by
            have := tE_le (B := B) hp'
            omega
          have hc : cnt ≤ 5 ^ (3 - o) * (tE B n p' - s) := Nat.le_trans h9 (Nat.mul_le_mul_left _ (by omega))
          have eq : ∀ f, t + cnt < 1000000 → l_X5_read_39 (f + cnt) I k r 1 (nI t) = l_X5_read_39 f I2 3 r 1 (nI (t + cnt)) := fun f ht => by
            rw [h11 f ht, hh_semi h3.2.1.1 o3 k3, nI_s1, show t + cnt - 1 + 1 = t + cnt by omega]
          have hF : ∀ a, (a < r ∨ r + 35 < a) → I2 a = I a := h6.1
          have hG : Gq J J2 m := a3.gq.trans h7
          rcases ih _ hlt f' (by omega) I2 J2 3 (tE B n p') (t + cnt) N' np' ns' nw' D' rfl ⟨hn.1, tE_le hp'⟩ h2.2.1.1 h2.2.2.bnd h3 with ⟨I3, J3, p2, N2, np2, ns2, nw2, D2, cnt2, g2, x1, x2, ⟨x3, x4, x5⟩, ⟨x6, x7⟩, ⟨x8, x9⟩, x10, x11⟩ | ⟨q, x1, x2⟩
          · refine Or.inl ⟨I3, J3, p2, N2, np2, ns2, nw2, D2, cnt + cnt2, g2, x1, x2, ⟨x3, (h5.trans (fl_3 k3).ok).trans x4, by omega⟩, ⟨h6.trans x6, hG.trans x7⟩, ⟨by omega, ?_⟩, x10, fun f ht => ?_⟩
            · have : 5 ^ (3 - o) * (tS B n p2 - s) = 5 ^ (3 - o) * (tE B n p' - s) + 5 ^ (3 - o) * (tS B n p2 - tE B n p') := by
                rw [← Nat.mul_add]
                congr 1
                omega
              omega
            · have e1 := eq (f + cnt2) (by omega)
              have e2 := x11 f (by omega)
              rw [show f + (cnt + cnt2) = f + cnt2 + cnt by omega, e1, e2, show t + (cnt + cnt2) - 1 = t + cnt + cnt2 - 1 by omega]
          · refine Or.inr ⟨cnt + q, ?_, fun f ht => ?_⟩
            · have : 5 ^ (3 - o) * (n - s) = 5 ^ (3 - o) * (tE B n p' - s) + 5 ^ (3 - o) * (n - tE B n p') := by
                rw [← Nat.mul_add]
                congr 1
                have := tE_le (B := B) hp'
                omega
              omega
            · have e1 := eq (f + q) (by omega)
              have e2 := x2 f (by omega)
              rw [show f + (cnt + q) = f + q + cnt by omega, e1]
              exact e2.of hF hG
        · rw [bI_f k3, if_pos rfl, i5, b1_so]
          by_cases k5 : tK B n p' = 5
          · rw [bI_t k5, if_neg (by decide)]
            have hS := tS_ge (B := B) (n := n) (p := p')
            refine Or.inl ⟨I2, J2, p', N', np', ns', nw', D', cnt, g' + 1, rfl, ⟨h2, h3⟩, ⟨k5, h5.trans fl_s.ok, by omega⟩, ⟨h6, a3.gq.trans h7⟩, ⟨h8, Nat.le_trans h9 (Nat.mul_le_mul_left _ (by omega))⟩, h10, fun f ht => ?_⟩
            rw [h11 f ht, k5]
          · obtain ⟨I4, J4, w1, w2, w3, w4, w5⟩ := hh_bad (f := 0) (g := g') (t := t + cnt - 1) h2 h3.2.1.1 o3 k3 k5 (fun z => by omega)
            rw [bI_f k5, if_pos rfl, w3, b1_so]
            refine Or.inr ⟨cnt, ?_, fun f ht => ?_⟩
            · have : 5 ^ (3 - o) * (p' - s) ≤ 5 ^ (3 - o) * (n - s) := Nat.mul_le_mul_left _ (by omega)
              omega
            · obtain ⟨I5, J5, y1, y2, y3, y4, y5⟩ := hh_bad (f := f) (g := g') (t := t + cnt - 1) h2 h3.2.1.1 o3 k3 k5 (fun z => by omega)
              obtain rfl : J5 = J4 := Option.some.inj (y3.symm.trans w3)
              refine ⟨1, _, I5, J5, _, ⟨by rw [h11 f ht, y1], rfl, kt⟩, ⟨y2.2.1, y2.2.2, y4⟩, ⟨fun a ha => (y2.1 a (by omega) (by omega)).trans (h6.1 a ha), h3.1.1.2.fr fun a _ _ => y2.1 a (by omega) (by omega)⟩, (a3.gq.trans h7).trans y5.gq⟩
      · refine Or.inr ⟨q, h1, fun f ht => ?_⟩
        obtain ⟨c, s', I', J', k', ⟨x1, x2, x3⟩, ⟨x4, x5, x6⟩, x7, x8⟩ := h2 f ht
        rw [x2, b1_so, fs_is x6, b1_so, if_pos rfl, fs_is x6, b1_so, if_pos rfl, fs_flt x6, b1_so]
        exact ⟨c, s', I', J', k', ⟨x1, rfl, x3⟩, ⟨x4, x5, x6⟩, x7, a3.gq.trans x8⟩
  intro I J k s t N np ns nw D hn C Rb L
  exact go (n - s) FU (FU_up (by omega)) I J k s t N np ns nw D rfl hn C Rb L
theorem k5_41 (h : tK B n p = 5) : (tE B n p = tS B n p + 1 ∧ tS B n p < n) ∧ B (tS B n p) = 41 := by
  obtain ⟨h1, h2⟩ := tK_sg (B := B) (n := n) (p := p) (by omega)
  refine ⟨h1, Classical.byContradiction fun z => ?_⟩
  rw [h] at h2
  unfold sgn at h2
  rw [if_neg z] at h2
  split at h2
  · omega
  · split at h2 <;> omega
/-- at a closing parenthesis: once more, or out -/
theorem hh_again {d f g : Nat} (h : Ld I J r m B n p) (hs : s ≤ n) (o3 : o < 3) (h6 : I r 6 = nI (o + 1)) (h35 : I (r + 35) o = nI (d + 1)) (h34 : I (r + 34) o = nI s) (hd : d < 10) : HH r f (g + 1) I 5 t = l_X5_read_39 f (u2 (u2 I (r + 35) o (nI d)) (r + 1) 3 (nI s)) 5 r 1 (nI t + 1) ∧ CTok (u2 (u2 I (r + 35) o (nI d)) (r + 1) 3 (nI s)) r B n s := by
  have ei : ix (nI (o + 1) - 1) 3 = some o := by rw [show (1 : Int32) = nI 1 from rfl, pk_sub (by omega), Nat.add_sub_cancel]; exact ix_n o3 (by decide)
  have e7 : l_X5_isItemNext_7 (g + 1) I 5 r = some (.ok 1, u2 (u2 I (r + 35) o (nI d)) (r + 1) 3 (nI s), 5) := by
    show (if (I r 6) ≤ 0 then _ else (b1 (ckK 5) fun _ => if 5 = 5 then (b1 (ix ((I r 6) - 1) 3) fun j13 => if (I (r + 35) j13) ≤ 0 then _ else (b1 (ix ((I r 6) - 1) 3) fun j18 => b1 (ix ((I r 6) - 1) 3) fun j19 => b1 (pu I (r + 35) j19 ((I (r + 35) j18) - 1)) fun I20 => b1 (ix ((I r 6) - 1) 3) fun j21 => b1 (pu I20 (r + 1) 3 (I20 (r + 34) j21)) fun I22 => some (Except.ok 1, I22, 5))) else _)) = _
    rw [h6, if_neg (by rw [nI_le0 (by omega)]; omega), ckK_n (by decide), b1_so, if_pos rfl, ei, b1_so, h35, if_neg (by rw [nI_le0 (by omega)]; omega), b1_so, b1_so, h35, show (1 : Int32) = nI 1 from rfl, pk_sub (by omega), Nat.add_sub_cancel, pu_so, b1_so, b1_so, u2_a (show r + 34 ≠ r + 35 by omega), h34, pu_so, b1_so]
  refine ⟨?_, ⟨?_, u2_s⟩, fun i hi => ?_⟩
  · unfold HH
    rw [e7, e3_ok, if_neg (by decide)]
  · rw [u2_k (by decide), u2_a (by omega)]; exact h.2.1.1.1.1
  · rw [u2_a (by omega), u2_a (by omega)]; exact h.2.1.1.2 i hi
theorem hh_out {f g : Nat} (h : Ld I J r m B n p) (A : Af (u2 I r 6 (nI o)) J1 r m B n (tE B n p)) (o3 : o < 3) (h6 : I r 6 = nI (o + 1)) (h35 : I (r + 35) o = 0) : ∃ I', HH r f (g + 1) I 5 t = HH r f g I' (tK B n (tE B n p)) t ∧ Ld I' J1 r m B n (tE B n p) ∧ It (u2 I r 6 (nI o)) I' r := by
  have ei : ix (nI (o + 1) - 1) 3 = some o := by rw [show (1 : Int32) = nI 1 from rfl, pk_sub (by omega), Nat.add_sub_cancel]; exact ix_n o3 (by decide)
  obtain ⟨I', g1, g2, g3⟩ := A.scan (k := 5)
  refine ⟨I', ?_, g2, g3⟩
  unfold HH
  have e7 : l_X5_isItemNext_7 (g + 1) I 5 r = l_X5_isItemNext_7 g I' (tK B n (tE B n p)) r := by
    show (if (I r 6) ≤ 0 then _ else (b1 (ckK 5) fun _ => if 5 = 5 then (b1 (ix ((I r 6) - 1) 3) fun j13 => if (I (r + 35) j13) ≤ 0 then (b1 (pu I r 6 ((I r 6) - 1)) fun I14 => b2 (f_X7_scan I14 5 (r + 1)) fun I15 k16 => l_X5_isItemNext_7 g I15 k16 r) else _) else _)) = _
    rw [h6, if_neg (by rw [nI_le0 (by omega)]; omega), ckK_n (by decide), b1_so, if_pos rfl, ei, b1_so, h35, if_pos (by decide), show (1 : Int32) = nI 1 from rfl, pk_sub (by omega), Nat.add_sub_cancel, pu_so, b1_so, g1, b2_so]
  rw [e7]
def RB0 (J : Mem) (m : Nat) (B : Nat → Int32) (n : Nat) : Prop := J m 10 = 0 ∧ J m 12 = nI n ∧ (∀ i, i < n → J (m + 6) i = B i) ∧ J m 11 = -1
theorem PM.u6 (P : PM I J r m N np ns nw D) {x : Int32} : PM (u2 I r 6 x) J r m N np ns nw D := ⟨⟨P.1.1.fr fun a _ _ => u2_a (by omega), P.1.2.fr fun a _ _ => u2_a (by omega)⟩, P.2.1, P.2.2.1, ⟨by rw [u2_k (by decide)]; exact P.2.2.2.1.1, P.2.2.2.1.2⟩, P.2.2.2.2⟩
theorem PM.ju {j : Nat} {x : Int32} (P : PM I J r m N np ns nw D) (hj : j ≠ 18) : PM I (u2 J m j x) r m N np ns nw D := ⟨P.1, by rw [u2_a (by omega)]; exact P.2.1, P.2.2.1, ⟨P.2.2.2.1.1, by rw [u2_k (Ne.symm hj)]; exact P.2.2.2.1.2⟩, P.2.2.2.2⟩
/-- the passes of a repeat -/
theorem passes_lv {S : Mem → Nat → Option Mem} (o3 : o < 3) (hS : ItemsSpec r m B n (o + 1) S) {v s : Nat} (hv : 1 ≤ v ∧ v ≤ 5) (hn : n ≤ 500 ∧ s ≤ n) : ∀ d i, i + d + 1 = v → ∀ f', d + 3 < f' → ∀ (I J : Mem) (k t : Nat) (N : Nat → Int32) (np ns nw D : Nat), CTok I r B n s → RB0 J m B n → Lv I J r m N np ns nw D (o + 1) → I (r + 34) o = nI s → I (r + 35) o = nI d →
    (∃ I' J' p' N' np' ns' nw' D' e cnt g, l_Y_readsRepeat_54 S f' J m (nI v) (nI s) (nI i) = some J' ∧ (Ld I' J' r m B n p' ∧ Lv I' J' r m N' np' ns' nw' D' o) ∧ (p' = e + 1 ∧ PnO B s e ∧ B e = 41 ∧ s < e) ∧ (Fqr I I' r o ∧ Gq J J' m) ∧ (1 ≤ cnt ∧ cnt ≤ (d + 1) * (5 ^ (2 - o) * (e - s))) ∧ FU ≤ g + (3 - o) ∧ ∀ f, t + cnt < 1000000 → l_X5_read_39 (f + cnt) I k r 1 (nI t) = HH r f g I' (tK B n p') (t + cnt - 1)) ∨
    (∃ q, q ≤ (d + 1) * (5 ^ (2 - o) * (n - s)) + 1 ∧ ∀ f, t + q < 1000000 → EE I J r m (l_X5_read_39 (f + q) I k r 1 (nI t)) (l_Y_readsRepeat_54 S f' J m (nI v) (nI s) (nI i))) := by
  have e32 : 3 - (o + 1) = 2 - o := by omega
  have hFU := FU_up (n := 100) (by decide)
  have first : ∀ (i : Nat), i < v → ∀ (f' : Nat) (I J : Mem) (k t : Nat) (N : Nat → Int32) (np ns nw D : Nat), CTok I r B n s → RB0 J m B n → Lv I J r m N np ns nw D (o + 1) →
      l_Y_readsRepeat_54 S (f' + 1) J m (nI v) (nI s) (nI i) = (b1 (S (u2 J m 13 (nI s)) m) fun I13 => l_Y_readsRepeat_54 S f' I13 m (nI v) (nI s) (nI (i + 1))) ∧ ItsO (o + 1) I (u2 J m 13 (nI s)) r m B n s k t (S (u2 J m 13 (nI s)) m) := by
    intro i hi f' I J k t N np ns nw D C Rb L
    refine ⟨?_, hS I (u2 J m 13 (nI s)) k s t N np ns nw D hn C ⟨⟨by rw [u2_k (by decide)]; exact Rb.1, by rw [u2_k (by decide)]; exact Rb.2.1, fun i hi => by rw [u2_a (by omega)]; exact Rb.2.2.1 i hi⟩, u2_s, by rw [u2_k (by decide)]; exact Rb.2.2.2⟩ ⟨PM.ju L.1 (by decide), L.2.1, by rw [u2_k (by decide)]; exact L.2.2⟩⟩
    show (if nI v ≤ nI i then _ else (if J m 10 = 0 then (b1 (pu J m 13 (nI s)) fun I12 => b1 (S I12 m) fun I13 => l_Y_readsRepeat_54 S f' I13 m (nI v) (nI s) (nI i + 1)) else _)) = _
    rw [if_neg (by rw [ile (by omega) (by omega)]; omega), if_pos Rb.1, pu_so, b1_so, nI_s1]
  intro d
  induction d with
  | zero =>
    intro i hi f' hf I J k t N np ns nw D C Rb L l34 l35
    obtain ⟨f', rfl⟩ : ∃ g, f' = g + 2 := ⟨f' - 2, by omega⟩
    obtain ⟨h0, h1⟩ := first i (by omega) (f' + 1) I J k t N np ns nw D C Rb L
    rw [h0]
    rcases h1 with ⟨I2, J2, pe, N', np', ns', nw', D', cnt, g, x1, ⟨x2, x3⟩, ⟨x4, x5, x6⟩, ⟨x7, x8⟩, ⟨x9, x10⟩, x11, x12⟩ | ⟨q, x1, x2⟩
    · obtain ⟨⟨k1, k2⟩, k3⟩ := k5_41 x4
      rw [e32] at x10 x11
      obtain ⟨g', rfl⟩ : ∃ g', g = g' + 1 := ⟨g - 1, by omega⟩
      have L4 : Ld (u2 I2 r 6 (nI o)) (u2 J2 m 17 (nI o)) r m B n pe := (x2.cl (I1 := u2 I2 r 6 (nI o)) (u2_a (by omega)) (u2_a (by omega))).rf (fun j h1 h2 => u2_k (by omega)) (u2_a (by omega))
      obtain ⟨J4, z1, z2, z3⟩ := L4.goes
      have P4 : PM (u2 I2 r 6 (nI o)) J4 r m N' np' ns' nw' D' := PM.jt (PM.ju (PM.u6 x3.1) (by decide)) z3
      have l35' : I2 (r + 35) o = 0 := by rw [(x7.2 o (by omega)).2]; exact l35
      have outs : ∀ f t, ∃ I', HH r f (g' + 1) I2 5 t = HH r f g' I' (tK B n (tE B n pe)) t ∧ Ld I' J4 r m B n (tE B n pe) ∧ It (u2 I2 r 6 (nI o)) I' r := fun f t => hh_out x2 z2 o3 x3.2.1.1 l35'
      obtain ⟨I3, s1, s2, s3⟩ := z2.scan (k := 5)
      have refE : l_Y_readsRepeat_54 S (f' + 1) J2 m (nI v) (nI s) (nI (i + 1)) = some J4 := by
        show (if nI v ≤ nI (i + 1) then (l_Y_readsRepeat_81 S J2 m) else _) = _
        unfold l_Y_readsRepeat_81
        rw [if_pos (by rw [ile (by omega) (by omega)]; omega), x3.2.2, show (1 : Int32) = nI 1 from rfl, pk_sub (by omega), Nat.add_sub_cancel, pu_so, b1_so, z1, b1_so]
      refine Or.inl ⟨I3, J4, tE B n pe, N', np', ns', nw', D', tS B n pe, cnt, g', by rw [x1, b1_so, refE], ⟨s2, Lv.it (I := u2 I2 r 6 (nI o)) ⟨P4, ⟨u2_s, by rw [u2_k (by decide)]; exact x3.2.1.2.1, by rw [u2_k (by decide)]; exact x3.2.1.2.2⟩, by rw [z3.2 17 (by decide), u2_s]⟩ s3⟩, ⟨k1, x5, k3, x6⟩, ⟨⟨fun a ha => ?_, fun i hi => ⟨?_, ?_⟩⟩, ?_⟩, ⟨x9, by omega⟩, by omega, fun f ht => ?_⟩
      · rw [s3 a (by omega), u2_a (by omega)]; exact x7.1 a ha
      · rw [s3 _ (by omega), u2_a (by omega)]; exact (x7.2 i (by omega)).1
      · rw [s3 _ (by omega), u2_a (by omega)]; exact (x7.2 i (by omega)).2
      · exact (((Gq.u (by decide)).trans x8).trans (Gq.u (by decide))).trans z3.gq
      · rw [x12 f ht]
        unfold HH
        have e7 : l_X5_isItemNext_7 (g' + 1) I2 5 r = l_X5_isItemNext_7 g' I3 (tK B n (tE B n pe)) r := by
          have ei : ix (nI (o + 1) - 1) 3 = some o := by rw [show (1 : Int32) = nI 1 from rfl, pk_sub (by omega), Nat.add_sub_cancel]; exact ix_n o3 (by decide)
          show (if (I2 r 6) ≤ 0 then _ else (b1 (ckK 5) fun _ => if 5 = 5 then (b1 (ix ((I2 r 6) - 1) 3) fun j13 => if (I2 (r + 35) j13) ≤ 0 then (b1 (pu I2 r 6 ((I2 r 6) - 1)) fun I14 => b2 (f_X7_scan I14 5 (r + 1)) fun I15 k16 => l_X5_isItemNext_7 g' I15 k16 r) else _) else _)) = _
          rw [x3.2.1.1, if_neg (by rw [nI_le0 (by omega)]; omega), ckK_n (by decide), b1_so, if_pos rfl, ei, b1_so, l35', if_pos (by decide), show (1 : Int32) = nI 1 from rfl, pk_sub (by omega), Nat.add_sub_cancel, pu_so, b1_so, s1, b2_so]
        rw [e7]
    · refine Or.inr ⟨q, by rw [e32] at x1; omega, fun f ht => ?_⟩
      obtain ⟨c, s', I', J', k', ⟨y1, y2, y3⟩, ⟨y4, y5, y6⟩, y7, y8⟩ := x2 f ht
      obtain ⟨J5, w1, w2, w3⟩ := rp54F (b := S) (x1 := nI v) (x2 := nI s) (x3 := nI (i + 1)) (f := f') y6
      rw [y2, b1_so, w1]
      exact ⟨c, s', I', J5, k', ⟨y1, rfl, y3⟩, ⟨y4, y5, w2⟩, y7, ((Gq.u (by decide)).trans y8).trans w3⟩
  | succ d ih =>
    intro i hi f' hf I J k t N np ns nw D C Rb L l34 l35
    obtain ⟨f', rfl⟩ : ∃ g, f' = g + 2 := ⟨f' - 2, by omega⟩
    obtain ⟨h0, h1⟩ := first i (by omega) (f' + 1) I J k t N np ns nw D C Rb L
    rw [h0]
    rcases h1 with ⟨I2, J2, pe, N', np', ns', nw', D', cnt, g, x1, ⟨x2, x3⟩, ⟨x4, x5, x6⟩, ⟨x7, x8⟩, ⟨x9, x10⟩, x11, x12⟩ | ⟨q, x1, x2⟩
    · obtain ⟨⟨k1, k2⟩, k3⟩ := k5_41 x4
      rw [e32] at x10 x11
      obtain ⟨g', rfl⟩ : ∃ g', g = g' + 1 := ⟨g - 1, by omega⟩
      have l35' : I2 (r + 35) o = nI (d + 1) := by rw [(x7.2 o (by omega)).2]; exact l35
      have l34' : I2 (r + 34) o = nI s := by rw [(x7.2 o (by omega)).1]; exact l34
      have again : ∀ f, HH r f (g' + 1) I2 5 (t + cnt - 1) = l_X5_read_39 f (u2 (u2 I2 (r + 35) o (nI d)) (r + 1) 3 (nI s)) 5 r 1 (nI (t + cnt - 1) + 1) := fun f => (hh_again x2 hn.2 o3 x3.2.1.1 l35' l34' (by omega)).1
      have C3 : CTok (u2 (u2 I2 (r + 35) o (nI d)) (r + 1) 3 (nI s)) r B n s := (hh_again (f := 0) (g := 0) (t := 0) x2 hn.2 o3 x3.2.1.1 l35' l34' (by omega)).2
      have P3 : PM (u2 (u2 I2 (r + 35) o (nI d)) (r + 1) 3 (nI s)) J2 r m N' np' ns' nw' D' := ⟨⟨x3.1.1.1.fr fun a _ _ => by rw [u2_a (by omega), u2_a (by omega)], x3.1.1.2.fr fun a _ _ => by rw [u2_a (by omega), u2_a (by omega)]⟩, x3.1.2.1, x3.1.2.2.1, ⟨by rw [u2_a (by omega), u2_a (by omega)]; exact x3.1.2.2.2.1.1, x3.1.2.2.2.1.2⟩, x3.1.2.2.2.2⟩
      have eq : ∀ f, t + cnt < 1000000 → l_X5_read_39 (f + cnt) I k r 1 (nI t) = l_X5_read_39 f (u2 (u2 I2 (r + 35) o (nI d)) (r + 1) 3 (nI s)) 5 r 1 (nI (t + cnt)) := fun f ht => by
        rw [x12 f ht, again, nI_s1, show t + cnt - 1 + 1 = t + cnt by omega]
      have F3 : Fqr I (u2 (u2 I2 (r + 35) o (nI d)) (r + 1) 3 (nI s)) r o := ⟨fun a ha => by rw [u2_a (by omega), u2_a (by omega)]; exact x7.1 a ha, fun i hi => ⟨by rw [u2_a (by omega), u2_a (by omega)]; exact (x7.2 i (by omega)).1, by rw [u2_a (by omega), u2_k (by omega)]; exact (x7.2 i (by omega)).2⟩⟩
      have G3 : Gq J J2 m := (Gq.u (by decide)).trans x8
      have hle : 5 ^ (2 - o) * (tS B n pe - s) ≤ 5 ^ (2 - o) * (n - s) := Nat.mul_le_mul_left _ (by omega)
      rw [x1, b1_so]
      rcases ih (i + 1) (by omega) (f' + 1) (by omega) _ J2 5 (t + cnt) N' np' ns' nw' D' C3 ⟨x2.2.2.1.1, x2.2.2.1.2.1, x2.2.2.1.2.2, x2.2.2.2.2.2.2⟩ ⟨P3, by rw [u2_a (by omega), u2_a (by omega)]; exact x3.2.1, x3.2.2⟩ (by rw [u2_a (by omega), u2_a (by omega)]; exact l34') (by rw [u2_a (by omega), u2_s]) with ⟨I3, J3, p2, N2, np2, ns2, nw2, D2, e, cnt2, g2, w1, w2, ⟨w3, w4, w5, w6⟩, ⟨w7, w8⟩, ⟨w9, w10⟩, w11, w12⟩ | ⟨q, w1, w2⟩
      · have ee : tS B n pe = e := x5.un k3 w4 w5
        refine Or.inl ⟨I3, J3, p2, N2, np2, ns2, nw2, D2, e, cnt + cnt2, g2, w1, w2, ⟨w3, w4, w5, w6⟩, ⟨F3.trans w7, G3.trans w8⟩, ⟨by omega, ?_⟩, w11, fun f ht => ?_⟩
        · rw [ee] at x10
          rw [Nat.succ_mul (d + 1)]
          omega
        · have e1 := eq (f + cnt2) (by omega)
          have e2 := w12 f (by omega)
          rw [show f + (cnt + cnt2) = f + cnt2 + cnt by omega, e1, e2, show t + (cnt + cnt2) - 1 = t + cnt + cnt2 - 1 by omega]
      · refine Or.inr ⟨cnt + q, ?_, fun f ht => ?_⟩
        · rw [Nat.succ_mul (d + 1)]
          omega
        · have e1 := eq (f + q) (by omega)
          have e2 := w2 f (by omega)
          rw [show f + (cnt + q) = f + q + cnt by omega, e1]
          exact e2.of F3.1 G3
    · refine Or.inr ⟨q, ?_, fun f ht => ?_⟩
      · rw [e32] at x1
        rw [Nat.succ_mul (d + 1)]
        omega
      · obtain ⟨c, s', I', J', k', ⟨y1, y2, y3⟩, ⟨y4, y5, y6⟩, y7, y8⟩ := x2 f ht
        obtain ⟨J5, w1, w2, w3⟩ := rp54F (b := S) (x1 := nI v) (x2 := nI s) (x3 := nI (i + 1)) (f := f') y6
        rw [y2, b1_so, w1]
        exact ⟨c, s', I', J5, k', ⟨y1, rfl, y3⟩, ⟨y4, y5, w2⟩, y7, ((Gq.u (by decide)).trans y8).trans w3⟩
/-- an item of level o -/
theorem item_lv {S : Mem → Nat → Option Mem} (o3 : o ≤ 3) (hS : o < 3 → ItemsSpec r m B n (o + 1) S) : ItemSpec r m B n o (f_Y_readsItem (f_Y_readsRepeat S)) := by
  intro I J k p t N np ns nw D A L
  rcases item_step (k := k) (b := f_Y_readsRepeat S) A L.1 with h | ⟨w17, I1, g1, g2, g3, g4⟩
  · exact ItO.of0 h L
  · rw [g4]
    have L1 := Lv.it L g2
    rcases rep_open (b := S) (k := 1) (by decide) g1 w17.1 L1.2.1.1 L1.2.2 o3 with ⟨v, s, I2, J2, x1, x2, x3, ⟨x4, x5, x6⟩, ⟨x7, x8, x9⟩, ⟨x10, x11, x12, x12b, x12c⟩, ⟨x13, x14, x15⟩, ⟨x16, x17, x18, x19⟩, x20⟩ | ⟨c, s, I2, J2, k2, ⟨x1, x2, x3⟩, ⟨x4, x5⟩, x6⟩
    · rw [x20]
      have P2 : PM I2 J2 r m N np ns nw D := ⟨⟨L1.1.1.1.fr fun a _ _ => x10 a (by omega) (by omega) (by omega) (by omega), L1.1.1.2.fr fun a _ _ => x10 a (by omega) (by omega) (by omega) (by omega)⟩, x17.trans L1.1.2.1, L1.1.2.2.1, ⟨x11.trans L1.1.2.2.2.1.1, x19.trans L1.1.2.2.2.1.2⟩, L1.1.2.2.2.2⟩
      have F2 : Fqr I I2 r o := ⟨fun a ha => (x10 a (by omega) (by omega) (by omega) (by omega)).trans (g2 a (by omega)), fun i hi => ⟨(x15 i hi).1.trans (by rw [g2 _ (by omega)]), (x15 i hi).2.trans (by rw [g2 _ (by omega)])⟩⟩
      have eq : ∀ f, t + 1 < 1000000 → l_X5_read_39 (f + 1) I k r 1 (nI t) = l_X5_read_39 f I2 4 r 1 (nI (t + 1)) := fun f ht => by
        rw [cl_item (by omega), g3, x1, e3_ok, e3_ok, if_neg (by decide), nI_s1]
      have w53 : 5 ^ (3 - o) = 5 * 5 ^ (2 - o) := by
        rw [show 3 - o = (2 - o) + 1 by omega, Nat.pow_succ, Nat.mul_comm]
      have wp := w_pos (o := o)
      rcases passes_lv x2 (hS x2) x3 x4 (v - 1) 0 (by omega) FU (FU_up (by omega)) I2 J2 4 (t + 1) N np ns nw D x5 ⟨x6.1.1, x6.1.2.1, x6.1.2.2, x6.2.2⟩ ⟨P2, ⟨x12, x12b.trans L1.2.1.2.1, x12c.trans L1.2.1.2.2⟩, x18⟩ x13 x14 with ⟨I3, J3, p2, N2, np2, ns2, nw2, D2, e, cnt2, g2', w1, w2, ⟨w3, w4, w5, w6⟩, ⟨w7, w8⟩, ⟨w9, w10⟩, w11, w12⟩ | ⟨q, w1, w2⟩
      · have hq : PnO B p p2 := by
          rw [w3]
          refine x8.nest x9 ?_ w5
          rw [show s - 1 + 1 = s by omega]
          exact w4
        refine Or.inl ⟨I3, J3, p2, N2, np2, ns2, nw2, D2, cnt2 + 1, g2', w1, w2, ⟨by omega, hq⟩, ⟨F2.trans w7, x16.trans w8⟩, ⟨by omega, ?_⟩, w11, fun f ht => ?_⟩
        · have a1 : (v - 1 + 1) * (5 ^ (2 - o) * (e - s)) ≤ 5 * (5 ^ (2 - o) * (e - s)) := Nat.mul_le_mul_right _ (by omega)
          have a2 : 5 * (5 ^ (2 - o) * (e - s)) = 5 ^ (3 - o) * (e - s) := by rw [w53, Nat.mul_assoc]
          have a3 : 5 ^ (3 - o) * (e - s) + 5 ^ (3 - o) = 5 ^ (3 - o) * (e - s + 1) := by rw [Nat.mul_add, Nat.mul_one]
          have a4 : 5 ^ (3 - o) * (e - s + 1) ≤ 5 ^ (3 - o) * (p2 - p) := Nat.mul_le_mul_left _ (by omega)
          omega
        · have e1 := eq (f + cnt2) (by omega)
          have e2 := w12 f (by omega)
          rw [show f + (cnt2 + 1) = f + cnt2 + 1 by omega, e1, e2, show t + (cnt2 + 1) - 1 = t + 1 + cnt2 - 1 by omega]
      · refine Or.inr ⟨q + 1, ?_, fun f ht => ?_⟩
        · have a1 : (v - 1 + 1) * (5 ^ (2 - o) * (n - s)) ≤ 5 * (5 ^ (2 - o) * (n - s)) := Nat.mul_le_mul_right _ (by omega)
          have a2 : 5 * (5 ^ (2 - o) * (n - s)) = 5 ^ (3 - o) * (n - s) := by rw [w53, Nat.mul_assoc]
          have a3 : 5 ^ (3 - o) * (n - s) + 5 ^ (3 - o) = 5 ^ (3 - o) * (n - s + 1) := by rw [Nat.mul_add, Nat.mul_one]
          have a4 : 5 ^ (3 - o) * (n - s + 1) ≤ 5 ^ (3 - o) * (n - p) := Nat.mul_le_mul_left _ (by omega)
          omega
        · have e1 := eq (f + q) (by omega)
          have e2 := w2 f (by omega)
          rw [show f + (q + 1) = f + q + 1 by omega, e1]
          exact e2.of F2.1 x16
    · refine Or.inr ⟨1, Nat.le_add_left _ _, fun f ht => ⟨c, s, I2, J2, k2, ⟨?_, x2, x3⟩, ⟨x4.2.1, x4.2.2, x5⟩, ⟨fun a ha => (x4.1 a (by omega) (by omega)).trans (g2 a (by omega)), L1.1.1.2.fr fun a _ _ => x4.1 a (by omega) (by omega)⟩, x6⟩⟩
      rw [cl_item (by omega), g3, x1, e3_er, e3_er, cEx_n]
/-- the items outside of every repeat -/
noncomputable def rI3 : Mem → Nat → Option Mem := f_Y_readsItem (f_Y_readsRepeat fun _ _ => none)
noncomputable def rI2 : Mem → Nat → Option Mem := f_Y_readsItem (f_Y_readsRepeat (f_Y_readsItems rI3))
noncomputable def rI1 : Mem → Nat → Option Mem := f_Y_readsItem (f_Y_readsRepeat (f_Y_readsItems rI2))
noncomputable def rI0 : Mem → Nat → Option Mem := f_Y_readsItem (f_Y_readsRepeat (f_Y_readsItems rI1))
theorem item_0 : ItemSpec r m B n 0 rI0 :=
  item_lv (by decide) fun _ => items_lv (by decide) (by decide) (item_lv (by decide) fun _ => items_lv (by decide) (by decide) (item_lv (by decide) fun _ => items_lv (by decide) (by decide) (item_lv (by decide) fun h => absurd h (by decide))))
end LPL

