/-! the whole text -/
section TXT
variable {I J I1 I2 I3 J1 J2 J3 I' J' : Mem} {B : Nat → Int32} {n p q r k m c s t o np ns nw D : Nat} {N N' M : Nat → Int32}
def Fin (I J : Mem) (r m : Nat) (X : Option (Int32 × Mem × Nat)) (R : Option Mem) : Prop :=
  (∃ I' J' k' N np ns nw D, (X = some (1, I', k') ∧ R = some J' ∧ k' < 7) ∧ ((J' m 10 = 0 ∧ J' m 11 = -1) ∧ I' r 2 = 0 ∧ I' r 3 = -1) ∧ PM I' J' r m N np ns nw D ∧ (1 ≤ np ∧ 1 ≤ ns) ∧ (∀ a, (a < r ∨ r + 35 < a) → I' a = I a) ∧ Gq J J' m) ∨ EE I J r m X R
theorem Fin.of {X : Option (Int32 × Mem × Nat)} {R : Option Mem} (h : Fin I1 J1 r m X R) (f : ∀ a, (a < r ∨ r + 35 < a) → I1 a = I a) (g : Gq J J1 m) : Fin I J r m X R := by
  rcases h with ⟨I', J', k', N, np, ns, nw, D, h1, h2, h3, h4, h5, h6⟩ | h
  · exact Or.inl ⟨I', J', k', N, np, ns, nw, D, h1, h2, h3, h4, fun a ha => (h5 a ha).trans (f a ha), g.trans h6⟩
  · exact Or.inr (h.of f g)
theorem l68F {a : Mem → Nat → Option Mem} (F : Flt J m c s) : l_Y_readsText_68 a J m = some J := by
  have e : l_Y_readsText_86 a J m = some J := by
    unfold l_Y_readsText_86
    rw [fs_flt F, b1_so]
  unfold l_Y_readsText_68
  rw [ix3, b1_so, ix2, b1_so, e]
  split
  · rfl
  · split <;> rfl
theorem l36F {a : Mem → Nat → Option Mem} {f : Nat} (F : Flt J m c s) : l_Y_readsText_36 a (f + 1) J m = some J := by
  show (b1 (f_Y_is J m 4) fun v12 => if v12 = 0 then (b1 (f_Y_is J m 1) fun v14 => if v14 = 0 then (b1 (f_Y_faults J m 1) fun I20 => l_Y_readsText_68 a I20 m) else _) else _) = _
  rw [fs_is F, b1_so, if_pos rfl, fs_is F, b1_so, if_pos rfl, fs_flt F, b1_so, l68F F]
/-- behind an item of the outermost level -/
theorem top_cases {a : Mem → Nat → Option Mem} (h : Ld I J r m B n p) (L : Lv I J r m N np ns nw D 0) (g f : Nat) :
    (tK B n p = 3 ∧ l_X5_isItemNext_7 (g + 1) I 3 r = some (.ok 1, I, 3) ∧ l_Y_readsText_36 a (f + 1) J m = (b1 (f_Y_goes J m) fun I22 => b1 (a I22 m) fun I24 => l_Y_readsText_36 a f I24 m)) ∨
    (tK B n p = 0 ∧ (1 ≤ np ∧ 1 ≤ ns) ∧ l_X5_isItemNext_7 (g + 1) I 0 r = some (.ok 0, I, 0) ∧ l_Y_readsText_36 a (f + 1) J m = some J) ∨
    (∃ c s I' J', l_X5_isItemNext_7 (g + 1) I (tK B n p) r = some (.error eIA, I', tK B n p) ∧ Ce I I' r c s ∧ l_Y_readsText_36 a (f + 1) J m = some J' ∧ Flt J' m c s ∧ Jf J J' m) := by
  have k7 := tK_7 (B := B) (n := n) (p := p)
  have R := L.1.1.1
  have hN := L.1.2.1
  have b1' := R.f.p.2
  have b2' := R.f.s.2
  have i3 := is_row h.2.2 (k := 3) (by decide)
  have i0 := is_row h.2.2 (k := 0) (by decide)
  rw [show nI (kc 3) = (4 : Int32) from rfl] at i3
  rw [show nI (kc 0) = (1 : Int32) from rfl] at i0
  have h6 := L.2.1.1
  have e7 : ∀ k, l_X5_isItemNext_7 (g + 1) I k r = l_X5_isItemNext_88 I k r := fun k => by
    show (if (I r 6) ≤ 0 then _ else _) = _
    rw [h6, if_pos (show nI 0 ≤ 0 by decide)]
  have r36 : l_Y_readsText_36 a (f + 1) J m = (if bI (tK B n p = 3) = 0 then (if bI (tK B n p = 0) = 0 then (b1 (f_Y_faults J m 1) fun I20 => l_Y_readsText_68 a I20 m) else (l_Y_readsText_68 a J m)) else (b1 (f_Y_goes J m) fun I22 => b1 (a I22 m) fun I24 => l_Y_readsText_36 a f I24 m)) := by
    show (b1 (f_Y_is J m 4) fun v12 => if v12 = 0 then (b1 (f_Y_is J m 1) fun v14 => if v14 = 0 then (b1 (f_Y_faults J m 1) fun I20 => l_Y_readsText_68 a I20 m) else (l_Y_readsText_68 a J m)) else (b1 (f_Y_goes J m) fun I22 => b1 (a I22 m) fun I24 => l_Y_readsText_36 a f I24 m)) = _
    rw [i3, b1_so, i0, b1_so]
  rw [r36]
  by_cases k3 : tK B n p = 3
  · refine Or.inl ⟨k3, ?_, by rw [bI_t k3, if_neg (by decide)]⟩
    rw [e7]
    unfold l_X5_isItemNext_88 l_X5_isItemNext_140 l_X5_isItemNext_159
    rw [h6, if_pos (show nI 0 = 0 from rfl), ckK_n (by decide), b1_so, if_neg (show ¬ (3 = 0) by decide), b1_so, if_pos rfl, req_ok, e2_ok]
  · rw [bI_f k3, if_pos rfl]
    by_cases k0 : tK B n p = 0
    · rw [bI_t k0, if_neg (by decide)]
      have r68 : l_Y_readsText_68 a J m = (if nI ns = 0 then (l_Y_readsText_86 a J m) else (if nI np = 0 then (l_Y_readsText_86 a J m) else some J)) := by
        unfold l_Y_readsText_68
        rw [ix3, b1_so, hN, R.f.s.1, ix2, b1_so, R.f.p.1]
      have c88 : l_X5_isItemNext_88 I 0 r = (if nI ns ≤ 0 then (l_X5_isItemNext_133 I 0 r) else (if nI np ≤ 0 then (l_X5_isItemNext_133 I 0 r) else (l_X5_isItemNext_134 I 0 r 1))) := by
        unfold l_X5_isItemNext_88
        rw [h6, if_pos (show nI 0 = 0 from rfl), ckK_n (by decide), b1_so, if_pos rfl, R.h4, R.h3]
      by_cases hz : 1 ≤ np ∧ 1 ≤ ns
      · refine Or.inr (Or.inl ⟨k0, hz, ?_, ?_⟩)
        · rw [e7, c88, if_neg (by rw [nI_le0 (by omega)]; omega), if_neg (by rw [nI_le0 (by omega)]; omega)]
          unfold l_X5_isItemNext_134
          rw [req_ok, e2_ok]
        · rw [r68, if_neg (nI_ne0 (by omega) (by omega)), if_neg (nI_ne0 (by omega) (by omega))]
      · obtain ⟨I4, J4, w1, w2, w3, w4, w5⟩ := cf_step h (c := 4) (by decide)
        refine Or.inr (Or.inr ⟨4, _, I4, J4, ?_, w2, ?_, w4, w5⟩)
        · have e133 : l_X5_isItemNext_133 I 0 r = some (.error eIA, I4, 0) := by
            unfold l_X5_isItemNext_133 l_X5_isItemNext_134
            rw [show (4 : Int32) = nI 4 from rfl, w1, e2_er]
          rw [k0, e7, c88, e133]
          by_cases hs : ns = 0
          · rw [if_pos (by rw [nI_le0 (by omega)]; exact hs)]
          · rw [if_neg (by rw [nI_le0 (by omega)]; exact hs), if_pos (by rw [nI_le0 (by omega)]; omega)]
        · have e86 : l_Y_readsText_86 a J m = some J4 := by
            unfold l_Y_readsText_86
            rw [show (4 : Int32) = nI 4 from rfl, w3, b1_so]
          rw [r68, e86]
          by_cases hs : ns = 0
          · rw [if_pos (by rw [hs]; rfl)]
          · rw [if_neg (nI_ne0 (by omega) (by omega)), if_pos (by rw [show np = 0 by omega]; rfl)]
    · obtain ⟨I4, J4, w1, w2, w3, w4, w5⟩ := cf_step h (c := 1) (by decide)
      refine Or.inr (Or.inr ⟨1, _, I4, J4, ?_, w2, ?_, w4, w5⟩)
      · rw [e7]
        unfold l_X5_isItemNext_88 l_X5_isItemNext_140 l_X5_isItemNext_159
        rw [h6, if_pos (show nI 0 = 0 from rfl), ckK_n k7, b1_so, if_neg k0, b1_so, if_neg k3, show (1 : Int32) = nI 1 from rfl, w1, e2_er]
      · rw [bI_f k0, if_pos rfl, show (1 : Int32) = nI 1 from rfl, w3, b1_so, l68F w4]
theorem top_go : ∀ d, ∀ f', d + 2 < f' → ∀ (I J : Mem) (k s t : Nat) (N : Nat → Int32) (np ns nw D : Nat), n - s = d → n ≤ 500 ∧ s ≤ n → CTok I r B n s → RBnd J m B n s → Lv I J r m N np ns nw D 0 → t + 125 * (n - s) + 2 < 1000000 → ∀ f, 125 * (n - s) + 5 < f → Fin I J r m (l_X5_read_39 f I k r 1 (nI t)) (b1 (f_Y_goes J m) fun I22 => b1 (rI0 I22 m) fun I24 => l_Y_readsText_36 rI0 f' I24 m) := by
  have hFU := FU_up (n := 100) (by decide)
  intro d
  induction d using Nat.strongRecOn with
  | _ d ih =>
    intro f' hf' I J k s t N np ns nw D hd hn C Rb L ht f hf
    obtain ⟨f', rfl⟩ : ∃ g, f' = g + 1 := ⟨f' - 1, by omega⟩
    obtain ⟨J1, a1, a2, a3⟩ := goes_row hn.1 hn.2 Rb
    have A : Af I J1 r m B n s := ⟨hn, C, a2⟩
    rw [a1, b1_so]
    rcases item_0 I J1 k s t N np ns nw D A (L.jt a3) with ⟨I2, J2, p', N', np', ns', nw', D', cnt, g, h1, ⟨h2, h3⟩, ⟨h4, h5⟩, ⟨h6, h7⟩, ⟨h8, h9⟩, h10, h11⟩ | ⟨q, h1, h2⟩
    · rw [h1, b1_so]
      have hp' := h2.1.2
      have h9' : cnt ≤ 125 * (p' - s) := h9
      have hG : Gq J J2 m := a3.gq.trans h7
      obtain ⟨g', rfl⟩ : ∃ g', g = g' + 1 := ⟨g - 1, by omega⟩
      obtain ⟨f2, rfl⟩ : ∃ f2, f = f2 + 1 + cnt := ⟨f - 1 - cnt, by omega⟩
      rw [h11 (f2 + 1) (by omega)]
      unfold HH
      rcases top_cases (a := rI0) h2 h3 g' f' with ⟨k3, x1, x2⟩ | ⟨k0, x1, x2, x3⟩ | ⟨c, s', I', J', x1, x2, x3, x4, x5⟩
      · have hE := tE_gt (B := B) (n := n) (p := p') (by rw [k3]; decide)
        have hS := tS_ge (B := B) (n := n) (p := p')
        have hE2 := tE_le (B := B) hp'
        rw [k3, x1, e3_ok, if_neg (by decide), x2, nI_s1, show t + cnt - 1 + 1 = t + cnt by omega]
        exact (ih (n - tE B n p') (by omega) f' (by omega) I2 J2 3 (tE B n p') (t + cnt) N' np' ns' nw' D' rfl ⟨hn.1, hE2⟩ h2.2.1.1 h2.2.2.bnd h3 (by omega) (f2 + 1) (by omega)).of h6.1 hG
      · rw [k0, x2, e3_ok, if_pos rfl, x3]
        exact Or.inl ⟨I2, J2, 0, N', np', ns', nw', D', ⟨rfl, rfl, by decide⟩, ⟨⟨h2.2.2.1.1, h2.2.2.2.2.2.2⟩, h3.2.1.2.1, h3.2.1.2.2⟩, h3.1, x1, h6.1, hG⟩
      · rw [x1, e3_er, cEx_n, x3]
        exact Or.inr ⟨c, s', I', J', _, ⟨rfl, rfl, tK_7⟩, ⟨x2.2.1, x2.2.2, x4⟩, ⟨fun a ha => (x2.1 a (by omega) (by omega)).trans (h6.1 a ha), h3.1.1.2.fr fun a _ _ => x2.1 a (by omega) (by omega)⟩, hG.trans x5.gq⟩
    · have h1' : q ≤ 125 * (n - s) + 1 := h1
      obtain ⟨f2, rfl⟩ : ∃ f2, f = f2 + q := ⟨f - q, by omega⟩
      obtain ⟨c, s', I', J', k', ⟨y1, y2, y3⟩, ⟨y4, y5, y6⟩, y7, y8⟩ := h2 f2 (by omega)
      rw [y2, b1_so, l36F y6]
      exact Or.inr ⟨c, s', I', J', k', ⟨y1, rfl, y3⟩, ⟨y4, y5, y6⟩, y7, a3.gq.trans y8⟩
/-- the market begins -/
theorem st_row {v : Nat} (h0 : J (m + 1) = N) : ∃ I', f_X3_startAnew I (r + 3) (nI v) = some I' ∧ (∀ a, a ≠ r + 3 → I' a = I a) ∧ (I' (r + 3) 3 = 0 ∧ I' (r + 3) 4 = 0 ∧ I' (r + 3) 5 = 0 ∧ I' (r + 3) 6 = 0 ∧ I' (r + 3) 7 = nI v) ∧ (I' (r + 3) 8 = 3 ∧ I' (r + 3) 9 = 10 ∧ I' (r + 3) 10 = -1 ∧ I' (r + 3) 11 = -1) ∧ I' (r + 3) 12 = 0 ∧ I' (r + 3) 13 = 0 := by
  refine ⟨u2 (u2 (u2 (u2 (u2 (u2 (u2 (u2 (u2 (u2 (u2 I (r + 3) 3 0) (r + 3) 4 0) (r + 3) 5 0) (r + 3) 6 0) (r + 3) 7 (nI v)) (r + 3) 8 3) (r + 3) 9 10) (r + 3) 10 (-1)) (r + 3) 11 (-1)) (r + 3) 12 0) (r + 3) 13 0, ?_, fun a ha => ?_, ⟨?_, ?_, ?_, ?_, ?_⟩, ⟨?_, ?_, ?_, ?_⟩, ?_, u2_s⟩
  · unfold f_X3_startAnew
    rw [pu_so, b1_so, pu_so, b1_so, pu_so, b1_so, pu_so, b1_so, pu_so, b1_so, pu_so, b1_so, pu_so, b1_so, pu_so, b1_so, pu_so, b1_so, pu_so, b1_so, pu_so, b1_so]
  · rw [u2_a ha, u2_a ha, u2_a ha, u2_a ha, u2_a ha, u2_a ha, u2_a ha, u2_a ha, u2_a ha, u2_a ha, u2_a ha]
  · rw [u2_k (by decide), u2_k (by decide), u2_k (by decide), u2_k (by decide), u2_k (by decide), u2_k (by decide), u2_k (by decide), u2_k (by decide), u2_k (by decide), u2_k (by decide), u2_s]
  · rw [u2_k (by decide), u2_k (by decide), u2_k (by decide), u2_k (by decide), u2_k (by decide), u2_k (by decide), u2_k (by decide), u2_k (by decide), u2_k (by decide), u2_s]
  · rw [u2_k (by decide), u2_k (by decide), u2_k (by decide), u2_k (by decide), u2_k (by decide), u2_k (by decide), u2_k (by decide), u2_k (by decide), u2_s]
  · rw [u2_k (by decide), u2_k (by decide), u2_k (by decide), u2_k (by decide), u2_k (by decide), u2_k (by decide), u2_k (by decide), u2_s]
  · rw [u2_k (by decide), u2_k (by decide), u2_k (by decide), u2_k (by decide), u2_k (by decide), u2_k (by decide), u2_s]
  · rw [u2_k (by decide), u2_k (by decide), u2_k (by decide), u2_k (by decide), u2_k (by decide), u2_s]
  · rw [u2_k (by decide), u2_k (by decide), u2_k (by decide), u2_k (by decide), u2_s]
  · rw [u2_k (by decide), u2_k (by decide), u2_k (by decide), u2_s]
  · rw [u2_k (by decide), u2_k (by decide), u2_s]
  · rw [u2_k (by decide), u2_s]
/-- the numbers that a new market begins with -/
def NB (N : Nat → Int32) : Prop := (N 1 = 0 ∧ N 2 = 0 ∧ N 3 = 0 ∧ N 4 = 0) ∧ (N 5 = 3 ∧ N 6 = 10 ∧ N 8 = -1 ∧ N 9 = -1) ∧ N 10 = 0 ∧ N 7 = 0
theorem text_row (Bm : BM I (r + 3)) (hn : n ≤ 500) (C : CTok I r B n 0) (Rb : RBnd J m B n 0) (hB : NB (J (m + 1))) (c6 : I r 6 = 0) (c7 : I r 7 = 0) (c2 : I r 2 = 0) (c3 : I r 3 = -1) (j17 : J m 17 = 0) (j18 : J m 18 = 0) :
    Fin I J r m (e3 (f_X5_readMarket I k r) (fun E I8 k9 => cEx E (some (0, I8, k9))) fun v7 I8 k9 => e3 (f_X5_isItemNext I8 k9 r) (fun E I12 k13 => cEx E (some (0, I12, k13))) fun v11 I12 k13 => l_X5_read_39 FU I12 k13 r v11 0) (f_Y_readsText rI0 J m) := by
  have hFU := FU_up (n := 900000) (by decide)
  obtain ⟨F, hF⟩ := FU8
  obtain ⟨J1, a1, a2, a3⟩ := goes_row hn (Nat.zero_le _) Rb
  have A : Af I J1 r m B n 0 := ⟨⟨hn, Nat.zero_le _⟩, C, a2⟩
  obtain ⟨I1, g1, g2, g3⟩ := A.scan (k := k)
  have k7 := tK_7 (B := B) (n := n) (p := 0)
  unfold f_X5_readMarket f_Y_readsText
  rw [g1, b2_so, a1, b1_so]
  by_cases w19 : Wd B n 0 19
  · rw [g2.word (by decide) w19, b3_so, req_ok, e2_ok, g2.2.2.word g2.1 (by decide) w19, b1_so, if_neg (show ¬ (1 : Int32) = 0 by decide)]
    unfold l_Y_readsText_19
    obtain ⟨J2, b1', b2', b3'⟩ := g2.goes
    rw [b1', b1_so]
    rcases rdn_step (k := tK B n 0) (lo := 4) (hi := 60) b2' with ⟨v, I2, J3, e1, ⟨e2, e3, e4, e5⟩, ⟨e6, e7, e8⟩, e9⟩ | ⟨c, I2, J3, k2, k7', e1, e2, e3, e4, e5⟩
    · have hv : 4 ≤ v ∧ v ≤ 60 := ⟨by rw [show (4 : Int32) = nI 4 from rfl, ilt (by omega) (by omega)] at e7; omega, rng_n e6 (by decide) e8⟩
      obtain ⟨I3, s1, s2, ⟨s3, s4, s5, s6, s7⟩, ⟨s8, s9, s10, s11⟩, s12, s13⟩ := st_row (I := I2) (r := r) (J := J3) (m := m) (v := v) rfl
      have hJ3 : J3 (m + 1) = J (m + 1) := (e4.1 _ (by omega)).trans ((b3'.1 _ (by omega)).trans (a3.1 _ (by omega)))
      rw [e1, e3_ok, s1, b1_so, e3_ok, e9, b2_so, ix0, b1_so, pu_so, b1_so, u2_sM hJ3]
      have A3 : Af I3 (sM J3 m (upd (J (m + 1)) 0 (nI v))) r m B n _ := (e2.cl (s2 _ (by omega)) (s2 _ (by omega))).sm
      have iI : ∀ a, a ≠ r + 1 → a ≠ r + 3 → I3 a = I a := fun a h1 h2 => (s2 a h2).trans ((e3 a h1).trans (g3 a h1))
      obtain ⟨⟨n1, n2, n3, n4⟩, ⟨n5, n6, n8, n9⟩, n10, n7⟩ := hB
      have hu : ∀ j, j ≠ 0 → (upd (J (m + 1)) 0 (nI v)) j = J (m + 1) j := fun j hj => upd_n hj
      have WN : WF (upd (J (m + 1)) 0 (nI v)) 0 0 0 := ⟨⟨⟨(hu 2 (by decide)).trans n2, by decide⟩, ⟨(hu 3 (by decide)).trans n3, by decide⟩, ⟨(hu 4 (by decide)).trans n4, by decide⟩⟩, by rw [upd_s]; exact nI_ne0 (by omega) (by omega), fun w h => absurd h (Nat.not_lt_zero _), fun w h => absurd h (Nat.not_lt_zero _), fun w h => absurd h (Nat.not_lt_zero _), fun w h => absurd h (Nat.not_lt_zero _)⟩
      have P : PM I3 (sM J3 m (upd (J (m + 1)) 0 (nI v))) r m (upd (J (m + 1)) 0 (nI v)) 0 0 0 0 := by
        refine ⟨⟨⟨WN, ⟨v, upd_s, hv⟩, ?_, fun p h => absurd h (Nat.not_lt_zero _), fun p h => absurd h (Nat.not_lt_zero _), fun p h => absurd h (Nat.not_lt_zero _)⟩, ⟨fun i hi => ?_, fun i hi => ?_⟩⟩, sM_s, ⟨⟨⟨v, upd_s, hv.1, hv.2, fun p h => absurd h (Nat.not_lt_zero _)⟩, fun p h => absurd h (Nat.not_lt_zero _), fun p h => absurd h (Nat.not_lt_zero _)⟩, ⟨0, (hu 1 (by decide)).trans n1, Nat.le_refl _⟩, ⟨fun p h => absurd h (Nat.not_lt_zero _), fun p h => absurd h (Nat.not_lt_zero _), ⟨Nat.zero_le _, by decide⟩⟩, ⟨10, (hu 6 (by decide)).trans n6, by decide⟩, ⟨0, (hu 10 (by decide)).trans n10, by decide⟩, fun p h => absurd h (Nat.not_lt_zero _)⟩, ⟨?_, ?_⟩, by decide⟩
        · unfold RH
          rw [s3, s4, s5, s6, s7, s8, s9, s10, s11, s12, s13, hu 2 (by decide), hu 3 (by decide), hu 4 (by decide), hu 1 (by decide), upd_s, hu 5 (by decide), hu 6 (by decide), hu 8 (by decide), hu 9 (by decide), hu 10 (by decide), hu 7 (by decide), n1, n2, n3, n4, n5, n6, n7, n8, n9, n10]
          exact ⟨⟨rfl, rfl, rfl⟩, ⟨rfl, rfl, rfl, rfl⟩, rfl, rfl, rfl, rfl⟩
        · rw [iI _ (by omega) (by omega)]; exact Bm.1 i hi
        · rw [iI _ (by omega) (by omega)]; exact Bm.2 i hi
        · rw [iI r (by omega) (by omega)]; exact c7
        · rw [sM_n (by omega), e4.2 18 (by decide), b3'.2 18 (by decide), a3.2 18 (by decide)]; exact j18
      have L : Lv I3 (sM J3 m (upd (J (m + 1)) 0 (nI v))) r m (upd (J (m + 1)) 0 (nI v)) 0 0 0 0 0 := ⟨P, ⟨by rw [iI r (by omega) (by omega)]; exact c6, by rw [iI r (by omega) (by omega)]; exact c2, by rw [iI r (by omega) (by omega)]; exact c3⟩, by rw [sM_n (by omega), e4.2 17 (by decide), b3'.2 17 (by decide), a3.2 17 (by decide)]; exact j17⟩
      obtain ⟨I4, t1, t2, t3⟩ := A3.scan (k := 2)
      have G3 : Gq J (sM J3 m (upd (J (m + 1)) 0 (nI v))) m := ((a3.gq.trans b3'.gq).trans e4.gq).trans ⟨fun a h1 h2 => sM_n h2, fun j hj => by rw [sM_n (by omega)]⟩
      have iI4 : ∀ a, (a < r ∨ r + 35 < a) → I4 a = I a := fun a ha => (t3 a (by omega)).trans (iI a (by omega) (by omega))
      unfold f_X5_isItemNext
      rw [t1, b2_so, hF]
      rcases top_cases (a := rI0) t2 (L.it t3) (F + 7) (F + 7) with ⟨k3, x1, x2⟩ | ⟨k0, x1, x2, x3⟩ | ⟨c, s', I', J', x1, x2, x3, x4, x5⟩
      · have hE2 := tE_le (B := B) t2.1.2
        rw [k3, x1, e3_ok, x2]
        exact (top_go (n - tE B n _) (F + 7) (by omega) I4 _ 3 _ 0 _ 0 0 0 0 rfl ⟨hn, hE2⟩ t2.2.1.1 t2.2.2.bnd (L.it t3) (by omega) (F + 8) (by omega)).of iI4 G3
      · omega
      · rw [x1, e3_er, cEx_n, x3]
        exact Or.inr ⟨c, s', I', J', _, ⟨rfl, rfl, tK_7⟩, ⟨x2.2.1, x2.2.2, x4⟩, ⟨fun a ha => (x2.1 a (by omega) (by omega)).trans (iI4 a ha), (P.1.2.it t3).fr fun a _ _ => x2.1 a (by omega) (by omega)⟩, G3.trans x5.gq⟩
    · rw [e1, e3_er, e3_er, cEx_n, e3, b2_so, ix0, b1_so, pu_so, b1_so, u2_sM rfl, hF, l36F e4.sm]
      refine Or.inr ⟨c, _, I2, _, k2, ⟨rfl, rfl, k7'⟩, ⟨e2.2.1, e2.2.2, e4.sm⟩, ⟨fun a ha => (e2.1 a (by omega) (by omega)).trans (g3 a (by omega)), (Bm.it g3).fr fun a _ _ => e2.1 a (by omega) (by omega)⟩, ((a3.gq.trans b3'.gq).trans e5.gq).trans ⟨fun a h1 h2 => sM_n h2, fun j hj => by rw [sM_n (by omega)]⟩⟩
  · obtain ⟨I4, J4, w1, w2, w3, w4, w5⟩ := cf_step g2 (c := 1) (by decide)
    rw [g2.noword (by decide) w19, b3_so, show (1 : Int32) = nI 1 from rfl, w1, e2_er, e3_er, cEx_n, g2.2.2.noword g2.1 (by decide) w19, b1_so, if_pos rfl, w3, b1_so]
    unfold l_Y_readsText_19
    rw [fs_goes w4, b1_so, fs_rdn w4, b2_so, ix0, b1_so, pu_so, b1_so, u2_sM rfl, hF, l36F w4.sm]
    refine Or.inr ⟨1, _, I4, _, _, ⟨rfl, rfl, k7⟩, ⟨w2.2.1, w2.2.2, w4.sm⟩, ⟨fun a ha => (w2.1 a (by omega) (by omega)).trans (g3 a (by omega)), (Bm.it g3).fr fun a _ _ => w2.1 a (by omega) (by omega)⟩, (a3.gq.trans w5.gq).trans ⟨fun a h1 h2 => sM_n h2, fun j hj => by rw [sM_n (by omega)]⟩⟩
end TXT

