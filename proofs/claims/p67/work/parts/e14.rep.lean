/-! repeats, and the loop over items -/
section RPL
variable {I J I1 I2 I3 J1 J2 J3 I' J' : Mem} {B : Nat → Int32} {n p q r k m c s t o np ns nw D : Nat} {N N' M : Nat → Int32}
/-- open parentheses in front of a place -/
def pnd (B : Nat → Int32) : Nat → Int
  | 0 => 0
  | q + 1 => pnd B q + (if B q = 40 then 1 else if B q = 41 then -1 else 0)
/-- what stands between is balanced -/
def PnO (B : Nat → Int32) (s q : Nat) : Prop := s ≤ q ∧ pnd B q = pnd B s ∧ ∀ t, s ≤ t → t ≤ q → pnd B s ≤ pnd B t
theorem Fl.dp (h : Fl B p q) : ∀ d, p + d ≤ q → pnd B (p + d) = pnd B p
  | 0, _ => rfl
  | d + 1, hd => by
    have h1 := h.2 (p + d) (by omega) (by omega)
    show pnd B (p + d) + (if B (p + d) = 40 then 1 else if B (p + d) = 41 then -1 else 0) = _
    rw [Fl.dp h d (by omega), if_neg h1.1, if_neg h1.2]
    omega
theorem Fl.ok (h : Fl B p q) : PnO B p q := by
  have e : ∀ t, p ≤ t → t ≤ q → pnd B t = pnd B p := fun t h1 h2 => by
    have := Fl.dp h (t - p) (by omega)
    rwa [show p + (t - p) = t by omega] at this
  exact ⟨h.1, e q h.1 (Nat.le_refl _), fun t h1 h2 => by rw [e t h1 h2]; exact Int.le_refl _⟩
theorem PnO.trans {u : Nat} (h : PnO B p q) (g : PnO B q u) : PnO B p u := ⟨Nat.le_trans h.1 g.1, g.2.1.trans h.2.1, fun t h1 h2 => by
  by_cases h3 : t ≤ q
  · exact h.2.2 t h1 h3
  · have := g.2.2 t (by omega) h2
    rw [h.2.1] at this
    exact this⟩
theorem pn40 (h : B q = 40) : pnd B (q + 1) = pnd B q + 1 := by
  show pnd B q + _ = _
  rw [if_pos h]
theorem pn41 (h : B q = 41) : pnd B (q + 1) = pnd B q - 1 := by
  show pnd B q + _ = _
  rw [if_neg (by rw [h]; decide), if_pos h]
  rfl
theorem PnO.nest {x y : Nat} (h : PnO B p x) (hx : B x = 40) (g : PnO B (x + 1) y) (hy : B y = 41) : PnO B p (y + 1) := by
  have e1 := pn40 hx
  have e2 := pn41 hy
  have h1 := h.2.1
  have g1 := g.2.1
  refine ⟨by have := h.1; have := g.1; omega, by omega, fun t h2 h3 => ?_⟩
  by_cases a1 : t ≤ x
  · exact h.2.2 t h2 a1
  · by_cases a2 : t ≤ y
    · have := g.2.2 t (by omega) a2
      omega
    · obtain rfl : t = y + 1 := by omega
      omega
theorem PnO.lt {e e' : Nat} (h : PnO B s e) (he : B e = 41) (h' : PnO B s e') : ¬ e < e' := fun z => by
  have h1 := h'.2.2 (e + 1) (by have := h.1; omega) (by omega)
  have h2 := pn41 he
  have h3 := h.2.1
  omega
theorem PnO.un {e e' : Nat} (h : PnO B s e) (he : B e = 41) (h' : PnO B s e') (he' : B e' = 41) : e = e' := by
  have h1 := h.lt he h'
  have h2 := h'.lt he' h
  omega
def Fqr (I I' : Mem) (r o : Nat) : Prop := (∀ a, (a < r ∨ r + 35 < a) → I' a = I a) ∧ ∀ i, i < o → I' (r + 34) i = I (r + 34) i ∧ I' (r + 35) i = I (r + 35) i
def Gq (J J' : Mem) (m : Nat) : Prop := (∀ a, a ≠ m → a ≠ m + 1 → J' a = J a) ∧ ∀ j, (j < 10 ∨ 18 < j) → J' m j = J m j
theorem Fqr.refl : Fqr I I r o := ⟨fun _ _ => rfl, fun _ _ => ⟨rfl, rfl⟩⟩
theorem Gq.refl : Gq J J m := ⟨fun _ _ _ => rfl, fun _ _ => rfl⟩
theorem Fqr.trans (h : Fqr I I1 r o) (g : Fqr I1 I2 r o) : Fqr I I2 r o := ⟨fun a ha => (g.1 a ha).trans (h.1 a ha), fun i hi => ⟨(g.2 i hi).1.trans (h.2 i hi).1, (g.2 i hi).2.trans (h.2 i hi).2⟩⟩
theorem Gq.trans (h : Gq J J1 m) (g : Gq J1 J2 m) : Gq J J2 m := ⟨fun a h1 h2 => (g.1 a h1 h2).trans (h.1 a h1 h2), fun j hj => (g.2 j hj).trans (h.2 j hj)⟩
theorem It.fq (h : It I I1 r) : Fqr I I1 r o := ⟨fun a ha => h a (by omega), fun i _ => ⟨by rw [h (r + 34) (by omega)], by rw [h (r + 35) (by omega)]⟩⟩
theorem Jt.gq (h : Jt J J1 m) : Gq J J1 m := ⟨fun a h1 _ => h.1 a h1, fun j hj => h.2 j (by omega)⟩
theorem Jf.gq (h : Jf J J1 m) : Gq J J1 m := ⟨fun a h1 _ => h.1 a h1, fun j hj => h.2 j (by omega) (by omega)⟩
theorem Gq.u {j : Nat} {x : Int32} (hj : 10 ≤ j ∧ j ≤ 18) : Gq J (u2 J m j x) m := ⟨fun a h1 _ => u2_a h1, fun i hi => u2_k (by omega)⟩
/-- the state between items, o repeats being open -/
def Lv (I J : Mem) (r m : Nat) (N : Nat → Int32) (np ns nw D o : Nat) : Prop := PM I J r m N np ns nw D ∧ (I r 6 = nI o ∧ I r 2 = 0 ∧ I r 3 = -1) ∧ J m 17 = nI o
theorem Flt.u17 {x : Int32} (h : Flt J m c s) : Flt (u2 J m 17 x) m c s := ⟨⟨by rw [u2_k (by decide)]; exact h.1.1, by rw [u2_k (by decide)]; exact h.1.2⟩, h.2⟩
theorem rp54F {b : Mem → Nat → Option Mem} {x1 x2 x3 : Int32} {f : Nat} (F : Flt J m c s) : ∃ J', l_Y_readsRepeat_54 b (f + 1) J m x1 x2 x3 = some J' ∧ Flt J' m c s ∧ Gq J J' m := by
  have e : l_Y_readsRepeat_81 b J m = some (u2 J m 17 ((J m 17) - 1)) := by
    unfold l_Y_readsRepeat_81
    rw [pu_so, b1_so, fs_goes F.u17, b1_so]
  refine ⟨u2 J m 17 ((J m 17) - 1), ?_, F.u17, Gq.u (by decide)⟩
  rw [← e]
  show (if x1 ≤ x3 then _ else (if J m 10 = 0 then _ else _)) = _
  rw [if_neg F.n0]
  split <;> rfl
theorem rp37F {b : Mem → Nat → Option Mem} {x1 : Int32} (F : Flt J m c s) : ∃ J', l_Y_readsRepeat_37 b J m x1 = some J' ∧ Flt J' m c s ∧ Gq J J' m := by
  obtain ⟨f, hf⟩ := FU8
  unfold l_Y_readsRepeat_37
  rw [pu_so, b1_so, hf]
  obtain ⟨J', h1, h2, h3⟩ := rp54F (b := b) (x1 := x1) (x2 := J m 13) (x3 := 0) (f := f + 7) (F.u17 (x := (J m 17) + 1))
  exact ⟨J', h1, h2, (Gq.u (by decide)).trans h3⟩
theorem rp13F {b : Mem → Nat → Option Mem} (F : Flt J m c s) : ∃ J', l_Y_readsRepeat_13 b J m = some J' ∧ Flt J' m c s ∧ Gq J J' m := by
  unfold l_Y_readsRepeat_13
  rw [fs_goes F, b1_so, fs_rdn F, b2_so, fs_is F, b1_so, if_pos rfl, fs_flt F, b1_so]
  exact rp37F F
/-- a repeat is opened -/
theorem rep_open {b : Mem → Nat → Option Mem} (k7 : k < 7) (h : Ld I J r m B n p) (hk : tK B n p = 1) (h6 : I r 6 = nI o) (h17 : J m 17 = nI o) (o3 : o ≤ 3) :
    (∃ v s I' J', f_X5_openRepeat I k r = some (.ok (), I', 4) ∧ o < 3 ∧ (1 ≤ v ∧ v ≤ 5) ∧ ((n ≤ 500 ∧ s ≤ n) ∧ CTok I' r B n s ∧ RBnd J' m B n s) ∧ (p < s ∧ PnO B p (s - 1) ∧ B (s - 1) = 40) ∧ ((∀ a, a ≠ r → a ≠ r + 1 → a ≠ r + 34 → a ≠ r + 35 → I' a = I a) ∧ I' r 7 = I r 7 ∧ I' r 6 = nI (o + 1) ∧ I' r 2 = I r 2 ∧ I' r 3 = I r 3) ∧ (I' (r + 34) o = nI s ∧ I' (r + 35) o = nI (v - 1) ∧ ∀ i, i < o → I' (r + 34) i = I (r + 34) i ∧ I' (r + 35) i = I (r + 35) i) ∧ (Gq J J' m ∧ J' (m + 1) = J (m + 1) ∧ J' m 17 = nI (o + 1) ∧ J' m 18 = J m 18) ∧ f_Y_readsRepeat b J m = l_Y_readsRepeat_54 b FU J' m (nI v) (nI s) 0) ∨
    (∃ c s I' J' k', (f_X5_openRepeat I k r = some (.error eIA, I', k') ∧ f_Y_readsRepeat b J m = some J' ∧ k' < 7) ∧ (Ce I I' r c s ∧ Flt J' m c s) ∧ Gq J J' m) := by
  by_cases h3 : o = 3
  · obtain ⟨I4, J4, w1, w2, w3, w4, w5⟩ := cf_step h (c := 4) (by decide)
    obtain ⟨J5, x1, x2, x3⟩ := rp13F (b := b) w4
    refine Or.inr ⟨4, _, I4, J5, k, ⟨?_, ?_, k7⟩, ⟨w2, x2⟩, w5.gq.trans x3⟩
    · unfold f_X5_openRepeat l_X5_openRepeat_14
      rw [h6, h3, if_pos (by decide), show (4 : Int32) = nI 4 from rfl, w1, e2_er]
    · unfold f_Y_readsRepeat
      rw [h17, h3, if_pos (show nI 3 = 3 from rfl), show (4 : Int32) = nI 4 from rfl, w3, b1_so, x1]
  · have cpre : f_X5_openRepeat I k r = (e3 (f_X5_readNumber I k r 1 5) (fun E I5 k6 => some (.error E, I5, k6)) fun v4 I5 k6 => b2 (f_X7_scan I5 k6 (r + 1)) fun I8 k9 => b1 (ckK k9) fun _ => if k9 = 4 then (l_X5_openRepeat_51 I8 k9 r v4 1) else (l_X5_openRepeat_51 I8 k9 r v4 0)) := by
      unfold f_X5_openRepeat l_X5_openRepeat_14
      rw [h6, if_neg (show ¬ (3 : Int32) ≤ nI o from by rw [show (3 : Int32) = nI 3 from rfl, ile (by omega) (by omega)]; omega), req_ok, e2_ok]
    obtain ⟨J1, a1, a2, a3⟩ := h.goes
    have rpre : f_Y_readsRepeat b J m = (b2 (f_Y_readNumber J1 m 1 5) fun v3 I4 => b1 (f_Y_is I4 m 5) fun v6 => if v6 = 0 then (b1 (f_Y_faults I4 m 1) fun I15 => l_Y_readsRepeat_37 b I15 m v3) else (l_Y_readsRepeat_37 b I4 m v3)) := by
      unfold f_Y_readsRepeat l_Y_readsRepeat_13
      rw [h17, if_neg (show ¬ nI o = (3 : Int32) from by rw [show (3 : Int32) = nI 3 from rfl, nJ_i (by omega) (by omega)]; exact h3), a1, b1_so]
    rw [cpre, rpre]
    clear cpre rpre
    rcases rdn_step (k := k) (lo := 1) (hi := 5) a2 with ⟨v, I2, J2, e1, ⟨e2, e3, e4, e5⟩, ⟨e6, e7, e8⟩, e9⟩ | ⟨c, I2, J2, k2, k7', e1, e2, e3, e4, e5⟩
    · have hv : 1 ≤ v ∧ v ≤ 5 := ⟨by rw [show (1 : Int32) = nI 1 from rfl, ilt (by omega) (by omega)] at e7; omega, rng_n e6 (by decide) e8⟩
      obtain ⟨I3, s1, s2, s3⟩ := e2.scan (k := 2)
      have hi := is_row e2.2.2 (k := 4) (by decide)
      rw [show nI (kc 4) = (5 : Int32) from rfl] at hi
      have kt := tK_7 (B := B) (n := n) (p := tE B n (tE B n p))
      rw [e1, e3_ok, s1, b2_so, ckK_n kt, b1_so, e9, b2_so, hi, b1_so]
      have S3 : It I I3 r := e3.trans s3
      by_cases h4 : tK B n (tE B n (tE B n p)) = 4
      · obtain ⟨⟨y1, y2⟩, y3⟩ := tK_sg (B := B) (n := n) (p := tE B n (tE B n p)) (by omega)
        rw [if_pos h4, bI_t h4, if_neg (by decide), h4]
        unfold l_X5_openRepeat_51 l_Y_readsRepeat_37
        have i6 : I3 r 6 = nI o := by rw [S3 r (by omega)]; exact h6
        have i3 : I3 (r + 1) 3 = nI (tE B n (tE B n (tE B n p))) := s2.2.1.1.1.2
        have j17 : J2 m 17 = nI o := by rw [e4.2 17 (by decide), a3.2 17 (by decide)]; exact h17
        rw [req_ok, e2_ok, i6, ix_n (show o < 3 by omega) (by decide), b1_so, show (1 : Int32) = nI 1 from rfl, pk_sub hv.1, pu_so, b1_so, u2_a (show r ≠ r + 35 by omega), i6, ix_n (show o < 3 by omega) (by decide), b1_so, u2_a (show r + 1 ≠ r + 35 by omega), i3, pu_so, b1_so, u2_a (show r ≠ r + 34 by omega), u2_a (show r ≠ r + 35 by omega), i6, nI_add, pu_so, b1_so, j17, nI_add, pu_so, b1_so, e2.2.2.2.1.1]
        have hp1 : tE B n p ≤ tE B n (tE B n p) := Nat.le_trans (tS_ge (B := B) (n := n)) tE_ge
        have hb40 : B (tS B n (tE B n (tE B n p))) = 40 := Classical.byContradiction fun z => by
          rw [h4] at y3
          unfold sgn at y3
          rw [if_neg z] at y3
          split at y3
          · omega
          · split at y3 <;> omega
        have fo : Fl B p (tS B n (tE B n (tE B n p))) := ((fl_1 hk).trans e5).trans fl_s
        refine Or.inl ⟨v, tE B n (tE B n (tE B n p)), _, _, rfl, by omega, hv, ⟨⟨h.1.1, tE_le e2.1.2⟩, ⟨⟨?_, ?_⟩, fun i hi => ?_⟩, ⟨⟨?_, ?_, fun i hi => ?_⟩, ?_, ?_⟩⟩, ⟨?_, ?_, ?_⟩, ⟨fun a h1 h2 h3 h4 => ?_, ?_, ?_, ?_, ?_⟩, ⟨?_, ?_, fun i hi => ⟨?_, ?_⟩⟩, ⟨(a3.gq.trans e4.gq).trans (Gq.u (by decide)), ?_, u2_s, ?_⟩, rfl⟩
        · rw [u2_a (by omega), u2_a (by omega), u2_a (by omega)]; exact s2.2.1.1.1.1
        · rw [u2_a (by omega), u2_a (by omega), u2_a (by omega)]; exact i3
        · rw [u2_a (by omega), u2_a (by omega), u2_a (by omega)]; exact s2.2.1.1.2 i hi
        · rw [u2_k (by decide)]; exact e2.2.2.1.1
        · rw [u2_k (by decide)]; exact e2.2.2.1.2.1
        · rw [u2_a (by omega)]; exact e2.2.2.1.2.2 i hi
        · rw [u2_k (by decide)]; exact e2.2.2.2.1.1
        · rw [u2_k (by decide)]; exact e2.2.2.2.2.2.2
        · have := fo.1
          omega
        · rw [y1, Nat.add_sub_cancel]; exact fo.ok
        · rw [y1, Nat.add_sub_cancel]; exact hb40
        · rw [u2_a h1, u2_a h3, u2_a h4]; exact S3 a h2
        · rw [u2_k (by decide), u2_a (by omega), u2_a (by omega)]; exact congrFun (S3 r (by omega)) 7
        · exact u2_s
        · rw [u2_k (by decide), u2_a (by omega), u2_a (by omega)]; exact congrFun (S3 r (by omega)) 2
        · rw [u2_k (by decide), u2_a (by omega), u2_a (by omega)]; exact congrFun (S3 r (by omega)) 3
        · rw [u2_a (by omega), u2_s]
        · rw [u2_a (by omega), u2_a (by omega), u2_s]
        · rw [u2_a (by omega), u2_k (by omega), u2_a (by omega), S3 _ (by omega)]
        · rw [u2_a (by omega), u2_a (by omega), u2_k (by omega), S3 _ (by omega)]
        · rw [u2_a (by omega), e4.1 _ (by omega), a3.1 _ (by omega)]
        · rw [u2_k (by decide), e4.2 18 (by decide), a3.2 18 (by decide)]
      · obtain ⟨I4, J4, w1, w2, w3, w4, w5⟩ := cf_step s2 (c := 1) (by decide)
        obtain ⟨J5, x1, x2, x3⟩ := rp37F (b := b) (x1 := nI v) w4
        rw [if_neg h4, bI_f h4, if_pos rfl, show (1 : Int32) = nI 1 from rfl, w3, b1_so, x1]
        unfold l_X5_openRepeat_51
        rw [show (1 : Int32) = nI 1 from rfl, w1, e2_er]
        exact Or.inr ⟨1, _, I4, J5, _, ⟨rfl, rfl, kt⟩, ⟨w2.it S3, x2⟩, ((a3.gq.trans e4.gq).trans w5.gq).trans x3⟩
    · obtain ⟨J5, x1, x2, x3⟩ := rp37F (b := b) (x1 := 1) e4
      rw [e1, e3_er, e3, b2_so, fs_is e4, b1_so, if_pos rfl, fs_flt e4, b1_so, x1]
      exact Or.inr ⟨c, _, I2, J5, k2, ⟨rfl, rfl, k7'⟩, ⟨e2, x2⟩, (a3.gq.trans e5.gq).trans x3⟩
/-! the class's loop -/
noncomputable def HH (r f g : Nat) (I : Mem) (k t : Nat) : Option (Int32 × Mem × Nat) := e3 (l_X5_isItemNext_7 g I k r) (fun E I20 k21 => cEx E (some (0, I20, k21))) fun v19 I20 k21 => if v19 = 0 then (l_X5_read_39 f I20 k21 r 0 (nI t + 1)) else (l_X5_read_39 f I20 k21 r 1 (nI t + 1))
def EE (I J : Mem) (r m : Nat) (X : Option (Int32 × Mem × Nat)) (R : Option Mem) : Prop := ∃ c s I' J' k', (X = some (0, I', k') ∧ R = some J' ∧ k' < 7) ∧ (I' r 2 = nI c ∧ I' r 3 = nI s ∧ Flt J' m c s) ∧ ((∀ a, (a < r ∨ r + 35 < a) → I' a = I a) ∧ BM I' (r + 3)) ∧ Gq J J' m
theorem EE.of {X : Option (Int32 × Mem × Nat)} {R : Option Mem} (h : EE I1 J1 r m X R) (f : ∀ a, (a < r ∨ r + 35 < a) → I1 a = I a) (g : Gq J J1 m) : EE I J r m X R := by
  obtain ⟨c, s, I', J', k', h1, h2, ⟨h3, h4⟩, h5⟩ := h
  exact ⟨c, s, I', J', k', h1, h2, ⟨fun a ha => (h3 a ha).trans (f a ha), h4⟩, g.trans h5⟩
theorem cEx_n {δ : Type} {x : Option δ} : cEx eIA x = x := if_pos rfl
theorem cl_item {f t : Nat} (ht : t < 1000000) : l_X5_read_39 (f + 1) I k r 1 (nI t) = (e3 (f_X5_readItem I k r) (fun E I16 k17 => cEx E (some (0, I16, k17))) fun v15 I16 k17 => if v15 = 0 then (e3 (f_X5_isItemNext I16 k17 r) (fun E I20 k21 => cEx E (some (0, I20, k21))) fun v19 I20 k21 => if v19 = 0 then (l_X5_read_39 f I20 k21 r 0 (nI t + 1)) else (l_X5_read_39 f I20 k21 r 1 (nI t + 1))) else (l_X5_read_39 f I16 k17 r 1 (nI t + 1))) := by
  show (if (1 : Int32) = 0 then _ else (if 1000000 ≤ nI t then _ else _)) = _
  rw [if_neg (by decide), if_neg (show ¬ (1000000 : Int32) ≤ nI t from by rw [show (1000000 : Int32) = nI 1000000 from rfl, ile (by omega) (by omega)]; omega)]
/-- one item at level o -/
def ItO (o : Nat) (I J : Mem) (r m : Nat) (B : Nat → Int32) (n p k t : Nat) (R : Option Mem) : Prop :=
  (∃ I' J' p' N' np ns nw D cnt g, R = some J' ∧ (Ld I' J' r m B n p' ∧ Lv I' J' r m N' np ns nw D o) ∧ (p < p' ∧ PnO B p p') ∧ (Fqr I I' r o ∧ Gq J J' m) ∧ (1 ≤ cnt ∧ cnt ≤ 5 ^ (3 - o) * (p' - p)) ∧ FU ≤ g + (3 - o) ∧ ∀ f, t + cnt < 1000000 → l_X5_read_39 (f + cnt) I k r 1 (nI t) = HH r f g I' (tK B n p') (t + cnt - 1)) ∨
  (∃ q, q ≤ 5 ^ (3 - o) * (n - p) + 1 ∧ ∀ f, t + q < 1000000 → EE I J r m (l_X5_read_39 (f + q) I k r 1 (nI t)) R)
/-- the items of a body, up to its closing parenthesis -/
def ItsO (o : Nat) (I J : Mem) (r m : Nat) (B : Nat → Int32) (n s k t : Nat) (R : Option Mem) : Prop :=
  (∃ I' J' p' N' np ns nw D cnt g, R = some J' ∧ (Ld I' J' r m B n p' ∧ Lv I' J' r m N' np ns nw D o) ∧ (tK B n p' = 5 ∧ PnO B s (tS B n p') ∧ s < tS B n p') ∧ (Fqr I I' r o ∧ Gq J J' m) ∧ (1 ≤ cnt ∧ cnt ≤ 5 ^ (3 - o) * (tS B n p' - s)) ∧ FU ≤ g + (3 - o) ∧ ∀ f, t + cnt < 1000000 → l_X5_read_39 (f + cnt) I k r 1 (nI t) = HH r f g I' 5 (t + cnt - 1)) ∨
  (∃ q, q ≤ 5 ^ (3 - o) * (n - s) + 1 ∧ ∀ f, t + q < 1000000 → EE I J r m (l_X5_read_39 (f + q) I k r 1 (nI t)) R)
def ItemSpec (r m : Nat) (B : Nat → Int32) (n o : Nat) (R : Mem → Nat → Option Mem) : Prop := ∀ (I J : Mem) (k p t : Nat) (N : Nat → Int32) (np ns nw D : Nat), Af I J r m B n p → Lv I J r m N np ns nw D o → ItO o I J r m B n p k t (R J m)
def ItemsSpec (r m : Nat) (B : Nat → Int32) (n o : Nat) (S : Mem → Nat → Option Mem) : Prop := ∀ (I J : Mem) (k s t : Nat) (N : Nat → Int32) (np ns nw D : Nat), n ≤ 500 ∧ s ≤ n → CTok I r B n s → RBnd J m B n s → Lv I J r m N np ns nw D o → ItsO o I J r m B n s k t (S J m)
theorem PM.jt (P : PM I J r m N np ns nw D) (g : Jt J J1 m) : PM I J1 r m N np ns nw D := ⟨P.1, by rw [g.1 _ (by omega)]; exact P.2.1, P.2.2.1, ⟨P.2.2.2.1.1, by rw [g.2 18 (by decide)]; exact P.2.2.2.1.2⟩, P.2.2.2.2⟩
theorem Lv.it (P : Lv I J r m N np ns nw D o) (g : It I I1 r) : Lv I1 J r m N np ns nw D o := ⟨PM.it P.1 g, by rw [g r (by omega)]; exact P.2.1, P.2.2⟩
theorem Lv.jt (P : Lv I J r m N np ns nw D o) (g : Jt J J1 m) : Lv I J1 r m N np ns nw D o := ⟨PM.jt P.1 g, P.2.1, by rw [g.2 17 (by decide)]; exact P.2.2⟩
theorem hh_scan (A : Af I J r m B n p) {f t : Nat} : ∃ I', Ld I' J r m B n p ∧ It I I' r ∧ (e3 (f_X5_isItemNext I k r) (fun E I20 k21 => cEx E (some (0, I20, k21))) fun v19 I20 k21 => if v19 = 0 then (l_X5_read_39 f I20 k21 r 0 (nI t + 1)) else (l_X5_read_39 f I20 k21 r 1 (nI t + 1))) = HH r f FU I' (tK B n p) t := by
  obtain ⟨I1, g1, g2, g3⟩ := A.scan (k := k)
  refine ⟨I1, g2, g3, ?_⟩
  unfold HH f_X5_isItemNext
  rw [g1, b2_so]
theorem w_pos : 1 ≤ 5 ^ (3 - o) := Nat.pow_pos (by decide)
/-- a semicolon, and anything else, behind an item -/
theorem hh_semi {f g : Nat} (h6 : I r 6 = nI o) (o3 : o ≤ 3) (hk : k = 3) : HH r f (g + 1) I k t = l_X5_read_39 f I 3 r 1 (nI t + 1) := by
  subst hk
  have e140 : l_X5_isItemNext_140 I 3 r = some (.ok 1, I, 3) := by
    unfold l_X5_isItemNext_140 l_X5_isItemNext_159
    rw [ckK_n (by decide), b1_so, if_pos rfl, req_ok, e2_ok]
  have e88 : l_X5_isItemNext_88 I 3 r = some (.ok 1, I, 3) := by
    unfold l_X5_isItemNext_88
    rw [ckK_n (by decide), b1_so, if_neg (show ¬ (3 = 0) by decide), e140]
    split <;> rfl
  have e7 : l_X5_isItemNext_7 (g + 1) I 3 r = some (.ok 1, I, 3) := by
    show (if (I r 6) ≤ 0 then (l_X5_isItemNext_88 I 3 r) else (b1 (ckK 3) fun _ => if 3 = 5 then _ else (l_X5_isItemNext_88 I 3 r))) = _
    rw [ckK_n (by decide), b1_so, if_neg (show ¬ (3 = 5) by decide), e88]
    split <;> rfl
  unfold HH
  rw [e7, e3_ok, if_neg (by decide)]
theorem hh_bad {f g : Nat} (h : Ld I J r m B n p) (h6 : I r 6 = nI o) (o3 : o ≤ 3) (k3 : tK B n p ≠ 3) (k5 : tK B n p ≠ 5) (k0 : o = 0 → tK B n p ≠ 0) : ∃ I' J', HH r f (g + 1) I (tK B n p) t = some (0, I', tK B n p) ∧ Ce I I' r 1 (tS B n p) ∧ f_Y_faults J m 1 = some J' ∧ Flt J' m 1 (tS B n p) ∧ Jf J J' m := by
  obtain ⟨I4, J4, w1, w2, w3, w4, w5⟩ := cf_step h (c := 1) (by decide)
  have k7 := tK_7 (B := B) (n := n) (p := p)
  have e140 : l_X5_isItemNext_140 I (tK B n p) r = some (.error eIA, I4, tK B n p) := by
    unfold l_X5_isItemNext_140 l_X5_isItemNext_159
    rw [ckK_n k7, b1_so, if_neg k3, show (1 : Int32) = nI 1 from rfl, w1, e2_er]
  have e88 : l_X5_isItemNext_88 I (tK B n p) r = some (.error eIA, I4, tK B n p) := by
    unfold l_X5_isItemNext_88
    by_cases h0 : o = 0
    · rw [h6, h0, if_pos (show nI 0 = 0 from rfl), ckK_n k7, b1_so, if_neg (k0 h0), e140]
    · rw [h6, if_neg (show ¬ nI o = 0 from by rw [show (0 : Int32) = nI 0 from rfl, nJ_i (by omega) (by decide)]; exact h0), e140]
  have e7 : l_X5_isItemNext_7 (g + 1) I (tK B n p) r = some (.error eIA, I4, tK B n p) := by
    show (if (I r 6) ≤ 0 then (l_X5_isItemNext_88 I (tK B n p) r) else (b1 (ckK (tK B n p)) fun _ => if tK B n p = 5 then _ else (l_X5_isItemNext_88 I (tK B n p) r))) = _
    rw [ckK_n k7, b1_so, if_neg k5, e88]
    split <;> rfl
  refine ⟨I4, J4, ?_, w2, w3, w4, w5⟩
  unfold HH
  rw [e7, e3_er, cEx_n]
end RPL

