/-! items: settings and trades, on both sides -/
section ITS
variable {I J I1 I2 I3 J1 J2 J3 : Mem} {B : Nat → Int32} {n p r k m c s np ns nw D : Nat} {N N' : Nat → Int32}
def PG (N : Nat → Int32) (np ns nw D : Nat) : Prop := FX N np nw ∧ (∃ d, N 1 = nI d ∧ d ≤ D) ∧ CC N np ns nw
def PM (I J : Mem) (r m : Nat) (N : Nat → Int32) (np ns nw D : Nat) : Prop := (RM I (r + 3) N np ns nw ∧ BM I (r + 3)) ∧ J (m + 1) = N ∧ PG N np ns nw D ∧ (I r 7 = nI D ∧ J m 18 = nI D) ∧ D ≤ 2000
def Cq (I I' : Mem) (r : Nat) : Prop := (∀ a, (a < r ∨ r + 33 < a) → I' a = I a) ∧ ∀ j, 2 ≤ j → I' r j = I r j
def Jq (J J' : Mem) (m : Nat) : Prop := (∀ a, a ≠ m → a ≠ m + 1 → J' a = J a) ∧ ∀ j, (j < 10 ∨ 16 < j) → J' m j = J m j
theorem Cq.refl : Cq I I r := ⟨fun _ _ => rfl, fun _ _ => rfl⟩
theorem Jq.refl : Jq J J m := ⟨fun _ _ _ => rfl, fun _ _ => rfl⟩
theorem Cq.it (h : Cq I I1 r) (g : It I1 I2 r) : Cq I I2 r := ⟨fun a ha => (g a (by omega)).trans (h.1 a ha), fun j hj => (congrFun (g r (by omega)) j).trans (h.2 j hj)⟩
theorem Cq.u (h : Cq I I1 r) {a j : Nat} {x : Int32} (ha : r + 3 ≤ a ∧ a ≤ r + 33) : Cq I (u2 I1 a j x) r := ⟨fun b hb => by rw [u2_a (by omega)]; exact h.1 b hb, fun j hj => by rw [u2_a (by omega)]; exact h.2 j hj⟩
theorem Cq.fr {a b : Nat} (h : Cq I I1 r) (g : Fr I1 I2 (r + 3) a b) (hb : b ≤ 16) : Cq I I2 r := ⟨fun x hx => (g x (by omega)).trans (h.1 x hx), fun j hj => (congrFun (g r (by omega)) j).trans (h.2 j hj)⟩
theorem Jq.jt (h : Jq J J1 m) (g : Jt J1 J2 m) : Jq J J2 m := ⟨fun a h1 h2 => (g.1 a h1).trans (h.1 a h1 h2), fun j hj => (g.2 j (by omega)).trans (h.2 j hj)⟩
theorem Jq.jf (h : Jq J J1 m) (g : Jf J1 J2 m) : Jq J J2 m := ⟨fun a h1 h2 => (g.1 a h1).trans (h.1 a h1 h2), fun j hj => (g.2 j (by omega) (by omega)).trans (h.2 j hj)⟩
theorem Jq.sm (h : Jq J J1 m) : Jq J (sM J1 m N) m := ⟨fun a h1 h2 => (sM_n h2).trans (h.1 a h1 h2), fun j hj => by rw [sM_n (by omega)]; exact h.2 j hj⟩
theorem sM_e (h : J (m + 1) = N) : sM J m N = J := by rw [← h]; exact sM_i
theorem u2_sM {j : Nat} {x : Int32} (h : J (m + 1) = N) : u2 J (m + 1) j x = sM J m (upd N j x) := by
  funext b
  by_cases hb : b = m + 1
  · rw [hb, sM_s, u2_upd, h]
  · rw [sM_n hb, u2_a hb]
theorem sM_sM {M : Nat → Int32} : sM (sM J m N) m M = sM J m M := by
  funext b
  by_cases hb : b = m + 1
  · rw [hb, sM_s, sM_s]
  · rw [sM_n hb, sM_n hb, sM_n hb]
theorem RM.it (R : RM I (r + 3) N np ns nw) (g : It I I1 r) : RM I1 (r + 3) N np ns nw := R.fr fun a _ _ => g a (by omega)
theorem BM.it (R : BM I (r + 3)) (g : It I I1 r) : BM I1 (r + 3) := R.fr fun a _ _ => g a (by omega)
/-- as Fl, and something stands between -/
def FS (B : Nat → Int32) (p q : Nat) : Prop := Fl B p q ∧ p < q
theorem FS.trans {q t : Nat} (h : FS B p q) (h2 : Fl B q t) : FS B p t := ⟨h.1.trans h2, Nat.lt_of_lt_of_le h.2 h2.1⟩
theorem fs_1 (h : tK B n p = 1) : FS B p (tE B n p) := ⟨fl_1 h, Nat.lt_of_le_of_lt (tS_ge (B := B) (n := n)) (tE_gt (by rw [h]; decide))⟩
/-- how an item ends: both go on, or both have found the same fault -/
def Out {α : Type} (I J : Mem) (r m : Nat) (B : Nat → Int32) (n p : Nat) (C : Option (Except String α × Mem × Nat)) (R : Option Mem) : Prop :=
  (∃ v I' J' k' p' N' np ns nw D, (C = some (.ok v, I', k') ∧ R = some J' ∧ k' < 7) ∧ (Af I' J' r m B n p' ∧ FS B p p') ∧ PM I' J' r m N' np ns nw D ∧ ((∀ a, (a < r ∨ r + 33 < a) → I' a = I a) ∧ I' r 6 = I r 6 ∧ I' r 2 = I r 2 ∧ I' r 3 = I r 3) ∧ ((∀ a, a ≠ m → a ≠ m + 1 → J' a = J a) ∧ ∀ j, (j < 10 ∨ j = 17 ∨ 18 < j) → J' m j = J m j)) ∨
  (∃ c s I' J' k', (C = some (.error eIA, I', k') ∧ R = some J' ∧ k' < 7) ∧ (I' r 2 = nI c ∧ I' r 3 = nI s ∧ Flt J' m c s) ∧ ((∀ a, (a < r ∨ r + 33 < a) → I' a = I a) ∧ BM I' (r + 3)) ∧ (∀ a, a ≠ m → a ≠ m + 1 → J' a = J a) ∧ ∀ j, (j < 10 ∨ 18 < j) → J' m j = J m j)
theorem Out.er {α : Type} {C : Option (Except String α × Mem × Nat)} {R : Option Mem} (hC : C = some (.error eIA, I2, k)) (k7 : k < 7) (e : Ce I1 I2 r c s) (f : Cq I I1 r) (b : BM I1 (r + 3)) (hR : R = some J1) (F : Flt J1 m c s) (j : Jq J J1 m) : Out I J r m B n p C R :=
  Or.inr ⟨c, s, I2, J1, k, ⟨hC, hR, k7⟩, ⟨e.2.1, e.2.2, F⟩, ⟨fun a ha => (e.1 a (by omega) (by omega)).trans (f.1 a ha), b.fr fun a _ _ => e.1 a (by omega) (by omega)⟩, j.1, fun i hi => j.2 i (by omega)⟩
theorem Out.go {α : Type} {C : Option (Except String α × Mem × Nat)} {R : Option Mem} {v : α} {p' : Nat} (hC : C = some (.ok v, I1, k)) (hR : R = some J1) (k7 : k < 7) (A : Af I1 J1 r m B n p') (F : FS B p p') (P : PM I1 J1 r m N np ns nw D) (f : Cq I I1 r) (j : Jq J J1 m) : Out I J r m B n p C R :=
  Or.inl ⟨v, I1, J1, k, p', N, np, ns, nw, D, ⟨hC, hR, k7⟩, ⟨A, F⟩, P, ⟨f.1, f.2 6 (by decide), f.2 2 (by decide), f.2 3 (by decide)⟩, j.1, fun i hi => j.2 i (by omega)⟩
/-- the conflict that is told behind a number or a name -/
theorem cf_step (h : Ld I J r m B n p) (hc : 1 ≤ c ∧ c ≤ 4) : ∃ I' J', f_X5_require I r 0 (nI c) = some (.error eIA, I') ∧ Ce I I' r c (tS B n p) ∧ f_Y_faults J m (nI c) = some J' ∧ Flt J' m c (tS B n p) ∧ Jf J J' m := by
  obtain ⟨J', f1, f2, f3⟩ := flt_row h.2.2 hc
  obtain ⟨I', q1, q2, q3⟩ := req_er (c := c) h.2.1.2
  exact ⟨I', J', q1, ⟨fun a h1 _ => q2.1 a h1, q2.2⟩, f1, f2, f3⟩
theorem rf_0 (h : RTok J m B n p) : f_Y_refuses J m 0 = some J := by
  unfold f_Y_refuses
  rw [h.1.1, if_pos rfl, if_pos rfl]
theorem rf_1 (h : RTok J m B n p) {y : Int32} (hy : ¬ y = 0) : f_Y_refuses J m y = b1 (f_Y_faults J m 3) fun I1 => some I1 := by
  unfold f_Y_refuses
  rw [h.1.1, if_pos rfl, if_neg hy]
theorem idx_lt {v a : Nat} (ha : a < 1000) (hv : v < 1000) (h : ¬ nI a - 1 < nI v) : v < a := by
  rw [pred_lt ha, nI_toInt (by omega)] at h
  omega
/-! numbers of the head -/
theorem PG.hu (h : PG N np ns nw D) (b1 : np ≤ 6) (b2 : ns ≤ 5) (b3 : nw ≤ 16) {j : Nat} {x : Int32} (hj : 5 ≤ j ∧ j ≤ 10) (h6 : j = 6 → ∃ f, x = nI f ∧ f ≤ 50) (h10 : j = 10 → ∃ f, x = nI f ∧ f ≤ 50) : PG (upd N j x) np ns nw D := by
  obtain ⟨h1, ⟨d, h2, h3⟩, h4, h5⟩ := h
  have hf : ¬ fxI j := fun z => by
    rcases z with z | ⟨p, k, z1, z2, z3⟩ | ⟨w, k, z1, z2, z3, z4⟩ <;> omega
  refine ⟨h1.ag (fun i hi _ => (Ag.u hf) i hi) b1 b3, ⟨d, (upd_n (by omega)).trans h2, h3⟩, h4.up (fun p _ => by omega) (fun s _ => by omega), ?_, ?_, fun w hw a1 a2 => ?_⟩
  · by_cases e : j = 6
    · subst e
      rw [upd_s]
      exact h6 rfl
    · rw [upd_n (Ne.symm e)]
      exact h5.1
  · by_cases e : j = 10
    · subst e
      rw [upd_s]
      exact h10 rfl
    · rw [upd_n (Ne.symm e)]
      exact h5.2.1
  · have e3 : wN (upd N j x) w 3 = wN N w 3 := upd_n (by omega)
    have e5 : wN (upd N j x) w 5 = wN N w 5 := upd_n (by omega)
    have e6 : wN (upd N j x) w 6 = wN N w 6 := upd_n (by omega)
    rw [e3] at a1
    rw [e5] at a2
    rw [e6]
    exact h5.2.2 w hw a1 a2
theorem RM.hu {q : Nat} (R : RM I q N np ns nw) {i j : Nat} {x : Int32} (hj : (i = 8 ∧ j = 5) ∨ (i = 9 ∧ j = 6) ∨ (i = 10 ∧ j = 8) ∨ (i = 11 ∧ j = 9) ∨ (i = 12 ∧ j = 10)) : RM (u2 I q i x) q (upd N j x) np ns nw := by
  have b1 := R.f.p.2
  have b2 := R.f.s.2
  have b3 := R.f.w.2
  have hn : ∀ i, i ≠ j → upd N j x i = N i := fun i hi => upd_n hi
  obtain ⟨y, y1, y2⟩ := R.2.1
  refine ⟨R.f.free (Or.inr (Or.inr (Or.inr (by omega)))), ⟨y, (hn 0 (by omega)).trans y1, y2⟩, ?_, fun p' hp' => ?_, fun s' hs' => ?_, fun w' hw' => ?_⟩
  · have := R.h
    unfold RH at this ⊢
    rcases hj with ⟨rfl, rfl⟩ | ⟨rfl, rfl⟩ | ⟨rfl, rfl⟩ | ⟨rfl, rfl⟩ | ⟨rfl, rfl⟩
    · rw [u2_s, u2_k (by decide), u2_k (by decide), u2_k (by decide), u2_k (by decide), u2_k (by decide), u2_k (by decide), u2_k (by decide), u2_k (by decide), u2_k (by decide), u2_k (by decide), upd_s, hn 0 (by decide), hn 1 (by decide), hn 2 (by decide), hn 3 (by decide), hn 4 (by decide), hn 6 (by decide), hn 7 (by decide), hn 8 (by decide), hn 9 (by decide), hn 10 (by decide)]
      exact ⟨this.1, ⟨this.2.1.1, this.2.1.2.1, rfl, this.2.1.2.2.2⟩, this.2.2⟩
    · rw [u2_s, u2_k (by decide), u2_k (by decide), u2_k (by decide), u2_k (by decide), u2_k (by decide), u2_k (by decide), u2_k (by decide), u2_k (by decide), u2_k (by decide), u2_k (by decide), upd_s, hn 0 (by decide), hn 1 (by decide), hn 2 (by decide), hn 3 (by decide), hn 4 (by decide), hn 5 (by decide), hn 7 (by decide), hn 8 (by decide), hn 9 (by decide), hn 10 (by decide)]
      exact ⟨this.1, ⟨this.2.1.1, this.2.1.2.1, this.2.1.2.2.1, rfl⟩, this.2.2⟩
    · rw [u2_s, u2_k (by decide), u2_k (by decide), u2_k (by decide), u2_k (by decide), u2_k (by decide), u2_k (by decide), u2_k (by decide), u2_k (by decide), u2_k (by decide), u2_k (by decide), upd_s, hn 0 (by decide), hn 1 (by decide), hn 2 (by decide), hn 3 (by decide), hn 4 (by decide), hn 5 (by decide), hn 6 (by decide), hn 7 (by decide), hn 9 (by decide), hn 10 (by decide)]
      exact ⟨this.1, this.2.1, rfl, this.2.2.2⟩
    · rw [u2_s, u2_k (by decide), u2_k (by decide), u2_k (by decide), u2_k (by decide), u2_k (by decide), u2_k (by decide), u2_k (by decide), u2_k (by decide), u2_k (by decide), u2_k (by decide), upd_s, hn 0 (by decide), hn 1 (by decide), hn 2 (by decide), hn 3 (by decide), hn 4 (by decide), hn 5 (by decide), hn 6 (by decide), hn 7 (by decide), hn 8 (by decide), hn 10 (by decide)]
      exact ⟨this.1, this.2.1, this.2.2.1, rfl, this.2.2.2.2⟩
    · rw [u2_s, u2_k (by decide), u2_k (by decide), u2_k (by decide), u2_k (by decide), u2_k (by decide), u2_k (by decide), u2_k (by decide), u2_k (by decide), u2_k (by decide), u2_k (by decide), upd_s, hn 0 (by decide), hn 1 (by decide), hn 2 (by decide), hn 3 (by decide), hn 4 (by decide), hn 5 (by decide), hn 6 (by decide), hn 7 (by decide), hn 8 (by decide), hn 9 (by decide)]
      exact ⟨this.1, this.2.1, this.2.2.1, this.2.2.2.1, rfl, this.2.2.2.2.2⟩
  · have := R.p hp'
    unfold RP at this ⊢
    rw [u2_a (by omega), sNm_n (by omega), pN_n (by omega), pN_n (by omega), pN_n (by omega), pN_n (by omega), pN_n (by omega), pN_n (by omega), pN_n (by omega)]
    exact this
  · have := R.s hs'
    unfold RS at this ⊢
    rw [u2_a (by omega), sN_n (by omega), sN_n (by omega), sN_n (by omega), sN_n (by omega)]
    exact this
  · have := R.w hw'
    unfold RW at this ⊢
    rw [u2_a (by omega), sNm_n (by omega), wN_n (by omega), wN_n (by omega), wN_n (by omega), wN_n (by omega), wN_n (by omega), wN_n (by omega), wN_n (by omega), wN_n (by omega)]
    exact this
theorem BM.uh {q i : Nat} {x : Int32} (b : BM I q) : BM (u2 I q i x) q := ⟨fun i hi => by rw [u2_a (by omega)]; exact b.1 i hi, fun i hi => by rw [u2_a (by omega)]; exact b.2 i hi⟩
theorem rng_n {v h : Nat} (hv : v < 1000) (hh : h < 1000) (z : ¬ nI h < nI v) : v ≤ h := by
  rw [ilt (by omega) (by omega)] at z
  omega

theorem e3_id {α : Type} {o : Option (Except String α × Mem × Nat)} : e3 o (fun E I k => some (.error E, I, k)) (fun v I k => some (.ok v, I, k)) = o := by
  cases o with
  | none => rfl
  | some x =>
    obtain ⟨a, I, k⟩ := x
    cases a <;> rfl
theorem rpi_eq : f_X5_readPersonIndex I k r = f_X5_readNumber I k r 0 ((I (r + 3) 3) - 1) := e3_id
theorem rsi_eq : f_X5_readStallIndex I k r = f_X5_readNumber I k r 0 ((I (r + 3) 4) - 1) := e3_id
theorem rwi_eq : f_X5_readWishIndex I k r = f_X5_readNumber I k r 0 ((I (r + 3) 5) - 1) := e3_id
theorem rdy_eq : f_X5_readDayOfYear I k r = f_X5_readNumber I k r 0 ((I (r + 3) 7) - 1) := e3_id
theorem BM.uf {q a i : Nat} {x : Int32} (b : BM I q) (h : i ≠ 6 ∧ i ≠ 7) : BM (u2 I a i x) q := ⟨fun j hj => by rw [u2_k (Ne.symm h.1), u2_k (Ne.symm h.2)]; exact b.1 j hj, fun j hj => by rw [u2_k (Ne.symm h.1), u2_k (Ne.symm h.2)]; exact b.2 j hj⟩
theorem PG.pu (G : PG N np ns nw D) (b1 : np ≤ 6) (b3 : nw ≤ 16) {j : Nat} {x : Int32} (hj : ¬ fxI j) (hp : ∀ p, p < 6 → j ≠ 11 + 14 * p) (hs : ∀ s, s < 5 → j ≠ 95 + 4 * s + 1) (b2 : ns ≤ 5) (h6 : j ≠ 6 ∧ j ≠ 10 ∧ j < 115) : PG (upd N j x) np ns nw D := by
  obtain ⟨h1, ⟨d, h2, h3⟩, h4, hX⟩ := G
  have e1 : j ≠ 1 := fun e => hj (by rw [e]; exact Or.inl (by decide))
  exact ⟨h1.ag (fun i hi _ => (Ag.u hj) i hi) b1 b3, ⟨d, (upd_n (Ne.symm e1)).trans h2, h3⟩, h4.up (fun p h => hp p (by omega)) (fun s h => hs s (by omega)), hX.up h6⟩
theorem PG.mk (G : PG N np ns nw D) (b1 : np ≤ 6) (b3 : nw ≤ 16) (A : Ag N N') (c : CC N' np ns nw) : PG N' np ns nw D := by
  obtain ⟨h1, ⟨d, h2, h3⟩, -⟩ := G
  exact ⟨h1.ag (fun i hi _ => A i hi) b1 b3, ⟨d, (A 1 (Or.inl (by decide))).trans h2, h3⟩, c⟩
theorem it_set {i j : Nat} {hi : Int32} (h : Ld I J r m B n p) (hk : tK B n p = 1) (P : PM I J r m N np ns nw D) (hj : (i = 8 ∧ j = 5) ∨ (i = 9 ∧ j = 6 ∧ hi = nI 50) ∨ (i = 10 ∧ j = 8)) : Out I J r m B n p (e3 (f_X5_readNumber I k r 0 hi) (fun E I28 k29 => some (.error E, I28, k29)) fun v27 I28 k29 => b1 (pu I28 (r + 3) i v27) fun I31 => some (Except.ok (0 : Int32), I31, k29)) (f_Y_readsSetting J m (nI j) hi) := by
  obtain ⟨⟨R, Bm⟩, hN, G, ⟨d1, d2⟩, d3⟩ := P
  have b1' := R.f.p.2
  have b2' := R.f.s.2
  have b3' := R.f.w.2
  obtain ⟨J1, a1, a2, a3⟩ := h.goes
  rcases rdn_step (k := k) (lo := 0) (hi := hi) a2 with ⟨v, I2, J2, h1, ⟨h2, h3, h4, h5⟩, ⟨v0, v1, v2⟩, h6⟩ | ⟨c, I2, J2, k2, k7, h2, h3, h4, h5, h6⟩
  · have hN2 : J2 (m + 1) = N := (h4.1 _ (by omega)).trans ((a3.1 _ (by omega)).trans hN)
    refine Out.go (v := (0 : Int32)) (I1 := u2 I2 (r + 3) i (nI v)) (J1 := sM J2 m (upd N j (nI v))) (N := upd N j (nI v)) (D := D) (k := 2) ?_ ?_ (by decide) ((h2.cl (u2_a (by omega)) (u2_a (by omega))).sm) ((fs_1 hk).trans h5) ⟨⟨(R.it h3).hu (by omega), (Bm.it h3).uh⟩, sM_s, G.hu b1' b2' b3' (by omega) (fun e => ?_) (fun e => by omega), ⟨?_, ?_⟩, d3⟩ ((Cq.refl.it h3).u (by omega)) ((Jq.refl.jt a3).jt h4).sm
    · rw [h1, e3_ok, pu_so, b1_so]
    · unfold f_Y_readsSetting
      rw [a1, b1_so, h6, b2_so, if_pos h2.2.2.1.1, ix_n (by omega) (by decide), b1_so, pu_so, b1_so, u2_sM hN2]
    · have e9 : hi = nI 50 := by
        rcases hj with z | z | z
        · omega
        · exact z.2.2
        · omega
      rw [e9] at v2
      exact ⟨v, rfl, rng_n v0 (by decide) v2⟩
    · rw [u2_a (by omega), h3 r (by omega)]; exact d1
    · rw [sM_n (by omega), h4.2 18 (by decide), a3.2 18 (by decide)]; exact d2
  · refine Out.er (by rw [h2, e3_er]) k7 h3 Cq.refl Bm ?_ h5 ((Jq.refl.jt a3).jf h6)
    unfold f_Y_readsSetting
    rw [a1, b1_so, h4, b2_so, if_neg h5.n0]
theorem it_tax (h : Ld I J r m B n p) (hk : tK B n p = 1) (P : PM I J r m N np ns nw D) : Out I J r m B n p (f_X5_readTax I k r) (f_Y_readsTax J m) := by
  obtain ⟨⟨R, Bm⟩, hN, G, ⟨d1, d2⟩, d3⟩ := P
  have b1' := R.f.p.2
  have b2' := R.f.s.2
  have b3' := R.f.w.2
  obtain ⟨J1, a1, a2, a3⟩ := h.goes
  have hN1 : J1 (m + 1) = N := (a3.1 _ (by omega)).trans hN
  rcases rdn_step (k := k) (lo := 0) (hi := N 0 - 1) a2 with ⟨v, I2, J2, h1, ⟨h2, h3, h4, h5⟩, ⟨v0, v1, v2⟩, h6⟩ | ⟨c, I2, J2, k2, k7, h2, h3, h4, h5, h6⟩
  · have hN2 : J2 (m + 1) = N := (h4.1 _ (by omega)).trans hN1
    rcases rdn_step (k := 2) (lo := 0) (hi := 50) h2 with ⟨u, I3, J3, g1, ⟨g2, g3, g4, g5⟩, ⟨u0, u1, u2'⟩, g6⟩ | ⟨c, I3, J3, k2, k7, g2, g3, g4, g5, g6⟩
    · have hN3 : J3 (m + 1) = N := (g4.1 _ (by omega)).trans hN2
      refine Out.go (v := ()) (I1 := u2 (u2 I3 (r + 3) 12 (nI u)) (r + 3) 11 (nI v)) (J1 := sM J3 m (upd (upd N 9 (nI v)) 10 (nI u))) (N := upd (upd N 9 (nI v)) 10 (nI u)) (D := D) (k := 2) ?_ ?_ (by decide) ((g2.cl (by rw [u2_a (by omega), u2_a (by omega)]) (by rw [u2_a (by omega), u2_a (by omega)])).sm) (((fs_1 hk).trans h5).trans g5) ⟨⟨?_, ((Bm.it (h3.trans g3)).uh).uh⟩, sM_s, (G.hu b1' b2' b3' (j := 9) (by omega) (fun e => by omega) (fun e => by omega)).hu b1' b2' b3' (by omega) (fun e => by omega) (fun e => ⟨u, rfl, rng_n u0 (by decide) u2'⟩), ⟨?_, ?_⟩, d3⟩ (((Cq.refl.it (h3.trans g3)).u (by omega)).u (by omega)) (((Jq.refl.jt a3).jt h4).jt g4).sm
      · unfold f_X5_readTax
        rw [rdy_eq, R.h7, h1, e3_ok, g1, e3_ok, pu_so, b1_so, pu_so, b1_so]
      · unfold f_Y_readsTax
        rw [a1, b1_so, ix0, b1_so, hN1, h6, b2_so, g6, b2_so, if_pos (by rw [g2.2.2.1.1]; decide), show ix 9 355 = some 9 from ix_n (j := 9) (by decide) (by decide), b1_so, pu_so, b1_so, show ix 10 355 = some 10 from ix_n (j := 10) (by decide) (by decide), b1_so, pu_so, b1_so, u2_sM hN3, u2_sM sM_s, sM_sM]
      · have e : u2 (u2 I3 (r + 3) 12 (nI u)) (r + 3) 11 (nI v) = u2 (u2 I3 (r + 3) 11 (nI v)) (r + 3) 12 (nI u) := by
          funext b j
          unfold u2
          by_cases hb : b = r + 3 <;> by_cases h1 : j = 11 <;> by_cases h2 : j = 12 <;> simp [hb, h1, h2]
        rw [e]
        exact ((R.it (h3.trans g3)).hu (i := 11) (j := 9) (by omega)).hu (by omega)
      · rw [u2_a (by omega), u2_a (by omega), (h3.trans g3) r (by omega)]; exact d1
      · rw [sM_n (by omega), g4.2 18 (by decide), h4.2 18 (by decide), a3.2 18 (by decide)]; exact d2
    · refine Out.er (I1 := I2) ?_ k7 g3 (Cq.refl.it h3) (Bm.it h3) ?_ g5 (((Jq.refl.jt a3).jt h4).jf g6)
      · unfold f_X5_readTax
        rw [rdy_eq, R.h7, h1, e3_ok, g2, e3_er]
      · unfold f_Y_readsTax
        rw [a1, b1_so, ix0, b1_so, hN1, h6, b2_so, g4, b2_so, if_neg g5.l0]
  · refine Out.er ?_ k7 h3 Cq.refl Bm ?_ h5 ((Jq.refl.jt a3).jf h6)
    · unfold f_X5_readTax
      rw [rdy_eq, R.h7, h2, e3_er]
    · unfold f_Y_readsTax
      rw [a1, b1_so, ix0, b1_so, hN1, h4, b2_so, fs_rdn h5, b2_so, if_neg h5.l0]
theorem here_p (hN : J (m + 1) = N) (H : WF N np ns nw) : f_Y_personHere J m = f_Y_numberHere J m 0 (nI np - 1) := by
  unfold f_Y_personHere
  rw [ix2, b1_so, hN, H.p.1]
  cases f_Y_numberHere J m 0 (nI np - 1) with
  | none => rfl
  | some x => rfl
theorem here_s (hN : J (m + 1) = N) (H : WF N np ns nw) : f_Y_stallHere J m = f_Y_numberHere J m 0 (nI ns - 1) := by
  unfold f_Y_stallHere
  rw [ix3, b1_so, hN, H.s.1]
  cases f_Y_numberHere J m 0 (nI ns - 1) with
  | none => rfl
  | some x => rfl
theorem here_w (hN : J (m + 1) = N) (H : WF N np ns nw) : f_Y_wishHere J m = f_Y_numberHere J m 0 (nI nw - 1) := by
  unfold f_Y_wishHere
  rw [ix4, b1_so, hN, H.w.1]
  cases f_Y_numberHere J m 0 (nI nw - 1) with
  | none => rfl
  | some x => rfl
theorem it_Limit (h : Ld I J r m B n p) (hk : tK B n p = 1) (P : PM I J r m N np ns nw D) : Out I J r m B n p (f_X5_readLimit I k r) (f_Y_readsLimit J m) := by
  obtain ⟨⟨R, Bm⟩, hN, G, ⟨d1, d2⟩, d3⟩ := P
  have b1' := R.f.p.2
  have b2' := R.f.s.2
  have b3' := R.f.w.2
  obtain ⟨J1, a1, a2, a3⟩ := h.goes
  have hN1 : J1 (m + 1) = N := (a3.1 _ (by omega)).trans hN
  have hh := here_p hN1 R.f
  rcases num_step (k := k) (lo := 0) (hi := nI np - 1) a2 with ⟨v, I2, h1, ⟨h2, h3, h5⟩, ⟨v0, v1, v2⟩, h6⟩ | ⟨c, I2, J2, k2, k7, h2, h3, h4, h5, h6⟩
  · rw [h6] at hh
    have hv := idx_lt (by omega) v0 v2
    obtain ⟨J2, c1, c2, c3⟩ := h2.goes
    have hN2 : J2 (m + 1) = N := (c3.1 _ (by omega)).trans hN1
    rcases rdn_step (k := 2) (lo := 0) (hi := 200) c2 with ⟨u, I3, J3, g1, ⟨g2, g3, g4, g5⟩, ⟨u0, u1, u2'⟩, g6⟩ | ⟨c, I3, J3, k2, k7, g2, g3, g4, g5, g6⟩
    · have hN3 : J3 (m + 1) = N := (g4.1 _ (by omega)).trans hN2
      have hr := r_putsPerson (I := J3) (m := m) (N := N) (w := v) (k := 4) (x := nI u) (by omega) (by decide)
      rw [sM_e hN3] at hr
      refine Out.go (v := ()) (I1 := u2 I3 (r + 3 + 4 + v) 5 (nI u)) (J1 := sM J3 m (upd N (11 + 14 * v + 4) (nI u))) (N := upd N (11 + 14 * v + 4) (nI u)) (D := D) (k := 2) ?_ ?_ (by decide) ((g2.cl (u2_a (by omega)) (u2_a (by omega))).sm) (((fs_1 hk).trans h5).trans g5) ⟨⟨((R.it (h3.trans g3)).pu (k := 4) hv (by decide)), (Bm.it (h3.trans g3)).uf (by decide)⟩, sM_s, G.pu b1' b3' (nfx_p (by omega) (Or.inr (by decide))) (fun p hp => by omega) (fun s hs => by omega) b2' (by omega), ⟨?_, ?_⟩, d3⟩ ((Cq.refl.it (h3.trans g3)).u (by omega)) (((Jq.refl.jt a3).jt c3).jt g4).sm
      · unfold f_X5_readLimit
        rw [rpi_eq, R.h3, h1, e3_ok, ixn6 (by omega), b1_so, g1, e3_ok, pu_so, b1_so]
      · unfold f_Y_readsLimit
        rw [a1, b1_so, hh, b2_so, c1, b1_so, g6, b2_so, if_pos g2.2.2.1.1, show (4 : Int32) = nI 4 from rfl, hr, b1_so]
      · rw [u2_a (by omega), (h3.trans g3) r (by omega)]; exact d1
      · rw [sM_n (by omega), g4.2 18 (by decide), c3.2 18 (by decide), a3.2 18 (by decide)]; exact d2
    · refine Out.er (I1 := I2) ?_ k7 g3 (Cq.refl.it h3) (Bm.it h3) ?_ g5 (((Jq.refl.jt a3).jt c3).jf g6)
      · unfold f_X5_readLimit
        rw [rpi_eq, R.h3, h1, e3_ok, ixn6 (by omega), b1_so, g2, e3_er]
      · unfold f_Y_readsLimit
        rw [a1, b1_so, hh, b2_so, c1, b1_so, g4, b2_so, if_neg g5.n0]
  · rw [h4] at hh
    refine Out.er ?_ k7 h3 Cq.refl Bm ?_ h5 ((Jq.refl.jt a3).jf h6)
    · unfold f_X5_readLimit
      rw [rpi_eq, R.h3, h2, e3_er]
    · unfold f_Y_readsLimit
      rw [a1, b1_so, hh, b2_so, fs_goes h5, b1_so, fs_rdn h5, b2_so, if_neg h5.n0]
theorem it_Sale (h : Ld I J r m B n p) (hk : tK B n p = 1) (P : PM I J r m N np ns nw D) : Out I J r m B n p (f_X5_readSale I k r) (f_Y_readsSale J m) := by
  obtain ⟨⟨R, Bm⟩, hN, G, ⟨d1, d2⟩, d3⟩ := P
  have b1' := R.f.p.2
  have b2' := R.f.s.2
  have b3' := R.f.w.2
  obtain ⟨J1, a1, a2, a3⟩ := h.goes
  have hN1 : J1 (m + 1) = N := (a3.1 _ (by omega)).trans hN
  have hh := here_s hN1 R.f
  rcases num_step (k := k) (lo := 0) (hi := nI ns - 1) a2 with ⟨v, I2, h1, ⟨h2, h3, h5⟩, ⟨v0, v1, v2⟩, h6⟩ | ⟨c, I2, J2, k2, k7, h2, h3, h4, h5, h6⟩
  · rw [h6] at hh
    have hv := idx_lt (by omega) v0 v2
    obtain ⟨J2, c1, c2, c3⟩ := h2.goes
    have hN2 : J2 (m + 1) = N := (c3.1 _ (by omega)).trans hN1
    rcases rdn_step (k := 2) (lo := 0) (hi := 100) c2 with ⟨u, I3, J3, g1, ⟨g2, g3, g4, g5⟩, ⟨u0, u1, u2'⟩, g6⟩ | ⟨c, I3, J3, k2, k7, g2, g3, g4, g5, g6⟩
    · have hN3 : J3 (m + 1) = N := (g4.1 _ (by omega)).trans hN2
      have hr := r_putsStall (I := J3) (m := m) (N := N) (w := v) (k := 3) (x := nI u) (by omega) (by decide)
      rw [sM_e hN3] at hr
      refine Out.go (v := ()) (I1 := u2 I3 (r + 3 + 10 + v) 3 (nI u)) (J1 := sM J3 m (upd N (95 + 4 * v + 3) (nI u))) (N := upd N (95 + 4 * v + 3) (nI u)) (D := D) (k := 2) ?_ ?_ (by decide) ((g2.cl (u2_a (by omega)) (u2_a (by omega))).sm) (((fs_1 hk).trans h5).trans g5) ⟨⟨((R.it (h3.trans g3)).su (k := 3) hv (by omega) (R.f.marg (by omega) rfl (rng_n u0 (by decide) u2'))), (Bm.it (h3.trans g3)).uf (by decide)⟩, sM_s, G.pu b1' b3' (nfx_s (by omega) (by decide)) (fun p hp => by omega) (fun s hs => by omega) b2' (by omega), ⟨?_, ?_⟩, d3⟩ ((Cq.refl.it (h3.trans g3)).u (by omega)) (((Jq.refl.jt a3).jt c3).jt g4).sm
      · unfold f_X5_readSale
        rw [rsi_eq, R.h4, h1, e3_ok, ixn5 (by omega), b1_so, g1, e3_ok, pu_so, b1_so]
      · unfold f_Y_readsSale
        rw [a1, b1_so, hh, b2_so, c1, b1_so, g6, b2_so, if_pos g2.2.2.1.1, show (3 : Int32) = nI 3 from rfl, hr, b1_so]
      · rw [u2_a (by omega), (h3.trans g3) r (by omega)]; exact d1
      · rw [sM_n (by omega), g4.2 18 (by decide), c3.2 18 (by decide), a3.2 18 (by decide)]; exact d2
    · refine Out.er (I1 := I2) ?_ k7 g3 (Cq.refl.it h3) (Bm.it h3) ?_ g5 (((Jq.refl.jt a3).jt c3).jf g6)
      · unfold f_X5_readSale
        rw [rsi_eq, R.h4, h1, e3_ok, ixn5 (by omega), b1_so, g2, e3_er]
      · unfold f_Y_readsSale
        rw [a1, b1_so, hh, b2_so, c1, b1_so, g4, b2_so, if_neg g5.n0]
  · rw [h4] at hh
    refine Out.er ?_ k7 h3 Cq.refl Bm ?_ h5 ((Jq.refl.jt a3).jf h6)
    · unfold f_X5_readSale
      rw [rsi_eq, R.h4, h2, e3_er]
    · unfold f_Y_readsSale
      rw [a1, b1_so, hh, b2_so, fs_goes h5, b1_so, fs_rdn h5, b2_so, if_neg h5.n0]
theorem it_Buy (h : Ld I J r m B n p) (hk : tK B n p = 1) (P : PM I J r m N np ns nw D) : Out I J r m B n p (f_X5_readBuy I k r) (f_Y_readsBuy J m) := by
  obtain ⟨⟨R, Bm⟩, hN, G, ⟨d1, d2⟩, d3⟩ := P
  have b1' := R.f.p.2
  have b2' := R.f.s.2
  have b3' := R.f.w.2
  obtain ⟨J1, a1, a2, a3⟩ := h.goes
  have hN1 : J1 (m + 1) = N := (a3.1 _ (by omega)).trans hN
  have hh := here_p hN1 R.f
  rcases num_step (k := k) (lo := 0) (hi := nI np - 1) a2 with ⟨v, I2, h1, ⟨h2, h3, h5⟩, ⟨v0, v1, v2⟩, h6⟩ | ⟨c, I2, J2, k2, k7, h2, h3, h4, h5, h6⟩
  · rw [h6] at hh
    have hv := idx_lt (by omega) v0 v2
    obtain ⟨J2, c1, c2, c3⟩ := h2.goes
    have hN2 : J2 (m + 1) = N := (c3.1 _ (by omega)).trans hN1
    have hh2 := here_w hN2 R.f
    have R2' : RM I2 (r + 3) N np ns nw := R.it h3
    rcases num_step (k := 2) (lo := 0) (hi := nI nw - 1) c2 with ⟨u, I3, g1, ⟨g2, g3, g5⟩, ⟨u0, u1, u2'⟩, g6⟩ | ⟨c, I3, J3, k2, k7, g2, g3, g4, g5, g6⟩
    · rw [g6] at hh2
      have hu := idx_lt (by omega) u0 u2'
      have S2 : It I I3 r := h3.trans g3
      have R2 : RM I3 (r + 3) N np ns nw := R.it S2
      have hL := g2
      have hw := r_whyBuy (I := J2) (m := m) R.f (p := v) (by omega) hu
      rw [sM_e hN2] at hw
      by_cases hz : sWhyBuy N nw v u = 0
      · obtain ⟨I4, q1, q2, q3⟩ := h_buys R2 hv hu hz
        have hr := r_buys (I := J2) (m := m) R.f hu (whyBuy0 hz) (p := v) (by omega)
        rw [sM_e hN2] at hr
        have L4 : Ld I4 (sM J2 m (sBuy N v u)) r m B n _ := (hL.cl (q3 _ (by omega)) (q3 _ (by omega))).sm
        obtain ⟨J4, z1, z2, z3⟩ := L4.goes
        refine Out.go (v := ()) (I1 := I4) (J1 := J4) (N := sBuy N v u) (D := D) (k := 2) ?_ ?_ (by decide) z2 (((fs_1 hk).trans h5).trans g5) ⟨⟨q2, (Bm.it S2).keep q2 q3⟩, by rw [z3.1 _ (by omega)]; exact sM_s, G.mk b1' b3' (a_buy R.f hu (whyBuy0 hz) hv) (CC.buy R.f G.2.2 hv hu hz), ⟨?_, ?_⟩, d3⟩ ((Cq.refl.it S2).fr q3 b3') (((Jq.refl.jt a3).jt c3).sm.jt z3)
        · unfold f_X5_readBuy
          rw [rpi_eq, R.h3, h1, e3_ok, rwi_eq, R2'.h5, g1, e3_ok, h_whyBuy R2 hv hu, b1_so, if_pos hz]
          unfold l_X5_readBuy_28
          rw [req_ok, e2_ok, q1, b2_so]
        · unfold f_Y_readsBuy
          rw [a1, b1_so, hh, b2_so, c1, b1_so, hh2, b2_so, if_pos hL.2.2.1.1, hw, b1_so, if_pos hz]
          unfold l_Y_readsBuy_39 l_Y_readsBuy_40
          rw [rf_0 hL.2.2, b1_so, if_pos hL.2.2.1.1, hr, b2_so]
          unfold l_Y_readsBuy_57
          rw [z1, b1_so]
        · rw [q3 r (by omega), S2 r (by omega)]; exact d1
        · rw [z3.2 18 (by decide), sM_n (by omega), c3.2 18 (by decide), a3.2 18 (by decide)]; exact d2
      · obtain ⟨I4, J4, w1, w2, w3, w4, w5⟩ := cf_step hL (c := 3) (by decide)
        refine Out.er (I1 := I3) (k := 2) ?_ (by decide) w2 (Cq.refl.it S2) (Bm.it S2) ?_ w4 (((Jq.refl.jt a3).jt c3).jf w5)
        · unfold f_X5_readBuy
          rw [rpi_eq, R.h3, h1, e3_ok, rwi_eq, R2'.h5, g1, e3_ok, h_whyBuy R2 hv hu, b1_so, if_neg hz]
          unfold l_X5_readBuy_28
          rw [show (3 : Int32) = nI 3 from rfl, w1, e2_er]
        · unfold f_Y_readsBuy
          rw [a1, b1_so, hh, b2_so, c1, b1_so, hh2, b2_so, if_pos hL.2.2.1.1, hw, b1_so, if_neg hz]
          unfold l_Y_readsBuy_40
          rw [rf_1 hL.2.2 (by decide), show (3 : Int32) = nI 3 from rfl, w3, b1_so, b1_so, if_neg w4.n0]
          unfold l_Y_readsBuy_57
          rw [fs_goes w4, b1_so]
    · rw [g4] at hh2
      refine Out.er (I1 := I2) ?_ k7 g3 (Cq.refl.it h3) (Bm.it h3) ?_ g5 (((Jq.refl.jt a3).jt c3).jf g6)
      · unfold f_X5_readBuy
        rw [rpi_eq, R.h3, h1, e3_ok, rwi_eq, R2'.h5, g2, e3_er]
      · unfold f_Y_readsBuy
        rw [a1, b1_so, hh, b2_so, c1, b1_so, hh2, b2_so, if_neg g5.n0]
        unfold l_Y_readsBuy_39 l_Y_readsBuy_40
        rw [fs_ref g5, b1_so, if_neg g5.n0]
        unfold l_Y_readsBuy_57
        rw [fs_goes g5, b1_so]
  · rw [h4] at hh
    refine Out.er ?_ k7 h3 Cq.refl Bm ?_ h5 ((Jq.refl.jt a3).jf h6)
    · unfold f_X5_readBuy
      rw [rpi_eq, R.h3, h2, e3_er]
    · unfold f_Y_readsBuy
      rw [a1, b1_so, hh, b2_so, fs_goes h5, b1_so, fs_wish h5, b2_so, if_neg h5.n0]
      unfold l_Y_readsBuy_39 l_Y_readsBuy_40
      rw [fs_ref h5, b1_so, if_neg h5.n0]
      unfold l_Y_readsBuy_57
      rw [fs_goes h5, b1_so]
theorem it_Sell (h : Ld I J r m B n p) (hk : tK B n p = 1) (P : PM I J r m N np ns nw D) : Out I J r m B n p (f_X5_readSell I k r) (f_Y_readsSell J m) := by
  obtain ⟨⟨R, Bm⟩, hN, G, ⟨d1, d2⟩, d3⟩ := P
  have b1' := R.f.p.2
  have b2' := R.f.s.2
  have b3' := R.f.w.2
  obtain ⟨J1, a1, a2, a3⟩ := h.goes
  have hN1 : J1 (m + 1) = N := (a3.1 _ (by omega)).trans hN
  have hh := here_w hN1 R.f
  rcases num_step (k := k) (lo := 0) (hi := nI nw - 1) a2 with ⟨v, I2, h1, ⟨h2, h3, h5⟩, ⟨v0, v1, v2⟩, h6⟩ | ⟨c, I2, J2, k2, k7, h2, h3, h4, h5, h6⟩
  · rw [h6] at hh
    have hv := idx_lt (by omega) v0 v2
    obtain ⟨J2, c1, c2, c3⟩ := h2.goes
    have hN2 : J2 (m + 1) = N := (c3.1 _ (by omega)).trans hN1
    have hh2 := here_s hN2 R.f
    have R2' : RM I2 (r + 3) N np ns nw := R.it h3
    rcases num_step (k := 2) (lo := 0) (hi := nI ns - 1) c2 with ⟨u, I3, g1, ⟨g2, g3, g5⟩, ⟨u0, u1, u2'⟩, g6⟩ | ⟨c, I3, J3, k2, k7, g2, g3, g4, g5, g6⟩
    · rw [g6] at hh2
      have hu := idx_lt (by omega) u0 u2'
      have S2 : It I I3 r := h3.trans g3
      have R2 : RM I3 (r + 3) N np ns nw := R.it S2
      have hL := g2
      have hw := r_whySell (I := J2) (m := m) R.f (s := u) (by omega) hv
      rw [sM_e hN2] at hw
      by_cases hz : sWhySell N nw v u = 0
      · obtain ⟨I4, q1, q2, q3⟩ := h_sells R2 hv hu hz
        have hr := r_sells (I := J2) (m := m) R.f hv (whySell1 hz) (s := u) (by omega)
        rw [sM_e hN2] at hr
        have L4 : Ld I4 (sM J2 m (sSell N v u)) r m B n _ := (hL.cl (q3 _ (by omega)) (q3 _ (by omega))).sm
        obtain ⟨J4, z1, z2, z3⟩ := L4.goes
        refine Out.go (v := ()) (I1 := I4) (J1 := J4) (N := sSell N v u) (D := D) (k := 2) ?_ ?_ (by decide) z2 (((fs_1 hk).trans h5).trans g5) ⟨⟨q2, (Bm.it S2).keep q2 q3⟩, by rw [z3.1 _ (by omega)]; exact sM_s, G.mk b1' b3' (a_sell R.f hv (whySell1 hz) hu) (CC.sell R.f G.2.2 hu hv (whySell1 hz) (whySellC hz)), ⟨?_, ?_⟩, d3⟩ ((Cq.refl.it S2).fr q3 b3') (((Jq.refl.jt a3).jt c3).sm.jt z3)
        · unfold f_X5_readSell
          rw [rwi_eq, R.h5, h1, e3_ok, rsi_eq, R2'.h4, g1, e3_ok, h_whySell R2 hu hv, b1_so, if_pos hz]
          unfold l_X5_readSell_28
          rw [req_ok, e2_ok, q1, b2_so]
        · unfold f_Y_readsSell
          rw [a1, b1_so, hh, b2_so, c1, b1_so, hh2, b2_so, if_pos hL.2.2.1.1, hw, b1_so, if_pos hz]
          unfold l_Y_readsSell_39 l_Y_readsSell_40
          rw [rf_0 hL.2.2, b1_so, if_pos hL.2.2.1.1, hr, b2_so]
          unfold l_Y_readsSell_57
          rw [z1, b1_so]
        · rw [q3 r (by omega), S2 r (by omega)]; exact d1
        · rw [z3.2 18 (by decide), sM_n (by omega), c3.2 18 (by decide), a3.2 18 (by decide)]; exact d2
      · obtain ⟨I4, J4, w1, w2, w3, w4, w5⟩ := cf_step hL (c := 3) (by decide)
        refine Out.er (I1 := I3) (k := 2) ?_ (by decide) w2 (Cq.refl.it S2) (Bm.it S2) ?_ w4 (((Jq.refl.jt a3).jt c3).jf w5)
        · unfold f_X5_readSell
          rw [rwi_eq, R.h5, h1, e3_ok, rsi_eq, R2'.h4, g1, e3_ok, h_whySell R2 hu hv, b1_so, if_neg hz]
          unfold l_X5_readSell_28
          rw [show (3 : Int32) = nI 3 from rfl, w1, e2_er]
        · unfold f_Y_readsSell
          rw [a1, b1_so, hh, b2_so, c1, b1_so, hh2, b2_so, if_pos hL.2.2.1.1, hw, b1_so, if_neg hz]
          unfold l_Y_readsSell_40
          rw [rf_1 hL.2.2 (by decide), show (3 : Int32) = nI 3 from rfl, w3, b1_so, b1_so, if_neg w4.n0]
          unfold l_Y_readsSell_57
          rw [fs_goes w4, b1_so]
    · rw [g4] at hh2
      refine Out.er (I1 := I2) ?_ k7 g3 (Cq.refl.it h3) (Bm.it h3) ?_ g5 (((Jq.refl.jt a3).jt c3).jf g6)
      · unfold f_X5_readSell
        rw [rwi_eq, R.h5, h1, e3_ok, rsi_eq, R2'.h4, g2, e3_er]
      · unfold f_Y_readsSell
        rw [a1, b1_so, hh, b2_so, c1, b1_so, hh2, b2_so, if_neg g5.n0]
        unfold l_Y_readsSell_39 l_Y_readsSell_40
        rw [fs_ref g5, b1_so, if_neg g5.n0]
        unfold l_Y_readsSell_57
        rw [fs_goes g5, b1_so]
  · rw [h4] at hh
    refine Out.er ?_ k7 h3 Cq.refl Bm ?_ h5 ((Jq.refl.jt a3).jf h6)
    · unfold f_X5_readSell
      rw [rwi_eq, R.h5, h2, e3_er]
    · unfold f_Y_readsSell
      rw [a1, b1_so, hh, b2_so, fs_goes h5, b1_so, fs_stall h5, b2_so, if_neg h5.n0]
      unfold l_Y_readsSell_39 l_Y_readsSell_40
      rw [fs_ref h5, b1_so, if_neg h5.n0]
      unfold l_Y_readsSell_57
      rw [fs_goes h5, b1_so]
theorem it_Return (h : Ld I J r m B n p) (hk : tK B n p = 1) (P : PM I J r m N np ns nw D) : Out I J r m B n p (f_X5_readReturn I k r) (f_Y_readsReturn J m) := by
  obtain ⟨⟨R, Bm⟩, hN, G, ⟨d1, d2⟩, d3⟩ := P
  have b1' := R.f.p.2
  have b2' := R.f.s.2
  have b3' := R.f.w.2
  obtain ⟨J1, a1, a2, a3⟩ := h.goes
  have hN1 : J1 (m + 1) = N := (a3.1 _ (by omega)).trans hN
  have hh := here_w hN1 R.f
  rcases num_step (k := k) (lo := 0) (hi := nI nw - 1) a2 with ⟨v, I2, h1, ⟨h2, h3, h5⟩, ⟨v0, v1, v2⟩, h6⟩ | ⟨c, I2, J2, k2, k7, h2, h3, h4, h5, h6⟩
  · rw [h6] at hh
    have hv := idx_lt (by omega) v0 v2
    have S2 : It I I2 r := h3
    have R2 : RM I2 (r + 3) N np ns nw := R.it S2
    have hL := h2
    have hw := r_whyRet (I := J1) (m := m) R.f hv
    rw [sM_e hN1] at hw
    by_cases hz : sWhyRet N nw v = 0
    · obtain ⟨I4, q1, q2, q3⟩ := h_returns R2 hv hz
      have hr := r_returns (I := J1) (m := m) R.f hv (whyRet1 hz).1 (whyRet1 hz).2.1
      rw [sM_e hN1] at hr
      have L4 : Ld I4 (sM J1 m (sRet N v)) r m B n _ := (hL.cl (q3 _ (by omega)) (q3 _ (by omega))).sm
      obtain ⟨J4, z1, z2, z3⟩ := L4.goes
      refine Out.go (v := ()) (I1 := I4) (J1 := J4) (N := sRet N v) (D := D) (k := 2) ?_ ?_ (by decide) z2 ((fs_1 hk).trans h5) ⟨⟨q2, (Bm.it S2).keep q2 q3⟩, by rw [z3.1 _ (by omega)]; exact sM_s, G.mk b1' b3' (a_ret R.f hv hz) (CC.ret R.f G.2.2 hv hz), ⟨?_, ?_⟩, d3⟩ ((Cq.refl.it S2).fr q3 b3') ((Jq.refl.jt a3).sm.jt z3)
      · unfold f_X5_readReturn
        rw [rwi_eq, R.h5, h1, e3_ok, h_whyRet R2 hv, b1_so, if_pos hz]
        unfold l_X5_readReturn_22
        rw [req_ok, e2_ok, q1, b2_so]
      · unfold f_Y_readsReturn
        rw [a1, b1_so, hh, b2_so, if_pos hL.2.2.1.1, hw, b1_so, if_pos hz]
        unfold l_Y_readsReturn_29 l_Y_readsReturn_30
        rw [rf_0 hL.2.2, b1_so, if_pos hL.2.2.1.1, hr, b2_so]
        unfold l_Y_readsReturn_46
        rw [z1, b1_so]
      · rw [q3 r (by omega), S2 r (by omega)]; exact d1
      · rw [z3.2 18 (by decide), sM_n (by omega), a3.2 18 (by decide)]; exact d2
    · obtain ⟨I4, J4, w1, w2, w3, w4, w5⟩ := cf_step hL (c := 3) (by decide)
      refine Out.er (I1 := I2) (k := 2) ?_ (by decide) w2 (Cq.refl.it S2) (Bm.it S2) ?_ w4 ((Jq.refl.jt a3).jf w5)
      · unfold f_X5_readReturn
        rw [rwi_eq, R.h5, h1, e3_ok, h_whyRet R2 hv, b1_so, if_neg hz]
        unfold l_X5_readReturn_22
        rw [show (3 : Int32) = nI 3 from rfl, w1, e2_er]
      · unfold f_Y_readsReturn
        rw [a1, b1_so, hh, b2_so, if_pos hL.2.2.1.1, hw, b1_so, if_neg hz]
        unfold l_Y_readsReturn_30
        rw [rf_1 hL.2.2 (by decide), show (3 : Int32) = nI 3 from rfl, w3, b1_so, b1_so, if_neg w4.n0]
        unfold l_Y_readsReturn_46
        rw [fs_goes w4, b1_so]
  · rw [h4] at hh
    refine Out.er ?_ k7 h3 Cq.refl Bm ?_ h5 ((Jq.refl.jt a3).jf h6)
    · unfold f_X5_readReturn
      rw [rwi_eq, R.h5, h2, e3_er]
    · unfold f_Y_readsReturn
      rw [a1, b1_so, hh, b2_so, if_neg h5.n0]
      unfold l_Y_readsReturn_29 l_Y_readsReturn_30
      rw [fs_ref h5, b1_so, if_neg h5.n0]
      unfold l_Y_readsReturn_46
      rw [fs_goes h5, b1_so]
theorem it_Grant (h : Ld I J r m B n p) (hk : tK B n p = 1) (P : PM I J r m N np ns nw D) : Out I J r m B n p (f_X5_readGrant I k r) (f_Y_readsGrant J m) := by
  obtain ⟨⟨R, Bm⟩, hN, G, ⟨d1, d2⟩, d3⟩ := P
  have b1' := R.f.p.2
  have b2' := R.f.s.2
  have b3' := R.f.w.2
  obtain ⟨J1, a1, a2, a3⟩ := h.goes
  have hN1 : J1 (m + 1) = N := (a3.1 _ (by omega)).trans hN
  have hh := here_w hN1 R.f
  rcases num_step (k := k) (lo := 0) (hi := nI nw - 1) a2 with ⟨v, I2, h1, ⟨h2, h3, h5⟩, ⟨v0, v1, v2⟩, h6⟩ | ⟨c, I2, J2, k2, k7, h2, h3, h4, h5, h6⟩
  · rw [h6] at hh
    have hv := idx_lt (by omega) v0 v2
    have S2 : It I I2 r := h3
    have R2 : RM I2 (r + 3) N np ns nw := R.it S2
    have hL := h2
    have hw := r_whyGr (I := J1) (m := m) R.f hv
    rw [sM_e hN1] at hw
    by_cases hz : sWhyGr N v = 0
    · obtain ⟨I4, q1, q2, q3⟩ := h_grants R2 hv (whyGr1 hz)
      have hr := r_grants (I := J1) (m := m) R.f hv (whyGr1 hz)
      rw [sM_e hN1] at hr
      have L4 : Ld I4 (sM J1 m (sGr N v)) r m B n _ := (hL.cl (q3 _ (by omega)) (q3 _ (by omega))).sm
      obtain ⟨J4, z1, z2, z3⟩ := L4.goes
      refine Out.go (v := ()) (I1 := I4) (J1 := J4) (N := sGr N v) (D := D) (k := 2) ?_ ?_ (by decide) z2 ((fs_1 hk).trans h5) ⟨⟨q2, (Bm.it S2).keep q2 q3⟩, by rw [z3.1 _ (by omega)]; exact sM_s, G.mk b1' b3' (a_gr R.f hv (whyGr1 hz)) (CC.gr R.f G.2.2 hv (whyGr1 hz)), ⟨?_, ?_⟩, d3⟩ ((Cq.refl.it S2).fr q3 b3') ((Jq.refl.jt a3).sm.jt z3)
      · unfold f_X5_readGrant
        rw [rwi_eq, R.h5, h1, e3_ok, h_whyGr R2 hv, b1_so, if_pos hz]
        unfold l_X5_readGrant_22
        rw [req_ok, e2_ok, q1, b2_so]
      · unfold f_Y_readsGrant
        rw [a1, b1_so, hh, b2_so, if_pos hL.2.2.1.1, hw, b1_so, if_pos hz]
        unfold l_Y_readsGrant_29 l_Y_readsGrant_30
        rw [rf_0 hL.2.2, b1_so, if_pos hL.2.2.1.1, hr, b2_so]
        unfold l_Y_readsGrant_46
        rw [z1, b1_so]
      · rw [q3 r (by omega), S2 r (by omega)]; exact d1
      · rw [z3.2 18 (by decide), sM_n (by omega), a3.2 18 (by decide)]; exact d2
    · obtain ⟨I4, J4, w1, w2, w3, w4, w5⟩ := cf_step hL (c := 3) (by decide)
      refine Out.er (I1 := I2) (k := 2) ?_ (by decide) w2 (Cq.refl.it S2) (Bm.it S2) ?_ w4 ((Jq.refl.jt a3).jf w5)
      · unfold f_X5_readGrant
        rw [rwi_eq, R.h5, h1, e3_ok, h_whyGr R2 hv, b1_so, if_neg hz]
        unfold l_X5_readGrant_22
        rw [show (3 : Int32) = nI 3 from rfl, w1, e2_er]
      · unfold f_Y_readsGrant
        rw [a1, b1_so, hh, b2_so, if_pos hL.2.2.1.1, hw, b1_so, if_neg hz]
        unfold l_Y_readsGrant_30
        rw [rf_1 hL.2.2 (by decide), show (3 : Int32) = nI 3 from rfl, w3, b1_so, b1_so, if_neg w4.n0]
        unfold l_Y_readsGrant_46
        rw [fs_goes w4, b1_so]
  · rw [h4] at hh
    refine Out.er ?_ k7 h3 Cq.refl Bm ?_ h5 ((Jq.refl.jt a3).jf h6)
    · unfold f_X5_readGrant
      rw [rwi_eq, R.h5, h2, e3_er]
    · unfold f_Y_readsGrant
      rw [a1, b1_so, hh, b2_so, if_neg h5.n0]
      unfold l_Y_readsGrant_29 l_Y_readsGrant_30
      rw [fs_ref h5, b1_so, if_neg h5.n0]
      unfold l_Y_readsGrant_46
      rw [fs_goes h5, b1_so]
theorem PG.days (G : PG N np ns nw D) (H : WF N np ns nw) (d : Nat) : PG (sDays N np ns nw d) np ns nw (D + d) := by
  have b1 := H.p.2
  have b3 := H.w.2
  obtain ⟨h1, ⟨x, h2, h3⟩, h4⟩ := G
  have C := CC.days H h4 d
  have A := a_days H h2 d
  exact ⟨h1.ag (fun i hi h9 => (A i hi).trans (upd_n h9)) b1 b3, ⟨x + d, (A 1 (Or.inl (by decide))).trans upd_s, by omega⟩, C⟩
theorem it_Adv (h : Ld I J r m B n p) (hk : tK B n p = 1) (P : PM I J r m N np ns nw D) : Out I J r m B n p (e3 (f_X5_readDaysToSimulate I k r) (fun E I83 k84 => some (.error E, I83, k84)) fun v82 I83 k84 => b2 (f_X3_simulate I83 (r + 3) v82) fun v86 I87 => some (Except.ok (0 : Int32), I87, k84)) (f_Y_readsAdvance J m) := by
  obtain ⟨⟨R, Bm⟩, hN, G, ⟨d1, d2⟩, d3⟩ := P
  have b1' := R.f.p.2
  have b2' := R.f.s.2
  have b3' := R.f.w.2
  obtain ⟨J1, a1, a2, a3⟩ := h.goes
  have hN1 : J1 (m + 1) = N := (a3.1 _ (by omega)).trans hN
  have h18 : J1 m 18 = nI D := (a3.2 18 (by decide)).trans d2
  rcases num_step (k := k) (lo := 1) (hi := 300) a2 with ⟨v, I2, h1, ⟨h2, h3, h5⟩, ⟨v0, v1, v2⟩, h6⟩ | ⟨c, I2, J2, k2, k7, h2, h3, h4, h5, h6⟩
  · have h7 : I2 r 7 = nI D := by rw [h3 r (by omega)]; exact d1
    by_cases hz : D + v ≤ 2000
    · have R2 : RM (u2 I2 r 7 (nI (D + v))) (r + 3) N np ns nw := (R.it h3).fr fun a _ _ => u2_a (by omega)
      obtain ⟨g, I4, q1, q2, q3, -⟩ := h_simulate R2 (d := v) (by omega)
      have B2 : BM (u2 I2 r 7 (nI (D + v))) (r + 3) := (Bm.it h3).fr fun a _ _ => u2_a (by omega)
      obtain ⟨J2, c1, c2, c3⟩ := h2.goes
      have hN2 : J2 (m + 1) = N := (c3.1 _ (by omega)).trans hN1
      have h18' : J2 m 18 = nI D := (c3.2 18 (by decide)).trans h18
      have hr := (r_passesMany (I := u2 J2 m 18 (nI (D + v))) (m := m) R.f (d := v) (by omega)).1
      rw [sM_e (show (u2 J2 m 18 (nI (D + v))) (m + 1) = N by rw [u2_a (by omega)]; exact hN2)] at hr
      refine Or.inl ⟨(0 : Int32), I4, sM (u2 J2 m 18 (nI (D + v))) m (sDays N np ns nw v), 2, _, sDays N np ns nw v, np, ns, nw, D + v, ⟨?_, ?_, by decide⟩, ⟨((c2.cl (I1 := I4) ?_ ?_).rf (J1 := u2 J2 m 18 (nI (D + v))) (fun j h1 h2 => u2_k (by omega)) (u2_a (by omega))).sm, (fs_1 hk).trans h5⟩, ⟨⟨q2, B2.keep q2 q3⟩, sM_s, G.days R.f v, ⟨?_, ?_⟩, hz⟩, ⟨fun a ha => ?_, ?_, ?_, ?_⟩, fun a h1 h2 => ?_, fun j hj => ?_⟩
      · unfold f_X5_readDaysToSimulate
        rw [h1, e3_ok, h7, nI_add, if_neg (show ¬ (2000 : Int32) < nI (D + v) from by rw [show (2000 : Int32) = nI 2000 from rfl, ilt (by omega) (by omega)]; omega)]
        unfold l_X5_readDaysToSimulate_27
        rw [req_ok, e2_ok, h7, nI_add, pu_so, b1_so, e3_ok, q1, b2_so]
      · unfold f_Y_readsAdvance
        rw [a1, b1_so, h6, b2_so, if_pos h2.2.2.1.1, h18, nI_add, if_pos (show nI (D + v) ≤ (2000 : Int32) from by rw [show (2000 : Int32) = nI 2000 from rfl, ile (by omega) (by omega)]; exact hz)]
        unfold l_Y_readsAdvance_37
        rw [c1, b1_so, if_pos (by rw [c2.2.2.1.1]; decide), h18', nI_add, pu_so, b1_so, hr, b1_so]
      · rw [q3 _ (by omega), u2_a (by omega)]
      · rw [q3 _ (by omega), u2_a (by omega)]
      · rw [q3 r (by omega), u2_s]
      · rw [sM_n (by omega), u2_s]
      · rw [q3 a (by omega)]
        by_cases e : a = r
        · omega
        · rw [u2_a e, h3 a (by omega)]
      · rw [q3 r (by omega), u2_k (by decide), h3 r (by omega)]
      · rw [q3 r (by omega), u2_k (by decide), h3 r (by omega)]
      · rw [q3 r (by omega), u2_k (by decide), h3 r (by omega)]
      · rw [sM_n h2, u2_a h1, c3.1 a h1, a3.1 a h1]
      · rw [sM_n (by omega), u2_k (by omega), c3.2 j (by omega), a3.2 j (by omega)]
    · obtain ⟨I4, J4, w1, w2, w3, w4, w5⟩ := cf_step h2 (c := 4) (by decide)
      refine Out.er (I1 := I2) (k := 2) ?_ (by decide) w2 (Cq.refl.it h3) (Bm.it h3) ?_ w4 ((Jq.refl.jt a3).jf w5)
      · unfold f_X5_readDaysToSimulate
        rw [h1, e3_ok, h7, nI_add, if_pos (show (2000 : Int32) < nI (D + v) from by rw [show (2000 : Int32) = nI 2000 from rfl, ilt (by omega) (by omega)]; omega)]
        unfold l_X5_readDaysToSimulate_27
        rw [show (4 : Int32) = nI 4 from rfl, w1, e2_er, e3_er]
      · unfold f_Y_readsAdvance
        rw [a1, b1_so, h6, b2_so, if_pos h2.2.2.1.1, h18, nI_add, if_neg (show ¬ nI (D + v) ≤ (2000 : Int32) from by rw [show (2000 : Int32) = nI 2000 from rfl, ile (by omega) (by omega)]; exact hz), show (4 : Int32) = nI 4 from rfl, w3, b1_so]
        unfold l_Y_readsAdvance_37
        rw [fs_goes w4, b1_so, if_neg w4.l0]
  · refine Out.er ?_ k7 h3 Cq.refl Bm ?_ h5 ((Jq.refl.jt a3).jf h6)
    · unfold f_X5_readDaysToSimulate
      rw [h2, e3_er, e3_er]
    · unfold f_Y_readsAdvance
      rw [a1, b1_so, h4, b2_so, if_neg h5.n0]
      unfold l_Y_readsAdvance_37
      rw [fs_goes h5, b1_so, if_neg h5.l0]
end ITS

