/-! the start: the other constructors, and the law up to its loop -/
def Gn (K K2 : Kt) : Prop := Gw K K2 ∧ ∀ a j, a < kN K → kG K2 a j = kG K a j
theorem Fx.gn {K K' : Kt} {n g : Nat} (h : Fx K K' n g) : Gn K K' := ⟨⟨by have := h.1.1; omega, h.2.1, fun a j ha _ => congrFun (h.2.2 a ha) j⟩, fun a j ha => congrFun (h.2.2 a ha) j⟩
theorem Fx.g {K K' : Kt} {n z a k r : Nat} (h : Fx K K' n z) (e : kG K a k = some r) (ha : a < kN K) : kG K' a k = some r := (congrFun (h.2.2 a ha) k).trans e
theorem Fx.tr {K K1 K2 : Kt} {n g n' g' : Nat} (h : Fx K K1 n g) (f : Fx K1 K2 n' g') : Fx K K2 (n + n') (g + g') :=
  ⟨⟨by rw [f.1.1, h.1.1, Nat.add_assoc], by rw [f.1.2, h.1.2, Nat.add_assoc]⟩, fun a ha => (f.2.1 a (by have := h.1.1; omega)).trans (h.2.1 a ha), fun a ha => (f.2.2 a (by have := h.1.1; omega)).trans (h.2.2 a ha)⟩
theorem Fx.sx {K K' : Kt} {n g : Nat} {a j v : Nat} (h : Fx K K' n g) (e : kG K a j = some v) (ha : a < kN K) : Sx K K' a j v n g := ⟨h.1, h.2.1, fun b k hb _ => congrFun (h.2.2 b hb) k, h.g e ha⟩
theorem LM.fx {K K' : Kt} {n g q : Nat} (h : LM K q) (f : Fx K K' n g) : LM K' q := h.gw f.gn.1
theorem LT.fx {K K' : Kt} {n g q : Nat} (h : LT K q) (f : Fx K K' n g) : LT K' q := h.gw f.gn.1
theorem LR.fx {K K' : Kt} {n g q : Nat} (h : LR K q) (f : Fx K K' n g) : LR K' q := h.gw f.gn.1
theorem c_J5_init_d00df (d : Nat) {I : Mem} {K : Kt} {b : Nat} (hz : Zr I K) (H0 : LO K 0 b) (hI : I b 1 = 0) (hlim : kN K < 900000) : Ct (mJ5_init_d00df (d + 1)) cJ5_init_d00df 1 16 [.ref b, .int (nI 16)] I K (Qi I (fun K' => Sx K K' b 0 (kN K) 1 16 ∧ LA K' 101 16 (kN K))) := by
  refine Ct.of rfl pn_J5 (catR (catI cat0)) (Nat.le_of_ble_eq_true rfl) (show X _ _ _ _ _ _ 0 [.ref b, .int (nI 16)] [] _ from ?_)
  refine X.less (bc' := 1 + 0) (bs' := 16 + 0) ?_ (Nat.le_of_ble_eq_true rfl) (Nat.le_of_ble_eq_true rfl)
  refine x_aloadn dJ5_init_d00df_0 rfl ?_
  refine x_objInit (show Cond.methodLink RJ5 3 Lib.objectInit ∈ wsG from inT2 105 rfl rfl) (show Cond.instanceMethod Lib.objectInit ∈ wsG from inT1 46 rfl rfl) (show Cond.code Lib.objectInit ⟨#[0xb1]⟩ 1 none ∈ wsG from inT1 47 rfl rfl) (Nat.le_of_ble_eq_true rfl) (by show 1 ≤ d + 1; omega) dJ5_init_d00df_1 ?_
  refine x_gsC (show Cond.fieldLink RJ5 18 RJ0 "COMPACT_STRINGS" "Z" ∈ wsG from inT2 106 rfl rfl) dJ5_init_d00df_4 ?_
  refine x_if_eq 25 dJ5_init_d00df_7 rfl (fun h => absurd h (by decide)) (fun _ => ?_)
  refine x_aloadn dJ5_init_d00df_10 rfl ?_
  refine x_iloadn dJ5_init_d00df_11 rfl ?_
  refine x_newB (show Cond.arrayClass .byte ∈ wsG from inT1 85 rfl rfl) (n := 16) rfl (Nat.le_of_ble_eq_true rfl) (Nat.lt_trans (by omega : _ < 900000) (by decide)) dJ5_init_d00df_12 ?_
  refine n_arr hz fun K1 f1 A1 => ?_
  refine n_put fs_J5_15 (H0.fx f1) (fun h => by cases h) (fun _ => ⟨rfl, rfl⟩) dJ5_init_d00df_14 fun K2 s2 => ?_
  refine x_aloadn dJ5_init_d00df_17 rfl ?_
  refine x_iconst 0 dJ5_init_d00df_18 rfl ?_
  refine x_putI fs_J5_22 ((H0.fx f1).sx s2).1 ((H0.fx f1).sx s2).2 ⟨rfl, rfl⟩ dJ5_init_d00df_19 ?_
  rw [show u2 I b 1 0 = I from by
    funext a j
    by_cases e : a = b
    · subst e
      by_cases e2 : j = 1
      · subst e2; rw [u2_s]; exact hI.symm
      · exact u2_k e2
    · rw [u2_a e]]
  refine x_goto 38 dJ5_init_d00df_22 rfl ?_
  exact x_vret rfl dJ5_init_d00df_38 ⟨rfl, rfl, f1.put s2, A1.sx s2⟩
theorem c_J4_init_da8c8 (d : Nat) {I : Mem} {K : Kt} {b : Nat} (hz : Zr I K) (H0 : LO K 0 b) (hI : I b 1 = 0) (hlim : kN K < 900000) : Ct (mJ4_init_da8c8 (d + 2)) cJ4_init_da8c8 1 16 [.ref b] I K (Qi I (fun K' => Sx K K' b 0 (kN K) 1 16 ∧ LA K' 101 16 (kN K))) := by
  refine Ct.of rfl (show plainName RJ4 = true from by decide +kernel) (catR cat0) (Nat.le_of_ble_eq_true rfl) (show X _ _ _ _ _ _ 0 [.ref b] [] _ from ?_)
  refine X.less (bc' := 1 + 0) (bs' := 16 + 0) ?_ (Nat.le_of_ble_eq_true rfl) (Nat.le_of_ble_eq_true rfl)
  refine x_aloadn dJ4_init_da8c8_0 rfl ?_
  refine x_bipush (nI 16) dJ4_init_da8c8_1 (by decide) ?_
  refine n_call (As := [.int (nI 16)]) (rest := []) (Or.inl (cs_J4_1 (d + 1))) rfl rfl (Nat.le_of_ble_eq_true rfl) (dep (show d + 1 + 1 ≤ d + 2 by omega) (Nat.le_of_ble_eq_true rfl)) dJ4_init_da8c8_3 (c_J5_init_d00df d hz H0 hI hlim) fun K2 h2 => ?_
  exact x_vret rfl dJ4_init_da8c8_6 ⟨rfl, rfl, h2⟩
theorem c_X7_init (d : Nat) {I : Mem} {K : Kt} {t : Nat} (hz : Zr I K) (H0 : LO K 5 t) (hq : kN K = t + 1) (hlim : kN K < 900000) : Ct (mX7_init (d + 1)) cX7_init 1 500 [.ref t] I K (Qi I (fun K' => (LT K' t ∧ kG K' t 5 = some (xE 0)) ∧ Fq K K' t 1 500)) := by
  refine Ct.of rfl pn_X7 (catR cat0) (Nat.le_of_ble_eq_true rfl) (show X _ _ _ _ _ _ 0 [.ref t] [] _ from ?_)
  refine X.less (bc' := 1 + 0) (bs' := 500 + 0) ?_ (Nat.le_of_ble_eq_true rfl) (Nat.le_of_ble_eq_true rfl)
  refine x_aloadn dX7_init_0 rfl ?_
  refine x_objInit (show Cond.methodLink RX7 3 Lib.objectInit ∈ wsG from inT1 59 rfl rfl) (show Cond.instanceMethod Lib.objectInit ∈ wsG from inT1 46 rfl rfl) (show Cond.code Lib.objectInit ⟨#[0xb1]⟩ 1 none ∈ wsG from inT1 47 rfl rfl) (Nat.le_of_ble_eq_true rfl) (by show 1 ≤ d + 1; omega) dX7_init_1 ?_
  refine x_aloadn dX7_init_4 rfl ?_
  refine x_sipush (nI 500) dX7_init_5 (by decide) ?_
  refine x_newB (show Cond.arrayClass .byte ∈ wsG from inT1 85 rfl rfl) (n := 500) rfl (Nat.le_of_ble_eq_true rfl) (Nat.lt_trans (by omega : _ < 900000) (by decide)) dX7_init_8 ?_
  refine n_arr hz fun K1 f1 A1 => ?_
  refine n_put fs_X7_9 (H0.fx f1) (fun _ => rfl) (fun _ => ⟨rfl, rfl⟩) dX7_init_10 fun K2 s2 => ?_
  have s1 := f1.put s2
  refine x_aloadn dX7_init_13 rfl ?_
  refine x_getsK 0 (by decide) (show Cond.fieldLink RX7 15 RX2 "END" "LWishMarket$Kind;" ∈ wsG from inT1 60 rfl rfl) dX7_init_14 ?_
  refine n_put fs_X7_21 (H0.sx s1) (fun h => by cases h) (fun _ => ⟨rfl, rfl⟩) dX7_init_17 fun K3 s3 => ?_
  refine x_vret rfl dX7_init_20 ⟨rfl, rfl, ⟨⟨(H0.sx s1).sx s3, s3.gg (hq ▸ s1.2.2.2) (H0.sx s1).2 (Or.inr (by decide)), hq ▸ (A1.sx s2).sx s3⟩, s3.2.2.2⟩, (Fq.refl.sx s1 (Or.inl rfl)).sx s3 (Or.inl rfl)⟩
theorem Zr.u2 {I : Mem} {K : Kt} {a k : Nat} {v : Int32} (h : Zr I K) (ha : a < kN K) : Zr (u2 I a k v) K := fun b hb => (u2_a (Nat.ne_of_gt (Nat.lt_of_lt_of_le ha hb))).trans (h b hb)
theorem c_X5_init (d : Nat) {I : Mem} {K : Kt} {r : Nat} (hz : Zr I K) (H0 : LO K 3 r) (hq : kN K = r + 1) (hlim : r + 100 < 900000) : Ct (mX5_init (d + 3)) cX5_init 35 797 [.ref r] I K (Qi (u2 I r 3 (-1)) (fun K' => (LR K' r ∧ kG K' (r + 1) 5 = some (xE 0)) ∧ Fq K K' r 35 797)) := by
  refine Ct.of rfl pn_X5 (catR cat0) (Nat.le_of_ble_eq_true rfl) (show X _ _ _ _ _ _ 0 [.ref r] [] _ from ?_)
  refine X.less (bc' := 1 + (1 + (1 + (30 + (1 + (1 + 0)))))) (bs' := 6 + (500 + (14 + (271 + (3 + (3 + 0)))))) ?_ (by omega) (by omega)
  refine x_aloadn dX5_init_0 rfl ?_
  refine x_objInit (show Cond.methodLink RX5 3 Lib.objectInit ∈ wsG from inT1 53 rfl rfl) (show Cond.instanceMethod Lib.objectInit ∈ wsG from inT1 46 rfl rfl) (show Cond.code Lib.objectInit ⟨#[0xb1]⟩ 1 none ∈ wsG from inT1 47 rfl rfl) (Nat.le_of_ble_eq_true rfl) (by show 1 ≤ d + 3; omega) dX5_init_1 ?_
  refine x_aloadn dX5_init_4 rfl ?_
  refine n_new ns_X5_9 hz (by omega) dX5_init_5 fun K1 f1 O1 => ?_
  have i1 := f1.1.1
  refine x_dup dX5_init_8 rfl ?_
  refine n_call (As := []) (rest := [.ref (kN K), .ref r]) (Or.inr (cn_X5_11 (d + 1))) rfl rfl (Nat.le_of_ble_eq_true rfl) (dep (show d + 1 + 1 ≤ d + 3 by omega) (Nat.le_of_ble_eq_true rfl)) dX5_init_9 (c_X7_init d (hz.le (by omega)) O1 (by omega) (by omega)) fun K2 h2 => ?_
  obtain ⟨⟨T2, g2⟩, q2⟩ := h2
  have f2 := Fq.of f1 q2
  refine n_put fs_X5_12 (H0.fx f2) (fun _ => rfl) (fun _ => ⟨rfl, rfl⟩) dX5_init_12 fun K3 s3 => ?_
  have s1 := f2.put s3
  have j1 := s1.1.1
  have T3 := T2.sx s3 (by omega)
  have g3 := s3.gg g2 T2.o.2 (Or.inl (by omega))
  refine x_aloadn dX5_init_15 rfl ?_
  refine n_new ns_X5_18 (hz.le (by omega)) (by omega) dX5_init_16 fun K4 f4 O4 => ?_
  have i4 := f4.1.1
  refine x_dup dX5_init_19 rfl ?_
  refine n_call (As := []) (rest := [.ref (kN K3), .ref r]) (Or.inl (cs_X5_20 (d + 2))) rfl rfl (Nat.le_of_ble_eq_true rfl) (dep (show d + 2 + 1 ≤ d + 3 by omega) (Nat.le_of_ble_eq_true rfl)) dX5_init_20 (c_X3_init d (hz.le (by omega)) O4 (by omega) (by omega)) fun K5 h5 => ?_
  obtain ⟨M5, q5⟩ := h5
  have f5 := Fq.of f4 q5
  refine n_put fs_X5_21 ((H0.sx s1).fx f5) (fun _ => rfl) (fun _ => ⟨rfl, rfl⟩) dX5_init_23 fun K6 s6 => ?_
  have s4 := f5.put s6
  have j4 := s4.1.1
  have M6 := M5.sx s6 (by omega)
  refine x_aloadn dX5_init_26 rfl ?_
  refine x_iconst (-1) dX5_init_27 rfl ?_
  have H6 := (H0.sx s1).sx s4
  refine x_putI fs_X5_25 H6.1 H6.2 ⟨rfl, rfl⟩ dX5_init_28 ?_
  have hz6 : Zr (u2 I r 3 (-1)) K6 := (hz.le (by omega)).u2 (by omega)
  refine x_aloadn dX5_init_31 rfl ?_
  refine x_iconst (nI 3) dX5_init_32 rfl ?_
  refine x_newI (show Cond.arrayClass .int ∈ wsG from inT2 93 rfl rfl) (n := 3) rfl (Nat.le_of_ble_eq_true rfl) (Nat.lt_trans (by omega : _ < 900000) (by decide)) dX5_init_33 ?_
  refine n_arr hz6 fun K7 f7 A7 => ?_
  refine n_put fs_X5_29 (H6.fx f7) (fun _ => rfl) (fun _ => ⟨rfl, rfl⟩) dX5_init_35 fun K8 s8 => ?_
  have s7 := f7.put s8
  have j7 := s7.1.1
  refine x_aloadn dX5_init_38 rfl ?_
  refine x_iconst (nI 3) dX5_init_39 rfl ?_
  refine x_newI (show Cond.arrayClass .int ∈ wsG from inT2 93 rfl rfl) (n := 3) rfl (Nat.le_of_ble_eq_true rfl) (Nat.lt_trans (by omega : _ < 900000) (by decide)) dX5_init_40 ?_
  refine n_arr (hz6.le (by omega)) fun K9 f9 A9 => ?_
  refine n_put fs_X5_33 ((H6.sx s7).fx f9) (fun _ => rfl) (fun _ => ⟨rfl, rfl⟩) dX5_init_42 fun Ka sa => ?_
  have s9 := f9.put sa
  have j9 := s9.1.1
  have e3 : kN K3 = r + 3 := by omega
  have e6 : kN K6 = r + 34 := by omega
  have e8 : kN K8 = r + 35 := by omega
  have F : Fq K Ka r 35 797 := (((Fq.refl.sx s1 (Or.inl rfl)).sx s4 (Or.inl rfl)).sx s7 (Or.inl rfl)).sx s9 (Or.inl rfl)
  rw [hq] at T3 s1 g3
  rw [e3] at M6 s4
  rw [e6] at A7 s7
  rw [e8] at A9 s9
  refine x_vret rfl dX5_init_45 ⟨rfl, rfl, ⟨⟨⟨(H6.sx s7).sx s9, ?_, ?_, ?_, s9.2.2.2⟩, ⟨((T3.sx s4 (by omega)).sx s7 (by omega)).sx s9 (by omega), (M6.sx s7 (by omega)).sx s9 (by omega)⟩, (A7.sx s8).sx s9, A9.sx sa⟩, ?_⟩, F⟩
  · exact s9.gg (s7.gg (s4.gg s1.2.2.2 (by omega) (by omega)) (by omega) (by omega)) (by omega) (by omega)
  · exact s9.gg (s7.gg s4.2.2.2 (by omega) (by omega)) (by omega) (by omega)
  · exact s9.gg s7.2.2.2 (by omega) (by omega)
  · exact s9.gg (s7.gg (s4.gg g3 (by omega) (by omega)) (by omega) (by omega)) (by omega) (by omega)
