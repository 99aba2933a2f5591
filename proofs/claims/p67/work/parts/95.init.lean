/-! the start: the class -/
/-- the class with h markets of history and s saved ones made -/
def LWp (K : Kt) (w h s : Nat) : Prop := ((LO K 7 w ∧ kG K w 0 = some (w + 1)) ∧ (kG K w 1 = some (w + 37) ∧ kG K w 2 = some (w + 68) ∧ kG K w 3 = some (w + 99)) ∧ kG K w 4 = some (w + 100) ∧ kG K w 5 = some (w + 101) ∧ kG K w 6 = some (w + 102)) ∧
  ((LR K (w + 1) ∧ LM K (w + 37)) ∧ LM K (w + 68) ∧ LA K 105 8 (w + 99) ∧ LA K 105 2 (w + 100) ∧ LA K 102 2 (w + 101)) ∧
  (∀ i, i < h → kG K (w + 99) i = some (w + 104 + 31 * i) ∧ LM K (w + 104 + 31 * i)) ∧ (∀ i, i < s → kG K (w + 100) i = some (w + 352 + 31 * i) ∧ LM K (w + 352 + 31 * i))
def LBx (K : Kt) (w : Nat) : Prop := kG K (w + 1 + 1) 5 = some (xE 0) ∧ LO K 0 (w + 102) ∧ kG K (w + 102) 0 = some (w + 103) ∧ LA K 101 16 (w + 103)
section LWs2
variable {K K' : Kt} {α j v n g w h s : Nat}
theorem LWp.sx (H : LWp K w h s) (z : Sx K K' α j v n g) (h0 : α = w + 99 ∧ h ≤ j ∨ α = w + 100 ∧ s ≤ j) (hs : h ≤ 8 ∧ s ≤ 2) : LWp K' w h s := by
  have hw := H.1.1.1.2
  exact ⟨⟨⟨H.1.1.1.sx z, z.gg H.1.1.2 hw (Or.inl (by omega))⟩, ⟨z.gg H.1.2.1.1 hw (Or.inl (by omega)), z.gg H.1.2.1.2.1 hw (Or.inl (by omega)), z.gg H.1.2.1.2.2 hw (Or.inl (by omega))⟩, z.gg H.1.2.2.1 hw (Or.inl (by omega)), z.gg H.1.2.2.2.1 hw (Or.inl (by omega)), z.gg H.1.2.2.2.2 hw (Or.inl (by omega))⟩,
    ⟨⟨H.2.1.1.1.sx z (by omega), H.2.1.1.2.sx z (by omega)⟩, H.2.1.2.1.sx z (by omega), H.2.1.2.2.1.sx z, H.2.1.2.2.2.1.sx z, H.2.1.2.2.2.2.sx z⟩,
    fun i hi => ⟨z.gg (H.2.2.1 i hi).1 H.2.1.2.2.1.2 (by omega), (H.2.2.1 i hi).2.sx z (by omega)⟩, fun i hi => ⟨z.gg (H.2.2.2 i hi).1 H.2.1.2.2.2.1.2 (by omega), (H.2.2.2 i hi).2.sx z (by omega)⟩⟩
theorem LBx.sx (H : LBx K w) (z : Sx K K' α j v n g) (h0 : α = w + 99 ∨ α = w + 100) (hw : w + 103 < kN K) : LBx K' w :=
  ⟨z.gg H.1 (by omega) (Or.inl (by omega)), H.2.1.sx z, z.gg H.2.2.1 (by omega) (Or.inl (by omega)), H.2.2.2.sx z⟩
end LWs2
theorem n_step_h {K K' : Kt} {w i : Nat} (H : LWp K w i 0) (hi : i < 8) (hk : kN K = w + 104 + 31 * i) (z : Sx K K' (w + 99) i (kN K) 31 285) (V : LM K' (kN K)) : LWp K' w (i + 1) 0 := by
  have h := H.sx z (by omega) (by omega)
  have e := z.2.2.2
  rw [hk] at e V
  refine ⟨h.1, h.2.1, ?_, ?_⟩
  · intro l hl
    rcases Nat.lt_succ_iff_lt_or_eq.mp hl with hl | rfl
    · exact h.2.2.1 l hl
    · exact ⟨e, V⟩
  · exact h.2.2.2
theorem n_loop_h (d : Nat) {I : Mem} {K0 : Kt} {w bc bs : Nat} {Q : Rs → Mem → Kt → Prop} (hq : w + 500 < 900000) (h0 : kN K0 = w + 1) (k9 : ∀ K1, LWp K1 w 8 0 → LBx K1 w → Fq K0 K1 w 351 (3687) → X (mX9_init (d + 4)) cX9_init bc bs I K1 99 [.ref w, .int (nI 8)] [] Q) : ∀ (r i : Nat) (K : Kt), i + r = 8 → Zr I K → LWp K w i 0 → LBx K w → Fq K0 K w (103 + 31 * i) (1407 + 285 * i) → X (mX9_init (d + 4)) cX9_init (31 * r + bc) (285 * r + bs) I K 74 [.ref w, .int (nI i)] [] Q := by
  intro r
  induction r with
  | zero =>
    intro i K hi hz H B F
    obtain rfl : i = 8 := by omega
    refine X.less (bc' := bc) (bs' := bs) ?_ (by omega) (by omega)
    refine x_iloadn dX9_init_74 rfl ?_
    refine x_bipush (nI 8) dX9_init_75 (by decide) ?_
    exact x_icmp_geN 99 (by decide) dX9_init_77 rfl (fun _ => k9 K H B F) (fun h => absurd h (by decide))
  | succ r ih =>
    intro i K hi hz H B F
    have hk : kN K = w + 104 + 31 * i := by have := F.1.1; omega
    refine X.less (bc' := 1 + (30 + (31 * r + bc))) (bs' := 14 + (271 + (285 * r + bs))) ?_ (by omega) (by omega)
    refine x_iloadn dX9_init_74 rfl ?_
    refine x_bipush (nI 8) dX9_init_75 (by decide) ?_
    refine x_icmp_geN 99 (by omega) dX9_init_77 rfl (fun h => absurd h (by omega)) (fun _ => ?_)
    refine x_aloadn dX9_init_80 rfl ?_
    refine z_getR fs_X9_26 H.1.1.1 H.1.2.1.2.2 dX9_init_81 ?_
    refine x_iloadn dX9_init_84 rfl ?_
    refine n_new ns_X9_16 hz (by omega) dX9_init_85 fun K1 f1 V => ?_
    have i1 := f1.1.1
    refine x_dup dX9_init_88 rfl ?_
    refine n_call (As := []) (rest := [.ref (kN K), .int (nI i), .ref (w + 99)]) (Or.inl (cs_X9_18 (d + 2))) rfl rfl (Nat.le_of_ble_eq_true rfl) (dep (show d + 2 + 1 ≤ d + 4 by omega) (Nat.le_of_ble_eq_true rfl)) dX9_init_89 (c_X3_init d (hz.le (by omega)) V (by omega) (by omega)) fun K2 h2 => ?_
    have f2 : Fx K K2 31 285 := Fq.of f1 h2.2
    refine n_aast (ci := 105) (co := 1) (n := 8) (H.2.1.2.2.1.fx f2) h2.1.o (by decide) rfl ⟨by omega, by decide⟩ dX9_init_92 fun K3 s3 => ?_
    have z : Sx K K3 (w + 99) i (kN K) 31 285 := f2.put s3
    refine x_iincN (d := 1) dX9_init_93 rfl rfl rfl ?_
    refine x_goto 74 dX9_init_96 rfl ?_
    refine ih (i + 1) K3 (by omega) (hz.le (by have := z.1.1; omega)) (n_step_h H (by omega) hk z (h2.1.sx s3 (by omega))) (B.sx z (by omega) (by omega)) ?_
    have := F.sx z (Or.inr (by omega))
    rwa [show 103 + 31 * i + 31 = 103 + 31 * (i + 1) by omega, show 1407 + 285 * i + 285 = 1407 + 285 * (i + 1) by omega] at this
theorem n_step_v {K K' : Kt} {w i : Nat} (H : LWp K w 8 i) (hi : i < 2) (hk : kN K = w + 352 + 31 * i) (z : Sx K K' (w + 100) i (kN K) 31 285) (V : LM K' (kN K)) : LWp K' w 8 (i + 1) := by
  have h := H.sx z (by omega) (by omega)
  have e := z.2.2.2
  rw [hk] at e V
  refine ⟨h.1, h.2.1, ?_, ?_⟩
  · exact h.2.2.1
  · intro l hl
    rcases Nat.lt_succ_iff_lt_or_eq.mp hl with hl | rfl
    · exact h.2.2.2 l hl
    · exact ⟨e, V⟩
theorem n_loop_v (d : Nat) {I : Mem} {K0 : Kt} {w bc bs : Nat} {Q : Rs → Mem → Kt → Prop} (hq : w + 500 < 900000) (h0 : kN K0 = w + 1) (k9 : ∀ K1, LWp K1 w 8 2 → LBx K1 w → Fq K0 K1 w 413 (4257) → X (mX9_init (d + 4)) cX9_init bc bs I K1 125 [.ref w, .int (nI 2)] [] Q) : ∀ (r i : Nat) (K : Kt), i + r = 2 → Zr I K → LWp K w 8 i → LBx K w → Fq K0 K w (351 + 31 * i) (3687 + 285 * i) → X (mX9_init (d + 4)) cX9_init (31 * r + bc) (285 * r + bs) I K 101 [.ref w, .int (nI i)] [] Q := by
  intro r
  induction r with
  | zero =>
    intro i K hi hz H B F
    obtain rfl : i = 2 := by omega
    refine X.less (bc' := bc) (bs' := bs) ?_ (by omega) (by omega)
    refine x_iloadn dX9_init_101 rfl ?_
    refine x_iconst (nI 2) dX9_init_102 rfl ?_
    exact x_icmp_geN 125 (by decide) dX9_init_103 rfl (fun _ => k9 K H B F) (fun h => absurd h (by decide))
  | succ r ih =>
    intro i K hi hz H B F
    have hk : kN K = w + 352 + 31 * i := by have := F.1.1; omega
    refine X.less (bc' := 1 + (30 + (31 * r + bc))) (bs' := 14 + (271 + (285 * r + bs))) ?_ (by omega) (by omega)
    refine x_iloadn dX9_init_101 rfl ?_
    refine x_iconst (nI 2) dX9_init_102 rfl ?_
    refine x_icmp_geN 125 (by omega) dX9_init_103 rfl (fun h => absurd h (by omega)) (fun _ => ?_)
    refine x_aloadn dX9_init_106 rfl ?_
    refine z_getR fs_X9_30 H.1.1.1 H.1.2.2.1 dX9_init_107 ?_
    refine x_iloadn dX9_init_110 rfl ?_
    refine n_new ns_X9_16 hz (by omega) dX9_init_111 fun K1 f1 V => ?_
    have i1 := f1.1.1
    refine x_dup dX9_init_114 rfl ?_
    refine n_call (As := []) (rest := [.ref (kN K), .int (nI i), .ref (w + 100)]) (Or.inl (cs_X9_18 (d + 2))) rfl rfl (Nat.le_of_ble_eq_true rfl) (dep (show d + 2 + 1 ≤ d + 4 by omega) (Nat.le_of_ble_eq_true rfl)) dX9_init_115 (c_X3_init d (hz.le (by omega)) V (by omega) (by omega)) fun K2 h2 => ?_
    have f2 : Fx K K2 31 285 := Fq.of f1 h2.2
    refine n_aast (ci := 105) (co := 1) (n := 2) (H.2.1.2.2.2.1.fx f2) h2.1.o (by decide) rfl ⟨by omega, by decide⟩ dX9_init_118 fun K3 s3 => ?_
    have z : Sx K K3 (w + 100) i (kN K) 31 285 := f2.put s3
    refine x_iincN (d := 1) dX9_init_119 rfl rfl rfl ?_
    refine x_goto 101 dX9_init_122 rfl ?_
    refine ih (i + 1) K3 (by omega) (hz.le (by have := z.1.1; omega)) (n_step_v H (by omega) hk z (h2.1.sx s3 (by omega))) (B.sx z (by omega) (by omega)) ?_
    have := F.sx z (Or.inr (by omega))
    rwa [show 351 + 31 * i + 31 = 351 + 31 * (i + 1) by omega, show 3687 + 285 * i + 285 = 3687 + 285 * (i + 1) by omega] at this
theorem c_X9_init (d : Nat) {I : Mem} {K : Kt} {w : Nat} (hz : Zr I K) (H0 : LO K 7 w) (hq : kN K = w + 1) (hlim : w + 500 < 900000) : Ct (mX9_init (d + 4)) cX9_init 413 4257 [.ref w] I K (Qi (u2 I (w + 1) 3 (-1)) (fun K' => (LW K' w ∧ LBx K' w) ∧ Fq K K' w 413 4257)) := by
  refine Ct.of rfl pn_X9 (catR cat0) (Nat.le_of_ble_eq_true rfl) (show X _ _ _ _ _ _ 0 [.ref w, .retAddr 0] [] _ from ?_)
  refine X.less (bc' := 1 + (35 + (1 + (30 + (1 + (30 + (1 + (1 + (1 + (1 + (1 + (31 * 8 + (31 * 2 + 0))))))))))))) (bs' := 8 + (797 + (14 + (271 + (14 + (271 + (8 + (2 + (2 + (4 + (16 + (285 * 8 + (285 * 2 + 0))))))))))))) ?_ (by omega) (by omega)
  refine x_aloadn dX9_init_0 rfl ?_
  refine x_objInit (show Cond.methodLink RX9 1 Lib.objectInit ∈ wsG from inT1 45 rfl rfl) (show Cond.instanceMethod Lib.objectInit ∈ wsG from inT1 46 rfl rfl) (show Cond.code Lib.objectInit ⟨#[0xb1]⟩ 1 none ∈ wsG from inT1 47 rfl rfl) (Nat.le_of_ble_eq_true rfl) (by show 1 ≤ d + 4; omega) dX9_init_1 ?_
  have H := H0
  have e0 : kN K = w + 1 := hq
  refine x_aloadn dX9_init_4 rfl ?_
  refine n_new ns_X9_7 hz (by omega) dX9_init_5 fun Ka0 fa0 Oa0 => ?_
  have ia0 := fa0.1.1
  refine x_dup dX9_init_8 rfl ?_
  refine n_call (As := []) (rest := [.ref (kN K), .ref w]) (Or.inr (cn_X9_9 (d + 3))) rfl rfl (Nat.le_of_ble_eq_true rfl) (dep (show (d + 3) + 1 ≤ d + 4 by omega) (Nat.le_of_ble_eq_true rfl)) dX9_init_9 (c_X5_init d (hz.le (by omega)) Oa0 (by omega) (by omega)) fun Kb0 hb0 => ?_
  obtain ⟨⟨Lb0, gk⟩, qb0⟩ := hb0
  have fb0 := Fq.of fa0 qb0
  have hz9 : Zr (u2 I (kN K) 3 (-1)) Kb0 := (hz.le (by have := fb0.1.1; omega)).u2 (by have := fb0.1.1; omega)
  refine n_put fs_X9_10 (H.fx fb0) (fun _ => rfl) (fun _ => ⟨rfl, rfl⟩) dX9_init_12 fun Kc0 sc0 => ?_
  have z0 := fb0.put sc0
  have j0 := z0.1.1
  have Lc0 := Lb0.sx sc0 (by omega)
  have gk := sc0.gg gk Lb0.t.o.2 (Or.inl (by omega))
  have H := H.sx z0
  have e1 : kN Kc0 = w + 37 := by omega
  have r0 := z0.2.2.2
  rw [e0] at r0 Lc0 gk
  have hq0 := hz9.le (show kN Kb0 ≤ kN Kc0 by have := sc0.1.1; omega)
  refine x_aloadn dX9_init_15 rfl ?_
  refine n_new ns_X9_16 hq0 (by omega) dX9_init_16 fun Ka1 fa1 Oa1 => ?_
  have ia1 := fa1.1.1
  refine x_dup dX9_init_19 rfl ?_
  refine n_call (As := []) (rest := [.ref (kN Kc0), .ref w]) (Or.inl (cs_X9_18 (d + 2))) rfl rfl (Nat.le_of_ble_eq_true rfl) (dep (show (d + 2) + 1 ≤ d + 4 by omega) (Nat.le_of_ble_eq_true rfl)) dX9_init_20 (c_X3_init d (hq0.le (by omega)) Oa1 (by omega) (by omega)) fun Kb1 hb1 => ?_
  obtain ⟨Lb1, qb1⟩ := hb1
  have fb1 := Fq.of fa1 qb1
  refine n_put fs_X9_19 (H.fx fb1) (fun _ => rfl) (fun _ => ⟨rfl, rfl⟩) dX9_init_23 fun Kc1 sc1 => ?_
  have z1 := fb1.put sc1
  have j1 := z1.1.1
  have Lc1 := Lb1.sx sc1 (by omega)
  have H := H.sx z1
  have r0 := z1.gg r0 (by omega) (Or.inr (by decide))
  have Lc0 := Lc0.sx z1 (by omega)
  have gk := z1.gg gk (by omega) (by omega)
  have e2 : kN Kc1 = w + 68 := by omega
  have r1 := z1.2.2.2
  rw [e1] at r1 Lc1
  have hq1 := hq0.le (show kN Kc0 ≤ kN Kc1 by have := sc1.1.1; omega)
  refine x_aloadn dX9_init_26 rfl ?_
  refine n_new ns_X9_16 hq1 (by omega) dX9_init_27 fun Ka2 fa2 Oa2 => ?_
  have ia2 := fa2.1.1
  refine x_dup dX9_init_30 rfl ?_
  refine n_call (As := []) (rest := [.ref (kN Kc1), .ref w]) (Or.inl (cs_X9_18 (d + 2))) rfl rfl (Nat.le_of_ble_eq_true rfl) (dep (show (d + 2) + 1 ≤ d + 4 by omega) (Nat.le_of_ble_eq_true rfl)) dX9_init_31 (c_X3_init d (hq1.le (by omega)) Oa2 (by omega) (by omega)) fun Kb2 hb2 => ?_
  obtain ⟨Lb2, qb2⟩ := hb2
  have fb2 := Fq.of fa2 qb2
  refine n_put fs_X9_23 (H.fx fb2) (fun _ => rfl) (fun _ => ⟨rfl, rfl⟩) dX9_init_34 fun Kc2 sc2 => ?_
  have z2 := fb2.put sc2
  have j2 := z2.1.1
  have Lc2 := Lb2.sx sc2 (by omega)
  have H := H.sx z2
  have r0 := z2.gg r0 (by omega) (Or.inr (by decide))
  have Lc0 := Lc0.sx z2 (by omega)
  have gk := z2.gg gk (by omega) (by omega)
  have r1 := z2.gg r1 (by omega) (Or.inr (by decide))
  have Lc1 := Lc1.sx z2 (by omega)
  have e3 : kN Kc2 = w + 99 := by omega
  have r2 := z2.2.2.2
  rw [e2] at r2 Lc2
  have hq2 := hq1.le (show kN Kc1 ≤ kN Kc2 by have := sc2.1.1; omega)
  refine x_aloadn dX9_init_37 rfl ?_
  refine x_bipush (nI 8) dX9_init_38 (by decide) ?_
  refine x_newq (ci := 105) (t0 := 5) (n := 8) (by decide) (fun _ => rfl) (show Cond.classLink RX9 16 RX3 ∈ wsG from inT2 94 rfl rfl) (show Cond.arrayOver (.object RX3) ∈ wsN from List.mem_filter.mpr ⟨inTb2 96 rfl, rfl⟩) rfl (Nat.le_of_ble_eq_true rfl) (Nat.lt_trans (by omega : _ < 900000) (by decide)) dX9_init_40 ?_
  refine n_arr (hq2.le (by omega)) fun Kb3 fb3 Lb3 => ?_
  refine n_put fs_X9_26 (H.fx fb3) (fun _ => rfl) (fun _ => ⟨rfl, rfl⟩) dX9_init_43 fun Kc3 sc3 => ?_
  have z3 := fb3.put sc3
  have j3 := z3.1.1
  have Lc3 := Lb3.sx sc3
  have H := H.sx z3
  have r0 := z3.gg r0 (by omega) (Or.inr (by decide))
  have Lc0 := Lc0.sx z3 (by omega)
  have gk := z3.gg gk (by omega) (by omega)
  have r1 := z3.gg r1 (by omega) (Or.inr (by decide))
  have Lc1 := Lc1.sx z3 (by omega)
  have r2 := z3.gg r2 (by omega) (Or.inr (by decide))
  have Lc2 := Lc2.sx z3 (by omega)
  have e4 : kN Kc3 = w + 100 := by omega
  have r3 := z3.2.2.2
  rw [e3] at r3 Lc3
  have hq3 := hq2.le (show kN Kc2 ≤ kN Kc3 by have := sc3.1.1; omega)
  refine x_aloadn dX9_init_46 rfl ?_
  refine x_iconst (nI 2) dX9_init_47 rfl ?_
  refine x_newq (ci := 105) (t0 := 5) (n := 2) (by decide) (fun _ => rfl) (show Cond.classLink RX9 16 RX3 ∈ wsG from inT2 94 rfl rfl) (show Cond.arrayOver (.object RX3) ∈ wsN from List.mem_filter.mpr ⟨inTb2 96 rfl, rfl⟩) rfl (Nat.le_of_ble_eq_true rfl) (Nat.lt_trans (by omega : _ < 900000) (by decide)) dX9_init_48 ?_
  refine n_arr (hq3.le (by omega)) fun Kb4 fb4 Lb4 => ?_
  refine n_put fs_X9_30 (H.fx fb4) (fun _ => rfl) (fun _ => ⟨rfl, rfl⟩) dX9_init_51 fun Kc4 sc4 => ?_
  have z4 := fb4.put sc4
  have j4 := z4.1.1
  have Lc4 := Lb4.sx sc4
  have H := H.sx z4
  have r0 := z4.gg r0 (by omega) (Or.inr (by decide))
  have Lc0 := Lc0.sx z4 (by omega)
  have gk := z4.gg gk (by omega) (by omega)
  have r1 := z4.gg r1 (by omega) (Or.inr (by decide))
  have Lc1 := Lc1.sx z4 (by omega)
  have r2 := z4.gg r2 (by omega) (Or.inr (by decide))
  have Lc2 := Lc2.sx z4 (by omega)
  have r3 := z4.gg r3 (by omega) (Or.inr (by decide))
  have Lc3 := Lc3.sx z4
  have e5 : kN Kc4 = w + 101 := by omega
  have r4 := z4.2.2.2
  rw [e4] at r4 Lc4
  have hq4 := hq3.le (show kN Kc3 ≤ kN Kc4 by have := sc4.1.1; omega)
  refine x_aloadn dX9_init_54 rfl ?_
  refine x_iconst (nI 2) dX9_init_55 rfl ?_
  refine x_newZ (show Cond.arrayClass .boolean ∈ wsG from inT2 128 rfl rfl) (n := 2) rfl (Nat.le_of_ble_eq_true rfl) (Nat.lt_trans (by omega : _ < 900000) (by decide)) dX9_init_56 ?_
  refine n_arr (hq4.le (by omega)) fun Kb5 fb5 Lb5 => ?_
  refine n_put fs_X9_33 (H.fx fb5) (fun _ => rfl) (fun _ => ⟨rfl, rfl⟩) dX9_init_58 fun Kc5 sc5 => ?_
  have z5 := fb5.put sc5
  have j5 := z5.1.1
  have Lc5 := Lb5.sx sc5
  have H := H.sx z5
  have r0 := z5.gg r0 (by omega) (Or.inr (by decide))
  have Lc0 := Lc0.sx z5 (by omega)
  have gk := z5.gg gk (by omega) (by omega)
  have r1 := z5.gg r1 (by omega) (Or.inr (by decide))
  have Lc1 := Lc1.sx z5 (by omega)
  have r2 := z5.gg r2 (by omega) (Or.inr (by decide))
  have Lc2 := Lc2.sx z5 (by omega)
  have r3 := z5.gg r3 (by omega) (Or.inr (by decide))
  have Lc3 := Lc3.sx z5
  have r4 := z5.gg r4 (by omega) (Or.inr (by decide))
  have Lc4 := Lc4.sx z5
  have e6 : kN Kc5 = w + 102 := by omega
  have r5 := z5.2.2.2
  rw [e5] at r5 Lc5
  have hq5 := hq4.le (show kN Kc4 ≤ kN Kc5 by have := sc5.1.1; omega)
  refine x_aloadn dX9_init_61 rfl ?_
  refine n_new ns_X9_37 hq5 (by omega) dX9_init_62 fun Ka6 fa6 Oa6 => ?_
  have ia6 := fa6.1.1
  refine x_dup dX9_init_65 rfl ?_
  refine n_call (As := []) (rest := [.ref (kN Kc5), .ref w]) (Or.inl (cs_X9_39 (d + 2))) rfl rfl (Nat.le_of_ble_eq_true rfl) (dep (show (d + 2) + 1 ≤ d + 4 by omega) (Nat.le_of_ble_eq_true rfl)) dX9_init_66 (c_J4_init_da8c8 d (hq5.le (by omega)) Oa6 (by rw [hq5 _ (Nat.le_refl _)]) (by omega)) fun Kb6 hb6 => ?_
  have sb6 := hb6.1
  have Ab6 := hb6.2
  have Lb6 := Oa6.sx sb6
  have fb6 : Fx Kc5 Kb6 2 20 := Fq.of fa6 ((Fq.refl).sx sb6 (Or.inl rfl))
  refine n_put fs_X9_40 (H.fx fb6) (fun _ => rfl) (fun _ => ⟨rfl, rfl⟩) dX9_init_69 fun Kc6 sc6 => ?_
  have z6 := fb6.put sc6
  have j6 := z6.1.1
  have Lc6 := Lb6.sx sc6
  have Ac := Ab6.sx sc6
  have gc := sc6.gg sb6.2.2.2 Lb6.2 (Or.inl (by omega))
  have H := H.sx z6
  have r0 := z6.gg r0 (by omega) (Or.inr (by decide))
  have Lc0 := Lc0.sx z6 (by omega)
  have gk := z6.gg gk (by omega) (by omega)
  have r1 := z6.gg r1 (by omega) (Or.inr (by decide))
  have Lc1 := Lc1.sx z6 (by omega)
  have r2 := z6.gg r2 (by omega) (Or.inr (by decide))
  have Lc2 := Lc2.sx z6 (by omega)
  have r3 := z6.gg r3 (by omega) (Or.inr (by decide))
  have Lc3 := Lc3.sx z6
  have r4 := z6.gg r4 (by omega) (Or.inr (by decide))
  have Lc4 := Lc4.sx z6
  have r5 := z6.gg r5 (by omega) (Or.inr (by decide))
  have Lc5 := Lc5.sx z6
  have e7 : kN Kc6 = w + 104 := by omega
  have r6 := z6.2.2.2
  rw [e6] at r6 Lc6 gc
  have hq6 := hq5.le (show kN Kc5 ≤ kN Kc6 by have := sc6.1.1; omega)
  have F : Fq K Kc6 w 103 1407 := (((((((Fq.refl.sx z0 (Or.inl rfl)).sx z1 (Or.inl rfl)).sx z2 (Or.inl rfl)).sx z3 (Or.inl rfl)).sx z4 (Or.inl rfl)).sx z5 (Or.inl rfl)).sx z6 (Or.inl rfl))
  rw [e0] at hq6
  rw [e0]
  have ea : kN Ka6 = w + 103 := by omega
  rw [ea] at Ac gc
  have hB : LBx Kc6 w := ⟨gk, Lc6, gc, Ac⟩
  have hL : LWp Kc6 w 0 0 := ⟨⟨⟨H, r0⟩, ⟨r1, r2, r3⟩, r4, r5, r6⟩, ⟨⟨Lc0, Lc1⟩, Lc2, Lc3, Lc4, Lc5⟩, fun i hi => absurd hi (Nat.not_lt_zero _), fun i hi => absurd hi (Nat.not_lt_zero _)⟩
  refine x_iconst (nI 0) dX9_init_72 rfl ?_
  refine x_istoren dX9_init_73 (Nat.le_of_ble_eq_true rfl) rfl rfl ?_
  refine n_loop_h d hlim hq (fun K7 H7 B7 F7 => ?_) 8 0 Kc6 rfl hq6 hL hB F
  refine x_iconst (nI 0) dX9_init_99 rfl ?_
  refine x_istoren dX9_init_100 (Nat.le_of_ble_eq_true rfl) rfl rfl ?_
  refine n_loop_v d hlim hq (fun K8 H8 B8 F8 => ?_) 2 0 K7 rfl (hq6.le (by have := F7.1.1; omega)) H7 B7 F7
  exact x_vret rfl dX9_init_125 ⟨rfl, rfl, ⟨H8, B8⟩, F8⟩
