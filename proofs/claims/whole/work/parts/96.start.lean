/-! the law from its first step -/
theorem LWLB {K : Kt} {w : Nat} (h : LBx K w) : LSb K (w + 102) ∧ vOf K (w + 102) = w + 103 ∧ nOf K (w + 102) = 16 := by
  have e : vOf K (w + 102) = w + 103 := by unfold vOf; rw [h.2.2.1]; rfl
  have e2 : nOf K (w + 102) = 16 := by unfold nOf; rw [e, h.2.2.2.1]
  exact ⟨⟨h.2.1, by rw [e]; exact h.2.2.1, by rw [e, e2]; exact h.2.2.2⟩, e, e2⟩
theorem cB0 : cB 0 = some () := rfl
def I0L : Mem := u2 (u2 (fun _ _ => 0) (0 + 1) 3 (-1)) 414 11 (-1)
theorem I0_z {a k : Nat} (h1 : a ≠ 1 ∨ k ≠ 3) (h2 : a ≠ 414 ∨ k ≠ 11) : I0L a k = 0 := by
  unfold I0L
  by_cases e : a = 414
  · subst e
    rw [u2_k (h2.resolve_left (fun z => z rfl)), u2_a (by decide)]
  · rw [u2_a e]
    by_cases e1 : a = 1
    · subst e1; exact u2_k (h1.resolve_left (fun z => z rfl))
    · exact congrFun (u2_a e1) k
theorem ST_start {K : Kt} (hL : LW K 0) (hB : LBx K 0) (hM : MK K 414) (hn : kN K = 424) : ST I0L K 0 414 424 (gz K) 0 := by
  obtain ⟨b1, b2, b3⟩ := LWLB hB
  have hb : ∀ q, 0 < q → q + 31 ≤ 414 → BM I0L q := fun q h0 h => ⟨fun i hi => ⟨by rw [I0_z (by omega) (by omega)]; exact cB0, by rw [I0_z (by omega) (by omega)]; exact cB0⟩, fun i hi => ⟨by rw [I0_z (by omega) (by omega)]; exact cB0, by rw [I0_z (by omega) (by omega)]; exact cB0⟩⟩
  refine ⟨⟨⟨hL, b1, hM⟩, ⟨0, by decide, hB.1⟩, by decide, Or.inl b2⟩, ⟨false, ⟨⟨?_, ?_⟩, fun h => by cases h⟩⟩, ⟨⟨hb _ (by decide) (by decide), hb _ (by decide) (by decide), hb _ (by decide) (by decide)⟩, fun i hi => hb _ (by omega) (by omega), fun i hi => hb _ (by omega) (by omega)⟩, ⟨0, 0, ⟨by decide, by decide⟩, ⟨?_, ?_, ?_⟩, fun j hj => absurd hj (Nat.not_lt_zero j)⟩, fun i hi => Or.inl ⟨?_, ?_⟩, ⟨?_, ?_⟩, ⟨0, ⟨by decide, ?_, ?_⟩, fun i hi => absurd hi (Nat.not_lt_zero i)⟩, ⟨0, by decide, ⟨?_, ?_, ?_⟩, Nat.zero_le _, fun i hi => absurd hi (Nat.not_lt_zero i)⟩, fun i hi => ?_, 0, by decide, b3, hn, rfl⟩
  · exact I0_z (by decide) (by decide)
  · exact I0_z (by decide) (by decide)
  · exact I0_z (by decide) (by decide)
  · exact I0_z (by decide) (by decide)
  · exact I0_z (by decide) (by decide)
  · exact I0_z (by omega) (by omega)
  · exact I0_z (by omega) (by omega)
  · rw [I0_z (by decide) (by decide), I0_z (by decide) (by decide)]
  · unfold I0L
    rw [u2_s, u2_a (by decide), u2_s]
  · exact I0_z (by decide) (by decide)
  · exact I0_z (by decide) (by decide)
  · exact I0_z (by decide) (by decide)
  · exact I0_z (by decide) (by decide)
  · exact I0_z (by decide) (by decide)
  · rw [I0_z (by rw [b2]; omega) (by rw [b2]; omega)]; rfl
theorem lawX_of (Z : Lacks) : LawX := by
  intro n xs hn
  refine X.less (bc' := 1 + (413 + (1 + (7 + (1 + (1 + 1027)))))) (bs' := 10 + (4257 + (21 + (4962 + (1 + (1 + 6390)))))) ?_ (by omega) (by omega)
  have hz0 : Zr (fun _ _ => 0) K00 := fun a _ => rfl
  have k0 : kN K00 = 0 := rfl
  refine n_new ns_L_8 hz0 (by decide) dL_law_0 fun K1 f1 O1 => ?_
  have i1 : kN K1 = 1 := f1.1.1
  refine x_dup dL_law_3 rfl ?_
  refine n_call (As := []) (rest := [.ref 0]) (Or.inl (cs_L_198 4)) rfl rfl (Nat.le_of_ble_eq_true rfl) (dep (by decide) (by decide)) dL_law_4 (c_X9_init 0 (hz0.le (by omega)) O1 i1 (by decide)) fun K2 h2 => ?_
  obtain ⟨⟨L2, B2⟩, q2⟩ := h2
  have n2 : kN K2 = 414 := by have := q2.1.1; omega
  have hz2 : Zr (u2 (fun _ _ => 0) (0 + 1) 3 (-1)) K2 := (show Zr (fun _ _ => 0) K2 from fun _ _ => rfl).u2 (by omega)
  refine x_astoren dL_law_7 (Nat.le_of_ble_eq_true rfl) rfl rfl ?_
  refine n_new ns_L_199 hz2 (by omega) dL_law_8 fun K3 f3 O3 => ?_
  have n3 : kN K3 = 415 := by have := f3.1.1; omega
  rw [n2] at O3 ⊢
  refine x_dup dL_law_11 rfl ?_
  refine n_call (As := []) (rest := [.ref 414]) (Or.inl (cs_L_201 1)) rfl rfl (Nat.le_of_ble_eq_true rfl) (dep (by decide) (by decide)) dL_law_12 (c_X10_init 0 (hz2.le (by omega)) O3 n3 (by decide)) fun K4 h4 => ?_
  obtain ⟨M4, q4⟩ := h4
  have n4 : kN K4 = 422 := by have := q4.1.1; omega
  have f4 : Fx K2 K4 8 4983 := Fq.of f3 (n2 ▸ q4)
  have hz4 : Zr I0L K4 := (hz2.le (by omega)).u2 (by omega)
  refine x_astoren dL_law_15 (Nat.le_of_ble_eq_true rfl) rfl rfl ?_
  refine x_iconst (nI 1) dL_law_16 rfl ?_
  refine x_newJ (show Cond.arrayClass .long ∈ wsG from inT11 144 rfl rfl) (n := 1) rfl (Nat.le_of_ble_eq_true rfl) (Nat.lt_trans (by omega : _ < 900000) (by decide)) dL_law_17 ?_
  refine n_arr hz4 fun K5 f5 A5 => ?_
  have n5 : kN K5 = 423 := by have := f5.1.1; omega
  rw [n4] at A5 ⊢
  refine x_astoren dL_law_19 (Nat.le_of_ble_eq_true rfl) rfl rfl ?_
  refine x_iconst (nI 1) dL_law_20 rfl ?_
  refine x_newD (show Cond.arrayClass .double ∈ wsG from inT11 145 rfl rfl) (n := 1) rfl (Nat.le_of_ble_eq_true rfl) (Nat.lt_trans (by omega : _ < 900000) (by decide)) dL_law_21 ?_
  refine n_arr (hz4.le (by omega)) fun K6 f6 A6 => ?_
  have n6 : kN K6 = 424 := by have := f6.1.1; omega
  rw [n5] at A6 ⊢
  refine x_astore dL_law_23 (Nat.le_of_ble_eq_true rfl) rfl rfl ?_
  refine x_iconst (nI 0) dL_law_25 rfl ?_
  refine x_istore dL_law_26 (Nat.le_of_ble_eq_true rfl) rfl rfl ?_
  have g := ((f4.tr f5).tr f6).gn
  have B6 : LBx K6 0 := ⟨(((f4.tr f5).tr f6).g B2.1 (by omega)), B2.2.1.gw g.1, (((f4.tr f5).tr f6).g B2.2.2.1 (by omega)), B2.2.2.2.gw g.1⟩
  have S := ST_start (L2.gw g.1) B6 (M4.gw (f5.tr f6).gn.1) n6
  exact X.less (law_loop Z hn (by decide) 512 0 2000 I0L K6 (by omega) (by decide) (by decide) (S.le (by decide)) (A5.fx f6) A6) (by omega) (by omega)
