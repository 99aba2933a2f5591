/-! the law from its first step -/
def I0L : Mem := u2 (fun _ _ => 0) (0 + 1) 3 (-1)
/-- what is left: the law's own function, from the new class on -/
def LawV : Prop := ∀ (n : Nat) (xs : Nat → Int32) (K : Kt), n ≤ 260 → LW K 0 → LBx K 0 → kN K = 414 → ∃ I9 K9, f_L_law n xs I0L K 0 = some (1, I9, K9) ∧ kN K9 ≤ 500000 ∧ gz K9 ≤ gz K + 7000000
theorem lawX_of (Z : LawV) : LawX := by
  intro n xs hn
  refine X.less (bc' := 1 + (413 + 599000)) (bs' := 10 + (4257 + 7200000)) ?_ (by decide) (by decide)
  have hz0 : Zr (fun _ _ => 0) K00 := fun a _ => rfl
  have k0 : kN K00 = 0 := rfl
  refine n_new ns_L_14 hz0 (by decide) dL_law_0 fun K1 f1 O1 => ?_
  have i1 : kN K1 = 1 := f1.1.1
  refine x_dup dL_law_3 rfl ?_
  refine n_call (As := []) (rest := [.ref 0]) (Or.inl (cs_L_271 4)) rfl rfl (Nat.le_of_ble_eq_true rfl) (dep (by decide) (by decide)) dL_law_4 (c_X9_init 0 (hz0.le (by omega)) O1 i1 (by decide)) fun K2 h2 => ?_
  obtain ⟨⟨L2, B2⟩, q2⟩ := h2
  have n2 : kN K2 = 414 := by have := q2.1.1; omega
  refine x_astoren dL_law_7 (Nat.le_of_ble_eq_true rfl) rfl rfl ?_
  obtain ⟨I9, K9, e9, k9, g9⟩ := Z n xs K2 hn L2 B2 n2
  have c := c_L_law 2035 e9
  refine X.less (bc' := 2 + (kN K9 - kN K2)) (bs' := 12 + (gz K9 - gz K2)) ?_ (by omega) (by omega)
  exact X.mono c.2 (fun r I' K' h => h.1)
