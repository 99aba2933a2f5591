/-! the law's auction and tax do not fall -/
section ADV6
variable {I I0 I' I1 I2 : Mem} {K : Kt} {ns i j a k t y q : Nat} {x : Int32} {α β : Type}
theorem h8_l (W : WI K ns I0 I) (hk : k < 4) (ht : t < ns) (e : I (wd ns k) 3 = nI t) : ∀ d i, i + d = 2 → ∀ f, d < f → ∀ a, CO 2 a → Ok (l_X10_hammer_86 f I K 415 (nI k) a (nI i)) (WI K ns I0) := by
  intro d
  induction d with
  | zero =>
    intro i hi f hf a ha
    obtain rfl : i = 2 := by omega
    cases f with
    | zero => omega
    | succ f =>
      unfold l_X10_hammer_86
      repeat first | with_reducible refine om W ?_ | with_reducible refine o7 W ?_ | with_reducible refine o8 W ?_ | with_reducible refine o9 W ?_ | with_reducible refine l7 W ?_ | with_reducible refine l8 W ?_ | with_reducible refine l9 W ?_ | with_reducible refine s7 W ?_ | with_reducible refine s8 W ?_ | with_reducible refine s9 W ?_ | ((with_reducible refine g7 W ?_ ?_); · omega) | ((with_reducible refine g8 W ?_ ?_); · omega) | ((with_reducible refine g9 W ?_ ?_); · omega) | ((with_reducible refine p9 W ?_ ?_); · omega) | ((with_reducible refine p10 W ?_ ?_); · omega) | ((with_reducible refine pA W ?_ ?_); · omega) | with_reducible refine onz W ?_ | with_reducible refine opu ?_
      refine Ok.ite (fun _ => ?_) (fun h => absurd (Int32.le_refl _) h)
      refine Ok.ite (fun _ => Ok.s W) (fun hn => ?_)
      rcases ha with ha | ⟨q, hq, rfl⟩
      · exact absurd (show a < 0 by rw [ha]; exact lt_m1) hn
      repeat first | with_reducible refine om W ?_ | with_reducible refine o7 W ?_ | with_reducible refine o8 W ?_ | with_reducible refine o9 W ?_ | with_reducible refine l7 W ?_ | with_reducible refine l8 W ?_ | with_reducible refine l9 W ?_ | with_reducible refine s7 W ?_ | with_reducible refine s8 W ?_ | with_reducible refine s9 W ?_ | ((with_reducible refine g7 W ?_ ?_); · omega) | ((with_reducible refine g8 W ?_ ?_); · omega) | ((with_reducible refine g9 W ?_ ?_); · omega) | ((with_reducible refine p9 W ?_ ?_); · omega) | ((with_reducible refine p10 W ?_ ?_); · omega) | ((with_reducible refine pA W ?_ ?_); · omega) | with_reducible refine onz W ?_ | with_reducible refine opu ?_
      refine Ok.b (bid_ok W hq hk) (fun _ _ => ?_)
      refine Ok.ite (fun _ => Ok.s W) (fun _ => ?_)
      repeat first | with_reducible refine om W ?_ | with_reducible refine o7 W ?_ | with_reducible refine o8 W ?_ | with_reducible refine o9 W ?_ | with_reducible refine l7 W ?_ | with_reducible refine l8 W ?_ | with_reducible refine l9 W ?_ | with_reducible refine s7 W ?_ | with_reducible refine s8 W ?_ | with_reducible refine s9 W ?_ | ((with_reducible refine g7 W ?_ ?_); · omega) | ((with_reducible refine g8 W ?_ ?_); · omega) | ((with_reducible refine g9 W ?_ ?_); · omega) | ((with_reducible refine p9 W ?_ ?_); · omega) | ((with_reducible refine p10 W ?_ ?_); · omega) | ((with_reducible refine pA W ?_ ?_); · omega) | with_reducible refine onz W ?_ | with_reducible refine opu ?_
      refine Ok.b (bid_ok W hq hk) (fun _ _ => ?_)
      repeat first | with_reducible refine om W ?_ | with_reducible refine o7 W ?_ | with_reducible refine o8 W ?_ | with_reducible refine o9 W ?_ | with_reducible refine l7 W ?_ | with_reducible refine l8 W ?_ | with_reducible refine l9 W ?_ | with_reducible refine s7 W ?_ | with_reducible refine s8 W ?_ | with_reducible refine s9 W ?_ | ((with_reducible refine g7 W ?_ ?_); · omega) | ((with_reducible refine g8 W ?_ ?_); · omega) | ((with_reducible refine g9 W ?_ ?_); · omega) | ((with_reducible refine p9 W ?_ ?_); · omega) | ((with_reducible refine p10 W ?_ ?_); · omega) | ((with_reducible refine pA W ?_ ?_); · omega) | with_reducible refine onz W ?_ | with_reducible refine opu ?_
      refine Ok.b (vl_ok W hk) (fun _ _ => ?_)
      refine Ok.ite (fun _ => Ok.s W) (fun _ => ?_)
      repeat first | with_reducible refine om W ?_ | with_reducible refine o7 W ?_ | with_reducible refine o8 W ?_ | with_reducible refine o9 W ?_ | with_reducible refine l7 W ?_ | with_reducible refine l8 W ?_ | with_reducible refine l9 W ?_ | with_reducible refine s7 W ?_ | with_reducible refine s8 W ?_ | with_reducible refine s9 W ?_ | ((with_reducible refine g7 W ?_ ?_); · omega) | ((with_reducible refine g8 W ?_ ?_); · omega) | ((with_reducible refine g9 W ?_ ?_); · omega) | ((with_reducible refine p9 W ?_ ?_); · omega) | ((with_reducible refine p10 W ?_ ?_); · omega) | ((with_reducible refine pA W ?_ ?_); · omega) | with_reducible refine onz W ?_ | with_reducible refine opu ?_
      refine Ok.b (bid_ok W hq hk) (fun _ _ => ?_)
      repeat first | with_reducible refine om W ?_ | with_reducible refine o7 W ?_ | with_reducible refine o8 W ?_ | with_reducible refine o9 W ?_ | with_reducible refine l7 W ?_ | with_reducible refine l8 W ?_ | with_reducible refine l9 W ?_ | with_reducible refine s7 W ?_ | with_reducible refine s8 W ?_ | with_reducible refine s9 W ?_ | ((with_reducible refine g7 W ?_ ?_); · omega) | ((with_reducible refine g8 W ?_ ?_); · omega) | ((with_reducible refine g9 W ?_ ?_); · omega) | ((with_reducible refine p9 W ?_ ?_); · omega) | ((with_reducible refine p10 W ?_ ?_); · omega) | ((with_reducible refine pA W ?_ ?_); · omega) | with_reducible refine onz W ?_ | with_reducible refine opu ?_
      exact Ok.b (take_ok W hq hk ht e) (fun _ h => Ok.s h)
  | succ d ih =>
    intro i hi f hf a ha
    cases f with
    | zero => omega
    | succ f =>
      unfold l_X10_hammer_86
      repeat first | with_reducible refine om W ?_ | with_reducible refine o7 W ?_ | with_reducible refine o8 W ?_ | with_reducible refine o9 W ?_ | with_reducible refine l7 W ?_ | with_reducible refine l8 W ?_ | with_reducible refine l9 W ?_ | with_reducible refine s7 W ?_ | with_reducible refine s8 W ?_ | with_reducible refine s9 W ?_ | ((with_reducible refine g7 W ?_ ?_); · omega) | ((with_reducible refine g8 W ?_ ?_); · omega) | ((with_reducible refine g9 W ?_ ?_); · omega) | ((with_reducible refine p9 W ?_ ?_); · omega) | ((with_reducible refine p10 W ?_ ?_); · omega) | ((with_reducible refine pA W ?_ ?_); · omega) | with_reducible refine onz W ?_ | with_reducible refine opu ?_
      refine Ok.ite (fun h => absurd h (nle_f (by omega) (by omega))) (fun _ => ?_)
      repeat first | with_reducible refine om W ?_ | with_reducible refine o7 W ?_ | with_reducible refine o8 W ?_ | with_reducible refine o9 W ?_ | with_reducible refine l7 W ?_ | with_reducible refine l8 W ?_ | with_reducible refine l9 W ?_ | with_reducible refine s7 W ?_ | with_reducible refine s8 W ?_ | with_reducible refine s9 W ?_ | ((with_reducible refine g7 W ?_ ?_); · omega) | ((with_reducible refine g8 W ?_ ?_); · omega) | ((with_reducible refine g9 W ?_ ?_); · omega) | ((with_reducible refine p9 W ?_ ?_); · omega) | ((with_reducible refine p10 W ?_ ?_); · omega) | ((with_reducible refine pA W ?_ ?_); · omega) | with_reducible refine onz W ?_ | with_reducible refine opu ?_
      have g0 := ih (i + 1) (by omega) f (by omega) a ha
      have g1 := ih (i + 1) (by omega) f (by omega) (nI i) (Or.inr ⟨i, by omega, rfl⟩)
      rw [nI_s1]
      refine Ok.b (ow_ok W) (fun _ _ => ?_)
      refine Ok.ite (fun _ => g0) (fun _ => ?_)
      refine Ok.ite (fun _ => g1) (fun hn => ?_)
      rcases ha with ha | ⟨q, hq, rfl⟩
      · exact absurd (show a < 0 by rw [ha]; exact lt_m1) hn
      repeat first | with_reducible refine om W ?_ | with_reducible refine o7 W ?_ | with_reducible refine o8 W ?_ | with_reducible refine o9 W ?_ | with_reducible refine l7 W ?_ | with_reducible refine l8 W ?_ | with_reducible refine l9 W ?_ | with_reducible refine s7 W ?_ | with_reducible refine s8 W ?_ | with_reducible refine s9 W ?_ | ((with_reducible refine g7 W ?_ ?_); · omega) | ((with_reducible refine g8 W ?_ ?_); · omega) | ((with_reducible refine g9 W ?_ ?_); · omega) | ((with_reducible refine p9 W ?_ ?_); · omega) | ((with_reducible refine p10 W ?_ ?_); · omega) | ((with_reducible refine pA W ?_ ?_); · omega) | with_reducible refine onz W ?_ | with_reducible refine opu ?_
      refine Ok.b (bid_ok W (by omega) hk) (fun _ _ => ?_)
      repeat first | with_reducible refine om W ?_ | with_reducible refine o7 W ?_ | with_reducible refine o8 W ?_ | with_reducible refine o9 W ?_ | with_reducible refine l7 W ?_ | with_reducible refine l8 W ?_ | with_reducible refine l9 W ?_ | with_reducible refine s7 W ?_ | with_reducible refine s8 W ?_ | with_reducible refine s9 W ?_ | ((with_reducible refine g7 W ?_ ?_); · omega) | ((with_reducible refine g8 W ?_ ?_); · omega) | ((with_reducible refine g9 W ?_ ?_); · omega) | ((with_reducible refine p9 W ?_ ?_); · omega) | ((with_reducible refine p10 W ?_ ?_); · omega) | ((with_reducible refine pA W ?_ ?_); · omega) | with_reducible refine onz W ?_ | with_reducible refine opu ?_
      refine Ok.b (bid_ok W hq hk) (fun _ _ => ?_)
      exact Ok.ite (fun _ => g0) (fun _ => g1)
def CS (I : Mem) (ns t : Nat) (v : Int32) : Prop := v = -1 ∨ ∃ k, k < 4 ∧ v = nI k ∧ I (wd ns k) 3 = nI t
theorem hm_l (W : WI K ns I0 I) (ht : t < ns) : ∀ d i, i + d = 4 → ∀ f, d < f → ∀ a, CS I ns t a → Ok (l_X10_hammer_4 f I K 415 (nI t) a (nI i)) (WI K ns I0) := by
  intro d
  induction d with
  | zero =>
    intro i hi f hf a ha
    obtain rfl : i = 4 := by omega
    cases f with
    | zero => omega
    | succ f =>
      unfold l_X10_hammer_4
      repeat first | with_reducible refine om W ?_ | with_reducible refine o7 W ?_ | with_reducible refine o8 W ?_ | with_reducible refine o9 W ?_ | with_reducible refine l7 W ?_ | with_reducible refine l8 W ?_ | with_reducible refine l9 W ?_ | with_reducible refine s7 W ?_ | with_reducible refine s8 W ?_ | with_reducible refine s9 W ?_ | ((with_reducible refine g7 W ?_ ?_); · omega) | ((with_reducible refine g8 W ?_ ?_); · omega) | ((with_reducible refine g9 W ?_ ?_); · omega) | ((with_reducible refine p9 W ?_ ?_); · omega) | ((with_reducible refine p10 W ?_ ?_); · omega) | ((with_reducible refine pA W ?_ ?_); · omega) | with_reducible refine onz W ?_ | with_reducible refine opu ?_
      refine Ok.ite (fun _ => ?_) (fun h => absurd (Int32.le_refl _) h)
      refine Ok.ite (fun hp => ?_) (fun _ => Ok.s W)
      rcases ha with ha | ⟨k, hk, rfl, e⟩
      · rw [ha] at hp
        exact absurd hp (by decide)
      exact h8_l W hk ht e 2 0 (by decide) FU (by have := FU_ge; omega) (-1) (Or.inl rfl)
  | succ d ih =>
    intro i hi f hf a ha
    cases f with
    | zero => omega
    | succ f =>
      unfold l_X10_hammer_4
      repeat first | with_reducible refine om W ?_ | with_reducible refine o7 W ?_ | with_reducible refine o8 W ?_ | with_reducible refine o9 W ?_ | with_reducible refine l7 W ?_ | with_reducible refine l8 W ?_ | with_reducible refine l9 W ?_ | with_reducible refine s7 W ?_ | with_reducible refine s8 W ?_ | with_reducible refine s9 W ?_ | ((with_reducible refine g7 W ?_ ?_); · omega) | ((with_reducible refine g8 W ?_ ?_); · omega) | ((with_reducible refine g9 W ?_ ?_); · omega) | ((with_reducible refine p9 W ?_ ?_); · omega) | ((with_reducible refine p10 W ?_ ?_); · omega) | ((with_reducible refine pA W ?_ ?_); · omega) | with_reducible refine onz W ?_ | with_reducible refine opu ?_
      refine Ok.ite (fun h => absurd h (nle_f (by omega) (by omega))) (fun _ => ?_)
      repeat first | with_reducible refine om W ?_ | with_reducible refine o7 W ?_ | with_reducible refine o8 W ?_ | with_reducible refine o9 W ?_ | with_reducible refine l7 W ?_ | with_reducible refine l8 W ?_ | with_reducible refine l9 W ?_ | with_reducible refine s7 W ?_ | with_reducible refine s8 W ?_ | with_reducible refine s9 W ?_ | ((with_reducible refine g7 W ?_ ?_); · omega) | ((with_reducible refine g8 W ?_ ?_); · omega) | ((with_reducible refine g9 W ?_ ?_); · omega) | ((with_reducible refine p9 W ?_ ?_); · omega) | ((with_reducible refine p10 W ?_ ?_); · omega) | ((with_reducible refine pA W ?_ ?_); · omega) | with_reducible refine onz W ?_ | with_reducible refine opu ?_
      have g0 := ih (i + 1) (by omega) f (by omega) a ha
      rw [nI_s1]
      refine Ok.ite (fun e => ?_) (fun _ => g0)
      have g1 := ih (i + 1) (by omega) f (by omega) (nI i) (Or.inr ⟨i, by omega, rfl, e⟩)
      refine Ok.ite (fun _ => g1) (fun hn => ?_)
      rcases ha with ha | ⟨k, hk, rfl, e2⟩
      · exact absurd (show a < 0 by rw [ha]; exact lt_m1) hn
      repeat first | with_reducible refine om W ?_ | with_reducible refine o7 W ?_ | with_reducible refine o8 W ?_ | with_reducible refine o9 W ?_ | with_reducible refine l7 W ?_ | with_reducible refine l8 W ?_ | with_reducible refine l9 W ?_ | with_reducible refine s7 W ?_ | with_reducible refine s8 W ?_ | with_reducible refine s9 W ?_ | ((with_reducible refine g7 W ?_ ?_); · omega) | ((with_reducible refine g8 W ?_ ?_); · omega) | ((with_reducible refine g9 W ?_ ?_); · omega) | ((with_reducible refine p9 W ?_ ?_); · omega) | ((with_reducible refine p10 W ?_ ?_); · omega) | ((with_reducible refine pA W ?_ ?_); · omega) | with_reducible refine onz W ?_ | with_reducible refine opu ?_
      refine Ok.b (vl_ok W (by omega)) (fun _ _ => ?_)
      repeat first | with_reducible refine om W ?_ | with_reducible refine o7 W ?_ | with_reducible refine o8 W ?_ | with_reducible refine o9 W ?_ | with_reducible refine l7 W ?_ | with_reducible refine l8 W ?_ | with_reducible refine l9 W ?_ | with_reducible refine s7 W ?_ | with_reducible refine s8 W ?_ | with_reducible refine s9 W ?_ | ((with_reducible refine g7 W ?_ ?_); · omega) | ((with_reducible refine g8 W ?_ ?_); · omega) | ((with_reducible refine g9 W ?_ ?_); · omega) | ((with_reducible refine p9 W ?_ ?_); · omega) | ((with_reducible refine p10 W ?_ ?_); · omega) | ((with_reducible refine pA W ?_ ?_); · omega) | with_reducible refine onz W ?_ | with_reducible refine opu ?_
      refine Ok.b (vl_ok W hk) (fun _ _ => ?_)
      exact Ok.ite (fun _ => g0) (fun _ => g1)
theorem hm_ok (W : WI K ns I0 I) (ht : t < ns) : Ok (f_X10_hammer I K 415 (nI t)) (WI K ns I0) := hm_l W ht 4 0 (by decide) FU (by have := FU_ge; omega) (-1) (Or.inl rfl)
theorem tx_l (W : WI K ns I0 I) (hq : q < 2) : ∀ d i, i + d = ns → ∀ f, d < f → ∀ t, t < ns → Ok (l_X10_tax_4 f I K 415 (nI q) (nI t) (nI i)) (WI K ns I0) := by
  intro d
  induction d with
  | zero =>
    intro i hi f hf t ht
    obtain rfl : i = ns := by omega
    cases f with
    | zero => omega
    | succ f =>
      unfold l_X10_tax_4
      repeat first | with_reducible refine om W ?_ | with_reducible refine o7 W ?_ | with_reducible refine o8 W ?_ | with_reducible refine o9 W ?_ | with_reducible refine l7 W ?_ | with_reducible refine l8 W ?_ | with_reducible refine l9 W ?_ | with_reducible refine s7 W ?_ | with_reducible refine s8 W ?_ | with_reducible refine s9 W ?_ | ((with_reducible refine g7 W ?_ ?_); · omega) | ((with_reducible refine g8 W ?_ ?_); · omega) | ((with_reducible refine g9 W ?_ ?_); · omega) | ((with_reducible refine p9 W ?_ ?_); · omega) | ((with_reducible refine p10 W ?_ ?_); · omega) | ((with_reducible refine pA W ?_ ?_); · omega) | with_reducible refine onz W ?_ | with_reducible refine opu ?_
      refine Ok.ite (fun _ => ?_) (fun h => absurd (Int32.le_refl _) h)
      repeat first | with_reducible refine om W ?_ | with_reducible refine o7 W ?_ | with_reducible refine o8 W ?_ | with_reducible refine o9 W ?_ | with_reducible refine l7 W ?_ | with_reducible refine l8 W ?_ | with_reducible refine l9 W ?_ | with_reducible refine s7 W ?_ | with_reducible refine s8 W ?_ | with_reducible refine s9 W ?_ | ((with_reducible refine g7 W ?_ ?_); · omega) | ((with_reducible refine g8 W ?_ ?_); · omega) | ((with_reducible refine g9 W ?_ ?_); · omega) | ((with_reducible refine p9 W ?_ ?_); · omega) | ((with_reducible refine p10 W ?_ ?_); · omega) | ((with_reducible refine pA W ?_ ?_); · omega) | with_reducible refine onz W ?_ | with_reducible refine opu ?_
      have W1 := fun z => W.pp (x := z) (j := 0) hq
      repeat first | with_reducible refine om (W1 _) ?_ | with_reducible refine o7 (W1 _) ?_ | with_reducible refine o8 (W1 _) ?_ | with_reducible refine o9 (W1 _) ?_ | with_reducible refine l7 (W1 _) ?_ | with_reducible refine l8 (W1 _) ?_ | with_reducible refine l9 (W1 _) ?_ | with_reducible refine s7 (W1 _) ?_ | with_reducible refine s8 (W1 _) ?_ | with_reducible refine s9 (W1 _) ?_ | ((with_reducible refine g7 (W1 _) ?_ ?_); · omega) | ((with_reducible refine g8 (W1 _) ?_ ?_); · omega) | ((with_reducible refine g9 (W1 _) ?_ ?_); · omega) | ((with_reducible refine p9 (W1 _) ?_ ?_); · omega) | ((with_reducible refine p10 (W1 _) ?_ ?_); · omega) | ((with_reducible refine pA (W1 _) ?_ ?_); · omega) | with_reducible refine onz (W1 _) ?_ | with_reducible refine opu ?_
      repeat first | with_reducible refine om W ?_ | with_reducible refine o7 W ?_ | with_reducible refine o8 W ?_ | with_reducible refine o9 W ?_ | with_reducible refine l7 W ?_ | with_reducible refine l8 W ?_ | with_reducible refine l9 W ?_ | with_reducible refine s7 W ?_ | with_reducible refine s8 W ?_ | with_reducible refine s9 W ?_ | ((with_reducible refine g7 W ?_ ?_); · omega) | ((with_reducible refine g8 W ?_ ?_); · omega) | ((with_reducible refine g9 W ?_ ?_); · omega) | ((with_reducible refine p9 W ?_ ?_); · omega) | ((with_reducible refine p10 W ?_ ?_); · omega) | ((with_reducible refine pA W ?_ ?_); · omega) | with_reducible refine onz W ?_ | with_reducible refine opu ?_
      refine Ok.e (ix44 (j := 1) (by decide)) ?_
      repeat first | with_reducible refine om W ?_ | with_reducible refine o7 W ?_ | with_reducible refine o8 W ?_ | with_reducible refine o9 W ?_ | with_reducible refine l7 W ?_ | with_reducible refine l8 W ?_ | with_reducible refine l9 W ?_ | with_reducible refine s7 W ?_ | with_reducible refine s8 W ?_ | with_reducible refine s9 W ?_ | ((with_reducible refine g7 W ?_ ?_); · omega) | ((with_reducible refine g8 W ?_ ?_); · omega) | ((with_reducible refine g9 W ?_ ?_); · omega) | ((with_reducible refine p9 W ?_ ?_); · omega) | ((with_reducible refine p10 W ?_ ?_); · omega) | ((with_reducible refine pA W ?_ ?_); · omega) | with_reducible refine onz W ?_ | with_reducible refine opu ?_
      refine Ok.e (ix44 (j := 1) (by decide)) ?_
      repeat first | with_reducible refine om W ?_ | with_reducible refine o7 W ?_ | with_reducible refine o8 W ?_ | with_reducible refine o9 W ?_ | with_reducible refine l7 W ?_ | with_reducible refine l8 W ?_ | with_reducible refine l9 W ?_ | with_reducible refine s7 W ?_ | with_reducible refine s8 W ?_ | with_reducible refine s9 W ?_ | ((with_reducible refine g7 W ?_ ?_); · omega) | ((with_reducible refine g8 W ?_ ?_); · omega) | ((with_reducible refine g9 W ?_ ?_); · omega) | ((with_reducible refine p9 W ?_ ?_); · omega) | ((with_reducible refine p10 W ?_ ?_); · omega) | ((with_reducible refine pA W ?_ ?_); · omega) | with_reducible refine onz W ?_ | with_reducible refine opu ?_
      exact Ok.s ((W1 _).ps ht)
  | succ d ih =>
    intro i hi f hf t ht
    cases f with
    | zero => omega
    | succ f =>
      unfold l_X10_tax_4
      repeat first | with_reducible refine om W ?_ | with_reducible refine o7 W ?_ | with_reducible refine o8 W ?_ | with_reducible refine o9 W ?_ | with_reducible refine l7 W ?_ | with_reducible refine l8 W ?_ | with_reducible refine l9 W ?_ | with_reducible refine s7 W ?_ | with_reducible refine s8 W ?_ | with_reducible refine s9 W ?_ | ((with_reducible refine g7 W ?_ ?_); · omega) | ((with_reducible refine g8 W ?_ ?_); · omega) | ((with_reducible refine g9 W ?_ ?_); · omega) | ((with_reducible refine p9 W ?_ ?_); · omega) | ((with_reducible refine p10 W ?_ ?_); · omega) | ((with_reducible refine pA W ?_ ?_); · omega) | with_reducible refine onz W ?_ | with_reducible refine opu ?_
      have hn2 := W.1.2.2
      refine Ok.ite (fun h => absurd h (nle_f (by omega) (by omega))) (fun _ => ?_)
      repeat first | with_reducible refine om W ?_ | with_reducible refine o7 W ?_ | with_reducible refine o8 W ?_ | with_reducible refine o9 W ?_ | with_reducible refine l7 W ?_ | with_reducible refine l8 W ?_ | with_reducible refine l9 W ?_ | with_reducible refine s7 W ?_ | with_reducible refine s8 W ?_ | with_reducible refine s9 W ?_ | ((with_reducible refine g7 W ?_ ?_); · omega) | ((with_reducible refine g8 W ?_ ?_); · omega) | ((with_reducible refine g9 W ?_ ?_); · omega) | ((with_reducible refine p9 W ?_ ?_); · omega) | ((with_reducible refine p10 W ?_ ?_); · omega) | ((with_reducible refine pA W ?_ ?_); · omega) | with_reducible refine onz W ?_ | with_reducible refine opu ?_
      refine Ok.e (ix44 (j := 1) (by decide)) ?_
      repeat first | with_reducible refine om W ?_ | with_reducible refine o7 W ?_ | with_reducible refine o8 W ?_ | with_reducible refine o9 W ?_ | with_reducible refine l7 W ?_ | with_reducible refine l8 W ?_ | with_reducible refine l9 W ?_ | with_reducible refine s7 W ?_ | with_reducible refine s8 W ?_ | with_reducible refine s9 W ?_ | ((with_reducible refine g7 W ?_ ?_); · omega) | ((with_reducible refine g8 W ?_ ?_); · omega) | ((with_reducible refine g9 W ?_ ?_); · omega) | ((with_reducible refine p9 W ?_ ?_); · omega) | ((with_reducible refine p10 W ?_ ?_); · omega) | ((with_reducible refine pA W ?_ ?_); · omega) | with_reducible refine onz W ?_ | with_reducible refine opu ?_
      refine Ok.e (ix44 (j := 1) (by decide)) ?_
      rw [nI_s1]
      exact Ok.ite (fun _ => ih (i + 1) (by omega) f (by omega) t ht) (fun _ => ih (i + 1) (by omega) f (by omega) i (by omega))
theorem tax_ok (W : WI K ns I0 I) (hq : q < 2) : Ok (f_X10_tax I K 415 (nI q)) (WI K ns I0) := tx_l W hq ns 0 (by omega) FU (by have := FU_ge; have := W.1.2.2; omega) 0 (by have := W.1.2.1; omega)
end ADV6
