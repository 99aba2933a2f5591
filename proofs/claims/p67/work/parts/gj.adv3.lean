/-! the law's choices do not fall -/
section ADV3
variable {I I0 I' I1 I2 : Mem} {K : Kt} {ns i k t y q : Nat} {α β : Type}
def CH (I : Mem) (ns : Nat) (v : Int32) : Prop := v = -1 ∨ ∃ k t, (k < 4 ∧ t < ns) ∧ v = nI k ∧ I (wd ns k) 3 = nI t
def CG (I : Mem) (ns q : Nat) (v : Int32) : Prop := v = -1 ∨ ∃ k, k < 4 ∧ v = nI k ∧ I (wd ns k) 4 = nI q
def CO (ns : Nat) (v : Int32) : Prop := v = -1 ∨ ∃ t, t < ns ∧ v = nI t
theorem ch_l (W : WI K ns I0 I) {x : Int32} (hq : q < 2) : ∀ d i, i + d = 4 → ∀ f, d < f → ∀ a, CH I ns a → Ok (l_X10_cheapest_5 f I K 415 (nI q) x a (nI i)) (CH I ns) := by
  intro d
  induction d with
  | zero =>
    intro i hi f hf a ha
    obtain rfl : i = 4 := by omega
    cases f with
    | zero => omega
    | succ f =>
      unfold l_X10_cheapest_5
      repeat first | with_reducible refine om W ?_ | with_reducible refine o7 W ?_ | with_reducible refine o8 W ?_ | with_reducible refine o9 W ?_ | with_reducible refine l7 W ?_ | with_reducible refine l8 W ?_ | with_reducible refine l9 W ?_ | with_reducible refine s7 W ?_ | with_reducible refine s8 W ?_ | with_reducible refine s9 W ?_ | ((with_reducible refine g7 W ?_ ?_); · omega) | ((with_reducible refine g8 W ?_ ?_); · omega) | ((with_reducible refine g9 W ?_ ?_); · omega) | ((with_reducible refine p9 W ?_ ?_); · omega) | ((with_reducible refine p10 W ?_ ?_); · omega) | ((with_reducible refine pA W ?_ ?_); · omega) | with_reducible refine onz W ?_ | with_reducible refine opu ?_
      exact Ok.ite (fun _ => Ok.s ha) (fun h => absurd (Int32.le_refl _) h)
  | succ d ih =>
    intro i hi f hf a ha
    cases f with
    | zero => omega
    | succ f =>
      unfold l_X10_cheapest_5
      repeat first | with_reducible refine om W ?_ | with_reducible refine o7 W ?_ | with_reducible refine o8 W ?_ | with_reducible refine o9 W ?_ | with_reducible refine l7 W ?_ | with_reducible refine l8 W ?_ | with_reducible refine l9 W ?_ | with_reducible refine s7 W ?_ | with_reducible refine s8 W ?_ | with_reducible refine s9 W ?_ | ((with_reducible refine g7 W ?_ ?_); · omega) | ((with_reducible refine g8 W ?_ ?_); · omega) | ((with_reducible refine g9 W ?_ ?_); · omega) | ((with_reducible refine p9 W ?_ ?_); · omega) | ((with_reducible refine p10 W ?_ ?_); · omega) | ((with_reducible refine pA W ?_ ?_); · omega) | with_reducible refine onz W ?_ | with_reducible refine opu ?_
      refine Ok.ite (fun _ => Ok.s ha) (fun _ => ?_)
      repeat first | with_reducible refine om W ?_ | with_reducible refine o7 W ?_ | with_reducible refine o8 W ?_ | with_reducible refine o9 W ?_ | with_reducible refine l7 W ?_ | with_reducible refine l8 W ?_ | with_reducible refine l9 W ?_ | with_reducible refine s7 W ?_ | with_reducible refine s8 W ?_ | with_reducible refine s9 W ?_ | ((with_reducible refine g7 W ?_ ?_); · omega) | ((with_reducible refine g8 W ?_ ?_); · omega) | ((with_reducible refine g9 W ?_ ?_); · omega) | ((with_reducible refine p9 W ?_ ?_); · omega) | ((with_reducible refine p10 W ?_ ?_); · omega) | ((with_reducible refine pA W ?_ ?_); · omega) | with_reducible refine onz W ?_ | with_reducible refine opu ?_
      have g0 := ih (i + 1) (by omega) f (by omega) a ha
      rw [nI_s1]
      refine Ok.b (wb_ok W (by omega) hq) (fun v hv => ?_)
      refine Ok.ite (fun h0 => ?_) (fun _ => g0)
      obtain ⟨t, ht, e⟩ := hv h0
      have g1 := ih (i + 1) (by omega) f (by omega) (nI i) (Or.inr ⟨i, t, ⟨by omega, ht⟩, rfl, e⟩)
      repeat first | with_reducible refine om W ?_ | with_reducible refine o7 W ?_ | with_reducible refine o8 W ?_ | with_reducible refine o9 W ?_ | with_reducible refine l7 W ?_ | with_reducible refine l8 W ?_ | with_reducible refine l9 W ?_ | with_reducible refine s7 W ?_ | with_reducible refine s8 W ?_ | with_reducible refine s9 W ?_ | ((with_reducible refine g7 W ?_ ?_); · omega) | ((with_reducible refine g8 W ?_ ?_); · omega) | ((with_reducible refine g9 W ?_ ?_); · omega) | ((with_reducible refine p9 W ?_ ?_); · omega) | ((with_reducible refine p10 W ?_ ?_); · omega) | ((with_reducible refine pA W ?_ ?_); · omega) | with_reducible refine onz W ?_ | with_reducible refine opu ?_
      refine Ok.b (pr_ok W (by omega) ht e) (fun _ _ => ?_)
      refine Ok.ite (fun _ => g0) (fun _ => ?_)
      refine Ok.ite (fun _ => g1) (fun hn => ?_)
      repeat first | with_reducible refine om W ?_ | with_reducible refine o7 W ?_ | with_reducible refine o8 W ?_ | with_reducible refine o9 W ?_ | with_reducible refine l7 W ?_ | with_reducible refine l8 W ?_ | with_reducible refine l9 W ?_ | with_reducible refine s7 W ?_ | with_reducible refine s8 W ?_ | with_reducible refine s9 W ?_ | ((with_reducible refine g7 W ?_ ?_); · omega) | ((with_reducible refine g8 W ?_ ?_); · omega) | ((with_reducible refine g9 W ?_ ?_); · omega) | ((with_reducible refine p9 W ?_ ?_); · omega) | ((with_reducible refine p10 W ?_ ?_); · omega) | ((with_reducible refine pA W ?_ ?_); · omega) | with_reducible refine onz W ?_ | with_reducible refine opu ?_
      refine Ok.b (pr_ok W (by omega) ht e) (fun _ _ => ?_)
      repeat first | with_reducible refine om W ?_ | with_reducible refine o7 W ?_ | with_reducible refine o8 W ?_ | with_reducible refine o9 W ?_ | with_reducible refine l7 W ?_ | with_reducible refine l8 W ?_ | with_reducible refine l9 W ?_ | with_reducible refine s7 W ?_ | with_reducible refine s8 W ?_ | with_reducible refine s9 W ?_ | ((with_reducible refine g7 W ?_ ?_); · omega) | ((with_reducible refine g8 W ?_ ?_); · omega) | ((with_reducible refine g9 W ?_ ?_); · omega) | ((with_reducible refine p9 W ?_ ?_); · omega) | ((with_reducible refine p10 W ?_ ?_); · omega) | ((with_reducible refine pA W ?_ ?_); · omega) | with_reducible refine onz W ?_ | with_reducible refine opu ?_
      rcases ha with ha | ⟨k, t2, ⟨hk, ht2⟩, ek, e2⟩
      · exact absurd (show a < 0 by rw [ha]; exact lt_m1) hn
      rw [ek]
      rw [ek] at g0
      refine Ok.b (pr_ok W hk ht2 e2) (fun _ _ => ?_)
      exact Ok.ite (fun _ => g0) (fun _ => g1)
theorem ch_ok (W : WI K ns I0 I) {x : Int32} (hq : q < 2) : Ok (f_X10_cheapest I K 415 (nI q) x) (CH I ns) := ch_l W hq 4 0 (by decide) FU (by have := FU_ge; omega) (-1) (Or.inl rfl)
theorem bg_l (W : WI K ns I0 I) (hq : q < 2) : ∀ d i, i + d = 4 → ∀ f, d < f → ∀ a, CG I ns q a → Ok (l_X10_bestGrant_4 f I K 415 (nI q) a (nI i)) (CG I ns q) := by
  intro d
  induction d with
  | zero =>
    intro i hi f hf a ha
    obtain rfl : i = 4 := by omega
    cases f with
    | zero => omega
    | succ f =>
      unfold l_X10_bestGrant_4
      repeat first | with_reducible refine om W ?_ | with_reducible refine o7 W ?_ | with_reducible refine o8 W ?_ | with_reducible refine o9 W ?_ | with_reducible refine l7 W ?_ | with_reducible refine l8 W ?_ | with_reducible refine l9 W ?_ | with_reducible refine s7 W ?_ | with_reducible refine s8 W ?_ | with_reducible refine s9 W ?_ | ((with_reducible refine g7 W ?_ ?_); · omega) | ((with_reducible refine g8 W ?_ ?_); · omega) | ((with_reducible refine g9 W ?_ ?_); · omega) | ((with_reducible refine p9 W ?_ ?_); · omega) | ((with_reducible refine p10 W ?_ ?_); · omega) | ((with_reducible refine pA W ?_ ?_); · omega) | with_reducible refine onz W ?_ | with_reducible refine opu ?_
      exact Ok.ite (fun _ => Ok.s ha) (fun h => absurd (Int32.le_refl _) h)
  | succ d ih =>
    intro i hi f hf a ha
    cases f with
    | zero => omega
    | succ f =>
      unfold l_X10_bestGrant_4
      repeat first | with_reducible refine om W ?_ | with_reducible refine o7 W ?_ | with_reducible refine o8 W ?_ | with_reducible refine o9 W ?_ | with_reducible refine l7 W ?_ | with_reducible refine l8 W ?_ | with_reducible refine l9 W ?_ | with_reducible refine s7 W ?_ | with_reducible refine s8 W ?_ | with_reducible refine s9 W ?_ | ((with_reducible refine g7 W ?_ ?_); · omega) | ((with_reducible refine g8 W ?_ ?_); · omega) | ((with_reducible refine g9 W ?_ ?_); · omega) | ((with_reducible refine p9 W ?_ ?_); · omega) | ((with_reducible refine p10 W ?_ ?_); · omega) | ((with_reducible refine pA W ?_ ?_); · omega) | with_reducible refine onz W ?_ | with_reducible refine opu ?_
      refine Ok.ite (fun _ => Ok.s ha) (fun _ => ?_)
      repeat first | with_reducible refine om W ?_ | with_reducible refine o7 W ?_ | with_reducible refine o8 W ?_ | with_reducible refine o9 W ?_ | with_reducible refine l7 W ?_ | with_reducible refine l8 W ?_ | with_reducible refine l9 W ?_ | with_reducible refine s7 W ?_ | with_reducible refine s8 W ?_ | with_reducible refine s9 W ?_ | ((with_reducible refine g7 W ?_ ?_); · omega) | ((with_reducible refine g8 W ?_ ?_); · omega) | ((with_reducible refine g9 W ?_ ?_); · omega) | ((with_reducible refine p9 W ?_ ?_); · omega) | ((with_reducible refine p10 W ?_ ?_); · omega) | ((with_reducible refine pA W ?_ ?_); · omega) | with_reducible refine onz W ?_ | with_reducible refine opu ?_
      have g0 := ih (i + 1) (by omega) f (by omega) a ha
      rw [nI_s1]
      refine Ok.ite (fun e => ?_) (fun _ => g0)
      have g1 := ih (i + 1) (by omega) f (by omega) (nI i) (Or.inr ⟨i, by omega, rfl, e⟩)
      repeat first | with_reducible refine om W ?_ | with_reducible refine o7 W ?_ | with_reducible refine o8 W ?_ | with_reducible refine o9 W ?_ | with_reducible refine l7 W ?_ | with_reducible refine l8 W ?_ | with_reducible refine l9 W ?_ | with_reducible refine s7 W ?_ | with_reducible refine s8 W ?_ | with_reducible refine s9 W ?_ | ((with_reducible refine g7 W ?_ ?_); · omega) | ((with_reducible refine g8 W ?_ ?_); · omega) | ((with_reducible refine g9 W ?_ ?_); · omega) | ((with_reducible refine p9 W ?_ ?_); · omega) | ((with_reducible refine p10 W ?_ ?_); · omega) | ((with_reducible refine pA W ?_ ?_); · omega) | with_reducible refine onz W ?_ | with_reducible refine opu ?_
      refine Ok.b (wg_ok W (by omega)) (fun v hv => ?_)
      refine Ok.ite (fun h0 => ?_) (fun _ => g0)
      refine Ok.ite (fun _ => g1) (fun hn => ?_)
      repeat first | with_reducible refine om W ?_ | with_reducible refine o7 W ?_ | with_reducible refine o8 W ?_ | with_reducible refine o9 W ?_ | with_reducible refine l7 W ?_ | with_reducible refine l8 W ?_ | with_reducible refine l9 W ?_ | with_reducible refine s7 W ?_ | with_reducible refine s8 W ?_ | with_reducible refine s9 W ?_ | ((with_reducible refine g7 W ?_ ?_); · omega) | ((with_reducible refine g8 W ?_ ?_); · omega) | ((with_reducible refine g9 W ?_ ?_); · omega) | ((with_reducible refine p9 W ?_ ?_); · omega) | ((with_reducible refine p10 W ?_ ?_); · omega) | ((with_reducible refine pA W ?_ ?_); · omega) | with_reducible refine onz W ?_ | with_reducible refine opu ?_
      refine Ok.b (vl_ok W (by omega)) (fun _ _ => ?_)
      repeat first | with_reducible refine om W ?_ | with_reducible refine o7 W ?_ | with_reducible refine o8 W ?_ | with_reducible refine o9 W ?_ | with_reducible refine l7 W ?_ | with_reducible refine l8 W ?_ | with_reducible refine l9 W ?_ | with_reducible refine s7 W ?_ | with_reducible refine s8 W ?_ | with_reducible refine s9 W ?_ | ((with_reducible refine g7 W ?_ ?_); · omega) | ((with_reducible refine g8 W ?_ ?_); · omega) | ((with_reducible refine g9 W ?_ ?_); · omega) | ((with_reducible refine p9 W ?_ ?_); · omega) | ((with_reducible refine p10 W ?_ ?_); · omega) | ((with_reducible refine pA W ?_ ?_); · omega) | with_reducible refine onz W ?_ | with_reducible refine opu ?_
      rcases ha with ha | ⟨k, hk, ek, e2⟩
      · exact absurd (show a < 0 by rw [ha]; exact lt_m1) hn
      rw [ek]
      rw [ek] at g0
      repeat first | with_reducible refine om W ?_ | with_reducible refine o7 W ?_ | with_reducible refine o8 W ?_ | with_reducible refine o9 W ?_ | with_reducible refine l7 W ?_ | with_reducible refine l8 W ?_ | with_reducible refine l9 W ?_ | with_reducible refine s7 W ?_ | with_reducible refine s8 W ?_ | with_reducible refine s9 W ?_ | ((with_reducible refine g7 W ?_ ?_); · omega) | ((with_reducible refine g8 W ?_ ?_); · omega) | ((with_reducible refine g9 W ?_ ?_); · omega) | ((with_reducible refine p9 W ?_ ?_); · omega) | ((with_reducible refine p10 W ?_ ?_); · omega) | ((with_reducible refine pA W ?_ ?_); · omega) | with_reducible refine onz W ?_ | with_reducible refine opu ?_
      refine Ok.b (vl_ok W hk) (fun _ _ => ?_)
      exact Ok.ite (fun _ => g0) (fun _ => g1)
theorem bg_ok (W : WI K ns I0 I) (hq : q < 2) : Ok (f_X10_bestGrant I K 415 (nI q)) (CG I ns q) := bg_l W hq 4 0 (by decide) FU (by have := FU_ge; omega) (-1) (Or.inl rfl)
theorem bo_l (W : WI K ns I0 I) (hk : k < 4) : ∀ d i, i + d = ns → ∀ f, d < f → ∀ a, CO ns a → Ok (l_X10_bestOffer_4 f I K 415 (nI k) a (nI i)) (CO ns) := by
  intro d
  induction d with
  | zero =>
    intro i hi f hf a ha
    obtain rfl : i = ns := by omega
    cases f with
    | zero => omega
    | succ f =>
      unfold l_X10_bestOffer_4
      repeat first | with_reducible refine om W ?_ | with_reducible refine o7 W ?_ | with_reducible refine o8 W ?_ | with_reducible refine o9 W ?_ | with_reducible refine l7 W ?_ | with_reducible refine l8 W ?_ | with_reducible refine l9 W ?_ | with_reducible refine s7 W ?_ | with_reducible refine s8 W ?_ | with_reducible refine s9 W ?_ | ((with_reducible refine g7 W ?_ ?_); · omega) | ((with_reducible refine g8 W ?_ ?_); · omega) | ((with_reducible refine g9 W ?_ ?_); · omega) | ((with_reducible refine p9 W ?_ ?_); · omega) | ((with_reducible refine p10 W ?_ ?_); · omega) | ((with_reducible refine pA W ?_ ?_); · omega) | with_reducible refine onz W ?_ | with_reducible refine opu ?_
      exact Ok.ite (fun _ => Ok.s ha) (fun h => absurd (Int32.le_refl _) h)
  | succ d ih =>
    intro i hi f hf a ha
    cases f with
    | zero => omega
    | succ f =>
      unfold l_X10_bestOffer_4
      repeat first | with_reducible refine om W ?_ | with_reducible refine o7 W ?_ | with_reducible refine o8 W ?_ | with_reducible refine o9 W ?_ | with_reducible refine l7 W ?_ | with_reducible refine l8 W ?_ | with_reducible refine l9 W ?_ | with_reducible refine s7 W ?_ | with_reducible refine s8 W ?_ | with_reducible refine s9 W ?_ | ((with_reducible refine g7 W ?_ ?_); · omega) | ((with_reducible refine g8 W ?_ ?_); · omega) | ((with_reducible refine g9 W ?_ ?_); · omega) | ((with_reducible refine p9 W ?_ ?_); · omega) | ((with_reducible refine p10 W ?_ ?_); · omega) | ((with_reducible refine pA W ?_ ?_); · omega) | with_reducible refine onz W ?_ | with_reducible refine opu ?_
      have hn2 := W.1.2.2
      refine Ok.ite (fun _ => Ok.s ha) (fun _ => ?_)
      repeat first | with_reducible refine om W ?_ | with_reducible refine o7 W ?_ | with_reducible refine o8 W ?_ | with_reducible refine o9 W ?_ | with_reducible refine l7 W ?_ | with_reducible refine l8 W ?_ | with_reducible refine l9 W ?_ | with_reducible refine s7 W ?_ | with_reducible refine s8 W ?_ | with_reducible refine s9 W ?_ | ((with_reducible refine g7 W ?_ ?_); · omega) | ((with_reducible refine g8 W ?_ ?_); · omega) | ((with_reducible refine g9 W ?_ ?_); · omega) | ((with_reducible refine p9 W ?_ ?_); · omega) | ((with_reducible refine p10 W ?_ ?_); · omega) | ((with_reducible refine pA W ?_ ?_); · omega) | with_reducible refine onz W ?_ | with_reducible refine opu ?_
      have g0 := ih (i + 1) (by omega) f (by omega) a ha
      rw [nI_s1]
      have g1 := ih (i + 1) (by omega) f (by omega) (nI i) (Or.inr ⟨i, by omega, rfl⟩)
      refine Ok.b (ws_ok W hk (by omega)) (fun v hv => ?_)
      refine Ok.ite (fun h0 => ?_) (fun _ => g0)
      refine Ok.ite (fun _ => g1) (fun hn => ?_)
      repeat first | with_reducible refine om W ?_ | with_reducible refine o7 W ?_ | with_reducible refine o8 W ?_ | with_reducible refine o9 W ?_ | with_reducible refine l7 W ?_ | with_reducible refine l8 W ?_ | with_reducible refine l9 W ?_ | with_reducible refine s7 W ?_ | with_reducible refine s8 W ?_ | with_reducible refine s9 W ?_ | ((with_reducible refine g7 W ?_ ?_); · omega) | ((with_reducible refine g8 W ?_ ?_); · omega) | ((with_reducible refine g9 W ?_ ?_); · omega) | ((with_reducible refine p9 W ?_ ?_); · omega) | ((with_reducible refine p10 W ?_ ?_); · omega) | ((with_reducible refine pA W ?_ ?_); · omega) | with_reducible refine onz W ?_ | with_reducible refine opu ?_
      refine Ok.b (of_ok W hk (by omega)) (fun _ _ => ?_)
      repeat first | with_reducible refine om W ?_ | with_reducible refine o7 W ?_ | with_reducible refine o8 W ?_ | with_reducible refine o9 W ?_ | with_reducible refine l7 W ?_ | with_reducible refine l8 W ?_ | with_reducible refine l9 W ?_ | with_reducible refine s7 W ?_ | with_reducible refine s8 W ?_ | with_reducible refine s9 W ?_ | ((with_reducible refine g7 W ?_ ?_); · omega) | ((with_reducible refine g8 W ?_ ?_); · omega) | ((with_reducible refine g9 W ?_ ?_); · omega) | ((with_reducible refine p9 W ?_ ?_); · omega) | ((with_reducible refine p10 W ?_ ?_); · omega) | ((with_reducible refine pA W ?_ ?_); · omega) | with_reducible refine onz W ?_ | with_reducible refine opu ?_
      rcases ha with ha | ⟨t, ht, ek⟩
      · exact absurd (show a < 0 by rw [ha]; exact lt_m1) hn
      rw [ek]
      rw [ek] at g0
      refine Ok.b (of_ok W hk ht) (fun _ _ => ?_)
      exact Ok.ite (fun _ => g0) (fun _ => g1)
theorem bo_ok (W : WI K ns I0 I) (hk : k < 4) : Ok (f_X10_bestOffer I K 415 (nI k)) (CO ns) := bo_l W hk ns 0 (by omega) FU (by have := FU_ge; have := W.1.2.2; omega) (-1) (Or.inl rfl)
theorem gd_l (W : WI K ns I0 I) : ∀ d i, i + d = 4 → ∀ f, d < f → ∀ a, Ok (l_X10_granted_4 f I K 415 a (nI i)) fun _ => True := by
  intro d
  induction d with
  | zero =>
    intro i hi f hf a
    obtain rfl : i = 4 := by omega
    cases f with
    | zero => omega
    | succ f =>
      unfold l_X10_granted_4
      repeat first | with_reducible refine om W ?_ | with_reducible refine o7 W ?_ | with_reducible refine o8 W ?_ | with_reducible refine o9 W ?_ | with_reducible refine l7 W ?_ | with_reducible refine l8 W ?_ | with_reducible refine l9 W ?_ | with_reducible refine s7 W ?_ | with_reducible refine s8 W ?_ | with_reducible refine s9 W ?_ | ((with_reducible refine g7 W ?_ ?_); · omega) | ((with_reducible refine g8 W ?_ ?_); · omega) | ((with_reducible refine g9 W ?_ ?_); · omega) | ((with_reducible refine p9 W ?_ ?_); · omega) | ((with_reducible refine p10 W ?_ ?_); · omega) | ((with_reducible refine pA W ?_ ?_); · omega) | with_reducible refine onz W ?_ | with_reducible refine opu ?_
      exact Ok.ite (fun _ => Ok.s trivial) (fun h => absurd (Int32.le_refl _) h)
  | succ d ih =>
    intro i hi f hf a
    cases f with
    | zero => omega
    | succ f =>
      unfold l_X10_granted_4
      repeat first | with_reducible refine om W ?_ | with_reducible refine o7 W ?_ | with_reducible refine o8 W ?_ | with_reducible refine o9 W ?_ | with_reducible refine l7 W ?_ | with_reducible refine l8 W ?_ | with_reducible refine l9 W ?_ | with_reducible refine s7 W ?_ | with_reducible refine s8 W ?_ | with_reducible refine s9 W ?_ | ((with_reducible refine g7 W ?_ ?_); · omega) | ((with_reducible refine g8 W ?_ ?_); · omega) | ((with_reducible refine g9 W ?_ ?_); · omega) | ((with_reducible refine p9 W ?_ ?_); · omega) | ((with_reducible refine p10 W ?_ ?_); · omega) | ((with_reducible refine pA W ?_ ?_); · omega) | with_reducible refine onz W ?_ | with_reducible refine opu ?_
      refine Ok.ite (fun _ => Ok.s trivial) (fun _ => ?_)
      repeat first | with_reducible refine om W ?_ | with_reducible refine o7 W ?_ | with_reducible refine o8 W ?_ | with_reducible refine o9 W ?_ | with_reducible refine l7 W ?_ | with_reducible refine l8 W ?_ | with_reducible refine l9 W ?_ | with_reducible refine s7 W ?_ | with_reducible refine s8 W ?_ | with_reducible refine s9 W ?_ | ((with_reducible refine g7 W ?_ ?_); · omega) | ((with_reducible refine g8 W ?_ ?_); · omega) | ((with_reducible refine g9 W ?_ ?_); · omega) | ((with_reducible refine p9 W ?_ ?_); · omega) | ((with_reducible refine p10 W ?_ ?_); · omega) | ((with_reducible refine pA W ?_ ?_); · omega) | with_reducible refine onz W ?_ | with_reducible refine opu ?_
      rw [nI_s1]
      exact Ok.ite (fun _ => ih (i + 1) (by omega) f (by omega) _) (fun _ => ih (i + 1) (by omega) f (by omega) _)
theorem gd_ok (W : WI K ns I0 I) : Ok (f_X10_granted I K 415) fun _ => True := gd_l W 4 0 (by decide) FU (by have := FU_ge; omega) 0
theorem bid_ok (W : WI K ns I0 I) (hq : q < 2) (hk : k < 4) : Ok (f_X10_bid I K 415 (nI q) (nI k)) fun _ => True := by
  unfold f_X10_bid
  repeat first | with_reducible refine om W ?_ | with_reducible refine o7 W ?_ | with_reducible refine o8 W ?_ | with_reducible refine o9 W ?_ | with_reducible refine l7 W ?_ | with_reducible refine l8 W ?_ | with_reducible refine l9 W ?_ | with_reducible refine s7 W ?_ | with_reducible refine s8 W ?_ | with_reducible refine s9 W ?_ | ((with_reducible refine g7 W ?_ ?_); · omega) | ((with_reducible refine g8 W ?_ ?_); · omega) | ((with_reducible refine g9 W ?_ ?_); · omega) | ((with_reducible refine p9 W ?_ ?_); · omega) | ((with_reducible refine p10 W ?_ ?_); · omega) | ((with_reducible refine pA W ?_ ?_); · omega) | with_reducible refine onz W ?_ | with_reducible refine opu ?_
  exact Ok.b (vl_ok W hk) (fun _ _ => Ok.s trivial)
end ADV3
