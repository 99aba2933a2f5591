/-! the law's days do not fall -/
section ADV7
variable {I I0 I' I1 I2 : Mem} {K : Kt} {ns i j a k t y q : Nat} {x1 x2 x3 x4 : Int32} {α β : Type}
def WQ (K : Kt) (ns : Nat) (I0 : Mem) (p : Int32 × Mem) : Prop := WI K ns I0 p.2
def WCc (K : Kt) (ns : Nat) (I0 : Mem) (c : Mem → Kt → Nat → Int32 → Int32 → Int32 → Option (Int32 × Mem)) (x1 x2 x3 : Int32) : Prop := ∀ I, WI K ns I0 I → Ok (c I K 415 x1 x2 x3) (WQ K ns I0)
variable {c : Mem → Kt → Nat → Int32 → Int32 → Int32 → Option (Int32 × Mem)}
theorem WI.py (W : WI K ns I0 I) {x : Int32} : WI K ns I0 (u2 I 415 1 x) := W.p1 (by omega) (by omega) (fun _ => by decide) (fun z => by have := W.1.2; omega)
theorem a332 (C : WCc K ns I0 c x1 x2 (x3 + 1)) : ∀ d i, i + d = 4 → ∀ f, d < f → ∀ I, WI K ns I0 I → Ok (l_X10_advance_332 c f I K 415 x1 x2 x3 (nI i)) (WQ K ns I0) := by
  intro d
  induction d with
  | zero =>
    intro i hi f hf I W
    obtain rfl : i = 4 := by omega
    cases f with
    | zero => omega
    | succ f =>
      unfold l_X10_advance_332
      repeat first | with_reducible refine om W ?_ | with_reducible refine o7 W ?_ | with_reducible refine o8 W ?_ | with_reducible refine o9 W ?_ | with_reducible refine l7 W ?_ | with_reducible refine l8 W ?_ | with_reducible refine l9 W ?_ | with_reducible refine s7 W ?_ | with_reducible refine s8 W ?_ | with_reducible refine s9 W ?_ | ((with_reducible refine g7 W ?_ ?_); · omega) | ((with_reducible refine g8 W ?_ ?_); · omega) | ((with_reducible refine g9 W ?_ ?_); · omega) | ((with_reducible refine p9 W ?_ ?_); · omega) | ((with_reducible refine p10 W ?_ ?_); · omega) | ((with_reducible refine pA W ?_ ?_); · omega) | with_reducible refine onz W ?_ | with_reducible refine opu ?_
      refine Ok.ite (fun _ => ?_) (fun h => absurd (Int32.le_refl _) h)
      exact C I W
  | succ d ih =>
    intro i hi f hf I W
    cases f with
    | zero => omega
    | succ f =>
      unfold l_X10_advance_332
      repeat first | with_reducible refine om W ?_ | with_reducible refine o7 W ?_ | with_reducible refine o8 W ?_ | with_reducible refine o9 W ?_ | with_reducible refine l7 W ?_ | with_reducible refine l8 W ?_ | with_reducible refine l9 W ?_ | with_reducible refine s7 W ?_ | with_reducible refine s8 W ?_ | with_reducible refine s9 W ?_ | ((with_reducible refine g7 W ?_ ?_); · omega) | ((with_reducible refine g8 W ?_ ?_); · omega) | ((with_reducible refine g9 W ?_ ?_); · omega) | ((with_reducible refine p9 W ?_ ?_); · omega) | ((with_reducible refine p10 W ?_ ?_); · omega) | ((with_reducible refine pA W ?_ ?_); · omega) | with_reducible refine onz W ?_ | with_reducible refine opu ?_
      have run : ∀ I, WI K ns I0 I → Ok (l_X10_advance_389 (l_X10_advance_332 c f) I K 415 x1 x2 x3 (nI i) (wd ns i)) (WQ K ns I0) := by
        intro I W
        have hi4 : i < 4 := by omega
        have W1 := fun z => W.pw (x := z) (j := 2) hi4 (by decide)
        unfold l_X10_advance_389
        repeat first | with_reducible refine om W ?_ | with_reducible refine o7 W ?_ | with_reducible refine o8 W ?_ | with_reducible refine o9 W ?_ | with_reducible refine l7 W ?_ | with_reducible refine l8 W ?_ | with_reducible refine l9 W ?_ | with_reducible refine s7 W ?_ | with_reducible refine s8 W ?_ | with_reducible refine s9 W ?_ | ((with_reducible refine g7 W ?_ ?_); · omega) | ((with_reducible refine g8 W ?_ ?_); · omega) | ((with_reducible refine g9 W ?_ ?_); · omega) | ((with_reducible refine p9 W ?_ ?_); · omega) | ((with_reducible refine p10 W ?_ ?_); · omega) | ((with_reducible refine pA W ?_ ?_); · omega) | with_reducible refine onz W ?_ | with_reducible refine opu ?_
        refine Ok.ite (fun _ => ?_) (fun _ => ?_)
        · repeat first | with_reducible refine om W ?_ | with_reducible refine o7 W ?_ | with_reducible refine o8 W ?_ | with_reducible refine o9 W ?_ | with_reducible refine l7 W ?_ | with_reducible refine l8 W ?_ | with_reducible refine l9 W ?_ | with_reducible refine s7 W ?_ | with_reducible refine s8 W ?_ | with_reducible refine s9 W ?_ | ((with_reducible refine g7 W ?_ ?_); · omega) | ((with_reducible refine g8 W ?_ ?_); · omega) | ((with_reducible refine g9 W ?_ ?_); · omega) | ((with_reducible refine p9 W ?_ ?_); · omega) | ((with_reducible refine p10 W ?_ ?_); · omega) | ((with_reducible refine pA W ?_ ?_); · omega) | with_reducible refine onz W ?_ | with_reducible refine opu ?_
          refine Ok.b (pl_ok (W1 _) hi4 (Or.inl rfl) (Or.inl rfl)) (fun I2 W2 => ?_)
          repeat first | with_reducible refine om W ?_ | with_reducible refine o7 W ?_ | with_reducible refine o8 W ?_ | with_reducible refine o9 W ?_ | with_reducible refine l7 W ?_ | with_reducible refine l8 W ?_ | with_reducible refine l9 W ?_ | with_reducible refine s7 W ?_ | with_reducible refine s8 W ?_ | with_reducible refine s9 W ?_ | ((with_reducible refine g7 W ?_ ?_); · omega) | ((with_reducible refine g8 W ?_ ?_); · omega) | ((with_reducible refine g9 W ?_ ?_); · omega) | ((with_reducible refine p9 W ?_ ?_); · omega) | ((with_reducible refine p10 W ?_ ?_); · omega) | ((with_reducible refine pA W ?_ ?_); · omega) | with_reducible refine onz W ?_ | with_reducible refine opu ?_
          refine Ok.e (show cF .boolean 1 = some () from rfl) ?_
          repeat first | with_reducible refine om W ?_ | with_reducible refine o7 W ?_ | with_reducible refine o8 W ?_ | with_reducible refine o9 W ?_ | with_reducible refine l7 W ?_ | with_reducible refine l8 W ?_ | with_reducible refine l9 W ?_ | with_reducible refine s7 W ?_ | with_reducible refine s8 W ?_ | with_reducible refine s9 W ?_ | ((with_reducible refine g7 W ?_ ?_); · omega) | ((with_reducible refine g8 W ?_ ?_); · omega) | ((with_reducible refine g9 W ?_ ?_); · omega) | ((with_reducible refine p9 W ?_ ?_); · omega) | ((with_reducible refine p10 W ?_ ?_); · omega) | ((with_reducible refine pA W ?_ ?_); · omega) | with_reducible refine onz W ?_ | with_reducible refine opu ?_
          rw [nI_s1]
          exact ih (i + 1) (by omega) f (by omega) _ (W2.pw hi4 (by decide))
        · rw [nI_s1]
          exact ih (i + 1) (by omega) f (by omega) _ (W1 _)
      refine Ok.ite (fun _ => C I W) (fun _ => ?_)
      repeat first | with_reducible refine om W ?_ | with_reducible refine o7 W ?_ | with_reducible refine o8 W ?_ | with_reducible refine o9 W ?_ | with_reducible refine l7 W ?_ | with_reducible refine l8 W ?_ | with_reducible refine l9 W ?_ | with_reducible refine s7 W ?_ | with_reducible refine s8 W ?_ | with_reducible refine s9 W ?_ | ((with_reducible refine g7 W ?_ ?_); · omega) | ((with_reducible refine g8 W ?_ ?_); · omega) | ((with_reducible refine g9 W ?_ ?_); · omega) | ((with_reducible refine p9 W ?_ ?_); · omega) | ((with_reducible refine p10 W ?_ ?_); · omega) | ((with_reducible refine pA W ?_ ?_); · omega) | with_reducible refine onz W ?_ | with_reducible refine opu ?_
      refine Ok.ite (fun _ => ?_) (fun _ => C I W)
      repeat first | with_reducible refine om W ?_ | with_reducible refine o7 W ?_ | with_reducible refine o8 W ?_ | with_reducible refine o9 W ?_ | with_reducible refine l7 W ?_ | with_reducible refine l8 W ?_ | with_reducible refine l9 W ?_ | with_reducible refine s7 W ?_ | with_reducible refine s8 W ?_ | with_reducible refine s9 W ?_ | ((with_reducible refine g7 W ?_ ?_); · omega) | ((with_reducible refine g8 W ?_ ?_); · omega) | ((with_reducible refine g9 W ?_ ?_); · omega) | ((with_reducible refine p9 W ?_ ?_); · omega) | ((with_reducible refine p10 W ?_ ?_); · omega) | ((with_reducible refine pA W ?_ ?_); · omega) | with_reducible refine onz W ?_ | with_reducible refine opu ?_
      refine Ok.ite (fun _ => run I W) (fun _ => ?_)
      repeat first | with_reducible refine om W ?_ | with_reducible refine o7 W ?_ | with_reducible refine o8 W ?_ | with_reducible refine o9 W ?_ | with_reducible refine l7 W ?_ | with_reducible refine l8 W ?_ | with_reducible refine l9 W ?_ | with_reducible refine s7 W ?_ | with_reducible refine s8 W ?_ | with_reducible refine s9 W ?_ | ((with_reducible refine g7 W ?_ ?_); · omega) | ((with_reducible refine g8 W ?_ ?_); · omega) | ((with_reducible refine g9 W ?_ ?_); · omega) | ((with_reducible refine p9 W ?_ ?_); · omega) | ((with_reducible refine p10 W ?_ ?_); · omega) | ((with_reducible refine pA W ?_ ?_); · omega) | with_reducible refine onz W ?_ | with_reducible refine opu ?_
      refine Ok.ite (fun _ => run I W) (fun _ => ?_)
      rw [nI_s1]
      exact ih (i + 1) (by omega) f (by omega) I W
theorem a286 (C : WCc K ns I0 c x1 x2 (x3 + 1)) : ∀ d i, i + d = 2 → ∀ f, d < f → ∀ I, WI K ns I0 I → Ok (l_X10_advance_286 c f I K 415 x1 x2 x3 x4 (nI i)) (WQ K ns I0) := by
  intro d
  induction d with
  | zero =>
    intro i hi f hf I W
    obtain rfl : i = 2 := by omega
    cases f with
    | zero => omega
    | succ f =>
      unfold l_X10_advance_286
      repeat first | with_reducible refine om W ?_ | with_reducible refine o7 W ?_ | with_reducible refine o8 W ?_ | with_reducible refine o9 W ?_ | with_reducible refine l7 W ?_ | with_reducible refine l8 W ?_ | with_reducible refine l9 W ?_ | with_reducible refine s7 W ?_ | with_reducible refine s8 W ?_ | with_reducible refine s9 W ?_ | ((with_reducible refine g7 W ?_ ?_); · omega) | ((with_reducible refine g8 W ?_ ?_); · omega) | ((with_reducible refine g9 W ?_ ?_); · omega) | ((with_reducible refine p9 W ?_ ?_); · omega) | ((with_reducible refine p10 W ?_ ?_); · omega) | ((with_reducible refine pA W ?_ ?_); · omega) | with_reducible refine onz W ?_ | with_reducible refine opu ?_
      refine Ok.ite (fun _ => ?_) (fun h => absurd (Int32.le_refl _) h)
      repeat first | with_reducible refine om W ?_ | with_reducible refine o7 W ?_ | with_reducible refine o8 W ?_ | with_reducible refine o9 W ?_ | with_reducible refine l7 W ?_ | with_reducible refine l8 W ?_ | with_reducible refine l9 W ?_ | with_reducible refine s7 W ?_ | with_reducible refine s8 W ?_ | with_reducible refine s9 W ?_ | ((with_reducible refine g7 W ?_ ?_); · omega) | ((with_reducible refine g8 W ?_ ?_); · omega) | ((with_reducible refine g9 W ?_ ?_); · omega) | ((with_reducible refine p9 W ?_ ?_); · omega) | ((with_reducible refine p10 W ?_ ?_); · omega) | ((with_reducible refine pA W ?_ ?_); · omega) | with_reducible refine onz W ?_ | with_reducible refine opu ?_
      exact a332 C 4 0 (by decide) FU (by have := FU_ge; omega) _ W.py
  | succ d ih =>
    intro i hi f hf I W
    cases f with
    | zero => omega
    | succ f =>
      unfold l_X10_advance_286
      repeat first | with_reducible refine om W ?_ | with_reducible refine o7 W ?_ | with_reducible refine o8 W ?_ | with_reducible refine o9 W ?_ | with_reducible refine l7 W ?_ | with_reducible refine l8 W ?_ | with_reducible refine l9 W ?_ | with_reducible refine s7 W ?_ | with_reducible refine s8 W ?_ | with_reducible refine s9 W ?_ | ((with_reducible refine g7 W ?_ ?_); · omega) | ((with_reducible refine g8 W ?_ ?_); · omega) | ((with_reducible refine g9 W ?_ ?_); · omega) | ((with_reducible refine p9 W ?_ ?_); · omega) | ((with_reducible refine p10 W ?_ ?_); · omega) | ((with_reducible refine pA W ?_ ?_); · omega) | with_reducible refine onz W ?_ | with_reducible refine opu ?_
      refine Ok.ite (fun h => absurd h (nle_f (by omega) (by omega))) (fun _ => ?_)
      repeat first | with_reducible refine om W ?_ | with_reducible refine o7 W ?_ | with_reducible refine o8 W ?_ | with_reducible refine o9 W ?_ | with_reducible refine l7 W ?_ | with_reducible refine l8 W ?_ | with_reducible refine l9 W ?_ | with_reducible refine s7 W ?_ | with_reducible refine s8 W ?_ | with_reducible refine s9 W ?_ | ((with_reducible refine g7 W ?_ ?_); · omega) | ((with_reducible refine g8 W ?_ ?_); · omega) | ((with_reducible refine g9 W ?_ ?_); · omega) | ((with_reducible refine p9 W ?_ ?_); · omega) | ((with_reducible refine p10 W ?_ ?_); · omega) | ((with_reducible refine pA W ?_ ?_); · omega) | with_reducible refine onz W ?_ | with_reducible refine opu ?_
      refine Ok.ite (fun _ => ?_) (fun _ => ?_)
      · repeat first | with_reducible refine om W ?_ | with_reducible refine o7 W ?_ | with_reducible refine o8 W ?_ | with_reducible refine o9 W ?_ | with_reducible refine l7 W ?_ | with_reducible refine l8 W ?_ | with_reducible refine l9 W ?_ | with_reducible refine s7 W ?_ | with_reducible refine s8 W ?_ | with_reducible refine s9 W ?_ | ((with_reducible refine g7 W ?_ ?_); · omega) | ((with_reducible refine g8 W ?_ ?_); · omega) | ((with_reducible refine g9 W ?_ ?_); · omega) | ((with_reducible refine p9 W ?_ ?_); · omega) | ((with_reducible refine p10 W ?_ ?_); · omega) | ((with_reducible refine pA W ?_ ?_); · omega) | with_reducible refine onz W ?_ | with_reducible refine opu ?_
        refine Ok.b (tax_ok W (by omega)) (fun I2 W2 => ?_)
        rw [nI_s1]
        exact ih (i + 1) (by omega) f (by omega) I2 W2
      · repeat first | with_reducible refine om W ?_ | with_reducible refine o7 W ?_ | with_reducible refine o8 W ?_ | with_reducible refine o9 W ?_ | with_reducible refine l7 W ?_ | with_reducible refine l8 W ?_ | with_reducible refine l9 W ?_ | with_reducible refine s7 W ?_ | with_reducible refine s8 W ?_ | with_reducible refine s9 W ?_ | ((with_reducible refine g7 W ?_ ?_); · omega) | ((with_reducible refine g8 W ?_ ?_); · omega) | ((with_reducible refine g9 W ?_ ?_); · omega) | ((with_reducible refine p9 W ?_ ?_); · omega) | ((with_reducible refine p10 W ?_ ?_); · omega) | ((with_reducible refine pA W ?_ ?_); · omega) | with_reducible refine onz W ?_ | with_reducible refine opu ?_
        exact a332 C 4 0 (by decide) FU (by have := FU_ge; omega) _ W.py
theorem a250 (C : WCc K ns I0 c x1 x2 (x3 + 1)) : ∀ d i, i + d = ns → ∀ f, d < f → ∀ I, WI K ns I0 I → Ok (l_X10_advance_250 c f I K 415 x1 x2 x3 x4 (nI i)) (WQ K ns I0) := by
  intro d
  induction d with
  | zero =>
    intro i hi f hf I W
    obtain rfl : i = ns := by omega
    cases f with
    | zero => omega
    | succ f =>
      unfold l_X10_advance_250
      repeat first | with_reducible refine om W ?_ | with_reducible refine o7 W ?_ | with_reducible refine o8 W ?_ | with_reducible refine o9 W ?_ | with_reducible refine l7 W ?_ | with_reducible refine l8 W ?_ | with_reducible refine l9 W ?_ | with_reducible refine s7 W ?_ | with_reducible refine s8 W ?_ | with_reducible refine s9 W ?_ | ((with_reducible refine g7 W ?_ ?_); · omega) | ((with_reducible refine g8 W ?_ ?_); · omega) | ((with_reducible refine g9 W ?_ ?_); · omega) | ((with_reducible refine p9 W ?_ ?_); · omega) | ((with_reducible refine p10 W ?_ ?_); · omega) | ((with_reducible refine pA W ?_ ?_); · omega) | with_reducible refine onz W ?_ | with_reducible refine opu ?_
      refine Ok.ite (fun _ => ?_) (fun h => absurd (Int32.le_refl _) h)
      exact a286 C 2 0 (by decide) FU (by have := FU_ge; omega) _ W
  | succ d ih =>
    intro i hi f hf I W
    cases f with
    | zero => omega
    | succ f =>
      unfold l_X10_advance_250
      repeat first | with_reducible refine om W ?_ | with_reducible refine o7 W ?_ | with_reducible refine o8 W ?_ | with_reducible refine o9 W ?_ | with_reducible refine l7 W ?_ | with_reducible refine l8 W ?_ | with_reducible refine l9 W ?_ | with_reducible refine s7 W ?_ | with_reducible refine s8 W ?_ | with_reducible refine s9 W ?_ | ((with_reducible refine g7 W ?_ ?_); · omega) | ((with_reducible refine g8 W ?_ ?_); · omega) | ((with_reducible refine g9 W ?_ ?_); · omega) | ((with_reducible refine p9 W ?_ ?_); · omega) | ((with_reducible refine p10 W ?_ ?_); · omega) | ((with_reducible refine pA W ?_ ?_); · omega) | with_reducible refine onz W ?_ | with_reducible refine opu ?_
      have hn2 := W.1.2.2
      refine Ok.ite (fun h => absurd h (nle_f (by omega) (by omega))) (fun _ => ?_)
      repeat first | with_reducible refine om W ?_ | with_reducible refine o7 W ?_ | with_reducible refine o8 W ?_ | with_reducible refine o9 W ?_ | with_reducible refine l7 W ?_ | with_reducible refine l8 W ?_ | with_reducible refine l9 W ?_ | with_reducible refine s7 W ?_ | with_reducible refine s8 W ?_ | with_reducible refine s9 W ?_ | ((with_reducible refine g7 W ?_ ?_); · omega) | ((with_reducible refine g8 W ?_ ?_); · omega) | ((with_reducible refine g9 W ?_ ?_); · omega) | ((with_reducible refine p9 W ?_ ?_); · omega) | ((with_reducible refine p10 W ?_ ?_); · omega) | ((with_reducible refine pA W ?_ ?_); · omega) | with_reducible refine onz W ?_ | with_reducible refine opu ?_
      refine Ok.ite (fun _ => ?_) (fun _ => a286 C 2 0 (by decide) FU (by have := FU_ge; omega) _ W)
      repeat first | with_reducible refine om W ?_ | with_reducible refine o7 W ?_ | with_reducible refine o8 W ?_ | with_reducible refine o9 W ?_ | with_reducible refine l7 W ?_ | with_reducible refine l8 W ?_ | with_reducible refine l9 W ?_ | with_reducible refine s7 W ?_ | with_reducible refine s8 W ?_ | with_reducible refine s9 W ?_ | ((with_reducible refine g7 W ?_ ?_); · omega) | ((with_reducible refine g8 W ?_ ?_); · omega) | ((with_reducible refine g9 W ?_ ?_); · omega) | ((with_reducible refine p9 W ?_ ?_); · omega) | ((with_reducible refine p10 W ?_ ?_); · omega) | ((with_reducible refine pA W ?_ ?_); · omega) | with_reducible refine onz W ?_ | with_reducible refine opu ?_
      refine Ok.b (hm_ok W (by omega)) (fun I2 W2 => ?_)
      rw [nI_s1]
      exact ih (i + 1) (by omega) f (by omega) I2 W2
theorem a205 (C : WCc K ns I0 c x1 x2 (x3 + 1)) : ∀ d i, i + d = 2 → ∀ f, d < f → ∀ I, WI K ns I0 I → Ok (l_X10_advance_205 c f I K 415 x1 x2 x3 x4 (nI i)) (WQ K ns I0) := by
  intro d
  induction d with
  | zero =>
    intro i hi f hf I W
    obtain rfl : i = 2 := by omega
    cases f with
    | zero => omega
    | succ f =>
      unfold l_X10_advance_205
      repeat first | with_reducible refine om W ?_ | with_reducible refine o7 W ?_ | with_reducible refine o8 W ?_ | with_reducible refine o9 W ?_ | with_reducible refine l7 W ?_ | with_reducible refine l8 W ?_ | with_reducible refine l9 W ?_ | with_reducible refine s7 W ?_ | with_reducible refine s8 W ?_ | with_reducible refine s9 W ?_ | ((with_reducible refine g7 W ?_ ?_); · omega) | ((with_reducible refine g8 W ?_ ?_); · omega) | ((with_reducible refine g9 W ?_ ?_); · omega) | ((with_reducible refine p9 W ?_ ?_); · omega) | ((with_reducible refine p10 W ?_ ?_); · omega) | ((with_reducible refine pA W ?_ ?_); · omega) | with_reducible refine onz W ?_ | with_reducible refine opu ?_
      refine Ok.ite (fun _ => ?_) (fun h => absurd (Int32.le_refl _) h)
      exact a250 C ns 0 (by omega) FU (by have := FU_ge; have := W.1.2.2; omega) _ W
  | succ d ih =>
    intro i hi f hf I W
    cases f with
    | zero => omega
    | succ f =>
      unfold l_X10_advance_205
      repeat first | with_reducible refine om W ?_ | with_reducible refine o7 W ?_ | with_reducible refine o8 W ?_ | with_reducible refine o9 W ?_ | with_reducible refine l7 W ?_ | with_reducible refine l8 W ?_ | with_reducible refine l9 W ?_ | with_reducible refine s7 W ?_ | with_reducible refine s8 W ?_ | with_reducible refine s9 W ?_ | ((with_reducible refine g7 W ?_ ?_); · omega) | ((with_reducible refine g8 W ?_ ?_); · omega) | ((with_reducible refine g9 W ?_ ?_); · omega) | ((with_reducible refine p9 W ?_ ?_); · omega) | ((with_reducible refine p10 W ?_ ?_); · omega) | ((with_reducible refine pA W ?_ ?_); · omega) | with_reducible refine onz W ?_ | with_reducible refine opu ?_
      refine Ok.ite (fun h => absurd h (nle_f (by omega) (by omega))) (fun _ => ?_)
      repeat first | with_reducible refine om W ?_ | with_reducible refine o7 W ?_ | with_reducible refine o8 W ?_ | with_reducible refine o9 W ?_ | with_reducible refine l7 W ?_ | with_reducible refine l8 W ?_ | with_reducible refine l9 W ?_ | with_reducible refine s7 W ?_ | with_reducible refine s8 W ?_ | with_reducible refine s9 W ?_ | ((with_reducible refine g7 W ?_ ?_); · omega) | ((with_reducible refine g8 W ?_ ?_); · omega) | ((with_reducible refine g9 W ?_ ?_); · omega) | ((with_reducible refine p9 W ?_ ?_); · omega) | ((with_reducible refine p10 W ?_ ?_); · omega) | ((with_reducible refine pA W ?_ ?_); · omega) | with_reducible refine onz W ?_ | with_reducible refine opu ?_
      rw [nI_s1]
      refine Ok.ite (fun _ => ih (i + 1) (by omega) f (by omega) I W) (fun _ => ?_)
      repeat first | with_reducible refine om W ?_ | with_reducible refine o7 W ?_ | with_reducible refine o8 W ?_ | with_reducible refine o9 W ?_ | with_reducible refine l7 W ?_ | with_reducible refine l8 W ?_ | with_reducible refine l9 W ?_ | with_reducible refine s7 W ?_ | with_reducible refine s8 W ?_ | with_reducible refine s9 W ?_ | ((with_reducible refine g7 W ?_ ?_); · omega) | ((with_reducible refine g8 W ?_ ?_); · omega) | ((with_reducible refine g9 W ?_ ?_); · omega) | ((with_reducible refine p9 W ?_ ?_); · omega) | ((with_reducible refine p10 W ?_ ?_); · omega) | ((with_reducible refine pA W ?_ ?_); · omega) | with_reducible refine onz W ?_ | with_reducible refine opu ?_
      exact Ok.b (ba_ok W (by omega)) (fun I2 W2 => ih (i + 1) (by omega) f (by omega) I2 W2)
theorem a121 (C : WCc K ns I0 c x1 x2 (x3 + 1)) : ∀ d i, i + d = 2 → ∀ f, d < f → ∀ I, WI K ns I0 I → Ok (l_X10_advance_121 c f I K 415 x1 x2 x3 x4 (nI i)) (WQ K ns I0) := by
  intro d
  induction d with
  | zero =>
    intro i hi f hf I W
    obtain rfl : i = 2 := by omega
    cases f with
    | zero => omega
    | succ f =>
      unfold l_X10_advance_121
      repeat first | with_reducible refine om W ?_ | with_reducible refine o7 W ?_ | with_reducible refine o8 W ?_ | with_reducible refine o9 W ?_ | with_reducible refine l7 W ?_ | with_reducible refine l8 W ?_ | with_reducible refine l9 W ?_ | with_reducible refine s7 W ?_ | with_reducible refine s8 W ?_ | with_reducible refine s9 W ?_ | ((with_reducible refine g7 W ?_ ?_); · omega) | ((with_reducible refine g8 W ?_ ?_); · omega) | ((with_reducible refine g9 W ?_ ?_); · omega) | ((with_reducible refine p9 W ?_ ?_); · omega) | ((with_reducible refine p10 W ?_ ?_); · omega) | ((with_reducible refine pA W ?_ ?_); · omega) | with_reducible refine onz W ?_ | with_reducible refine opu ?_
      refine Ok.ite (fun _ => ?_) (fun h => absurd (Int32.le_refl _) h)
      exact a205 C 2 0 (by decide) FU (by have := FU_ge; omega) _ W
  | succ d ih =>
    intro i hi f hf I W
    cases f with
    | zero => omega
    | succ f =>
      unfold l_X10_advance_121
      repeat first | with_reducible refine om W ?_ | with_reducible refine o7 W ?_ | with_reducible refine o8 W ?_ | with_reducible refine o9 W ?_ | with_reducible refine l7 W ?_ | with_reducible refine l8 W ?_ | with_reducible refine l9 W ?_ | with_reducible refine s7 W ?_ | with_reducible refine s8 W ?_ | with_reducible refine s9 W ?_ | ((with_reducible refine g7 W ?_ ?_); · omega) | ((with_reducible refine g8 W ?_ ?_); · omega) | ((with_reducible refine g9 W ?_ ?_); · omega) | ((with_reducible refine p9 W ?_ ?_); · omega) | ((with_reducible refine p10 W ?_ ?_); · omega) | ((with_reducible refine pA W ?_ ?_); · omega) | with_reducible refine onz W ?_ | with_reducible refine opu ?_
      refine Ok.ite (fun h => absurd h (nle_f (by omega) (by omega))) (fun _ => ?_)
      have run : ∀ z, CH I ns z → Ok (l_X10_advance_176 (l_X10_advance_121 c f) I K 415 x1 x2 x3 x4 (nI i) z) (WQ K ns I0) := by
        intro z hz
        unfold l_X10_advance_176
        rw [nI_s1]
        refine Ok.ite (fun hp => ?_) (fun _ => ih (i + 1) (by omega) f (by omega) I W)
        rcases hz with rfl | ⟨k, t, ⟨hk, ht⟩, rfl, e⟩
        · exact absurd hp (by decide)
        repeat first | with_reducible refine om W ?_ | with_reducible refine o7 W ?_ | with_reducible refine o8 W ?_ | with_reducible refine o9 W ?_ | with_reducible refine l7 W ?_ | with_reducible refine l8 W ?_ | with_reducible refine l9 W ?_ | with_reducible refine s7 W ?_ | with_reducible refine s8 W ?_ | with_reducible refine s9 W ?_ | ((with_reducible refine g7 W ?_ ?_); · omega) | ((with_reducible refine g8 W ?_ ?_); · omega) | ((with_reducible refine g9 W ?_ ?_); · omega) | ((with_reducible refine p9 W ?_ ?_); · omega) | ((with_reducible refine p10 W ?_ ?_); · omega) | ((with_reducible refine pA W ?_ ?_); · omega) | with_reducible refine onz W ?_ | with_reducible refine opu ?_
        exact Ok.b2 (buy_ok W (by omega) hk ht e) (fun _ I2 W2 => ih (i + 1) (by omega) f (by omega) I2 W2)
      repeat first | with_reducible refine om W ?_ | with_reducible refine o7 W ?_ | with_reducible refine o8 W ?_ | with_reducible refine o9 W ?_ | with_reducible refine l7 W ?_ | with_reducible refine l8 W ?_ | with_reducible refine l9 W ?_ | with_reducible refine s7 W ?_ | with_reducible refine s8 W ?_ | with_reducible refine s9 W ?_ | ((with_reducible refine g7 W ?_ ?_); · omega) | ((with_reducible refine g8 W ?_ ?_); · omega) | ((with_reducible refine g9 W ?_ ?_); · omega) | ((with_reducible refine p9 W ?_ ?_); · omega) | ((with_reducible refine p10 W ?_ ?_); · omega) | ((with_reducible refine pA W ?_ ?_); · omega) | with_reducible refine onz W ?_ | with_reducible refine opu ?_
      refine Ok.ite (fun _ => run _ (Or.inl rfl)) (fun _ => ?_)
      repeat first | with_reducible refine om W ?_ | with_reducible refine o7 W ?_ | with_reducible refine o8 W ?_ | with_reducible refine o9 W ?_ | with_reducible refine l7 W ?_ | with_reducible refine l8 W ?_ | with_reducible refine l9 W ?_ | with_reducible refine s7 W ?_ | with_reducible refine s8 W ?_ | with_reducible refine s9 W ?_ | ((with_reducible refine g7 W ?_ ?_); · omega) | ((with_reducible refine g8 W ?_ ?_); · omega) | ((with_reducible refine g9 W ?_ ?_); · omega) | ((with_reducible refine p9 W ?_ ?_); · omega) | ((with_reducible refine p10 W ?_ ?_); · omega) | ((with_reducible refine pA W ?_ ?_); · omega) | with_reducible refine onz W ?_ | with_reducible refine opu ?_
      exact Ok.b (ch_ok W (by omega)) (fun z hz => run z hz)
theorem a26 (C : WCc K ns I0 c x1 x2 (x3 + 1)) : ∀ d i, i + d = 2 → ∀ f, d < f → ∀ I, WI K ns I0 I → Ok (l_X10_advance_26 c f I K 415 x1 x2 x3 x4 (nI i)) (WQ K ns I0) := by
  intro d
  induction d with
  | zero =>
    intro i hi f hf I W
    obtain rfl : i = 2 := by omega
    cases f with
    | zero => omega
    | succ f =>
      unfold l_X10_advance_26
      repeat first | with_reducible refine om W ?_ | with_reducible refine o7 W ?_ | with_reducible refine o8 W ?_ | with_reducible refine o9 W ?_ | with_reducible refine l7 W ?_ | with_reducible refine l8 W ?_ | with_reducible refine l9 W ?_ | with_reducible refine s7 W ?_ | with_reducible refine s8 W ?_ | with_reducible refine s9 W ?_ | ((with_reducible refine g7 W ?_ ?_); · omega) | ((with_reducible refine g8 W ?_ ?_); · omega) | ((with_reducible refine g9 W ?_ ?_); · omega) | ((with_reducible refine p9 W ?_ ?_); · omega) | ((with_reducible refine p10 W ?_ ?_); · omega) | ((with_reducible refine pA W ?_ ?_); · omega) | with_reducible refine onz W ?_ | with_reducible refine opu ?_
      refine Ok.ite (fun _ => ?_) (fun h => absurd (Int32.le_refl _) h)
      exact a121 C 2 0 (by decide) FU (by have := FU_ge; omega) _ W
  | succ d ih =>
    intro i hi f hf I W
    cases f with
    | zero => omega
    | succ f =>
      unfold l_X10_advance_26
      repeat first | with_reducible refine om W ?_ | with_reducible refine o7 W ?_ | with_reducible refine o8 W ?_ | with_reducible refine o9 W ?_ | with_reducible refine l7 W ?_ | with_reducible refine l8 W ?_ | with_reducible refine l9 W ?_ | with_reducible refine s7 W ?_ | with_reducible refine s8 W ?_ | with_reducible refine s9 W ?_ | ((with_reducible refine g7 W ?_ ?_); · omega) | ((with_reducible refine g8 W ?_ ?_); · omega) | ((with_reducible refine g9 W ?_ ?_); · omega) | ((with_reducible refine p9 W ?_ ?_); · omega) | ((with_reducible refine p10 W ?_ ?_); · omega) | ((with_reducible refine pA W ?_ ?_); · omega) | with_reducible refine onz W ?_ | with_reducible refine opu ?_
      have hi2 : i < 2 := by omega
      refine Ok.ite (fun h => absurd h (nle_f (by omega) (by omega))) (fun _ => ?_)
      have run : ∀ I, WI K ns I0 I → ∀ z, CG I ns i z → Ok (l_X10_advance_94 (l_X10_advance_26 c f) I K 415 x1 x2 x3 x4 (nI i) z) (WQ K ns I0) := by
        intro I W z hz
        unfold l_X10_advance_94
        rw [nI_s1]
        refine Ok.ite (fun hp => ?_) (fun _ => ih (i + 1) (by omega) f (by omega) I W)
        rcases hz with rfl | ⟨k, hk, rfl, e⟩
        · exact absurd hp (by decide)
        repeat first | with_reducible refine om W ?_ | with_reducible refine o7 W ?_ | with_reducible refine o8 W ?_ | with_reducible refine o9 W ?_ | with_reducible refine l7 W ?_ | with_reducible refine l8 W ?_ | with_reducible refine l9 W ?_ | with_reducible refine s7 W ?_ | with_reducible refine s8 W ?_ | with_reducible refine s9 W ?_ | ((with_reducible refine g7 W ?_ ?_); · omega) | ((with_reducible refine g8 W ?_ ?_); · omega) | ((with_reducible refine g9 W ?_ ?_); · omega) | ((with_reducible refine p9 W ?_ ?_); · omega) | ((with_reducible refine p10 W ?_ ?_); · omega) | ((with_reducible refine pA W ?_ ?_); · omega) | with_reducible refine onz W ?_ | with_reducible refine opu ?_
        exact Ok.b2 (grant_ok W hk hi2 e) (fun _ I2 W2 => ih (i + 1) (by omega) f (by omega) I2 W2)
      repeat first | with_reducible refine om W ?_ | with_reducible refine o7 W ?_ | with_reducible refine o8 W ?_ | with_reducible refine o9 W ?_ | with_reducible refine l7 W ?_ | with_reducible refine l8 W ?_ | with_reducible refine l9 W ?_ | with_reducible refine s7 W ?_ | with_reducible refine s8 W ?_ | with_reducible refine s9 W ?_ | ((with_reducible refine g7 W ?_ ?_); · omega) | ((with_reducible refine g8 W ?_ ?_); · omega) | ((with_reducible refine g9 W ?_ ?_); · omega) | ((with_reducible refine p9 W ?_ ?_); · omega) | ((with_reducible refine p10 W ?_ ?_); · omega) | ((with_reducible refine pA W ?_ ?_); · omega) | with_reducible refine onz W ?_ | with_reducible refine opu ?_
      refine Ok.ite (fun _ => ?_) (fun _ => ?_)
      · have W1 := fun z => W.pp (x := z) (j := 2) hi2
        repeat first | with_reducible refine om W ?_ | with_reducible refine o7 W ?_ | with_reducible refine o8 W ?_ | with_reducible refine o9 W ?_ | with_reducible refine l7 W ?_ | with_reducible refine l8 W ?_ | with_reducible refine l9 W ?_ | with_reducible refine s7 W ?_ | with_reducible refine s8 W ?_ | with_reducible refine s9 W ?_ | ((with_reducible refine g7 W ?_ ?_); · omega) | ((with_reducible refine g8 W ?_ ?_); · omega) | ((with_reducible refine g9 W ?_ ?_); · omega) | ((with_reducible refine p9 W ?_ ?_); · omega) | ((with_reducible refine p10 W ?_ ?_); · omega) | ((with_reducible refine pA W ?_ ?_); · omega) | with_reducible refine onz W ?_ | with_reducible refine opu ?_
        refine Ok.ite (fun _ => run _ (W1 _) _ (Or.inl rfl)) (fun _ => ?_)
        repeat first | with_reducible refine om W ?_ | with_reducible refine o7 W ?_ | with_reducible refine o8 W ?_ | with_reducible refine o9 W ?_ | with_reducible refine l7 W ?_ | with_reducible refine l8 W ?_ | with_reducible refine l9 W ?_ | with_reducible refine s7 W ?_ | with_reducible refine s8 W ?_ | with_reducible refine s9 W ?_ | ((with_reducible refine g7 W ?_ ?_); · omega) | ((with_reducible refine g8 W ?_ ?_); · omega) | ((with_reducible refine g9 W ?_ ?_); · omega) | ((with_reducible refine p9 W ?_ ?_); · omega) | ((with_reducible refine p10 W ?_ ?_); · omega) | ((with_reducible refine pA W ?_ ?_); · omega) | with_reducible refine onz W ?_ | with_reducible refine opu ?_
        exact Ok.b (bg_ok (W1 _) hi2) (fun z hz => run _ (W1 _) z hz)
      · rw [nI_s1]
        exact ih (i + 1) (by omega) f (by omega) I W
theorem a7 : ∀ d i, i + d = 2 → ∀ f, d < f → ∀ I, WI K ns I0 I → Ok (l_X10_advance_7 f I K 415 2 x2 (nI i)) (WQ K ns I0) := by
  intro d
  induction d with
  | zero =>
    intro i hi f hf I W
    obtain rfl : i = 2 := by omega
    cases f with
    | zero => omega
    | succ f =>
      unfold l_X10_advance_7
      refine Ok.ite (fun _ => ?_) (fun h => absurd (show (2 : Int32) ≤ nI 2 by decide) h)
      repeat first | with_reducible refine om W ?_ | with_reducible refine o7 W ?_ | with_reducible refine o8 W ?_ | with_reducible refine o9 W ?_ | with_reducible refine l7 W ?_ | with_reducible refine l8 W ?_ | with_reducible refine l9 W ?_ | with_reducible refine s7 W ?_ | with_reducible refine s8 W ?_ | with_reducible refine s9 W ?_ | ((with_reducible refine g7 W ?_ ?_); · omega) | ((with_reducible refine g8 W ?_ ?_); · omega) | ((with_reducible refine g9 W ?_ ?_); · omega) | ((with_reducible refine p9 W ?_ ?_); · omega) | ((with_reducible refine p10 W ?_ ?_); · omega) | ((with_reducible refine pA W ?_ ?_); · omega) | with_reducible refine onz W ?_ | with_reducible refine opu ?_
      exact Ok.b (gd_ok W) (fun _ _ => Ok.s W)
  | succ d ih =>
    intro i hi f hf I W
    cases f with
    | zero => omega
    | succ f =>
      unfold l_X10_advance_7
      refine Ok.ite (fun _ => ?_) (fun h => ?_)
      · repeat first | with_reducible refine om W ?_ | with_reducible refine o7 W ?_ | with_reducible refine o8 W ?_ | with_reducible refine o9 W ?_ | with_reducible refine l7 W ?_ | with_reducible refine l8 W ?_ | with_reducible refine l9 W ?_ | with_reducible refine s7 W ?_ | with_reducible refine s8 W ?_ | with_reducible refine s9 W ?_ | ((with_reducible refine g7 W ?_ ?_); · omega) | ((with_reducible refine g8 W ?_ ?_); · omega) | ((with_reducible refine g9 W ?_ ?_); · omega) | ((with_reducible refine p9 W ?_ ?_); · omega) | ((with_reducible refine p10 W ?_ ?_); · omega) | ((with_reducible refine pA W ?_ ?_); · omega) | with_reducible refine onz W ?_ | with_reducible refine opu ?_
        exact Ok.b (gd_ok W) (fun _ _ => Ok.s W)
      repeat first | with_reducible refine om W ?_ | with_reducible refine o7 W ?_ | with_reducible refine o8 W ?_ | with_reducible refine o9 W ?_ | with_reducible refine l7 W ?_ | with_reducible refine l8 W ?_ | with_reducible refine l9 W ?_ | with_reducible refine s7 W ?_ | with_reducible refine s8 W ?_ | with_reducible refine s9 W ?_ | ((with_reducible refine g7 W ?_ ?_); · omega) | ((with_reducible refine g8 W ?_ ?_); · omega) | ((with_reducible refine g9 W ?_ ?_); · omega) | ((with_reducible refine p9 W ?_ ?_); · omega) | ((with_reducible refine p10 W ?_ ?_); · omega) | ((with_reducible refine pA W ?_ ?_); · omega) | with_reducible refine onz W ?_ | with_reducible refine opu ?_
      exact a26 (c := l_X10_advance_7 f) (fun I2 W2 => by rw [nI_s1]; exact ih (i + 1) (by omega) f (by omega) I2 W2) 2 0 (by decide) FU (by have := FU_ge; omega) I W
theorem advOk : AdvOk := by
  intro ns y K I h1 h2 H V
  have W : WI K ns I I := by
    refine ⟨⟨H, h1, h2⟩, fun _ _ => rfl, ⟨y, V.1.1⟩, fun k hk => ?_⟩
    obtain ⟨-, -, -, -, -, -, w, -⟩ := V.2.2.2 k hk
    rcases w with ⟨t, t1, t2, t3, -⟩ | ⟨t1, t, t2, t3⟩
    · exact ⟨Or.inr ⟨t, t1, t2⟩, Or.inl t3⟩
    · exact ⟨Or.inl t1, Or.inr ⟨t, t3, t2⟩⟩
  have h : Ok (f_X10_advance I K 415 2) (WQ K ns I) := by
    unfold f_X10_advance
    repeat first | with_reducible refine om W ?_ | with_reducible refine o7 W ?_ | with_reducible refine o8 W ?_ | with_reducible refine o9 W ?_ | with_reducible refine l7 W ?_ | with_reducible refine l8 W ?_ | with_reducible refine l9 W ?_ | with_reducible refine s7 W ?_ | with_reducible refine s8 W ?_ | with_reducible refine s9 W ?_ | ((with_reducible refine g7 W ?_ ?_); · omega) | ((with_reducible refine g8 W ?_ ?_); · omega) | ((with_reducible refine g9 W ?_ ?_); · omega) | ((with_reducible refine p9 W ?_ ?_); · omega) | ((with_reducible refine p10 W ?_ ?_); · omega) | ((with_reducible refine pA W ?_ ?_); · omega) | with_reducible refine onz W ?_ | with_reducible refine opu ?_
    exact Ok.b (gd_ok W) (fun _ _ => a7 2 0 (by decide) FU (by have := FU_ge; omega) I W)
  obtain ⟨⟨u, I'⟩, e, W'⟩ := h
  exact ⟨u, I', e, W'.2.1⟩
end ADV7
