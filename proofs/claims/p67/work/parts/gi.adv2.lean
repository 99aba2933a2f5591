/-! the law's questions do not fall -/
section ADV2
variable {I I0 I' I1 I2 : Mem} {K : Kt} {ns i k t y q : Nat} {α β : Type}
theorem m1n {t : Nat} (ht : t < 100) : ¬ (nI t = -1) := fun z => by
  have z2 := congrArg Int32.toInt z
  rw [nI_toInt (by omega), show (-1 : Int32).toInt = -1 from rfl] at z2
  omega
theorem WI.st (W : WI K ns I0 I) (hk : k < 4) (h : 0 ≤ I (wd ns k) 3) : ∃ t, t < ns ∧ I (wd ns k) 3 = nI t := by
  rcases (W.2.2.2 k hk).1 with e | e
  · rw [e] at h
    exact absurd h (by decide)
  · exact e
theorem WI.ow (W : WI K ns I0 I) (hk : k < 4) (h : 0 ≤ I (wd ns k) 4) : ∃ t, t < 2 ∧ I (wd ns k) 4 = nI t := by
  rcases (W.2.2.2 k hk).2 with e | e
  · rw [e] at h
    exact absurd h (by decide)
  · exact e
theorem st_l (W : WI K ns I0 I) {x : Int32} : ∀ d i, i + d = 4 → ∀ f, d < f → ∀ a, Ok (l_X10_stock_4 f I K 415 x a (nI i)) fun _ => True := by
  intro d
  induction d with
  | zero =>
    intro i hi f hf a
    obtain rfl : i = 4 := by omega
    cases f with
    | zero => omega
    | succ f =>
      unfold l_X10_stock_4
      repeat first | with_reducible refine om W ?_ | with_reducible refine o7 W ?_ | with_reducible refine o8 W ?_ | with_reducible refine o9 W ?_ | with_reducible refine l7 W ?_ | with_reducible refine l8 W ?_ | with_reducible refine l9 W ?_ | with_reducible refine s7 W ?_ | with_reducible refine s8 W ?_ | with_reducible refine s9 W ?_ | ((with_reducible refine g7 W ?_ ?_); · omega) | ((with_reducible refine g8 W ?_ ?_); · omega) | ((with_reducible refine g9 W ?_ ?_); · omega) | ((with_reducible refine p9 W ?_ ?_); · omega) | ((with_reducible refine p10 W ?_ ?_); · omega) | ((with_reducible refine pA W ?_ ?_); · omega) | with_reducible refine onz W ?_ | with_reducible refine opu ?_
      exact Ok.ite (fun _ => Ok.s trivial) (fun h => absurd (Int32.le_refl _) h)
  | succ d ih =>
    intro i hi f hf a
    cases f with
    | zero => omega
    | succ f =>
      unfold l_X10_stock_4
      repeat first | with_reducible refine om W ?_ | with_reducible refine o7 W ?_ | with_reducible refine o8 W ?_ | with_reducible refine o9 W ?_ | with_reducible refine l7 W ?_ | with_reducible refine l8 W ?_ | with_reducible refine l9 W ?_ | with_reducible refine s7 W ?_ | with_reducible refine s8 W ?_ | with_reducible refine s9 W ?_ | ((with_reducible refine g7 W ?_ ?_); · omega) | ((with_reducible refine g8 W ?_ ?_); · omega) | ((with_reducible refine g9 W ?_ ?_); · omega) | ((with_reducible refine p9 W ?_ ?_); · omega) | ((with_reducible refine p10 W ?_ ?_); · omega) | ((with_reducible refine pA W ?_ ?_); · omega) | with_reducible refine onz W ?_ | with_reducible refine opu ?_
      refine Ok.ite (fun _ => Ok.s trivial) (fun _ => ?_)
      repeat first | with_reducible refine om W ?_ | with_reducible refine o7 W ?_ | with_reducible refine o8 W ?_ | with_reducible refine o9 W ?_ | with_reducible refine l7 W ?_ | with_reducible refine l8 W ?_ | with_reducible refine l9 W ?_ | with_reducible refine s7 W ?_ | with_reducible refine s8 W ?_ | with_reducible refine s9 W ?_ | ((with_reducible refine g7 W ?_ ?_); · omega) | ((with_reducible refine g8 W ?_ ?_); · omega) | ((with_reducible refine g9 W ?_ ?_); · omega) | ((with_reducible refine p9 W ?_ ?_); · omega) | ((with_reducible refine p10 W ?_ ?_); · omega) | ((with_reducible refine pA W ?_ ?_); · omega) | with_reducible refine onz W ?_ | with_reducible refine opu ?_
      rw [nI_s1]
      exact Ok.ite (fun _ => ih (i + 1) (by omega) f (by omega) _) (fun _ => ih (i + 1) (by omega) f (by omega) _)
theorem st_ok (W : WI K ns I0 I) {x : Int32} : Ok (f_X10_stock I K 415 x) fun _ => True := st_l W 4 0 (by decide) FU (by have := FU_ge; omega) 0
theorem lf_ok (W : WI K ns I0 I) (hk : k < 4) : Ok (f_X12_left I K (wd ns k)) fun _ => True := by
  unfold f_X12_left
  repeat first | with_reducible refine om W ?_ | with_reducible refine o7 W ?_ | with_reducible refine o8 W ?_ | with_reducible refine o9 W ?_ | with_reducible refine l7 W ?_ | with_reducible refine l8 W ?_ | with_reducible refine l9 W ?_ | with_reducible refine s7 W ?_ | with_reducible refine s8 W ?_ | with_reducible refine s9 W ?_ | ((with_reducible refine g7 W ?_ ?_); · omega) | ((with_reducible refine g8 W ?_ ?_); · omega) | ((with_reducible refine g9 W ?_ ?_); · omega) | ((with_reducible refine p9 W ?_ ?_); · omega) | ((with_reducible refine p10 W ?_ ?_); · omega) | ((with_reducible refine pA W ?_ ?_); · omega) | with_reducible refine onz W ?_ | with_reducible refine opu ?_
  exact Ok.s trivial
theorem vl_ok (W : WI K ns I0 I) (hk : k < 4) : Ok (f_X12_value I K (wd ns k)) fun _ => True := by
  unfold f_X12_value
  repeat first | with_reducible refine om W ?_ | with_reducible refine o7 W ?_ | with_reducible refine o8 W ?_ | with_reducible refine o9 W ?_ | with_reducible refine l7 W ?_ | with_reducible refine l8 W ?_ | with_reducible refine l9 W ?_ | with_reducible refine s7 W ?_ | with_reducible refine s8 W ?_ | with_reducible refine s9 W ?_ | ((with_reducible refine g7 W ?_ ?_); · omega) | ((with_reducible refine g8 W ?_ ?_); · omega) | ((with_reducible refine g9 W ?_ ?_); · omega) | ((with_reducible refine p9 W ?_ ?_); · omega) | ((with_reducible refine p10 W ?_ ?_); · omega) | ((with_reducible refine pA W ?_ ?_); · omega) | with_reducible refine onz W ?_ | with_reducible refine opu ?_
  exact Ok.b (lf_ok W hk) (fun _ _ => Ok.s trivial)
theorem ix44 {j : Nat} (h : j < 4) : ix (nI j) 4 = some j := ix_n h (by decide)
theorem pr_ok (W : WI K ns I0 I) (hk : k < 4) (ht : t < ns) (e : I (wd ns k) 3 = nI t) : Ok (f_X10_price I K 415 (nI k)) fun _ => True := by
  unfold f_X10_price
  repeat first | with_reducible refine om W ?_ | with_reducible refine o7 W ?_ | with_reducible refine o8 W ?_ | with_reducible refine o9 W ?_ | with_reducible refine l7 W ?_ | with_reducible refine l8 W ?_ | with_reducible refine l9 W ?_ | with_reducible refine s7 W ?_ | with_reducible refine s8 W ?_ | with_reducible refine s9 W ?_ | ((with_reducible refine g7 W ?_ ?_); · omega) | ((with_reducible refine g8 W ?_ ?_); · omega) | ((with_reducible refine g9 W ?_ ?_); · omega) | ((with_reducible refine p9 W ?_ ?_); · omega) | ((with_reducible refine p10 W ?_ ?_); · omega) | ((with_reducible refine pA W ?_ ?_); · omega) | with_reducible refine onz W ?_ | with_reducible refine opu ?_
  rw [e]
  repeat first | with_reducible refine om W ?_ | with_reducible refine o7 W ?_ | with_reducible refine o8 W ?_ | with_reducible refine o9 W ?_ | with_reducible refine l7 W ?_ | with_reducible refine l8 W ?_ | with_reducible refine l9 W ?_ | with_reducible refine s7 W ?_ | with_reducible refine s8 W ?_ | with_reducible refine s9 W ?_ | ((with_reducible refine g7 W ?_ ?_); · omega) | ((with_reducible refine g8 W ?_ ?_); · omega) | ((with_reducible refine g9 W ?_ ?_); · omega) | ((with_reducible refine p9 W ?_ ?_); · omega) | ((with_reducible refine p10 W ?_ ?_); · omega) | ((with_reducible refine pA W ?_ ?_); · omega) | with_reducible refine onz W ?_ | with_reducible refine opu ?_
  refine Ok.b (lf_ok W hk) (fun _ _ => ?_)
  repeat first | with_reducible refine om W ?_ | with_reducible refine o7 W ?_ | with_reducible refine o8 W ?_ | with_reducible refine o9 W ?_ | with_reducible refine l7 W ?_ | with_reducible refine l8 W ?_ | with_reducible refine l9 W ?_ | with_reducible refine s7 W ?_ | with_reducible refine s8 W ?_ | with_reducible refine s9 W ?_ | ((with_reducible refine g7 W ?_ ?_); · omega) | ((with_reducible refine g8 W ?_ ?_); · omega) | ((with_reducible refine g9 W ?_ ?_); · omega) | ((with_reducible refine p9 W ?_ ?_); · omega) | ((with_reducible refine p10 W ?_ ?_); · omega) | ((with_reducible refine pA W ?_ ?_); · omega) | with_reducible refine onz W ?_ | with_reducible refine opu ?_
  refine Ok.e (ix44 (j := 3) (by decide)) ?_
  repeat first | with_reducible refine om W ?_ | with_reducible refine o7 W ?_ | with_reducible refine o8 W ?_ | with_reducible refine o9 W ?_ | with_reducible refine l7 W ?_ | with_reducible refine l8 W ?_ | with_reducible refine l9 W ?_ | with_reducible refine s7 W ?_ | with_reducible refine s8 W ?_ | with_reducible refine s9 W ?_ | ((with_reducible refine g7 W ?_ ?_); · omega) | ((with_reducible refine g8 W ?_ ?_); · omega) | ((with_reducible refine g9 W ?_ ?_); · omega) | ((with_reducible refine p9 W ?_ ?_); · omega) | ((with_reducible refine p10 W ?_ ?_); · omega) | ((with_reducible refine pA W ?_ ?_); · omega) | with_reducible refine onz W ?_ | with_reducible refine opu ?_
  refine Ok.e (ix44 (j := 2) (by decide)) ?_
  exact Ok.s trivial
theorem of_ok (W : WI K ns I0 I) (hk : k < 4) (ht : t < ns) : Ok (f_X10_offer I K 415 (nI k) (nI t)) fun _ => True := by
  unfold f_X10_offer
  repeat first | with_reducible refine om W ?_ | with_reducible refine o7 W ?_ | with_reducible refine o8 W ?_ | with_reducible refine o9 W ?_ | with_reducible refine l7 W ?_ | with_reducible refine l8 W ?_ | with_reducible refine l9 W ?_ | with_reducible refine s7 W ?_ | with_reducible refine s8 W ?_ | with_reducible refine s9 W ?_ | ((with_reducible refine g7 W ?_ ?_); · omega) | ((with_reducible refine g8 W ?_ ?_); · omega) | ((with_reducible refine g9 W ?_ ?_); · omega) | ((with_reducible refine p9 W ?_ ?_); · omega) | ((with_reducible refine p10 W ?_ ?_); · omega) | ((with_reducible refine pA W ?_ ?_); · omega) | with_reducible refine onz W ?_ | with_reducible refine opu ?_
  refine Ok.b (lf_ok W hk) (fun _ _ => ?_)
  repeat first | with_reducible refine om W ?_ | with_reducible refine o7 W ?_ | with_reducible refine o8 W ?_ | with_reducible refine o9 W ?_ | with_reducible refine l7 W ?_ | with_reducible refine l8 W ?_ | with_reducible refine l9 W ?_ | with_reducible refine s7 W ?_ | with_reducible refine s8 W ?_ | with_reducible refine s9 W ?_ | ((with_reducible refine g7 W ?_ ?_); · omega) | ((with_reducible refine g8 W ?_ ?_); · omega) | ((with_reducible refine g9 W ?_ ?_); · omega) | ((with_reducible refine p9 W ?_ ?_); · omega) | ((with_reducible refine p10 W ?_ ?_); · omega) | ((with_reducible refine pA W ?_ ?_); · omega) | with_reducible refine onz W ?_ | with_reducible refine opu ?_
  refine Ok.e (ix44 (j := 2) (by decide)) ?_
  exact Ok.s trivial
theorem wb_ok (W : WI K ns I0 I) (hk : k < 4) (hq : q < 2) : Ok (f_X10_whyBuy I K 415 (nI q) (nI k)) fun v => v = 0 → ∃ t, t < ns ∧ I (wd ns k) 3 = nI t := by
  unfold f_X10_whyBuy
  repeat first | with_reducible refine om W ?_ | with_reducible refine o7 W ?_ | with_reducible refine o8 W ?_ | with_reducible refine o9 W ?_ | with_reducible refine l7 W ?_ | with_reducible refine l8 W ?_ | with_reducible refine l9 W ?_ | with_reducible refine s7 W ?_ | with_reducible refine s8 W ?_ | with_reducible refine s9 W ?_ | ((with_reducible refine g7 W ?_ ?_); · omega) | ((with_reducible refine g8 W ?_ ?_); · omega) | ((with_reducible refine g9 W ?_ ?_); · omega) | ((with_reducible refine p9 W ?_ ?_); · omega) | ((with_reducible refine p10 W ?_ ?_); · omega) | ((with_reducible refine pA W ?_ ?_); · omega) | with_reducible refine onz W ?_ | with_reducible refine opu ?_
  refine Ok.ite (fun h => ?_) (fun _ => Ok.s (fun z => absurd z (by decide)))
  obtain ⟨t, ht, e⟩ := W.st hk h
  repeat first | with_reducible refine om W ?_ | with_reducible refine o7 W ?_ | with_reducible refine o8 W ?_ | with_reducible refine o9 W ?_ | with_reducible refine l7 W ?_ | with_reducible refine l8 W ?_ | with_reducible refine l9 W ?_ | with_reducible refine s7 W ?_ | with_reducible refine s8 W ?_ | with_reducible refine s9 W ?_ | ((with_reducible refine g7 W ?_ ?_); · omega) | ((with_reducible refine g8 W ?_ ?_); · omega) | ((with_reducible refine g9 W ?_ ?_); · omega) | ((with_reducible refine p9 W ?_ ?_); · omega) | ((with_reducible refine p10 W ?_ ?_); · omega) | ((with_reducible refine pA W ?_ ?_); · omega) | with_reducible refine onz W ?_ | with_reducible refine opu ?_
  refine Ok.b (pr_ok W hk ht e) (fun _ _ => ?_)
  refine Ok.ite (fun _ => ?_) (fun _ => Ok.s (fun _ => ⟨t, ht, e⟩))
  repeat first | with_reducible refine om W ?_ | with_reducible refine o7 W ?_ | with_reducible refine o8 W ?_ | with_reducible refine o9 W ?_ | with_reducible refine l7 W ?_ | with_reducible refine l8 W ?_ | with_reducible refine l9 W ?_ | with_reducible refine s7 W ?_ | with_reducible refine s8 W ?_ | with_reducible refine s9 W ?_ | ((with_reducible refine g7 W ?_ ?_); · omega) | ((with_reducible refine g8 W ?_ ?_); · omega) | ((with_reducible refine g9 W ?_ ?_); · omega) | ((with_reducible refine p9 W ?_ ?_); · omega) | ((with_reducible refine p10 W ?_ ?_); · omega) | ((with_reducible refine pA W ?_ ?_); · omega) | with_reducible refine onz W ?_ | with_reducible refine opu ?_
  refine Ok.b (ow_ok W) (fun _ _ => ?_)
  exact Ok.ite (fun _ => Ok.s (fun _ => ⟨t, ht, e⟩)) (fun _ => Ok.s (fun _ => ⟨t, ht, e⟩))
theorem ws_ok (W : WI K ns I0 I) (hk : k < 4) (ht : t < ns) : Ok (f_X10_whySell I K 415 (nI k) (nI t)) fun _ => True := by
  unfold f_X10_whySell
  repeat first | with_reducible refine om W ?_ | with_reducible refine o7 W ?_ | with_reducible refine o8 W ?_ | with_reducible refine o9 W ?_ | with_reducible refine l7 W ?_ | with_reducible refine l8 W ?_ | with_reducible refine l9 W ?_ | with_reducible refine s7 W ?_ | with_reducible refine s8 W ?_ | with_reducible refine s9 W ?_ | ((with_reducible refine g7 W ?_ ?_); · omega) | ((with_reducible refine g8 W ?_ ?_); · omega) | ((with_reducible refine g9 W ?_ ?_); · omega) | ((with_reducible refine p9 W ?_ ?_); · omega) | ((with_reducible refine p10 W ?_ ?_); · omega) | ((with_reducible refine pA W ?_ ?_); · omega) | with_reducible refine onz W ?_ | with_reducible refine opu ?_
  refine Ok.ite (fun h => ?_) (fun _ => Ok.s trivial)
  repeat first | with_reducible refine om W ?_ | with_reducible refine o7 W ?_ | with_reducible refine o8 W ?_ | with_reducible refine o9 W ?_ | with_reducible refine l7 W ?_ | with_reducible refine l8 W ?_ | with_reducible refine l9 W ?_ | with_reducible refine s7 W ?_ | with_reducible refine s8 W ?_ | with_reducible refine s9 W ?_ | ((with_reducible refine g7 W ?_ ?_); · omega) | ((with_reducible refine g8 W ?_ ?_); · omega) | ((with_reducible refine g9 W ?_ ?_); · omega) | ((with_reducible refine p9 W ?_ ?_); · omega) | ((with_reducible refine p10 W ?_ ?_); · omega) | ((with_reducible refine pA W ?_ ?_); · omega) | with_reducible refine onz W ?_ | with_reducible refine opu ?_
  refine Ok.b (st_ok W) (fun _ _ => ?_)
  repeat first | with_reducible refine om W ?_ | with_reducible refine o7 W ?_ | with_reducible refine o8 W ?_ | with_reducible refine o9 W ?_ | with_reducible refine l7 W ?_ | with_reducible refine l8 W ?_ | with_reducible refine l9 W ?_ | with_reducible refine s7 W ?_ | with_reducible refine s8 W ?_ | with_reducible refine s9 W ?_ | ((with_reducible refine g7 W ?_ ?_); · omega) | ((with_reducible refine g8 W ?_ ?_); · omega) | ((with_reducible refine g9 W ?_ ?_); · omega) | ((with_reducible refine p9 W ?_ ?_); · omega) | ((with_reducible refine p10 W ?_ ?_); · omega) | ((with_reducible refine pA W ?_ ?_); · omega) | with_reducible refine onz W ?_ | with_reducible refine opu ?_
  refine Ok.e (ix44 (j := 0) (by decide)) ?_
  refine Ok.ite (fun h => Ok.s trivial) (fun _ => ?_)
  repeat first | with_reducible refine om W ?_ | with_reducible refine o7 W ?_ | with_reducible refine o8 W ?_ | with_reducible refine o9 W ?_ | with_reducible refine l7 W ?_ | with_reducible refine l8 W ?_ | with_reducible refine l9 W ?_ | with_reducible refine s7 W ?_ | with_reducible refine s8 W ?_ | with_reducible refine s9 W ?_ | ((with_reducible refine g7 W ?_ ?_); · omega) | ((with_reducible refine g8 W ?_ ?_); · omega) | ((with_reducible refine g9 W ?_ ?_); · omega) | ((with_reducible refine p9 W ?_ ?_); · omega) | ((with_reducible refine p10 W ?_ ?_); · omega) | ((with_reducible refine pA W ?_ ?_); · omega) | with_reducible refine onz W ?_ | with_reducible refine opu ?_
  refine Ok.e (ix44 (j := 1) (by decide)) ?_
  repeat first | with_reducible refine om W ?_ | with_reducible refine o7 W ?_ | with_reducible refine o8 W ?_ | with_reducible refine o9 W ?_ | with_reducible refine l7 W ?_ | with_reducible refine l8 W ?_ | with_reducible refine l9 W ?_ | with_reducible refine s7 W ?_ | with_reducible refine s8 W ?_ | with_reducible refine s9 W ?_ | ((with_reducible refine g7 W ?_ ?_); · omega) | ((with_reducible refine g8 W ?_ ?_); · omega) | ((with_reducible refine g9 W ?_ ?_); · omega) | ((with_reducible refine p9 W ?_ ?_); · omega) | ((with_reducible refine p10 W ?_ ?_); · omega) | ((with_reducible refine pA W ?_ ?_); · omega) | with_reducible refine onz W ?_ | with_reducible refine opu ?_
  refine Ok.b (of_ok W hk ht) (fun _ _ => ?_)
  exact Ok.ite (fun _ => Ok.s trivial) (fun _ => Ok.s trivial)
theorem wg_ok (W : WI K ns I0 I) (hk : k < 4) : Ok (f_X10_whyGrant I K 415 (nI k)) fun _ => True := by
  unfold f_X10_whyGrant
  repeat first | with_reducible refine om W ?_ | with_reducible refine o7 W ?_ | with_reducible refine o8 W ?_ | with_reducible refine o9 W ?_ | with_reducible refine l7 W ?_ | with_reducible refine l8 W ?_ | with_reducible refine l9 W ?_ | with_reducible refine s7 W ?_ | with_reducible refine s8 W ?_ | with_reducible refine s9 W ?_ | ((with_reducible refine g7 W ?_ ?_); · omega) | ((with_reducible refine g8 W ?_ ?_); · omega) | ((with_reducible refine g9 W ?_ ?_); · omega) | ((with_reducible refine p9 W ?_ ?_); · omega) | ((with_reducible refine p10 W ?_ ?_); · omega) | ((with_reducible refine pA W ?_ ?_); · omega) | with_reducible refine onz W ?_ | with_reducible refine opu ?_
  refine Ok.ite (fun h => ?_) (fun _ => Ok.s trivial)
  obtain ⟨q, hq, e⟩ := W.ow hk h
  repeat first | with_reducible refine om W ?_ | with_reducible refine o7 W ?_ | with_reducible refine o8 W ?_ | with_reducible refine o9 W ?_ | with_reducible refine l7 W ?_ | with_reducible refine l8 W ?_ | with_reducible refine l9 W ?_ | with_reducible refine s7 W ?_ | with_reducible refine s8 W ?_ | with_reducible refine s9 W ?_ | ((with_reducible refine g7 W ?_ ?_); · omega) | ((with_reducible refine g8 W ?_ ?_); · omega) | ((with_reducible refine g9 W ?_ ?_); · omega) | ((with_reducible refine p9 W ?_ ?_); · omega) | ((with_reducible refine p10 W ?_ ?_); · omega) | ((with_reducible refine pA W ?_ ?_); · omega) | with_reducible refine onz W ?_ | with_reducible refine opu ?_
  rw [e]
  repeat first | with_reducible refine om W ?_ | with_reducible refine o7 W ?_ | with_reducible refine o8 W ?_ | with_reducible refine o9 W ?_ | with_reducible refine l7 W ?_ | with_reducible refine l8 W ?_ | with_reducible refine l9 W ?_ | with_reducible refine s7 W ?_ | with_reducible refine s8 W ?_ | with_reducible refine s9 W ?_ | ((with_reducible refine g7 W ?_ ?_); · omega) | ((with_reducible refine g8 W ?_ ?_); · omega) | ((with_reducible refine g9 W ?_ ?_); · omega) | ((with_reducible refine p9 W ?_ ?_); · omega) | ((with_reducible refine p10 W ?_ ?_); · omega) | ((with_reducible refine pA W ?_ ?_); · omega) | with_reducible refine onz W ?_ | with_reducible refine opu ?_
  refine Ok.ite (fun _ => ?_) (fun _ => Ok.s trivial)
  repeat first | with_reducible refine om W ?_ | with_reducible refine o7 W ?_ | with_reducible refine o8 W ?_ | with_reducible refine o9 W ?_ | with_reducible refine l7 W ?_ | with_reducible refine l8 W ?_ | with_reducible refine l9 W ?_ | with_reducible refine s7 W ?_ | with_reducible refine s8 W ?_ | with_reducible refine s9 W ?_ | ((with_reducible refine g7 W ?_ ?_); · omega) | ((with_reducible refine g8 W ?_ ?_); · omega) | ((with_reducible refine g9 W ?_ ?_); · omega) | ((with_reducible refine p9 W ?_ ?_); · omega) | ((with_reducible refine p10 W ?_ ?_); · omega) | ((with_reducible refine pA W ?_ ?_); · omega) | with_reducible refine onz W ?_ | with_reducible refine opu ?_
  exact Ok.ite (fun _ => Ok.s trivial) (fun _ => Ok.s trivial)
end ADV2
