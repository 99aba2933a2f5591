/-! the law's own days do not fall: what is there -/
section ADV
variable {I I0 I' I1 I2 : Mem} {K : Kt} {ns i k t y : Nat} {α β : Type}
def Ok (o : Option α) (P : α → Prop) : Prop := ∃ a, o = some a ∧ P a
theorem Ok.b {o : Option α} {f : α → Option β} {Q : α → Prop} {P : β → Prop} (h : Ok o Q) (g : ∀ a, Q a → Ok (f a) P) : Ok (b1 o f) P := by
  obtain ⟨a, e, q⟩ := h
  rw [e, b1_so]
  exact g a q
theorem Ok.b2 {γ : Type} {o : Option (α × γ)} {f : α → γ → Option β} {Q : α × γ → Prop} {P : β → Prop} (h : Ok o Q) (g : ∀ a c, Q (a, c) → Ok (f a c) P) : Ok (b2 o f) P := by
  obtain ⟨⟨a, c⟩, e, q⟩ := h
  rw [e, b2_so]
  exact g a c q
theorem Ok.s {a : α} {P : α → Prop} (h : P a) : Ok (some a) P := ⟨a, rfl, h⟩
theorem Ok.ite {c : Prop} [Decidable c] {x z : Option α} {P : α → Prop} (h : c → Ok x P) (g : ¬ c → Ok z P) : Ok (if c then x else z) P := by
  split
  · next hc => exact h hc
  · next hc => exact g hc
theorem Ok.e {o : Option α} {x : α} {f : α → Option β} {P : β → Prop} (e : o = some x) (g : Ok (f x) P) : Ok (b1 o f) P := by rw [e, b1_so]; exact g
/-- what a day keeps -/
def WI (K : Kt) (ns : Nat) (I0 I : Mem) : Prop := (HB K I ns ns 2 4 ∧ (1 ≤ ns ∧ ns ≤ 2)) ∧ (∀ c, (c < 415 ∨ 428 + ns ≤ c) → I c = I0 c) ∧ (∃ y, I 415 0 = nI y ∧ 4 ≤ y ∧ y ≤ 7) ∧ ∀ k, k < 4 → (I (wd ns k) 3 = -1 ∨ ∃ t, t < ns ∧ I (wd ns k) 3 = nI t) ∧ (I (wd ns k) 4 = -1 ∨ ∃ t, t < 2 ∧ I (wd ns k) 4 = nI t)
section R
variable {P : β → Prop}
theorem om {f : Unit → Option β} (W : WI K ns I0 I) (g : Ok (f ()) P) : Ok (b1 (cO K 8 415) f) P := Ok.e (cO_n W.1.1.m) g
theorem o7 {f : Nat → Option β} (W : WI K ns I0 I) (g : Ok (f 416) P) : Ok (b1 (gR K 415 7) f) P := Ok.e (gR_e W.1.1.g7) g
theorem o8 {f : Nat → Option β} (W : WI K ns I0 I) (g : Ok (f 417) P) : Ok (b1 (gR K 415 8) f) P := Ok.e (gR_e W.1.1.g8) g
theorem o9 {f : Nat → Option β} (W : WI K ns I0 I) (g : Ok (f 418) P) : Ok (b1 (gR K 415 9) f) P := Ok.e (gR_e W.1.1.g9) g
theorem l7 {f : Unit → Option β} (W : WI K ns I0 I) (g : Ok (f ()) P) : Ok (b1 (cO K 11 416) f) P := Ok.e (cO_n W.1.1.lp.1) g
theorem l8 {f : Unit → Option β} (W : WI K ns I0 I) (g : Ok (f ()) P) : Ok (b1 (cO K 11 417) f) P := Ok.e (cO_n W.1.1.ls.1) g
theorem l9 {f : Unit → Option β} (W : WI K ns I0 I) (g : Ok (f ()) P) : Ok (b1 (cO K 11 418) f) P := Ok.e (cO_n W.1.1.lw.1) g
theorem s7 {f : Int32 → Option β} (W : WI K ns I0 I) (g : Ok (f (nI 2)) P) : Ok (b1 (f_Jx4a65c_size_8abf5 I K 416) f) P := Ok.e W.1.1.lp.size g
theorem s8 {f : Int32 → Option β} (W : WI K ns I0 I) (g : Ok (f (nI ns)) P) : Ok (b1 (f_Jx4a65c_size_8abf5 I K 417) f) P := Ok.e W.1.1.ls.size g
theorem s9 {f : Int32 → Option β} (W : WI K ns I0 I) (g : Ok (f (nI 4)) P) : Ok (b1 (f_Jx4a65c_size_8abf5 I K 418) f) P := Ok.e W.1.1.lw.size g
theorem g7 {f : Nat → Option β} (W : WI K ns I0 I) (h : i < 2) (g : Ok (f (420 + ns + 2 * i)) P) : Ok (b1 (f_Jx4a65c_get_915e3 I K 416 (nI i)) f) P := Ok.e (W.1.1.lp.get h (by decide) (W.1.1.2.2.2.1 i h).1) g
theorem g8 {f : Nat → Option β} (W : WI K ns I0 I) (h : i < ns) (g : Ok (f (419 + 2 * i)) P) : Ok (b1 (f_Jx4a65c_get_915e3 I K 417 (nI i)) f) P := Ok.e (W.1.1.ls.get h (by have := W.1.2; omega) (W.1.1.2.2.1 i h).1) g
theorem g9 {f : Nat → Option β} (W : WI K ns I0 I) (h : i < 4) (g : Ok (f (wd ns i)) P) : Ok (b1 (f_Jx4a65c_get_915e3 I K 418 (nI i)) f) P := Ok.e (W.1.1.lw.get h (by decide) (W.1.1.2.2.2.2 i h).1) g
theorem p9 {f : Unit → Option β} (W : WI K ns I0 I) (h : i < 2) (g : Ok (f ()) P) : Ok (b1 (cO K 9 (420 + ns + 2 * i)) f) P := Ok.e (cO_n (W.1.1.2.2.2.1 i h).2) g
theorem p10 {f : Unit → Option β} (W : WI K ns I0 I) (h : i < 4) (g : Ok (f ()) P) : Ok (b1 (cO K 10 (wd ns i)) f) P := Ok.e (cO_n (W.1.1.2.2.2.2 i h).2) g
theorem pA {f : Nat → Option β} (W : WI K ns I0 I) (h : i < ns) (g : Ok (f 4) P) : Ok (b1 (cA K 100 (419 + 2 * i)) f) P := Ok.e (cA_n (W.1.1.2.2.1 i h).2) g
theorem oix {f : Nat → Option β} {j n : Nat} (h : j < n) (hn : n < 100) (g : Ok (f j) P) : Ok (b1 (ix (nI j) n) f) P := Ok.e (ix_n h (by omega)) g
theorem opu {f : Mem → Option β} {a j : Nat} {x : Int32} (g : Ok (f (u2 I a j x)) P) : Ok (b1 (pu I a j x) f) P := Ok.e pu_so g
theorem onz {f : Unit → Option β} (W : WI K ns I0 I) (g : Ok (f ()) P) : Ok (b1 (nz (I 415 0)) f) P := by
  obtain ⟨y, e, h1, h2⟩ := W.2.2.1
  exact Ok.e (by rw [e]; exact nz_n (by omega) (by omega)) g
end R
theorem ow_l (W : WI K ns I0 I) {x : Int32} : ∀ d i, i + d = 4 → ∀ f, d < f → ∀ a, Ok (l_X10_owned_4 f I K 415 x a (nI i)) fun _ => True := by
  intro d
  induction d with
  | zero =>
    intro i hi f hf a
    obtain rfl : i = 4 := by omega
    cases f with
    | zero => omega
    | succ f =>
      unfold l_X10_owned_4
      repeat first | with_reducible refine om W ?_ | with_reducible refine o7 W ?_ | with_reducible refine o8 W ?_ | with_reducible refine o9 W ?_ | with_reducible refine l7 W ?_ | with_reducible refine l8 W ?_ | with_reducible refine l9 W ?_ | with_reducible refine s7 W ?_ | with_reducible refine s8 W ?_ | with_reducible refine s9 W ?_ | ((with_reducible refine g7 W ?_ ?_); · omega) | ((with_reducible refine g8 W ?_ ?_); · omega) | ((with_reducible refine g9 W ?_ ?_); · omega) | ((with_reducible refine p9 W ?_ ?_); · omega) | ((with_reducible refine p10 W ?_ ?_); · omega) | ((with_reducible refine pA W ?_ ?_); · omega) | with_reducible refine onz W ?_ | with_reducible refine opu ?_
      exact Ok.ite (fun _ => Ok.s trivial) (fun h => absurd (Int32.le_refl _) h)
  | succ d ih =>
    intro i hi f hf a
    cases f with
    | zero => omega
    | succ f =>
      unfold l_X10_owned_4
      repeat first | with_reducible refine om W ?_ | with_reducible refine o7 W ?_ | with_reducible refine o8 W ?_ | with_reducible refine o9 W ?_ | with_reducible refine l7 W ?_ | with_reducible refine l8 W ?_ | with_reducible refine l9 W ?_ | with_reducible refine s7 W ?_ | with_reducible refine s8 W ?_ | with_reducible refine s9 W ?_ | ((with_reducible refine g7 W ?_ ?_); · omega) | ((with_reducible refine g8 W ?_ ?_); · omega) | ((with_reducible refine g9 W ?_ ?_); · omega) | ((with_reducible refine p9 W ?_ ?_); · omega) | ((with_reducible refine p10 W ?_ ?_); · omega) | ((with_reducible refine pA W ?_ ?_); · omega) | with_reducible refine onz W ?_ | with_reducible refine opu ?_
      refine Ok.ite (fun _ => Ok.s trivial) (fun _ => ?_)
      repeat first | with_reducible refine om W ?_ | with_reducible refine o7 W ?_ | with_reducible refine o8 W ?_ | with_reducible refine o9 W ?_ | with_reducible refine l7 W ?_ | with_reducible refine l8 W ?_ | with_reducible refine l9 W ?_ | with_reducible refine s7 W ?_ | with_reducible refine s8 W ?_ | with_reducible refine s9 W ?_ | ((with_reducible refine g7 W ?_ ?_); · omega) | ((with_reducible refine g8 W ?_ ?_); · omega) | ((with_reducible refine g9 W ?_ ?_); · omega) | ((with_reducible refine p9 W ?_ ?_); · omega) | ((with_reducible refine p10 W ?_ ?_); · omega) | ((with_reducible refine pA W ?_ ?_); · omega) | with_reducible refine onz W ?_ | with_reducible refine opu ?_
      rw [nI_s1]
      exact Ok.ite (fun _ => ih (i + 1) (by omega) f (by omega) _) (fun _ => ih (i + 1) (by omega) f (by omega) _)
theorem ow_ok (W : WI K ns I0 I) {x : Int32} : Ok (f_X10_owned I K 415 x) fun _ => True := ow_l W 4 0 (by decide) FU (by have := FU_ge; omega) 0
end ADV
