/-! the law's deeds do not fall -/
section ADV4
variable {I I0 I' I1 I2 : Mem} {K : Kt} {ns i j a k t y q : Nat} {x : Int32} {α β : Type}
theorem wd_r (hk : k < 4) : 423 + ns ≤ wd ns k ∧ wd ns k < 428 + ns := by unfold wd; split <;> omega
theorem wd_i {k2 : Nat} (h : wd ns k = wd ns k2) : k = k2 := by
  unfold wd at h
  split at h <;> split at h <;> omega
theorem WI.mv (W : WI K ns I0 I) (h1 : I' 416 = I 416 ∧ I' 417 = I 417 ∧ I' 418 = I 418) (h2 : ∀ c, (c < 415 ∨ 428 + ns ≤ c) → I' c = I c) (h3 : I' 415 0 = I 415 0) (h4 : ∀ k, k < 4 → (I' (wd ns k) 3 = -1 ∨ ∃ t, t < ns ∧ I' (wd ns k) 3 = nI t) ∧ (I' (wd ns k) 4 = -1 ∨ ∃ t, t < 2 ∧ I' (wd ns k) 4 = nI t)) : WI K ns I0 I' := by
  obtain ⟨⟨H, hn⟩, f, y, -⟩ := W
  refine ⟨⟨⟨H.1, ⟨⟨H.lp.1, by rw [h1.1]; exact H.lp.2.1, H.lp.2.2⟩, ⟨H.ls.1, by rw [h1.2.1]; exact H.ls.2.1, H.ls.2.2⟩, ⟨H.lw.1, by rw [h1.2.2]; exact H.lw.2.1, H.lw.2.2⟩⟩, H.2.2⟩, hn⟩, fun c hc => (h2 c hc).trans (f c hc), by rw [h3]; exact y, h4⟩
theorem WI.p1 (W : WI K ns I0 I) (h1 : 415 ≤ a ∧ a < 428 + ns) (h2 : a < 416 ∨ 418 < a) (h3 : a = 415 → j ≠ 0) (h4 : 423 + ns ≤ a → j ≠ 3 ∧ j ≠ 4) : WI K ns I0 (u2 I a j x) := by
  refine W.mv ⟨u2_a (by omega), u2_a (by omega), u2_a (by omega)⟩ (fun c hc => u2_a (by omega)) ?_ (fun k hk => ?_)
  · by_cases e : a = 415
    · exact u2_k (fun z => h3 e z.symm)
    · exact congrFun (u2_a (Ne.symm e)) 0
  · have r := wd_r (ns := ns) hk
    have e3 : u2 I a j x (wd ns k) 3 = I (wd ns k) 3 := by
      by_cases e : 423 + ns ≤ a
      · exact u2_k (fun z => (h4 e).1 z.symm)
      · exact congrFun (u2_a (by omega)) 3
    have e4 : u2 I a j x (wd ns k) 4 = I (wd ns k) 4 := by
      by_cases e : 423 + ns ≤ a
      · exact u2_k (fun z => (h4 e).2 z.symm)
      · exact congrFun (u2_a (by omega)) 4
    rw [e3, e4]
    exact W.2.2.2 k hk
theorem WI.p3 (W : WI K ns I0 I) (hk : k < 4) (hx : x = -1 ∨ ∃ t, t < ns ∧ x = nI t) : WI K ns I0 (u2 I (wd ns k) 3 x) := by
  have r := wd_r (ns := ns) hk
  refine W.mv ⟨u2_a (by omega), u2_a (by omega), u2_a (by omega)⟩ (fun c hc => u2_a (by omega)) (congrFun (u2_a (by omega)) 0) (fun k2 hk2 => ?_)
  rw [show u2 I (wd ns k) 3 x (wd ns k2) 4 = I (wd ns k2) 4 from u2_k (by decide)]
  refine ⟨?_, (W.2.2.2 k2 hk2).2⟩
  by_cases e : k2 = k
  · subst e; rw [u2_s]; exact hx
  · rw [u2_a (fun z => e (wd_i z))]; exact (W.2.2.2 k2 hk2).1
theorem WI.p4 (W : WI K ns I0 I) (hk : k < 4) (hx : x = -1 ∨ ∃ t, t < 2 ∧ x = nI t) : WI K ns I0 (u2 I (wd ns k) 4 x) := by
  have r := wd_r (ns := ns) hk
  refine W.mv ⟨u2_a (by omega), u2_a (by omega), u2_a (by omega)⟩ (fun c hc => u2_a (by omega)) (congrFun (u2_a (by omega)) 0) (fun k2 hk2 => ?_)
  rw [show u2 I (wd ns k) 4 x (wd ns k2) 3 = I (wd ns k2) 3 from u2_k (by decide)]
  refine ⟨(W.2.2.2 k2 hk2).1, ?_⟩
  by_cases e : k2 = k
  · subst e; rw [u2_s]; exact hx
  · rw [u2_a (fun z => e (wd_i z))]; exact (W.2.2.2 k2 hk2).2
theorem WI.pw (W : WI K ns I0 I) (hk : k < 4) (h : j ≠ 3 ∧ j ≠ 4) : WI K ns I0 (u2 I (wd ns k) j x) := by
  have r := wd_r (ns := ns) hk
  exact W.p1 (by omega) (by omega) (fun z => by omega) (fun _ => h)
theorem WI.pp (W : WI K ns I0 I) (hq : q < 2) : WI K ns I0 (u2 I (420 + ns + 2 * q) j x) := by
  have := W.1.2
  exact W.p1 (by omega) (by omega) (fun z => by omega) (fun z => by omega)
theorem WI.ps (W : WI K ns I0 I) (ht : t < ns) : WI K ns I0 (u2 I (419 + 2 * t) j x) := by
  have := W.1.2
  exact W.p1 (by omega) (by omega) (fun z => by omega) (fun z => by omega)
theorem pl_ok {x z : Int32} (W : WI K ns I0 I) (hk : k < 4) (hx : x = -1 ∨ ∃ t, t < ns ∧ x = nI t) (hz : z = -1 ∨ ∃ t, t < 2 ∧ z = nI t) : Ok (f_X12_place I K (wd ns k) x z) (WI K ns I0) := by
  unfold f_X12_place
  repeat first | with_reducible refine om W ?_ | with_reducible refine o7 W ?_ | with_reducible refine o8 W ?_ | with_reducible refine o9 W ?_ | with_reducible refine l7 W ?_ | with_reducible refine l8 W ?_ | with_reducible refine l9 W ?_ | with_reducible refine s7 W ?_ | with_reducible refine s8 W ?_ | with_reducible refine s9 W ?_ | ((with_reducible refine g7 W ?_ ?_); · omega) | ((with_reducible refine g8 W ?_ ?_); · omega) | ((with_reducible refine g9 W ?_ ?_); · omega) | ((with_reducible refine p9 W ?_ ?_); · omega) | ((with_reducible refine p10 W ?_ ?_); · omega) | ((with_reducible refine pA W ?_ ?_); · omega) | with_reducible refine onz W ?_ | with_reducible refine opu ?_
  exact Ok.s (((((W.p3 hk hx).p4 hk hz).pw hk (by decide)).pw hk (by decide)).pw hk (by decide))
theorem take_ok (W : WI K ns I0 I) (hq : q < 2) (hk : k < 4) (ht : t < ns) (e : I (wd ns k) 3 = nI t) : Ok (f_X10_take I K 415 (nI q) (nI k) x) (WI K ns I0) := by
  unfold f_X10_take
  repeat first | with_reducible refine om W ?_ | with_reducible refine o7 W ?_ | with_reducible refine o8 W ?_ | with_reducible refine o9 W ?_ | with_reducible refine l7 W ?_ | with_reducible refine l8 W ?_ | with_reducible refine l9 W ?_ | with_reducible refine s7 W ?_ | with_reducible refine s8 W ?_ | with_reducible refine s9 W ?_ | ((with_reducible refine g7 W ?_ ?_); · omega) | ((with_reducible refine g8 W ?_ ?_); · omega) | ((with_reducible refine g9 W ?_ ?_); · omega) | ((with_reducible refine p9 W ?_ ?_); · omega) | ((with_reducible refine p10 W ?_ ?_); · omega) | ((with_reducible refine pA W ?_ ?_); · omega) | with_reducible refine onz W ?_ | with_reducible refine opu ?_
  rw [e]
  have W1 := fun z => W.pp (x := z) (j := 0) hq
  repeat first | with_reducible refine om (W1 _) ?_ | with_reducible refine o7 (W1 _) ?_ | with_reducible refine o8 (W1 _) ?_ | with_reducible refine o9 (W1 _) ?_ | with_reducible refine l7 (W1 _) ?_ | with_reducible refine l8 (W1 _) ?_ | with_reducible refine l9 (W1 _) ?_ | with_reducible refine s7 (W1 _) ?_ | with_reducible refine s8 (W1 _) ?_ | with_reducible refine s9 (W1 _) ?_ | ((with_reducible refine g7 (W1 _) ?_ ?_); · omega) | ((with_reducible refine g8 (W1 _) ?_ ?_); · omega) | ((with_reducible refine g9 (W1 _) ?_ ?_); · omega) | ((with_reducible refine p9 (W1 _) ?_ ?_); · omega) | ((with_reducible refine p10 (W1 _) ?_ ?_); · omega) | ((with_reducible refine pA (W1 _) ?_ ?_); · omega) | with_reducible refine onz (W1 _) ?_ | with_reducible refine opu ?_
  repeat first | with_reducible refine om W ?_ | with_reducible refine o7 W ?_ | with_reducible refine o8 W ?_ | with_reducible refine o9 W ?_ | with_reducible refine l7 W ?_ | with_reducible refine l8 W ?_ | with_reducible refine l9 W ?_ | with_reducible refine s7 W ?_ | with_reducible refine s8 W ?_ | with_reducible refine s9 W ?_ | ((with_reducible refine g7 W ?_ ?_); · omega) | ((with_reducible refine g8 W ?_ ?_); · omega) | ((with_reducible refine g9 W ?_ ?_); · omega) | ((with_reducible refine p9 W ?_ ?_); · omega) | ((with_reducible refine p10 W ?_ ?_); · omega) | ((with_reducible refine pA W ?_ ?_); · omega) | with_reducible refine onz W ?_ | with_reducible refine opu ?_
  refine Ok.e (ix44 (j := 1) (by decide)) ?_
  repeat first | with_reducible refine om W ?_ | with_reducible refine o7 W ?_ | with_reducible refine o8 W ?_ | with_reducible refine o9 W ?_ | with_reducible refine l7 W ?_ | with_reducible refine l8 W ?_ | with_reducible refine l9 W ?_ | with_reducible refine s7 W ?_ | with_reducible refine s8 W ?_ | with_reducible refine s9 W ?_ | ((with_reducible refine g7 W ?_ ?_); · omega) | ((with_reducible refine g8 W ?_ ?_); · omega) | ((with_reducible refine g9 W ?_ ?_); · omega) | ((with_reducible refine p9 W ?_ ?_); · omega) | ((with_reducible refine p10 W ?_ ?_); · omega) | ((with_reducible refine pA W ?_ ?_); · omega) | with_reducible refine onz W ?_ | with_reducible refine opu ?_
  refine Ok.e (ix44 (j := 1) (by decide)) ?_
  repeat first | with_reducible refine om W ?_ | with_reducible refine o7 W ?_ | with_reducible refine o8 W ?_ | with_reducible refine o9 W ?_ | with_reducible refine l7 W ?_ | with_reducible refine l8 W ?_ | with_reducible refine l9 W ?_ | with_reducible refine s7 W ?_ | with_reducible refine s8 W ?_ | with_reducible refine s9 W ?_ | ((with_reducible refine g7 W ?_ ?_); · omega) | ((with_reducible refine g8 W ?_ ?_); · omega) | ((with_reducible refine g9 W ?_ ?_); · omega) | ((with_reducible refine p9 W ?_ ?_); · omega) | ((with_reducible refine p10 W ?_ ?_); · omega) | ((with_reducible refine pA W ?_ ?_); · omega) | with_reducible refine onz W ?_ | with_reducible refine opu ?_
  refine Ok.b (pl_ok ((W1 _).ps ht) hk (Or.inl rfl) (Or.inr ⟨q, hq, rfl⟩)) (fun I2 W2 => ?_)
  repeat first | with_reducible refine om W ?_ | with_reducible refine o7 W ?_ | with_reducible refine o8 W ?_ | with_reducible refine o9 W ?_ | with_reducible refine l7 W ?_ | with_reducible refine l8 W ?_ | with_reducible refine l9 W ?_ | with_reducible refine s7 W ?_ | with_reducible refine s8 W ?_ | with_reducible refine s9 W ?_ | ((with_reducible refine g7 W ?_ ?_); · omega) | ((with_reducible refine g8 W ?_ ?_); · omega) | ((with_reducible refine g9 W ?_ ?_); · omega) | ((with_reducible refine p9 W ?_ ?_); · omega) | ((with_reducible refine p10 W ?_ ?_); · omega) | ((with_reducible refine pA W ?_ ?_); · omega) | with_reducible refine onz W ?_ | with_reducible refine opu ?_
  exact Ok.s (((W2.pw hk (by decide)).pw hk (by decide)).pw hk (by decide))
end ADV4
