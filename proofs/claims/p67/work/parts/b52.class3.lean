section CC
variable {I I' : Mem} {q np ns nw : Nat} {N : Nat → Int32}
theorem RM.pu (R : RM I q N np ns nw) {p k : Nat} {x : Int32} (hp : p < np) (hk : k < 5) : RM (u2 I (q + 4 + p) (k + 1) x) q (upd N (11 + 14 * p + k) x) np ns nw := by
  have b1 := R.f.p.2
  have b2 := R.f.s.2
  have b3 := R.f.w.2
  have hn : ∀ j, j < 11 → upd N (11 + 14 * p + k) x j = N j := fun j hj => upd_n (by omega)
  have hq : u2 I (q + 4 + p) (k + 1) x q = I q := u2_a (by omega)
  obtain ⟨y, y1, y2⟩ := R.2.1
  refine ⟨R.f.free (Or.inl ⟨p, k, by omega, hk, rfl⟩), ⟨y, (hn 0 (by decide)).trans y1, y2⟩, ?_, fun p' hp' => ?_, fun s hs => ?_, fun w hw => ?_⟩
  · unfold RH
    rw [hq, hn 0 (by decide), hn 1 (by decide), hn 2 (by decide), hn 3 (by decide), hn 4 (by decide), hn 5 (by decide), hn 6 (by decide), hn 7 (by decide), hn 8 (by decide), hn 9 (by decide), hn 10 (by decide)]
    exact R.h
  · by_cases e : p' = p
    · subst e
      have r0 := (R.p hp').1.1
      unfold RP
      rcases (show k = 0 ∨ k = 1 ∨ k = 2 ∨ k = 3 ∨ k = 4 by omega) with rfl | rfl | rfl | rfl | rfl <;> simp (disch := omega) only [u2_s, u2_k, pN_p, pN_n, sNm_n, r0, R.p1 hp', R.p2 hp', R.p3 hp', R.p4 hp', R.p5 hp', R.p6 hp', R.p7 hp', and_self]
    · have := R.p hp'
      unfold RP at this ⊢
      rw [u2_a (by omega), sNm_n (by omega), pN_n (by omega), pN_n (by omega), pN_n (by omega), pN_n (by omega), pN_n (by omega), pN_n (by omega), pN_n (by omega)]
      exact this
  · have := R.s hs
    unfold RS at this ⊢
    rw [u2_a (by omega), sN_n (by omega), sN_n (by omega), sN_n (by omega), sN_n (by omega)]
    exact this
  · have := R.w hw
    unfold RW at this ⊢
    rw [u2_a (by omega), sNm_n (by omega), wN_n (by omega), wN_n (by omega), wN_n (by omega), wN_n (by omega), wN_n (by omega), wN_n (by omega), wN_n (by omega), wN_n (by omega)]
    exact this
theorem RM.su (R : RM I q N np ns nw) {s k : Nat} {x : Int32} (hs : s < ns) (hk : k = 1 ∨ k = 2 ∨ k = 3) (W : WF (upd N (95 + 4 * s + k) x) np ns nw) : RM (u2 I (q + 10 + s) k x) q (upd N (95 + 4 * s + k) x) np ns nw := by
  have b1 := R.f.p.2
  have b2 := R.f.s.2
  have b3 := R.f.w.2
  have hn : ∀ j, j < 11 → upd N (95 + 4 * s + k) x j = N j := fun j hj => upd_n (by omega)
  have hq : u2 I (q + 10 + s) k x q = I q := u2_a (by omega)
  obtain ⟨y, y1, y2⟩ := R.2.1
  refine ⟨W, ⟨y, (hn 0 (by decide)).trans y1, y2⟩, ?_, fun p' hp' => ?_, fun s' hs' => ?_, fun w hw => ?_⟩
  · unfold RH
    rw [hq, hn 0 (by decide), hn 1 (by decide), hn 2 (by decide), hn 3 (by decide), hn 4 (by decide), hn 5 (by decide), hn 6 (by decide), hn 7 (by decide), hn 8 (by decide), hn 9 (by decide), hn 10 (by decide)]
    exact R.h
  · have := R.p hp'
    unfold RP at this ⊢
    rw [u2_a (by omega), sNm_n (by omega), pN_n (by omega), pN_n (by omega), pN_n (by omega), pN_n (by omega), pN_n (by omega), pN_n (by omega), pN_n (by omega)]
    exact this
  · by_cases e : s' = s
    · subst e
      unfold RS
      rcases hk with rfl | rfl | rfl <;> simp (disch := omega) only [u2_s, u2_k, sN_s, sN_n, R.s0 hs', R.s1 hs', R.s2 hs', R.s3 hs', and_self]
    · have := R.s hs'
      unfold RS at this ⊢
      rw [u2_a (by omega), sN_n (by omega), sN_n (by omega), sN_n (by omega), sN_n (by omega)]
      exact this
  · have := R.w hw
    unfold RW at this ⊢
    rw [u2_a (by omega), sNm_n (by omega), wN_n (by omega), wN_n (by omega), wN_n (by omega), wN_n (by omega), wN_n (by omega), wN_n (by omega), wN_n (by omega), wN_n (by omega)]
    exact this
theorem RM.mv (R : RM I q N np ns nw) {w : Nat} {h a x5 x6 x7 : Int32} (hw : w < nw) (hI : ∀ b, b ≠ q + 15 + w → I' b = I b) (hk : ∀ k, k < 4 → I' (q + 15 + w) k = I (q + 15 + w) k) (e4 : I' (q + 15 + w) 4 = if h = 0 then a else -1) (e5 : I' (q + 15 + w) 5 = if h = 1 then a else -1) (e6 : I' (q + 15 + w) 6 = bI (h = 2)) (e7 : I' (q + 15 + w) 7 = bI (h = 3))
    (e8 : I' (q + 15 + w) 8 = x5) (e9 : I' (q + 15 + w) 9 = x6) (e10 : I' (q + 15 + w) 10 = x7) (W : WF (sMv N w h a x5 x6 x7) np ns nw) : RM I' q (sMv N w h a x5 x6 x7) np ns nw := by
  have b1 := R.f.p.2
  have b2 := R.f.s.2
  have b3 := R.f.w.2
  obtain ⟨y, y1, y2⟩ := R.2.1
  have hm : ∀ {a'}, sNm (sMv N w h a x5 x6 x7) a' = sNm N a' ∨ ¬ (a' + 6 < 115 + 15 * w + 3 ∨ 115 + 15 * w + 7 < a') := fun {a'} => by
    by_cases g : a' + 6 < 115 + 15 * w + 3 ∨ 115 + 15 * w + 7 < a'
    · refine Or.inl ?_
      unfold sMv
      rw [sNm_n (by omega), sNm_n (by omega), sNm_n (by omega), sNm_n (by omega), sNm_n (by omega)]
    · exact Or.inr g
  refine ⟨W, ⟨y, (hd_mv (by decide)).trans y1, y2⟩, ?_, fun p' hp' => ?_, fun s' hs' => ?_, fun w' hw' => ?_⟩
  · unfold RH
    rw [hI q (by omega), hd_mv (by decide), hd_mv (by decide), hd_mv (by decide), hd_mv (by decide), hd_mv (by decide), hd_mv (by decide), hd_mv (by decide), hd_mv (by decide), hd_mv (by decide), hd_mv (by decide), hd_mv (by decide)]
    exact R.h
  · have := R.p hp'
    have hn : ∀ k, k < 14 → pN (sMv N w h a x5 x6 x7) p' k = pN N p' k := fun k hk => hd_mv (by omega)
    unfold RP at this ⊢
    rw [hI _ (by omega), hm.resolve_right (by omega), hn 0 (by decide), hn 1 (by decide), hn 2 (by decide), hn 3 (by decide), hn 4 (by decide), hn 5 (by decide), hn 6 (by decide)]
    exact this
  · have := R.s hs'
    have hn : ∀ k, k < 4 → sN (sMv N w h a x5 x6 x7) s' k = sN N s' k := fun k hk => hd_mv (by omega)
    unfold RS at this ⊢
    rw [hI _ (by omega), hn 0 (by decide), hn 1 (by decide), hn 2 (by decide), hn 3 (by decide)]
    exact this
  · by_cases e : w' = w
    · subst e
      have := R.w hw'
      unfold RW at this ⊢
      have k0 : ∀ k, k < 3 → wN (sMv N w' h a x5 x6 x7) w' k = wN N w' k := fun k hk => by
        unfold sMv
        rw [wN_n (by omega), wN_n (by omega), wN_n (by omega), wN_n (by omega), wN_n (by omega)]
      have k3 : wN (sMv N w' h a x5 x6 x7) w' 3 = h := by
        unfold sMv
        rw [wN_n (by omega), wN_n (by omega), wN_n (by omega), wN_n (by omega), wN_w]
      have k4 : wN (sMv N w' h a x5 x6 x7) w' 4 = a := by
        unfold sMv
        rw [wN_n (by omega), wN_n (by omega), wN_n (by omega), wN_w]
      have k5 : wN (sMv N w' h a x5 x6 x7) w' 5 = x5 := by
        unfold sMv
        rw [wN_n (by omega), wN_n (by omega), wN_w]
      have k6 : wN (sMv N w' h a x5 x6 x7) w' 6 = x6 := by
        unfold sMv
        rw [wN_n (by omega), wN_w]
      have k7 : wN (sMv N w' h a x5 x6 x7) w' 7 = x7 := by
        unfold sMv
        rw [wN_w]
      have hm2 : sNm (sMv N w' h a x5 x6 x7) (115 + 15 * w' + 8) = sNm N (115 + 15 * w' + 8) := hm.resolve_right (by omega)
      rw [k3, k4, k5, k6, k7, k0 0 (by decide), k0 1 (by decide), k0 2 (by decide), hm2, hk 0 (by decide), hk 1 (by decide), hk 2 (by decide), hk 3 (by decide)]
      exact ⟨this.1, ⟨e4, e5⟩, ⟨e6, e7⟩, e8, e9, e10⟩
    · have := R.w hw'
      have hn : ∀ k, k < 15 → wN (sMv N w h a x5 x6 x7) w' k = wN N w' k := fun k hk => by
        unfold sMv
        rw [wN_n (by omega), wN_n (by omega), wN_n (by omega), wN_n (by omega), wN_n (by omega)]
      have hm2 : sNm (sMv N w h a x5 x6 x7) (115 + 15 * w' + 8) = sNm N (115 + 15 * w' + 8) := hm.resolve_right (by omega)
      unfold RW at this ⊢
      rw [hI _ (by omega), hm2, hn 0 (by decide), hn 1 (by decide), hn 2 (by decide), hn 3 (by decide), hn 4 (by decide), hn 5 (by decide), hn 6 (by decide), hn 7 (by decide)]
      exact this
theorem pu_so {a k : Nat} {x : Int32} : pu I a k x = some (u2 I a k x) := rfl
/-- nothing outside the market changes, and nothing of it behind the last person and the last wish -/
def Fr (I I' : Mem) (q np nw : Nat) : Prop := ∀ a, a < q ∨ q + 15 + nw ≤ a ∨ (q + 4 + np ≤ a ∧ a < q + 10) → I' a = I a
theorem Fr.refl : Fr I I q np nw := fun _ _ => rfl
theorem Fr.trans {I2 : Mem} (h : Fr I I' q np nw) (h2 : Fr I' I2 q np nw) : Fr I I2 q np nw := fun a ha => (h2 a ha).trans (h a ha)
theorem Fr.u {I : Mem} {a k : Nat} {x : Int32} (h : q ≤ a ∧ a < q + 15 + nw ∧ (a < q + 4 + np ∨ q + 10 ≤ a)) : Fr I (u2 I a k x) q np nw := fun b hb => u2_a (by omega)
end CC
