/-! the relation, with the class and the reference in memories of their own -/
def SA2 (I J : Mem) (w m : Nat) (l : Bool) (D : Nat) : Prop := (I w 7 = bI (l = true) ∧ J m 6 = bI (l = true)) ∧ (l = true → Snap I (w + 37) (J (m + 1)) D)
def SU2 (I J : Mem) (w m D u v : Nat) : Prop := (u ≤ 8 ∧ v < 8) ∧ (I w 8 = nI u ∧ J m 7 = nI u ∧ I w 9 = nI v) ∧ ∀ j, j < u → Snap I (w + 104 + 31 * ((v + 8 - (u - 1 - j)) % 8)) (fun k => J (m + 3) (355 * j + k)) D
def SV2 (I J : Mem) (w m D : Nat) : Prop := ∀ i, i < 2 → (I (w + 101) i = 0 ∧ J (m + 5) i = 0) ∨ (I (w + 101) i = 1 ∧ J (m + 5) i = 1 ∧ Snap I (w + 352 + 31 * i) (fun k => J (m + 4) (355 * i + k)) D)
def SP2 (I J : Mem) (w m : Nat) : Prop := I (w + 1) 2 = J m 10 ∧ I (w + 1) 3 = J m 11
def SF2 (I J : Mem) (w m f : Nat) : Prop := (f ≤ 500 ∧ I (w + 1 + 1) 1 = nI f ∧ J m 9 = nI f) ∧ ∀ i, i < f → I (w + 1 + 2) i = J (m + 6) i
def SO2 (I J : Mem) (K : Kt) (w m kb gb : Nat) : Prop := (∃ n, n ≤ 100 ∧ (I (w + 102) 3 = nI n ∧ J m 20 = nI n ∧ I (w + 102) 1 = 0) ∧ n ≤ nOf K (w + 102) ∧ ∀ i, i < n → ∃ c, c < 128 ∧ I (vOf K (w + 102)) i = nI c ∧ J (m + 7) i = nI c) ∧ (∀ i, i < nOf K (w + 102) → fits .byte (.int (I (vOf K (w + 102)) i)) = true) ∧ ∃ e, e < 4 ∧ nOf K (w + 102) = capT.getD e 0 ∧ kN K = kb + e ∧ gz K = gb + capS.getD e 0
def ST2 (I J : Mem) (K : Kt) (w m kb gb D : Nat) : Prop := SL K w m ∧ (∃ l, SA2 I J w m l D) ∧ SB I w ∧ (∃ u v, SU2 I J w m D u v) ∧ SV2 I J w m D ∧ SP2 I J w m ∧ (∃ f, SF2 I J w m f) ∧ SO2 I J K w m kb gb
/-- what the class does not touch of the reference, and the other way round -/
def FrJ (w m : Nat) (K : Kt) (I I' : Mem) : Prop := ∀ a, m ≤ a → a ≤ m + 7 → I' a = I a
def FrI (w m : Nat) (K : Kt) (J J' : Mem) : Prop := ∀ a, (a < m ∨ m + 7 < a) → J' a = J a
section T2
variable {I I' J J' : Mem} {K : Kt} {w m kb gb D D' : Nat}
theorem ST.two : ST I K w m kb gb D ↔ ST2 I I K w m kb gb D := Iff.rfl
theorem ST2.jfr (h : ST2 I J K w m kb gb D) (h1 : ∀ a, m + 1 ≤ a → a ≤ m + 7 → J' a = J a) (h0 : ∀ k, k ≠ 0 → J' m k = J m k) : ST2 I J' K w m kb gb D := by
  obtain ⟨hL, ⟨l, hA⟩, hB, ⟨u, v, hU⟩, hV, hP, ⟨f, hF⟩, hO⟩ := h
  refine ⟨hL, ⟨l, ⟨hA.1.1, by rw [h0 6 (by decide)]; exact hA.1.2⟩, fun h => by rw [h1 (m + 1) (by omega) (by omega)]; exact hA.2 h⟩, hB, ⟨u, v, hU.1, ⟨hU.2.1.1, by rw [h0 7 (by decide)]; exact hU.2.1.2.1, hU.2.1.2.2⟩, fun j hj => by rw [h1 (m + 3) (by omega) (by omega)]; exact hU.2.2 j hj⟩, fun i hi => ?_, ⟨by rw [h0 10 (by decide)]; exact hP.1, by rw [h0 11 (by decide)]; exact hP.2⟩, ⟨f, ⟨hF.1.1, hF.1.2.1, by rw [h0 9 (by decide)]; exact hF.1.2.2⟩, fun i hi => by rw [h1 (m + 6) (by omega) (by omega)]; exact hF.2 i hi⟩, ?_⟩
  · rw [h1 (m + 5) (by omega) (by omega), h1 (m + 4) (by omega) (by omega)]
    exact hV i hi
  · obtain ⟨⟨n, n1, n2, n3, n4⟩, o2, o3⟩ := hO
    exact ⟨⟨n, n1, ⟨n2.1, by rw [h0 20 (by decide)]; exact n2.2.1, n2.2.2⟩, n3, by rw [h1 (m + 7) (by omega) (by omega)]; exact n4⟩, o2, o3⟩
theorem ST2.ifr (h : ST2 I J K w m kb gb D) (h1 : ∀ a, w ≤ a → a < w + 414 → I' a = I a) (h2 : I' (vOf K (w + 102)) = I (vOf K (w + 102))) : ST2 I' J K w m kb gb D := by
  obtain ⟨hL, ⟨l, hA⟩, hB, ⟨u, v, hU⟩, hV, hP, ⟨f, hF⟩, hO⟩ := h
  have hu := hU.1
  have ew : I' w = I w := h1 w (by omega) (by omega)
  refine ⟨hL, ⟨l, ⟨by rw [ew]; exact hA.1.1, hA.1.2⟩, fun h => (hA.2 h).fr fun a _ _ => h1 a (by omega) (by omega)⟩, hB.fr fun a _ _ => h1 a (by omega) (by omega), ⟨u, v, hU.1, ⟨by rw [ew]; exact hU.2.1.1, hU.2.1.2.1, by rw [ew]; exact hU.2.1.2.2⟩, fun j hj => (hU.2.2 j hj).fr fun a _ _ => h1 a (by omega) (by omega)⟩, fun i hi => ?_, ⟨by rw [h1 _ (by omega) (by omega)]; exact hP.1, by rw [h1 _ (by omega) (by omega)]; exact hP.2⟩, ⟨f, ⟨hF.1.1, by rw [h1 _ (by omega) (by omega)]; exact hF.1.2.1, hF.1.2.2⟩, fun i hi => by rw [h1 _ (by omega) (by omega)]; exact hF.2 i hi⟩, ?_⟩
  · rw [h1 (w + 101) (by omega) (by omega)]
    exact (hV i hi).imp id fun h => ⟨h.1, h.2.1, h.2.2.fr fun a _ _ => h1 a (by omega) (by omega)⟩
  · obtain ⟨⟨n, n1, n2, n3, n4⟩, o2, o3⟩ := hO
    exact ⟨⟨n, n1, by rw [h1 (w + 102) (by omega) (by omega)]; exact n2, n3, by rw [h2]; exact n4⟩, by rw [h2]; exact o2, o3⟩
/-- another market on both sides -/
theorem ST2.mk' (h : ST2 I J K w m kb gb D) (hl : I w 7 = 1) (hi : ∀ a, w ≤ a → a < w + 414 → (a < w + 37 ∨ w + 67 < a) → I' a = I a) (hv : I' (vOf K (w + 102)) = I (vOf K (w + 102))) (hj : ∀ a, m + 3 ≤ a → a ≤ m + 7 → J' a = J a) (h0 : ∀ k, k ≠ 0 → J' m k = J m k) (hS : Snap I' (w + 37) (J' (m + 1)) D') (hB : BM I' (w + 37)) (hD : D ≤ D') : ST2 I' J' K w m kb gb D' := by
  obtain ⟨hL, ⟨l, hA⟩, hBB, ⟨u, v, hU⟩, hV, hP, ⟨f, hF⟩, hO⟩ := h
  have hu := hU.1
  have ew : I' w = I w := hi w (by omega) (by omega) (by omega)
  have el : l = true := by
    cases l with
    | true => rfl
    | false => have := hA.1.1; rw [hl] at this; exact absurd this (by decide)
  subst el
  refine ⟨hL, ⟨true, ⟨by rw [ew]; exact hA.1.1, by rw [h0 6 (by decide)]; exact hA.1.2⟩, fun _ => hS⟩, ⟨⟨hBB.1.1.fr fun a _ _ => hi a (by omega) (by omega) (by omega), hB, hBB.1.2.2.fr fun a _ _ => hi a (by omega) (by omega) (by omega)⟩, fun i h => (hBB.2.1 i h).fr fun a _ _ => hi a (by omega) (by omega) (by omega), fun i h => (hBB.2.2 i h).fr fun a _ _ => hi a (by omega) (by omega) (by omega)⟩, ⟨u, v, hU.1, ⟨by rw [ew]; exact hU.2.1.1, by rw [h0 7 (by decide)]; exact hU.2.1.2.1, by rw [ew]; exact hU.2.1.2.2⟩, fun j h => by rw [hj (m + 3) (by omega) (by omega)]; exact ((hU.2.2 j h).fr fun a _ _ => hi a (by omega) (by omega) (by omega)).le hD⟩, fun i h => ?_, ⟨by rw [hi _ (by omega) (by omega) (by omega), h0 10 (by decide)]; exact hP.1, by rw [hi _ (by omega) (by omega) (by omega), h0 11 (by decide)]; exact hP.2⟩, ⟨f, ⟨hF.1.1, by rw [hi _ (by omega) (by omega) (by omega)]; exact hF.1.2.1, by rw [h0 9 (by decide)]; exact hF.1.2.2⟩, fun i h => by rw [hi _ (by omega) (by omega) (by omega), hj _ (by omega) (by omega)]; exact hF.2 i h⟩, ?_⟩
  · rw [hi (w + 101) (by omega) (by omega) (by omega), hj (m + 5) (by omega) (by omega), hj (m + 4) (by omega) (by omega)]
    exact (hV i h).imp id fun h => ⟨h.1, h.2.1, (h.2.2.fr fun a _ _ => hi a (by omega) (by omega) (by omega)).le hD⟩
  · obtain ⟨⟨n, n1, n2, n3, n4⟩, o2, o3⟩ := hO
    exact ⟨⟨n, n1, by rw [hi (w + 102) (by omega) (by omega) (by omega), h0 20 (by decide)]; exact n2, n3, by rw [hv, hj (m + 7) (by omega) (by omega)]; exact n4⟩, by rw [hv]; exact o2, o3⟩
theorem nx8 {v : Nat} (hv : v < 8) : (nI v + 1) - (nI v + 1) / 8 * 8 = nI ((v + 1) % 8) := by
  rcases (show v = 0 ∨ v = 1 ∨ v = 2 ∨ v = 3 ∨ v = 4 ∨ v = 5 ∨ v = 6 ∨ v = 7 by omega) with rfl | rfl | rfl | rfl | rfl | rfl | rfl | rfl <;> decide
theorem mn8 {u : Nat} (hu : u ≤ 8) : (if (8 : Int32) < (nI u + 1) then (8 : Int32) else (nI u + 1)) = nI (if u = 8 then 8 else u + 1) := by
  rcases (show u = 0 ∨ u = 1 ∨ u = 2 ∨ u = 3 ∨ u = 4 ∨ u = 5 ∨ u = 6 ∨ u = 7 ∨ u = 8 by omega) with rfl | rfl | rfl | rfl | rfl | rfl | rfl | rfl | rfl <;> decide
theorem Snap.congr {q : Nat} {N : Nat → Int32} (h : Snap I q N D) {q' : Nat} (hq : q' = q) : Snap I q' N D := hq ▸ h
/-- both remember -/
theorem ST2.rem (S : ST2 I J K w m kb gb D) (hl : I w 7 = 1) : ∃ I1 J1, f_X9_rememberForUndo I w = some I1 ∧ f_X10_remembers J m = some J1 ∧ (∀ a, a ≠ w → (a < w + 104 ∨ w + 352 ≤ a) → I1 a = I a) ∧ (∀ k, k ≠ 8 → k ≠ 9 → I1 w k = I w k) ∧ (∀ a, a ≠ m → a ≠ m + 3 → J1 a = J a) ∧ (∀ k, k ≠ 7 → J1 m k = J m k) ∧ ST2 I1 J1 K w m kb gb D := by
  obtain ⟨hL, ⟨l, hA⟩, hBB, ⟨u, v, ⟨hu, hv⟩, ⟨hu1, hu2, hv1⟩, hU⟩, hV, hP, ⟨f, hF⟩, hO⟩ := S
  have el : l = true := by
    cases l with
    | true => rfl
    | false => have := hA.1.1; rw [hl] at this; exact absurd this (by decide)
  subst el
  have hv' : (v + 1) % 8 < 8 := Nat.mod_lt _ (by decide)
  have ea : ∀ a, a ≠ w → (u2 I w 9 (nI ((v + 1) % 8))) a = I a := fun a h => u2_a h
  obtain ⟨I3, c1, c2, c3⟩ := h_copyFrom (I := u2 I w 9 (nI ((v + 1) % 8))) (d := w + 104 + 31 * ((v + 1) % 8)) (s := w + 37) (Or.inr (by omega)) (hBB.1.2.1.fr fun a _ _ => ea a (by omega))
  have e38 : I3 w 8 = nI u := by rw [c3 w (by omega), u2_k (by decide)]; exact hu1
  have e39 : I3 w 9 = nI ((v + 1) % 8) := by rw [c3 w (by omega), u2_s]
  obtain ⟨J1, u', j1, j2, j3, j4, j5, j6⟩ := r_remembers (I := J) (m := m) hu2 hu
  have hu' : (if u = 8 then 8 else u + 1) = u' + 1 := by
    rcases j6 with ⟨h1, h2, -⟩ | ⟨h1, h2, -⟩
    · rw [if_neg (by omega), h2]
    · rw [if_pos h1, h2]
  refine ⟨u2 I3 w 8 (nI (u' + 1)), J1, ?_, j1, fun a h1 h2 => ?_, fun k h1 h2 => ?_, j2, j3, ?_⟩
  · unfold f_X9_rememberForUndo
    rw [hv1, nx8 hv, pu_so, b1_so, u2_s, ix_n hv' (by decide), b1_so, c1, b1_so, e38, mn8 hu, hu', pu_so, b1_so]
  · rw [u2_a h1, c3 a (by omega), ea a h1]
  · rw [u2_k h1, c3 w (by omega), u2_k h2]
  have e0 : ∀ a, a ≠ w → (a < w + 104 + 31 * ((v + 1) % 8) ∨ w + 104 + 31 * ((v + 1) % 8) + 30 < a) → u2 I3 w 8 (nI (u' + 1)) a = I a := fun a h1 h2 => by rw [u2_a h1, c3 a h2, ea a h1]
  have e1 : ∀ k, k ≠ 8 → k ≠ 9 → u2 I3 w 8 (nI (u' + 1)) w k = I w k := fun k h1 h2 => by rw [u2_k h1, c3 w (by omega), u2_k h2]
  have hvv := hL.2.2.2
  have hm := hL.2.2.1
  have hB3 : BM (u2 I3 w 8 (nI (u' + 1))) (w + 104 + 31 * ((v + 1) % 8)) := (c2.bm (hBB.1.2.1.fr fun a _ _ => ea a (by omega))).fr fun a _ _ => u2_a (by omega)
  have hSn : Snap (u2 I3 w 8 (nI (u' + 1))) (w + 104 + 31 * ((v + 1) % 8)) (J (m + 1)) D := by
    obtain ⟨np, ns, nw, R, G⟩ := hA.2 rfl
    exact ⟨np, ns, nw, (c2.rm (R.fr fun a _ _ => ea a (by omega))).fr fun a _ _ => u2_a (by omega), G⟩
  refine ⟨hL, ⟨true, ⟨by rw [e1 7 (by decide) (by decide)]; exact hA.1.1, by rw [j3 6 (by decide)]; exact hA.1.2⟩, fun _ => by rw [j2 (m + 1) (by omega) (by omega)]; exact (hA.2 rfl).fr fun a _ _ => e0 a (by omega) (by omega)⟩,
    ⟨⟨hBB.1.1.fr fun a _ _ => e0 a (by omega) (by omega), hBB.1.2.1.fr fun a _ _ => e0 a (by omega) (by omega), hBB.1.2.2.fr fun a _ _ => e0 a (by omega) (by omega)⟩, fun i h => ?_, fun i h => (hBB.2.2 i h).fr fun a _ _ => e0 a (by omega) (by omega)⟩,
    ⟨u' + 1, (v + 1) % 8, ⟨by omega, hv'⟩, ⟨u2_s, j4, by rw [u2_k (by decide)]; exact e39⟩, fun j h => ?_⟩, fun i h => ?_, ⟨by rw [e0 _ (by omega) (by omega), j3 10 (by decide)]; exact hP.1, by rw [e0 _ (by omega) (by omega), j3 11 (by decide)]; exact hP.2⟩, ⟨f, ⟨hF.1.1, by rw [e0 _ (by omega) (by omega)]; exact hF.1.2.1, by rw [j3 9 (by decide)]; exact hF.1.2.2⟩, fun i h => by rw [e0 _ (by omega) (by omega), j2 _ (by omega) (by omega)]; exact hF.2 i h⟩, ?_⟩
  · by_cases e : i = (v + 1) % 8
    · rw [e]; exact hB3
    · exact (hBB.2.1 i h).fr fun a _ _ => e0 a (by omega) (by omega)
  · by_cases e : j = u'
    · subst e
      exact (hSn.congr (by omega)).eqN fun k hk => j5 k hk
    · rcases j6 with ⟨h1, h2, h3⟩ | ⟨h1, h2, h3⟩
      · have hj : j < u := by omega
        exact ((((hU j hj).fr fun a _ _ => e0 a (by omega) (by omega))).congr (by omega)).eqN fun k hk => h3 j k hj hk
      · have hj : j + 1 < u := by omega
        exact ((((hU (j + 1) hj).fr fun a _ _ => e0 a (by omega) (by omega))).congr (by omega)).eqN fun k hk => h3 j k (by omega) hk
  · rw [e0 (w + 101) (by omega) (by omega), j2 (m + 5) (by omega) (by omega), j2 (m + 4) (by omega) (by omega)]
    exact (hV i h).imp id fun h => ⟨h.1, h.2.1, h.2.2.fr fun a _ _ => e0 a (by omega) (by omega)⟩
  · obtain ⟨⟨n, n1, n2, n3, n4⟩, o2, o3⟩ := hO
    have ev : u2 I3 w 8 (nI (u' + 1)) (vOf K (w + 102)) = I (vOf K (w + 102)) := e0 _ (by omega) (by omega)
    exact ⟨⟨n, n1, by rw [e0 (w + 102) (by omega) (by omega), j3 20 (by decide)]; exact n2, n3, by rw [ev, j2 (m + 7) (by omega) (by omega)]; exact n4⟩, by rw [ev]; exact o2, o3⟩
end T2
