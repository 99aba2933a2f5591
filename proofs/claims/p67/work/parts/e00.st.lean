/-! THE RELATION OF WHOLE STATES: class at w, reference at m -/
/-- coins and cash are whole numbers, and together no more than eleven times 999 -/
def nT (x : Int32) : Nat := x.toInt.toNat
def cSum (N : Nat → Int32) (np : Nat) : Nat := match np with
  | 0 => 0
  | p + 1 => cSum N p + nT (pN N p 0)
def kSum (N : Nat → Int32) (ns : Nat) : Nat := match ns with
  | 0 => 0
  | s + 1 => kSum N s + nT (sN N s 1)
def CB (N : Nat → Int32) (np ns : Nat) : Prop := (∀ p, p < np → pN N p 0 = nI (nT (pN N p 0))) ∧ (∀ s, s < ns → sN N s 1 = nI (nT (sN N s 1))) ∧ (cSum N np + kSum N ns ≤ 999 * (np + ns) ∧ np + ns ≤ 11)
/-- the percentages, and what was paid for what is owned -/
def CX (N : Nat → Int32) (nw : Nat) : Prop := (∃ f, N 6 = nI f ∧ f ≤ 50) ∧ (∃ t, N 10 = nI t ∧ t ≤ 50) ∧ ∀ w, w < nw → wN N w 3 = 1 → ¬ wN N w 5 = -1 → ∃ c, wN N w 6 = nI c ∧ c ≤ 10989
theorem nT_n {a : Nat} (h : a < 2147483648) : nT (nI a) = a := by
  unfold nT
  rw [nI_toInt h]
  rfl
def Gd (N : Nat → Int32) (np ns nw D : Nat) : Prop := FX N np nw ∧ (∃ d, N 1 = nI d ∧ d ≤ D) ∧ CB N np ns ∧ CX N nw ∧ 1 ≤ np ∧ 1 ≤ ns
def Snap (I : Mem) (q : Nat) (N : Nat → Int32) (D : Nat) : Prop := ∃ np ns nw, RM I q N np ns nw ∧ Gd N np ns nw D
section SNs
variable {I I' : Mem} {q D D' np ns nw : Nat} {N N' : Nat → Int32}
theorem cSum_eq : ∀ n, (∀ p, p < n → pN N' p 0 = pN N p 0) → cSum N' n = cSum N n
  | 0, _ => rfl
  | n + 1, h => by
    show cSum N' n + nT (pN N' n 0) = cSum N n + nT (pN N n 0)
    rw [cSum_eq n (fun p hp => h p (by omega)), h n (by omega)]
theorem kSum_eq : ∀ n, (∀ p, p < n → sN N' p 1 = sN N p 1) → kSum N' n = kSum N n
  | 0, _ => rfl
  | n + 1, h => by
    show kSum N' n + nT (sN N' n 1) = kSum N n + nT (sN N n 1)
    rw [kSum_eq n (fun p hp => h p (by omega)), h n (by omega)]
theorem CB.congr (h : CB N np ns) (h1 : ∀ p, p < np → pN N' p 0 = pN N p 0) (h2 : ∀ s, s < ns → sN N' s 1 = sN N s 1) : CB N' np ns :=
  ⟨fun p hp => by rw [h1 p hp]; exact h.1 p hp, fun s hs => by rw [h2 s hs]; exact h.2.1 s hs, by rw [cSum_eq np h1, kSum_eq ns h2]; exact h.2.2⟩
theorem CX.congr (h : CX N nw) (h1 : N' 6 = N 6) (h2 : N' 10 = N 10) (h3 : ∀ w, w < nw → wN N' w 3 = wN N w 3 ∧ wN N' w 5 = wN N w 5 ∧ wN N' w 6 = wN N w 6) : CX N' nw :=
  ⟨by rw [h1]; exact h.1, by rw [h2]; exact h.2.1, fun w hw => by rw [(h3 w hw).1, (h3 w hw).2.1, (h3 w hw).2.2]; exact h.2.2 w hw⟩
theorem Gd.eqN (h : Gd N np ns nw D) (E : EqN N N') (b1 : np ≤ 6) (b2 : ns ≤ 5) (b3 : nw ≤ 16) : Gd N' np ns nw D := by
  obtain ⟨h1, ⟨d, h2, h3⟩, h4, h6, h5⟩ := h
  refine ⟨h1.ag (fun i hi _ => E i ?_) b1 b3, ⟨d, (E 1 (by decide)).trans h2, h3⟩, h4.congr (fun p hp => E _ (by omega)) (fun s hs => E _ (by omega)), h6.congr (E 6 (by decide)) (E 10 (by decide)) (fun w hw => ⟨E _ (by omega), E _ (by omega), E _ (by omega)⟩), h5⟩
  rcases hi with h | ⟨p, k, h6, h7, h8⟩ | ⟨w, k, h6, h7, h8, h9⟩ <;> omega
theorem Gd.le (h : Gd N np ns nw D) (hd : D ≤ D') : Gd N np ns nw D' := ⟨h.1, h.2.1.imp fun d x => ⟨x.1, Nat.le_trans x.2 hd⟩, h.2.2⟩
theorem Snap.eqN (h : Snap I q N D) (E : EqN N N') : Snap I q N' D := by
  obtain ⟨np, ns, nw, R, G⟩ := h
  exact ⟨np, ns, nw, R.eqN E, G.eqN E R.f.p.2 R.f.s.2 R.f.w.2⟩
theorem Snap.le (h : Snap I q N D) (hd : D ≤ D') : Snap I q N D' := by
  obtain ⟨np, ns, nw, R, G⟩ := h
  exact ⟨np, ns, nw, R, G.le hd⟩
theorem Snap.fr (R : Snap I q N D) (h : ∀ a, q ≤ a → a ≤ q + 30 → I' a = I a) : Snap I' q N D := by
  obtain ⟨np, ns, nw, R, G⟩ := R
  exact ⟨np, ns, nw, R.fr h, G⟩
end SNs
/-- where all lies -/
def SL (K : Kt) (w m : Nat) : Prop := (LW K w ∧ LSb K (w + 102) ∧ MK K m) ∧ (∃ k, k < 7 ∧ kG K (w + 1 + 1) 5 = some (xE k)) ∧ w + 414 ≤ m ∧ (vOf K (w + 102) = w + 103 ∨ m + 10 ≤ vOf K (w + 102))
def SA (I : Mem) (w m : Nat) (l : Bool) (D : Nat) : Prop := (I w 7 = bI (l = true) ∧ I m 6 = bI (l = true)) ∧ (l = true → Snap I (w + 37) (I (m + 1)) D)
def SB (I : Mem) (w : Nat) : Prop := (BM I (w + 1 + 3) ∧ BM I (w + 37) ∧ BM I (w + 68)) ∧ (∀ i, i < 8 → BM I (w + 104 + 31 * i)) ∧ ∀ i, i < 2 → BM I (w + 352 + 31 * i)
def SU (I : Mem) (w m D u v : Nat) : Prop := (u ≤ 8 ∧ v < 8) ∧ (I w 8 = nI u ∧ I m 7 = nI u ∧ I w 9 = nI v) ∧ ∀ j, j < u → Snap I (w + 104 + 31 * ((v + 8 - (u - 1 - j)) % 8)) (fun k => I (m + 3) (355 * j + k)) D
def SV (I : Mem) (w m D : Nat) : Prop := ∀ i, i < 2 → (I (w + 101) i = 0 ∧ I (m + 5) i = 0) ∨ (I (w + 101) i = 1 ∧ I (m + 5) i = 1 ∧ Snap I (w + 352 + 31 * i) (fun k => I (m + 4) (355 * i + k)) D)
def SP (I : Mem) (w m : Nat) : Prop := I (w + 1) 2 = I m 10 ∧ I (w + 1) 3 = I m 11
def SF (I : Mem) (w m f : Nat) : Prop := (f ≤ 500 ∧ I (w + 1 + 1) 1 = nI f ∧ I m 9 = nI f) ∧ ∀ i, i < f → I (w + 1 + 2) i = I (m + 6) i
def capT : List Nat := [16, 34, 70, 142]
def capS : List Nat := [0, 34, 104, 246]
def SO (I : Mem) (K : Kt) (w m kb gb : Nat) : Prop := (∃ n, n ≤ 100 ∧ (I (w + 102) 3 = nI n ∧ I m 20 = nI n ∧ I (w + 102) 1 = 0) ∧ n ≤ nOf K (w + 102) ∧ ∀ i, i < n → ∃ c, c < 128 ∧ I (vOf K (w + 102)) i = nI c ∧ I (m + 7) i = nI c) ∧ (∀ i, i < nOf K (w + 102) → fits .byte (.int (I (vOf K (w + 102)) i)) = true) ∧ ∃ e, e < 4 ∧ nOf K (w + 102) = capT.getD e 0 ∧ kN K = kb + e ∧ gz K = gb + capS.getD e 0
/-- the relation -/
def ST (I : Mem) (K : Kt) (w m kb gb D : Nat) : Prop := SL K w m ∧ (∃ l, SA I w m l D) ∧ SB I w ∧ (∃ u v, SU I w m D u v) ∧ SV I w m D ∧ SP I w m ∧ (∃ f, SF I w m f) ∧ SO I K w m kb gb
section STs
variable {I I' : Mem} {K : Kt} {w m kb gb D D' : Nat}
theorem SB.fr (h : SB I w) (h1 : ∀ a, w + 4 ≤ a → a < w + 414 → I' a = I a) : SB I' w :=
  ⟨⟨h.1.1.fr fun a _ _ => h1 a (by omega) (by omega), h.1.2.1.fr fun a _ _ => h1 a (by omega) (by omega), h.1.2.2.fr fun a _ _ => h1 a (by omega) (by omega)⟩, fun i hi => (h.2.1 i hi).fr fun a _ _ => h1 a (by omega) (by omega), fun i hi => (h.2.2 i hi).fr fun a _ _ => h1 a (by omega) (by omega)⟩
/-- what the reference notes down as thrown is no part of it -/
theorem ST.th (h : ST I K w m kb gb D) {t : Int32} : ST (u2 I m 0 t) K w m kb gb D := by
  obtain ⟨hL, ⟨l, hA⟩, hB, ⟨u, v, hU⟩, hV, hP, ⟨f, hF⟩, hO⟩ := h
  have hm := hL.2.2.1
  have hv := hL.2.2.2
  have ea : ∀ a, a ≠ m → u2 I m 0 t a = I a := fun a h => u2_a h
  have ek : ∀ k, k ≠ 0 → u2 I m 0 t m k = I m k := fun k h => u2_k h
  have e1 : u2 I m 0 t (m + 1) = I (m + 1) := ea _ (by omega)
  have e3 : u2 I m 0 t (m + 3) = I (m + 3) := ea _ (by omega)
  have e4 : u2 I m 0 t (m + 4) = I (m + 4) := ea _ (by omega)
  refine ⟨hL, ⟨l, ⟨by rw [ea w (by omega)]; exact hA.1.1, by rw [ek 6 (by decide)]; exact hA.1.2⟩, fun h => by rw [e1]; exact (hA.2 h).fr fun a _ _ => ea a (by omega)⟩, hB.fr fun a _ _ => ea a (by omega), ⟨u, v, hU.1, ⟨by rw [ea w (by omega)]; exact hU.2.1.1, by rw [ek 7 (by decide)]; exact hU.2.1.2.1, by rw [ea w (by omega)]; exact hU.2.1.2.2⟩, fun j hj => by rw [e3]; exact (hU.2.2 j hj).fr fun a _ _ => ea a (by omega)⟩, fun i hi => ?_, ?_, ⟨f, ⟨hF.1.1, by rw [ea _ (by omega)]; exact hF.1.2.1, by rw [ek 9 (by decide)]; exact hF.1.2.2⟩, fun i hi => by rw [ea _ (by omega), ea _ (by omega)]; exact hF.2 i hi⟩, ?_⟩
  · rw [ea _ (by omega), ea _ (by omega), e4]
    rcases hV i hi with h | ⟨h1, h2, h3⟩
    · exact Or.inl h
    · exact Or.inr ⟨h1, h2, h3.fr fun a _ _ => ea a (by omega)⟩
  · unfold SP
    rw [ea _ (by omega), ek 10 (by decide), ek 11 (by decide)]
    exact hP
  · obtain ⟨⟨n, n1, n2, n3, n4⟩, o2, o3⟩ := hO
    have evv : u2 I m 0 t (vOf K (w + 102)) = I (vOf K (w + 102)) := ea _ (by omega)
    refine ⟨⟨n, n1, ?_, n3, ?_⟩, ?_, o3⟩
    · rw [ea _ (by omega), ek 20 (by decide)]; exact n2
    · rw [evv, ea _ (by omega)]; exact n4
    · rw [evv]; exact o2
theorem ST.le (h : ST I K w m kb gb D) (hd : D ≤ D') : ST I K w m kb gb D' := by
  obtain ⟨hL, ⟨l, hA⟩, hB, ⟨u, v, hU⟩, hV, hP, hF, hO⟩ := h
  exact ⟨hL, ⟨l, hA.1, fun h => (hA.2 h).le hd⟩, hB, ⟨u, v, hU.1, hU.2.1, fun j hj => (hU.2.2 j hj).le hd⟩, fun i hi => (hV i hi).imp id fun h => ⟨h.1, h.2.1, h.2.2.le hd⟩, hP, hF, hO⟩
end STs

