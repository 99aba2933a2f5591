/-- THE PURE PROGRAM: what a method answers, if nothing goes wrong -/
def ix (i : Int32) (n : Nat) : Option Nat := if 0 ≤ i.toInt ∧ i.toInt < (n : Int) ∧ n < 2147483648 then some i.toInt.toNat else none
theorem ix_s {i : Int32} {n j : Nat} (h : ix i n = some j) : i = nI j ∧ j < n ∧ n < 2147483648 := by
  unfold ix at h
  split at h
  · next hc =>
    cases h
    have h9 : i.toInt = (i.toInt.toNat : Int) := (Int.toNat_of_nonneg hc.1).symm
    refine ⟨?_, by omega, hc.2.2⟩
    apply Int32.toInt_inj.mp
    rw [nI_toInt (by omega : i.toInt.toNat < 2 ^ 31)]
    exact h9
  · cases h
theorem ix_n {n j : Nat} (h : j < n) (hn : n < 2147483648) : ix (nI j) n = some j := by
  have e : (nI j).toInt = (j : Int) := nI_toInt (by omega)
  unfold ix
  rw [e, if_pos ⟨by omega, by omega, hn⟩, Int.toNat_natCast]
def pu (I : Mem) (a k : Nat) (x : Int32) : Option Mem := some (u2 I a k x)
def cB (x : Int32) : Option Unit := if x = 0 ∨ x = 1 then some () else none
theorem cB_s {x : Int32} {u : Unit} (h : cB x = some u) : x = 0 ∨ x = 1 := by
  unfold cB at h
  split at h
  · assumption
  · cases h
def nz (y : Int32) : Option Unit := if y = 0 then none else some ()
theorem nz_s {x : Int32} {u : Unit} (h : nz x = some u) : ¬ x = 0 := by
  unfold nz at h
  split at h
  · cases h
  · assumption
def ckA (r b n : Nat) : Option Nat := if b ≤ r ∧ r < b + n then some (r - b) else none
theorem ckA_s {r b n j : Nat} (h : ckA r b n = some j) : j < n ∧ r = b + j := by
  unfold ckA at h
  split at h
  · cases h; omega
  · cases h
theorem ckA_n {b n j : Nat} (h : j < n) : ckA (b + j) b n = some j := by
  unfold ckA
  rw [if_pos (by omega), show b + j - b = j by omega]
def ckE (r e : Nat) : Option Unit := if r = e then some () else none
theorem ckE_s {r e : Nat} {u : Unit} (h : ckE r e = some u) : r = e := by
  unfold ckE at h
  split at h
  · assumption
  · cases h
def ckK (k : Nat) : Option Unit := if k < 7 then some () else none
theorem ckK_s {k : Nat} {u : Unit} (h : ckK k = some u) : k < 7 := by
  unfold ckK at h
  split at h
  · assumption
  · cases h
section B
variable {α β γ δ : Type}
def b1 (o : Option α) (f : α → Option δ) : Option δ := match o with
  | none => none
  | some a => f a
def b2 (o : Option (α × β)) (f : α → β → Option δ) : Option δ := match o with
  | none => none
  | some (a, b) => f a b
def b3 (o : Option (α × β × γ)) (f : α → β → γ → Option δ) : Option δ := match o with
  | none => none
  | some (a, b, c) => f a b c
def e1 (o : Option (Except String α)) (g : String → Option δ) (f : α → Option δ) : Option δ := match o with
  | none => none
  | some (.error E) => g E
  | some (.ok a) => f a
def e2 (o : Option (Except String α × β)) (g : String → β → Option δ) (f : α → β → Option δ) : Option δ := match o with
  | none => none
  | some (.error E, b) => g E b
  | some (.ok a, b) => f a b
def e3 (o : Option (Except String α × β × γ)) (g : String → β → γ → Option δ) (f : α → β → γ → Option δ) : Option δ := match o with
  | none => none
  | some (.error E, b, c) => g E b c
  | some (.ok a, b, c) => f a b c
theorem b1_s {o : Option α} {f : α → Option δ} {r : δ} (h : b1 o f = some r) : ∃ a, o = some a ∧ f a = some r := by
  rcases o with _ | a
  · cases h
  · exact ⟨a, rfl, h⟩
theorem b2_s {o : Option (α × β)} {f : α → β → Option δ} {r : δ} (h : b2 o f = some r) : ∃ a b, o = some (a, b) ∧ f a b = some r := by
  rcases o with _ | ⟨a, b⟩
  · cases h
  · exact ⟨a, b, rfl, h⟩
theorem b3_s {o : Option (α × β × γ)} {f : α → β → γ → Option δ} {r : δ} (h : b3 o f = some r) : ∃ a b c, o = some (a, b, c) ∧ f a b c = some r := by
  rcases o with _ | ⟨a, b, c⟩
  · cases h
  · exact ⟨a, b, c, rfl, h⟩
theorem e1_s {o : Option (Except String α)} {g : String → Option δ} {f : α → Option δ} {r : δ} (h : e1 o g f = some r) : (∃ a, o = some (.ok a) ∧ f a = some r) ∨ ∃ E, o = some (.error E) ∧ g E = some r := by
  rcases o with _ | (E | a)
  · cases h
  · exact Or.inr ⟨E, rfl, h⟩
  · exact Or.inl ⟨a, rfl, h⟩
theorem e2_s {o : Option (Except String α × β)} {g : String → β → Option δ} {f : α → β → Option δ} {r : δ} (h : e2 o g f = some r) : (∃ a b, o = some (.ok a, b) ∧ f a b = some r) ∨ ∃ E b, o = some (.error E, b) ∧ g E b = some r := by
  rcases o with _ | ⟨E | a, b⟩
  · cases h
  · exact Or.inr ⟨E, b, rfl, h⟩
  · exact Or.inl ⟨a, b, rfl, h⟩
theorem e3_s {o : Option (Except String α × β × γ)} {g : String → β → γ → Option δ} {f : α → β → γ → Option δ} {r : δ} (h : e3 o g f = some r) : (∃ a b c, o = some (.ok a, b, c) ∧ f a b c = some r) ∨ ∃ E b c, o = some (.error E, b, c) ∧ g E b c = some r := by
  rcases o with _ | ⟨E | a, b, c⟩
  · cases h
  · exact Or.inr ⟨E, b, c, rfl, h⟩
  · exact Or.inl ⟨a, b, c, rfl, h⟩
theorem ifT {c : Prop} [Decidable c] {A B : Option δ} {r : δ} (hc : c) (h : (if c then A else B) = some r) : A = some r := (if_pos hc).symm.trans h
theorem ifF {c : Prop} [Decidable c] {A B : Option δ} {r : δ} (hc : ¬ c) (h : (if c then A else B) = some r) : B = some r := (if_neg hc).symm.trans h
end B
def rV : Except String Unit → Rs
  | .ok _ => .inl none
  | .error E => .inr E
def rI : Except String Int32 → Rs
  | .ok v => .inl (some (.int v))
  | .error E => .inr E
def rR : Except String Nat → Rs
  | .ok v => .inl (some (.ref v))
  | .error E => .inr E
def rF : Except String UInt32 → Rs
  | .ok v => .inl (some (.float v))
  | .error E => .inr E
def rD : Except String UInt64 → Rs
  | .ok v => .inl (some (.double v))
  | .error E => .inr E
def cst {α : Type} : Except String α → Nat
  | .ok _ => 0
  | .error _ => 1
def cs6 {α : Type} : Except String α → Nat
  | .ok _ => 0
  | .error _ => 6
/-! the layouts -/
def LO (K : Kt) (ci a : Nat) : Prop := (kS K a).1 = ci ∧ a < kN K
def LA (K : Kt) (ci n a : Nat) : Prop := kS K a = (ci, n) ∧ a < kN K
section MKl
variable {K : Kt} {m : Nat}
theorem MK.o (h : MK K m) : LO K 8 m := ⟨h.s, h.a⟩
theorem MK.l1 (h : MK K m) : LA K 100 355 (m + 1) := ⟨h.s1, h.a1⟩
theorem MK.l2 (h : MK K m) : LA K 100 355 (m + 2) := ⟨h.s2, h.a2⟩
theorem MK.l3 (h : MK K m) : LA K 100 2840 (m + 3) := ⟨h.s3, h.a3⟩
theorem MK.l4 (h : MK K m) : LA K 100 710 (m + 4) := ⟨h.s4, h.a4⟩
theorem MK.l5 (h : MK K m) : LA K 102 2 (m + 5) := ⟨h.s5, h.a5⟩
theorem MK.l6 (h : MK K m) : LA K 101 500 (m + 6) := ⟨h.s6, h.a6⟩
theorem MK.l7 (h : MK K m) : LA K 101 200 (m + 7) := ⟨h.s7, h.a7⟩
end MKl
/-- a market: itself, its three arrays, six persons, five stalls, sixteen wishes -/
def LM (K : Kt) (q : Nat) : Prop := (LO K 1 q ∧ kG K q 0 = some (q + 1) ∧ kG K q 1 = some (q + 2) ∧ kG K q 2 = some (q + 3)) ∧ (LA K 106 6 (q + 1) ∧ LA K 107 5 (q + 2) ∧ LA K 108 16 (q + 3)) ∧
  (∀ i, i < 6 → kG K (q + 1) i = some (q + 4 + i) ∧ LO K 2 (q + 4 + i)) ∧ (∀ i, i < 5 → kG K (q + 2) i = some (q + 10 + i) ∧ LO K 4 (q + 10 + i)) ∧ ∀ i, i < 16 → kG K (q + 3) i = some (q + 15 + i) ∧ LO K 6 (q + 15 + i)
section LMs
variable {K : Kt} {q : Nat}
theorem LM.o (h : LM K q) : LO K 1 q := h.1.1
theorem LM.g0 (h : LM K q) : kG K q 0 = some (q + 1) := h.1.2.1
theorem LM.g1 (h : LM K q) : kG K q 1 = some (q + 2) := h.1.2.2.1
theorem LM.g2 (h : LM K q) : kG K q 2 = some (q + 3) := h.1.2.2.2
theorem LM.l0 (h : LM K q) : LA K 106 6 (q + 1) := h.2.1.1
theorem LM.l1 (h : LM K q) : LA K 107 5 (q + 2) := h.2.1.2.1
theorem LM.l2 (h : LM K q) : LA K 108 16 (q + 3) := h.2.1.2.2
theorem LM.p (h : LM K q) {i : Nat} (hi : i < 6) : kG K (q + 1) i = some (q + 4 + i) := (h.2.2.1 i hi).1
theorem LM.s (h : LM K q) {i : Nat} (hi : i < 5) : kG K (q + 2) i = some (q + 10 + i) := (h.2.2.2.1 i hi).1
theorem LM.w (h : LM K q) {i : Nat} (hi : i < 16) : kG K (q + 3) i = some (q + 15 + i) := (h.2.2.2.2 i hi).1
theorem LM.po (h : LM K q) {i : Nat} (hi : i < 6) : LO K 2 (q + 4 + i) := (h.2.2.1 i hi).2
theorem LM.so (h : LM K q) {i : Nat} (hi : i < 5) : LO K 4 (q + 10 + i) := (h.2.2.2.1 i hi).2
theorem LM.wo (h : LM K q) {i : Nat} (hi : i < 16) : LO K 6 (q + 15 + i) := (h.2.2.2.2 i hi).2
end LMs
/-- the kind of the current token -/
def kk (K : Kt) (t k : Nat) : Kt := kSetG K (u2 (kG K) t 5 (some (xE k)))
theorem kk_kk {K : Kt} {t a b : Nat} : kk (kk K t a) t b = kk K t b := by
  show ((kk K t a).1, (kk K t a).2.1, u2 (u2 (kG K) t 5 (some (xE a))) t 5 (some (xE b)), (kk K t a).2.2.2) = _
  rw [show u2 (u2 (kG K) t 5 (some (xE a))) t 5 (some (xE b)) = u2 (kG K) t 5 (some (xE b)) from by
    funext c j
    by_cases h1 : c = t <;> by_cases h2 : j = 5 <;> simp [u2, h1, h2]]
  rfl
theorem kk_k {K : Kt} {t k : Nat} : kG (kk K t k) t 5 = some (xE k) := u2_s
theorem kk_a {K : Kt} {t k a j : Nat} (h : a ≠ t) : kG (kk K t k) a j = kG K a j := congrFun (u2_a h) j
theorem kk_j {K : Kt} {t k a j : Nat} (h : j ≠ 5) : kG (kk K t k) a j = kG K a j := u2_k h
theorem LM.kk {K : Kt} {q t k : Nat} (h : LM K q) (ht : t < q ∨ q + 30 < t) : LM (kk K t k) q :=
  ⟨⟨h.o, (kk_a (by omega)).trans h.g0, (kk_a (by omega)).trans h.g1, (kk_a (by omega)).trans h.g2⟩, ⟨h.l0, h.l1, h.l2⟩, fun i hi => ⟨(kk_a (by omega)).trans (h.p hi), h.po hi⟩, fun i hi => ⟨(kk_a (by omega)).trans (h.s hi), h.so hi⟩, fun i hi => ⟨(kk_a (by omega)).trans (h.w hi), h.wo hi⟩⟩
def LT (K : Kt) (t : Nat) : Prop := LO K 5 t ∧ kG K t 0 = some (t + 1) ∧ LA K 101 500 (t + 1)
theorem LT.o {K : Kt} {t : Nat} (h : LT K t) : LO K 5 t := h.1
theorem LT.g0 {K : Kt} {t : Nat} (h : LT K t) : kG K t 0 = some (t + 1) := h.2.1
theorem LT.l0 {K : Kt} {t : Nat} (h : LT K t) : LA K 101 500 (t + 1) := h.2.2
theorem LT.kk {K : Kt} {t k : Nat} (h : LT K t) : LT (kk K t k) t := ⟨h.o, (kk_j (by decide)).trans h.g0, h.l0⟩
def LR (K : Kt) (r : Nat) : Prop := (LO K 3 r ∧ kG K r 0 = some (r + 1) ∧ kG K r 1 = some (r + 3) ∧ kG K r 4 = some (r + 34) ∧ kG K r 5 = some (r + 35)) ∧ (LT K (r + 1) ∧ LM K (r + 3)) ∧ LA K 100 3 (r + 34) ∧ LA K 100 3 (r + 35)
section LRs
variable {K : Kt} {r : Nat}
theorem LR.o (h : LR K r) : LO K 3 r := h.1.1
theorem LR.g0 (h : LR K r) : kG K r 0 = some (r + 1) := h.1.2.1
theorem LR.g1 (h : LR K r) : kG K r 1 = some (r + 3) := h.1.2.2.1
theorem LR.g4 (h : LR K r) : kG K r 4 = some (r + 34) := h.1.2.2.2.1
theorem LR.g5 (h : LR K r) : kG K r 5 = some (r + 35) := h.1.2.2.2.2
theorem LR.t (h : LR K r) : LT K (r + 1) := h.2.1.1
theorem LR.q (h : LR K r) : LM K (r + 3) := h.2.1.2
theorem LR.l4 (h : LR K r) : LA K 100 3 (r + 34) := h.2.2.1
theorem LR.l5 (h : LR K r) : LA K 100 3 (r + 35) := h.2.2.2
theorem LR.kk (h : LR K r) {k : Nat} : LR (kk K (r + 1) k) r := ⟨⟨h.o, (kk_a (by omega)).trans h.g0, (kk_a (by omega)).trans h.g1, (kk_a (by omega)).trans h.g4, (kk_a (by omega)).trans h.g5⟩, ⟨h.t.kk, h.q.kk (by omega)⟩, h.l4, h.l5⟩
end LRs
def LW (K : Kt) (w : Nat) : Prop := ((LO K 7 w ∧ kG K w 0 = some (w + 1)) ∧ (kG K w 1 = some (w + 37) ∧ kG K w 2 = some (w + 68) ∧ kG K w 3 = some (w + 99)) ∧ kG K w 4 = some (w + 100) ∧ kG K w 5 = some (w + 101) ∧ kG K w 6 = some (w + 102)) ∧
  ((LR K (w + 1) ∧ LM K (w + 37)) ∧ LM K (w + 68) ∧ LA K 105 8 (w + 99) ∧ LA K 105 2 (w + 100) ∧ LA K 102 2 (w + 101)) ∧
  (∀ i, i < 8 → kG K (w + 99) i = some (w + 104 + 31 * i) ∧ LM K (w + 104 + 31 * i)) ∧ (∀ i, i < 2 → kG K (w + 100) i = some (w + 352 + 31 * i) ∧ LM K (w + 352 + 31 * i))
section LWs
variable {K : Kt} {w : Nat}
theorem LW.o (h : LW K w) : LO K 7 w := h.1.1.1
theorem LW.g0 (h : LW K w) : kG K w 0 = some (w + 1) := h.1.1.2
theorem LW.g1 (h : LW K w) : kG K w 1 = some (w + 37) := h.1.2.1.1
theorem LW.g2 (h : LW K w) : kG K w 2 = some (w + 68) := h.1.2.1.2.1
theorem LW.g3 (h : LW K w) : kG K w 3 = some (w + 99) := h.1.2.1.2.2
theorem LW.g4 (h : LW K w) : kG K w 4 = some (w + 100) := h.1.2.2.1
theorem LW.g5 (h : LW K w) : kG K w 5 = some (w + 101) := h.1.2.2.2.1
theorem LW.g6 (h : LW K w) : kG K w 6 = some (w + 102) := h.1.2.2.2.2
theorem LW.r (h : LW K w) : LR K (w + 1) := h.2.1.1.1
theorem LW.q (h : LW K w) : LM K (w + 37) := h.2.1.1.2
theorem LW.f (h : LW K w) : LM K (w + 68) := h.2.1.2.1
theorem LW.l3 (h : LW K w) : LA K 105 8 (w + 99) := h.2.1.2.2.1
theorem LW.l4 (h : LW K w) : LA K 105 2 (w + 100) := h.2.1.2.2.2.1
theorem LW.l5 (h : LW K w) : LA K 102 2 (w + 101) := h.2.1.2.2.2.2
theorem LW.h (h : LW K w) {i : Nat} (hi : i < 8) : kG K (w + 99) i = some (w + 104 + 31 * i) := (h.2.2.1 i hi).1
theorem LW.hq (h : LW K w) {i : Nat} (hi : i < 8) : LM K (w + 104 + 31 * i) := (h.2.2.1 i hi).2
theorem LW.v (h : LW K w) {i : Nat} (hi : i < 2) : kG K (w + 100) i = some (w + 352 + 31 * i) := (h.2.2.2 i hi).1
theorem LW.vq (h : LW K w) {i : Nat} (hi : i < 2) : LM K (w + 352 + 31 * i) := (h.2.2.2 i hi).2
end LWs
