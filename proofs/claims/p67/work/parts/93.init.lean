/-! the start: what the constructors make -/
def Fx (K K' : Kt) (n g : Nat) : Prop := (kN K' = kN K + n ∧ gz K' = gz K + g) ∧ (∀ a, a < kN K → kS K' a = kS K a) ∧ ∀ a, a < kN K → kG K' a = kG K a
def Fq (K K' : Kt) (q n g : Nat) : Prop := (kN K' = kN K + n ∧ gz K' = gz K + g) ∧ (∀ a, a < kN K → kS K' a = kS K a) ∧ ∀ a, a < kN K → a ≠ q → kG K' a = kG K a
def Sx (K K' : Kt) (α j v n g : Nat) : Prop := (kN K' = kN K + n ∧ gz K' = gz K + g) ∧ (∀ a, a < kN K → kS K' a = kS K a) ∧ (∀ a k, a < kN K → (a ≠ α ∨ k ≠ j) → kG K' a k = kG K a k) ∧ kG K' α j = some v
def kPut (K : Kt) (α j v : Nat) : Kt := kSetG K (u2 (kG K) α j (some v))
section FXS
variable {K K1 K2 K' : Kt} {α j v n g q n' g' : Nat}
theorem Sx.put : Sx K (kPut K α j v) α j v 0 0 := ⟨⟨rfl, rfl⟩, fun _ _ => rfl, fun a k _ h => by
    show u2 (kG K) α j (some v) a k = kG K a k
    by_cases e : a = α
    · subst e; exact u2_k (h.resolve_left (fun z => z rfl))
    · rw [u2_a e], u2_s⟩
theorem Fx.new {sh : Nat × Nat} : Fx K (kNew K sh) 1 sh.2 := ⟨⟨rfl, gz_new⟩, fun a h => u1_n (Nat.ne_of_lt h), fun a h => u1_n (Nat.ne_of_lt h)⟩
theorem Fx.refl : Fx K K 0 0 := ⟨⟨rfl, rfl⟩, fun _ _ => rfl, fun _ _ => rfl⟩
theorem Fx.put (h : Fx K K1 n g) (s : Sx K1 K2 α j v n' g') : Sx K K2 α j v (n + n') (g + g') :=
  ⟨⟨by rw [s.1.1, h.1.1, Nat.add_assoc], by rw [s.1.2, h.1.2, Nat.add_assoc]⟩, fun a ha => (s.2.1 a (by have := h.1.1; omega)).trans (h.2.1 a ha), fun a k ha hk => (s.2.2.1 a k (by have := h.1.1; omega) hk).trans (congrFun (h.2.2 a ha) k), s.2.2.2⟩
theorem Fq.of (h : Fx K K1 n g) (f : Fq K1 K2 (kN K) n' g') : Fx K K2 (n + n') (g + g') :=
  ⟨⟨by rw [f.1.1, h.1.1, Nat.add_assoc], by rw [f.1.2, h.1.2, Nat.add_assoc]⟩, fun a ha => (f.2.1 a (by have := h.1.1; omega)).trans (h.2.1 a ha), fun a ha => (f.2.2 a (by have := h.1.1; omega) (Nat.ne_of_lt ha)).trans (h.2.2 a ha)⟩
theorem Fq.refl : Fq K K q 0 0 := ⟨⟨rfl, rfl⟩, fun _ _ => rfl, fun _ _ _ => rfl⟩
theorem Fq.sx (f : Fq K K1 q n g) (s : Sx K1 K2 α j v n' g') (h : α = q ∨ kN K ≤ α) : Fq K K2 q (n + n') (g + g') :=
  ⟨⟨by rw [s.1.1, f.1.1, Nat.add_assoc], by rw [s.1.2, f.1.2, Nat.add_assoc]⟩, fun a ha => (s.2.1 a (by have := f.1.1; omega)).trans (f.2.1 a ha), fun a ha hq => (funext fun k => s.2.2.1 a k (by have := f.1.1; omega) (Or.inl (by omega))).trans (f.2.2 a ha hq)⟩
theorem LO.sx {ci a : Nat} (h : LO K ci a) (s : Sx K K' α j v n g) : LO K' ci a := ⟨by rw [s.2.1 a h.2]; exact h.1, by have := s.1.1; have := h.2; omega⟩
theorem LA.sx {ci m a : Nat} (h : LA K ci m a) (s : Sx K K' α j v n g) : LA K' ci m a := ⟨by rw [s.2.1 a h.2]; exact h.1, by have := s.1.1; have := h.2; omega⟩
theorem LO.fx {ci a : Nat} (h : LO K ci a) (s : Fx K K' n g) : LO K' ci a := ⟨by rw [s.2.1 a h.2]; exact h.1, by have := s.1.1; have := h.2; omega⟩
theorem LA.fx {ci m a : Nat} (h : LA K ci m a) (s : Fx K K' n g) : LA K' ci m a := ⟨by rw [s.2.1 a h.2]; exact h.1, by have := s.1.1; have := h.2; omega⟩
theorem Sx.gg {a k r : Nat} (s : Sx K K' α j v n g) (h : kG K a k = some r) (ha : a < kN K) (hk : a ≠ α ∨ k ≠ j) : kG K' a k = some r := (s.2.2.1 a k ha hk).trans h
/-- a market with a persons, b stalls, c wishes made -/
def LMp (K : Kt) (q a b c : Nat) : Prop := (LO K 1 q ∧ kG K q 0 = some (q + 1) ∧ kG K q 1 = some (q + 2) ∧ kG K q 2 = some (q + 3)) ∧ (LA K 106 6 (q + 1) ∧ LA K 107 5 (q + 2) ∧ LA K 108 16 (q + 3)) ∧
  (∀ i, i < a → kG K (q + 1) i = some (q + 4 + i) ∧ LO K 2 (q + 4 + i)) ∧ (∀ i, i < b → kG K (q + 2) i = some (q + 10 + i) ∧ LO K 4 (q + 10 + i)) ∧ ∀ i, i < c → kG K (q + 3) i = some (q + 15 + i) ∧ LO K 6 (q + 15 + i)
theorem LMp.sx {a b c : Nat} (h : LMp K q a b c) (s : Sx K K' α j v n g) (h0 : α ≠ q) (h1 : α = q + 1 → a ≤ j) (h2 : α = q + 2 → b ≤ j) (h3 : α = q + 3 → c ≤ j) : LMp K' q a b c :=
  ⟨⟨h.1.1.sx s, s.gg h.1.2.1 h.1.1.2 (Or.inl (Ne.symm h0)), s.gg h.1.2.2.1 h.1.1.2 (Or.inl (Ne.symm h0)), s.gg h.1.2.2.2 h.1.1.2 (Or.inl (Ne.symm h0))⟩, ⟨h.2.1.1.sx s, h.2.1.2.1.sx s, h.2.1.2.2.sx s⟩,
    fun i hi => ⟨s.gg (h.2.2.1 i hi).1 h.2.1.1.2 (by omega), (h.2.2.1 i hi).2.sx s⟩, fun i hi => ⟨s.gg (h.2.2.2.1 i hi).1 h.2.1.2.1.2 (by omega), (h.2.2.2.1 i hi).2.sx s⟩, fun i hi => ⟨s.gg (h.2.2.2.2 i hi).1 h.2.1.2.2.2 (by omega), (h.2.2.2.2 i hi).2.sx s⟩⟩
theorem LM.sx (h : LM K q) (s : Sx K K' α j v n g) (h0 : α < q ∨ q + 30 < α) : LM K' q := LMp.sx h s (by omega) (by omega) (by omega) (by omega)
theorem LT.sx {t : Nat} (h : LT K t) (s : Sx K K' α j v n g) (h0 : α ≠ t) : LT K' t := ⟨h.1.sx s, s.gg h.2.1 h.1.2 (Or.inl (Ne.symm h0)), h.2.2.sx s⟩
theorem LR.sx {r : Nat} (h : LR K r) (s : Sx K K' α j v n g) (h0 : α < r ∨ r + 35 < α) : LR K' r :=
  ⟨⟨h.o.sx s, s.gg h.g0 h.o.2 (Or.inl (by omega)), s.gg h.g1 h.o.2 (Or.inl (by omega)), s.gg h.g4 h.o.2 (Or.inl (by omega)), s.gg h.g5 h.o.2 (Or.inl (by omega))⟩, ⟨h.t.sx s (by omega), h.q.sx s (by omega)⟩, h.l4.sx s, h.l5.sx s⟩
end FXS
def Zr (I : Mem) (K : Kt) : Prop := ∀ a, kN K ≤ a → I a = fun _ => 0
theorem Zr.new {I : Mem} {K : Kt} (h : Zr I K) : u1 I (kN K) (fun _ => 0) = I := by
  funext a
  by_cases e : a = kN K
  · subst e; rw [u1_s]; exact (h _ (Nat.le_refl _)).symm
  · exact u1_n e
theorem Zr.le {I : Mem} {K K' : Kt} (h : Zr I K) (g : kN K ≤ kN K') : Zr I K' := fun a ha => h a (Nat.le_trans g ha)
section NR
variable {Γ : (Nat → Nat) → (Nat → Prop) → State → Array Value → Prop} {M : MD} {cc : ByteArray} {bc bs : Nat} {I : Mem} {K : Kt} {pc : Nat} {L st : List Value} {Q : Rs → Mem → Kt → Prop}
theorem n_new {ix ci N : Nat} (S : Ns M.1.cls ix ci N) (hz : Zr I K) (hlim : kN K < 900000) (hd : decode cc pc = .ok (.new ix, 3)) (kk : ∀ K1, Fx K K1 1 N → LO K1 ci (kN K) → X M cc bc bs I K1 (pc + 3) L (.ref (kN K) :: st) Q Γ) : X M cc (1 + bc) (N + bs) I K pc L st Q Γ :=
  x_new S (Nat.lt_trans hlim (by decide)) hd (by rw [hz.new]; exact kk _ Fx.new ⟨congrArg Prod.fst (u1_s (f := K.2.1) (a := K.1) (x := (ci, N))), Nat.lt_succ_self _⟩)
theorem n_arr {sh : Nat × Nat} (hz : Zr I K) (kk : ∀ K1, Fx K K1 1 sh.2 → LA K1 sh.1 sh.2 (kN K) → X M cc bc bs I K1 pc L st Q Γ) : X M cc bc bs (u1 I (kN K) (fun _ => 0)) (kNew K sh) pc L st Q Γ := by
  rw [hz.new]
  exact kk _ Fx.new ⟨u1_s, Nat.lt_succ_self _⟩
theorem n_put {ix ci k a r : Nat} {ty : FieldType} {fin : Bool} (F : Fs M.1.cls ix ci k true fin ty) (H : LO K ci a) (hf : fin = true → M.1.name = "<init>") (hnf : ∀ q, narrow ty (.ref q) = .ref q ∧ fits ty (.ref q) = true) (hd : decode cc pc = .ok (.putfield ix, 3)) (kk : ∀ K1, Sx K K1 a k r 0 0 → X M cc bc bs I K1 (pc + 3) L st Q Γ) : X M cc bc bs I K pc L (.ref r :: .ref a :: st) Q Γ :=
  x_putR F hf H.1 H.2 hnf hd (kk _ Sx.put)
theorem n_aast {a n j v ci co : Nat} {i : Int32} (H : LA K ci n a) (V : LO K co v) (hco : ((ci = 105 ∧ co = 1) ∨ (ci = 106 ∧ co = 2)) ∨ ((ci = 107 ∧ co = 4) ∨ (ci = 108 ∧ co = 6))) (hi : i = nI j) (hj : j < n ∧ n < 2147483648) (hd : decode cc pc = .ok (.aastore, 1)) (kk : ∀ K1, Sx K K1 a j v 0 0 → X M cc bc bs I K1 (pc + 1) L st Q Γ) : X M cc bc bs I K pc L (.ref v :: .int i :: .ref a :: st) Q Γ :=
  x_aast H.1 hco H.2 V.1 V.2 hi hj hd (kk _ Sx.put)
/-- a constructor's call -/
def Qi (I' : Mem) (P : Kt → Prop) : Rs → Mem → Kt → Prop := fun r I2 K' => r = .inl none ∧ I2 = I' ∧ P K'
theorem n_call {ix n : Nat} {M' : MD} {cc' : ByteArray} {As rest : List Value} {b bc' bs' : Nat} {I' : Mem} {P : Kt → Prop} (S : CsI M.1.cls ix M' cc' n ∨ ∃ host, CsN M.1.cls host ix M' cc' n) (hn : As.length = n) (hst : st = As.reverse ++ .ref b :: rest) (hW : (rest.map fun v => v.category).sum ≤ 8) (hdep : M'.2.2.2.2 + 1 ≤ M.2.2.2.2 ∧ 8 + (M'.2.1 + 11) + 40 * M'.2.2.2.2 ≤ 40 * M.2.2.2.2) (hd : decode cc pc = .ok (.invokespecial ix, 3))
    (hcon : Ct M' cc' bc' bs' (.ref b :: As) I K (Qi I' P)) (kk : ∀ K', P K' → X M cc bc bs I' K' (pc + 3) L rest Q Γ) : X M cc (bc' + bc) (bs' + bs) I K pc L st Q Γ :=
  x_callI0 S hn hst hW hdep hd hcon (fun r I2 K2 _ h => by obtain ⟨e, rfl, p⟩ := h; cases e; exact kk _ p) (fun E I2 K2 _ h => by cases h.1)
end NR
abbrev mJ5_init_d00df (d : Nat) : MD := (yJ5_init_d00df, 2, none, [], d)
theorem cs_L_271 (d : Nat) : CsI RL 271 (mX9_init d) cX9_init 0 := ⟨(show Cond.code yX9_init cX9_init 2 none ∈ wsG from inT1 44 rfl rfl), (show Cond.methodLink RL 271 yX9_init ∈ wsG from inT1 42 rfl rfl), (show Cond.instanceMethod yX9_init ∈ wsG from inT1 43 rfl rfl), (show Cond.initialized RX9 ∈ wsG from inT1 1 rfl rfl), (show noMH yX9_init 0 from ⟨by decide +kernel, by decide +kernel, by decide +kernel⟩), rfl, rfl, rfl⟩
theorem cs_J4_1 (d : Nat) : CsI RJ4 1 (mJ5_init_d00df d) cJ5_init_d00df 1 := ⟨(show Cond.code yJ5_init_d00df cJ5_init_d00df 2 none ∈ wsG from inT2 104 rfl rfl), (show Cond.methodLink RJ4 1 yJ5_init_d00df ∈ wsG from inT2 102 rfl rfl), (show Cond.instanceMethod yJ5_init_d00df ∈ wsG from inT2 103 rfl rfl), (show Cond.initialized RJ5 ∈ wsG from inT1 10 rfl rfl), (show noMH yJ5_init_d00df 1 from ⟨by decide +kernel, by decide +kernel, by decide +kernel⟩), rfl, rfl, rfl⟩
theorem cn_X3_29 (d : Nat) : ∃ host, CsN RX3 host 29 (mX4_init d) cX4_init 0 := ⟨"WishMarket", (show Cond.code yX4_init cX4_init 1 none ∈ wsG from inT1 101 rfl rfl), (show Cond.methodLinkNest RX3 29 yX4_init "WishMarket" ∈ wsN from List.mem_filter.mpr ⟨inTb1 99 rfl, rfl⟩), (show Cond.instanceMethod yX4_init ∈ wsG from inT1 100 rfl rfl), (show Cond.initialized RX4 ∈ wsG from inT1 7 rfl rfl), (show noMH yX4_init 0 from ⟨by decide +kernel, by decide +kernel, by decide +kernel⟩), rfl, rfl, rfl⟩
theorem cn_X3_30 (d : Nat) : ∃ host, CsN RX3 host 30 (mX6_init d) cX6_init 0 := ⟨"WishMarket", (show Cond.code yX6_init cX6_init 1 none ∈ wsG from inT1 152 rfl rfl), (show Cond.methodLinkNest RX3 30 yX6_init "WishMarket" ∈ wsN from List.mem_filter.mpr ⟨inTb1 150 rfl, rfl⟩), (show Cond.instanceMethod yX6_init ∈ wsG from inT1 151 rfl rfl), (show Cond.initialized RX6 ∈ wsG from inT1 8 rfl rfl), (show noMH yX6_init 0 from ⟨by decide +kernel, by decide +kernel, by decide +kernel⟩), rfl, rfl, rfl⟩
theorem cn_X3_31 (d : Nat) : ∃ host, CsN RX3 host 31 (mX8_init d) cX8_init 0 := ⟨"WishMarket", (show Cond.code yX8_init cX8_init 1 none ∈ wsG from inT1 181 rfl rfl), (show Cond.methodLinkNest RX3 31 yX8_init "WishMarket" ∈ wsN from List.mem_filter.mpr ⟨inTb1 179 rfl, rfl⟩), (show Cond.instanceMethod yX8_init ∈ wsG from inT1 180 rfl rfl), (show Cond.initialized RX8 ∈ wsG from inT1 9 rfl rfl), (show noMH yX8_init 0 from ⟨by decide +kernel, by decide +kernel, by decide +kernel⟩), rfl, rfl, rfl⟩
theorem cn_X5_11 (d : Nat) : ∃ host, CsN RX5 host 11 (mX7_init d) cX7_init 0 := ⟨"WishMarket", (show Cond.code yX7_init cX7_init 1 none ∈ wsG from inT1 58 rfl rfl), (show Cond.methodLinkNest RX5 11 yX7_init "WishMarket" ∈ wsN from List.mem_filter.mpr ⟨inTb1 56 rfl, rfl⟩), (show Cond.instanceMethod yX7_init ∈ wsG from inT1 57 rfl rfl), (show Cond.initialized RX7 ∈ wsG from inT1 3 rfl rfl), (show noMH yX7_init 0 from ⟨by decide +kernel, by decide +kernel, by decide +kernel⟩), rfl, rfl, rfl⟩
theorem cn_X9_9 (d : Nat) : ∃ host, CsN RX9 host 9 (mX5_init d) cX5_init 0 := ⟨"WishMarket", (show Cond.code yX5_init cX5_init 1 none ∈ wsG from inT1 52 rfl rfl), (show Cond.methodLinkNest RX9 9 yX5_init "WishMarket" ∈ wsN from List.mem_filter.mpr ⟨inTb1 50 rfl, rfl⟩), (show Cond.instanceMethod yX5_init ∈ wsG from inT1 51 rfl rfl), (show Cond.initialized RX5 ∈ wsG from inT1 2 rfl rfl), (show noMH yX5_init 0 from ⟨by decide +kernel, by decide +kernel, by decide +kernel⟩), rfl, rfl, rfl⟩
theorem ns_X3_9 : Ns RX3 9 2 8 := ⟨RX4, TX4, tyX4, rfl, icX4, tyX4_ok, (show Cond.classLink RX3 9 RX4 ∈ wsG from inT1 92 rfl rfl), (show Cond.instantiable RX4 8 ∈ wsG from inT1 98 rfl rfl), (show Cond.initialized RX4 ∈ wsG from inT1 7 rfl rfl), fun j hj => by
  rcases (show j = 0 ∨ j = 1 ∨ j = 2 ∨ j = 3 ∨ j = 4 ∨ j = 5 ∨ j = 6 ∨ j = 7 by omega) with rfl | rfl | rfl | rfl | rfl | rfl | rfl | rfl <;> rfl⟩
theorem ns_X3_17 : Ns RX3 17 4 4 := ⟨RX6, TX6, tyX6, rfl, icX6, tyX6_ok, (show Cond.classLink RX3 17 RX6 ∈ wsG from inT1 94 rfl rfl), (show Cond.instantiable RX6 4 ∈ wsG from inT1 149 rfl rfl), (show Cond.initialized RX6 ∈ wsG from inT1 8 rfl rfl), fun j hj => by
  rcases (show j = 0 ∨ j = 1 ∨ j = 2 ∨ j = 3 by omega) with rfl | rfl | rfl | rfl <;> rfl⟩
theorem ns_X3_23 : Ns RX3 23 6 11 := ⟨RX8, TX8, tyX8, rfl, icX8, tyX8_ok, (show Cond.classLink RX3 23 RX8 ∈ wsG from inT1 96 rfl rfl), (show Cond.instantiable RX8 11 ∈ wsG from inT1 178 rfl rfl), (show Cond.initialized RX8 ∈ wsG from inT1 9 rfl rfl), fun j hj => by
  rcases (show j = 0 ∨ j = 1 ∨ j = 2 ∨ j = 3 ∨ j = 4 ∨ j = 5 ∨ j = 6 ∨ j = 7 ∨ j = 8 ∨ j = 9 ∨ j = 10 by omega) with rfl | rfl | rfl | rfl | rfl | rfl | rfl | rfl | rfl | rfl | rfl <;> rfl⟩
theorem ns_X5_9 : Ns RX5 9 5 6 := ⟨RX7, TX7, tyX7, rfl, icX7, tyX7_ok, (show Cond.classLink RX5 9 RX7 ∈ wsG from inT1 54 rfl rfl), (show Cond.instantiable RX7 6 ∈ wsG from inT1 55 rfl rfl), (show Cond.initialized RX7 ∈ wsG from inT1 3 rfl rfl), fun j hj => by
  rcases (show j = 0 ∨ j = 1 ∨ j = 2 ∨ j = 3 ∨ j = 4 ∨ j = 5 by omega) with rfl | rfl | rfl | rfl | rfl | rfl <;> rfl⟩
theorem ns_X5_18 : Ns RX5 18 1 14 := ⟨RX3, TX3, tyX3, rfl, icX3, tyX3_ok, (show Cond.classLink RX5 18 RX3 ∈ wsG from inT1 86 rfl rfl), (show Cond.instantiable RX3 14 ∈ wsG from inT1 87 rfl rfl), (show Cond.initialized RX3 ∈ wsG from inT1 6 rfl rfl), fun j hj => by
  rcases (show j = 0 ∨ j = 1 ∨ j = 2 ∨ j = 3 ∨ j = 4 ∨ j = 5 ∨ j = 6 ∨ j = 7 ∨ j = 8 ∨ j = 9 ∨ j = 10 ∨ j = 11 ∨ j = 12 ∨ j = 13 by omega) with rfl | rfl | rfl | rfl | rfl | rfl | rfl | rfl | rfl | rfl | rfl | rfl | rfl | rfl <;> rfl⟩
theorem ns_X9_7 : Ns RX9 7 3 8 := ⟨RX5, TX5, tyX5, rfl, icX5, tyX5_ok, (show Cond.classLink RX9 7 RX5 ∈ wsG from inT1 48 rfl rfl), (show Cond.instantiable RX5 8 ∈ wsG from inT1 49 rfl rfl), (show Cond.initialized RX5 ∈ wsG from inT1 2 rfl rfl), fun j hj => by
  rcases (show j = 0 ∨ j = 1 ∨ j = 2 ∨ j = 3 ∨ j = 4 ∨ j = 5 ∨ j = 6 ∨ j = 7 by omega) with rfl | rfl | rfl | rfl | rfl | rfl | rfl | rfl <;> rfl⟩
theorem ns_X9_16 : Ns RX9 16 1 14 := ⟨RX3, TX3, tyX3, rfl, icX3, tyX3_ok, (show Cond.classLink RX9 16 RX3 ∈ wsG from inT2 94 rfl rfl), (show Cond.instantiable RX3 14 ∈ wsG from inT1 87 rfl rfl), (show Cond.initialized RX3 ∈ wsG from inT1 6 rfl rfl), fun j hj => by
  rcases (show j = 0 ∨ j = 1 ∨ j = 2 ∨ j = 3 ∨ j = 4 ∨ j = 5 ∨ j = 6 ∨ j = 7 ∨ j = 8 ∨ j = 9 ∨ j = 10 ∨ j = 11 ∨ j = 12 ∨ j = 13 by omega) with rfl | rfl | rfl | rfl | rfl | rfl | rfl | rfl | rfl | rfl | rfl | rfl | rfl | rfl <;> rfl⟩
theorem ns_X9_37 : Ns RX9 37 0 4 := ⟨RJ4, TJ4, tyJ4, rfl, icJ4, tyJ4_ok, (show Cond.classLink RX9 37 RJ4 ∈ wsG from inT2 97 rfl rfl), (show Cond.instantiable RJ4 4 ∈ wsG from inT2 98 rfl rfl), (show Cond.initialized RJ4 ∈ wsG from inT1 11 rfl rfl), fun j hj => by
  rcases (show j = 0 ∨ j = 1 ∨ j = 2 ∨ j = 3 by omega) with rfl | rfl | rfl | rfl <;> rfl⟩
theorem ns_L_14 : Ns RL 14 7 10 := ⟨RX9, TX9, tyX9, rfl, icX9, tyX9_ok, (show Cond.classLink RL 14 RX9 ∈ wsG from inT1 40 rfl rfl), (show Cond.instantiable RX9 10 ∈ wsG from inT1 41 rfl rfl), (show Cond.initialized RX9 ∈ wsG from inT1 1 rfl rfl), fun j hj => by
  rcases (show j = 0 ∨ j = 1 ∨ j = 2 ∨ j = 3 ∨ j = 4 ∨ j = 5 ∨ j = 6 ∨ j = 7 ∨ j = 8 ∨ j = 9 by omega) with rfl | rfl | rfl | rfl | rfl | rfl | rfl | rfl | rfl | rfl <;> rfl⟩
theorem c_X4_init (d : Nat) {I : Mem} {K : Kt} {q : Nat} : Ct (mX4_init (d + 1)) cX4_init 0 0 [.ref q] I K (Qi I (fun K' => K' = K)) := by
  refine Ct.of rfl pn_X4 (catR cat0) (Nat.le_of_ble_eq_true rfl) (show X _ _ _ _ _ _ 0 [.ref q] [] _ from ?_)
  refine x_aloadn dX4_init_0 rfl ?_
  refine x_objInit (show Cond.methodLink RX4 1 Lib.objectInit ∈ wsG from inT1 102 rfl rfl) (show Cond.instanceMethod Lib.objectInit ∈ wsG from inT1 46 rfl rfl) (show Cond.code Lib.objectInit ⟨#[0xb1]⟩ 1 none ∈ wsG from inT1 47 rfl rfl) (Nat.le_of_ble_eq_true rfl) (by show 1 ≤ d + 1; omega) dX4_init_1 ?_
  exact x_vret rfl dX4_init_4 ⟨rfl, rfl, rfl⟩
theorem c_X6_init (d : Nat) {I : Mem} {K : Kt} {q : Nat} : Ct (mX6_init (d + 1)) cX6_init 0 0 [.ref q] I K (Qi I (fun K' => K' = K)) := by
  refine Ct.of rfl pn_X6 (catR cat0) (Nat.le_of_ble_eq_true rfl) (show X _ _ _ _ _ _ 0 [.ref q] [] _ from ?_)
  refine x_aloadn dX6_init_0 rfl ?_
  refine x_objInit (show Cond.methodLink RX6 1 Lib.objectInit ∈ wsG from inT1 153 rfl rfl) (show Cond.instanceMethod Lib.objectInit ∈ wsG from inT1 46 rfl rfl) (show Cond.code Lib.objectInit ⟨#[0xb1]⟩ 1 none ∈ wsG from inT1 47 rfl rfl) (Nat.le_of_ble_eq_true rfl) (by show 1 ≤ d + 1; omega) dX6_init_1 ?_
  exact x_vret rfl dX6_init_4 ⟨rfl, rfl, rfl⟩
theorem c_X8_init (d : Nat) {I : Mem} {K : Kt} {q : Nat} : Ct (mX8_init (d + 1)) cX8_init 0 0 [.ref q] I K (Qi I (fun K' => K' = K)) := by
  refine Ct.of rfl pn_X8 (catR cat0) (Nat.le_of_ble_eq_true rfl) (show X _ _ _ _ _ _ 0 [.ref q] [] _ from ?_)
  refine x_aloadn dX8_init_0 rfl ?_
  refine x_objInit (show Cond.methodLink RX8 3 Lib.objectInit ∈ wsG from inT1 182 rfl rfl) (show Cond.instanceMethod Lib.objectInit ∈ wsG from inT1 46 rfl rfl) (show Cond.code Lib.objectInit ⟨#[0xb1]⟩ 1 none ∈ wsG from inT1 47 rfl rfl) (Nat.le_of_ble_eq_true rfl) (by show 1 ≤ d + 1; omega) dX8_init_1 ?_
  exact x_vret rfl dX8_init_4 ⟨rfl, rfl, rfl⟩
theorem n_step_p {K K' : Kt} {q i : Nat} (H : LMp K q i 0 0) (hk : kN K = q + 4 + i) (s : Sx K K' (q + 1) i (kN K) 1 8) (V : LO K' 2 (kN K)) : LMp K' q (i + 1) 0 0 := by
  have h := H.sx s (by omega) (by omega) (by omega) (by omega)
  have e := s.2.2.2
  rw [hk] at e V
  refine ⟨h.1, h.2.1, ?_, ?_, ?_⟩
  · intro l hl
    rcases Nat.lt_succ_iff_lt_or_eq.mp hl with hl | rfl
    · exact h.2.2.1 l hl
    · exact ⟨e, V⟩
  · exact h.2.2.2.1
  · exact h.2.2.2.2
theorem n_loop_p (d : Nat) {I : Mem} {K0 : Kt} {q bc bs : Nat} {Q : Rs → Mem → Kt → Prop} (hq : q + 40 < 900000) (h0 : kN K0 = q + 1) (k9 : ∀ K1, LMp K1 q 6 0 0 → Fq K0 K1 q 9 (75) → X (mX3_init (d + 2)) cX3_init bc bs I K1 57 [.ref q, .int (nI 6)] [] Q) : ∀ (r i : Nat) (K : Kt), i + r = 6 → Zr I K → LMp K q i 0 0 → Fq K0 K q (3 + i) (27 + 8 * i) → X (mX3_init (d + 2)) cX3_init (r + bc) (8 * r + bs) I K 32 [.ref q, .int (nI i)] [] Q := by
  intro r
  induction r with
  | zero =>
    intro i K hi hz H F
    obtain rfl : i = 6 := by omega
    refine X.less (bc' := bc) (bs' := bs) ?_ (by omega) (by omega)
    refine x_iloadn dX3_init_32 rfl ?_
    refine x_bipush (nI 6) dX3_init_33 (by decide) ?_
    exact x_icmp_geN 57 (by decide) dX3_init_35 rfl (fun _ => k9 K H F) (fun h => absurd h (by decide))
  | succ r ih =>
    intro i K hi hz H F
    have hk : kN K = q + 4 + i := by have := F.1.1; omega
    refine X.less (bc' := 1 + (0 + (r + bc))) (bs' := 8 + (0 + (8 * r + bs))) ?_ (by omega) (by omega)
    refine x_iloadn dX3_init_32 rfl ?_
    refine x_bipush (nI 6) dX3_init_33 (by decide) ?_
    refine x_icmp_geN 57 (by omega) dX3_init_35 rfl (fun h => absurd h (by omega)) (fun _ => ?_)
    refine x_aloadn dX3_init_38 rfl ?_
    refine z_getR fs_X3_11 H.1.1 H.1.2.1 dX3_init_39 ?_
    refine x_iloadn dX3_init_42 rfl ?_
    refine n_new ns_X3_9 hz (by omega) dX3_init_43 fun K1 f1 V => ?_
    refine x_dup dX3_init_46 rfl ?_
    refine n_call (As := []) (rest := [.ref (kN K), .int (nI i), .ref (q + 1)]) (Or.inr (cn_X3_29 (d + 1))) rfl rfl (Nat.le_of_ble_eq_true rfl) (dep (show d + 1 + 1 ≤ d + 2 by omega) (Nat.le_of_ble_eq_true rfl)) dX3_init_47 (c_X4_init d) fun K2 e2 => ?_
    subst e2
    refine n_aast (ci := 106) (co := 2) (n := 6) (H.2.1.1.fx f1) V (by decide) rfl ⟨by omega, by decide⟩ dX3_init_50 fun K3 s3 => ?_
    have s : Sx K K3 (q + 1) i (kN K) 1 8 := f1.put s3
    refine x_iincN (d := 1) dX3_init_51 rfl rfl rfl ?_
    refine x_goto 32 dX3_init_54 rfl ?_
    exact ih (i + 1) K3 (by omega) (hz.le (by have := s.1.1; omega)) (n_step_p H hk s (V.sx s3)) (by have := F.sx s (Or.inr (by omega)); rwa [show 3 + i + 1 = 3 + (i + 1) from rfl, show 27 + 8 * i + 8 = 27 + 8 * (i + 1) by omega] at this)
theorem n_step_s {K K' : Kt} {q i : Nat} (H : LMp K q 6 i 0) (hk : kN K = q + 10 + i) (s : Sx K K' (q + 2) i (kN K) 1 4) (V : LO K' 4 (kN K)) : LMp K' q 6 (i + 1) 0 := by
  have h := H.sx s (by omega) (by omega) (by omega) (by omega)
  have e := s.2.2.2
  rw [hk] at e V
  refine ⟨h.1, h.2.1, ?_, ?_, ?_⟩
  · exact h.2.2.1
  · intro l hl
    rcases Nat.lt_succ_iff_lt_or_eq.mp hl with hl | rfl
    · exact h.2.2.2.1 l hl
    · exact ⟨e, V⟩
  · exact h.2.2.2.2
theorem n_loop_s (d : Nat) {I : Mem} {K0 : Kt} {q bc bs : Nat} {Q : Rs → Mem → Kt → Prop} (hq : q + 40 < 900000) (h0 : kN K0 = q + 1) (k9 : ∀ K1, LMp K1 q 6 5 0 → Fq K0 K1 q 14 (95) → X (mX3_init (d + 2)) cX3_init bc bs I K1 83 [.ref q, .int (nI 5)] [] Q) : ∀ (r i : Nat) (K : Kt), i + r = 5 → Zr I K → LMp K q 6 i 0 → Fq K0 K q (9 + i) (75 + 4 * i) → X (mX3_init (d + 2)) cX3_init (r + bc) (4 * r + bs) I K 59 [.ref q, .int (nI i)] [] Q := by
  intro r
  induction r with
  | zero =>
    intro i K hi hz H F
    obtain rfl : i = 5 := by omega
    refine X.less (bc' := bc) (bs' := bs) ?_ (by omega) (by omega)
    refine x_iloadn dX3_init_59 rfl ?_
    refine x_iconst (nI 5) dX3_init_60 rfl ?_
    exact x_icmp_geN 83 (by decide) dX3_init_61 rfl (fun _ => k9 K H F) (fun h => absurd h (by decide))
  | succ r ih =>
    intro i K hi hz H F
    have hk : kN K = q + 10 + i := by have := F.1.1; omega
    refine X.less (bc' := 1 + (0 + (r + bc))) (bs' := 4 + (0 + (4 * r + bs))) ?_ (by omega) (by omega)
    refine x_iloadn dX3_init_59 rfl ?_
    refine x_iconst (nI 5) dX3_init_60 rfl ?_
    refine x_icmp_geN 83 (by omega) dX3_init_61 rfl (fun h => absurd h (by omega)) (fun _ => ?_)
    refine x_aloadn dX3_init_64 rfl ?_
    refine z_getR fs_X3_19 H.1.1 H.1.2.2.1 dX3_init_65 ?_
    refine x_iloadn dX3_init_68 rfl ?_
    refine n_new ns_X3_17 hz (by omega) dX3_init_69 fun K1 f1 V => ?_
    refine x_dup dX3_init_72 rfl ?_
    refine n_call (As := []) (rest := [.ref (kN K), .int (nI i), .ref (q + 2)]) (Or.inr (cn_X3_30 (d + 1))) rfl rfl (Nat.le_of_ble_eq_true rfl) (dep (show d + 1 + 1 ≤ d + 2 by omega) (Nat.le_of_ble_eq_true rfl)) dX3_init_73 (c_X6_init d) fun K2 e2 => ?_
    subst e2
    refine n_aast (ci := 107) (co := 4) (n := 5) (H.2.1.2.1.fx f1) V (by decide) rfl ⟨by omega, by decide⟩ dX3_init_76 fun K3 s3 => ?_
    have s : Sx K K3 (q + 2) i (kN K) 1 4 := f1.put s3
    refine x_iincN (d := 1) dX3_init_77 rfl rfl rfl ?_
    refine x_goto 59 dX3_init_80 rfl ?_
    exact ih (i + 1) K3 (by omega) (hz.le (by have := s.1.1; omega)) (n_step_s H hk s (V.sx s3)) (by have := F.sx s (Or.inr (by omega)); rwa [show 9 + i + 1 = 9 + (i + 1) from rfl, show 75 + 4 * i + 4 = 75 + 4 * (i + 1) by omega] at this)
theorem n_step_w {K K' : Kt} {q i : Nat} (H : LMp K q 6 5 i) (hk : kN K = q + 15 + i) (s : Sx K K' (q + 3) i (kN K) 1 11) (V : LO K' 6 (kN K)) : LMp K' q 6 5 (i + 1) := by
  have h := H.sx s (by omega) (by omega) (by omega) (by omega)
  have e := s.2.2.2
  rw [hk] at e V
  refine ⟨h.1, h.2.1, ?_, ?_, ?_⟩
  · exact h.2.2.1
  · exact h.2.2.2.1
  · intro l hl
    rcases Nat.lt_succ_iff_lt_or_eq.mp hl with hl | rfl
    · exact h.2.2.2.2 l hl
    · exact ⟨e, V⟩
theorem n_loop_w (d : Nat) {I : Mem} {K0 : Kt} {q bc bs : Nat} {Q : Rs → Mem → Kt → Prop} (hq : q + 40 < 900000) (h0 : kN K0 = q + 1) (k9 : ∀ K1, LMp K1 q 6 5 16 → Fq K0 K1 q 30 (271) → X (mX3_init (d + 2)) cX3_init bc bs I K1 110 [.ref q, .int (nI 16)] [] Q) : ∀ (r i : Nat) (K : Kt), i + r = 16 → Zr I K → LMp K q 6 5 i → Fq K0 K q (14 + i) (95 + 11 * i) → X (mX3_init (d + 2)) cX3_init (r + bc) (11 * r + bs) I K 85 [.ref q, .int (nI i)] [] Q := by
  intro r
  induction r with
  | zero =>
    intro i K hi hz H F
    obtain rfl : i = 16 := by omega
    refine X.less (bc' := bc) (bs' := bs) ?_ (by omega) (by omega)
    refine x_iloadn dX3_init_85 rfl ?_
    refine x_bipush (nI 16) dX3_init_86 (by decide) ?_
    exact x_icmp_geN 110 (by decide) dX3_init_88 rfl (fun _ => k9 K H F) (fun h => absurd h (by decide))
  | succ r ih =>
    intro i K hi hz H F
    have hk : kN K = q + 15 + i := by have := F.1.1; omega
    refine X.less (bc' := 1 + (0 + (r + bc))) (bs' := 11 + (0 + (11 * r + bs))) ?_ (by omega) (by omega)
    refine x_iloadn dX3_init_85 rfl ?_
    refine x_bipush (nI 16) dX3_init_86 (by decide) ?_
    refine x_icmp_geN 110 (by omega) dX3_init_88 rfl (fun h => absurd h (by omega)) (fun _ => ?_)
    refine x_aloadn dX3_init_91 rfl ?_
    refine z_getR fs_X3_25 H.1.1 H.1.2.2.2 dX3_init_92 ?_
    refine x_iloadn dX3_init_95 rfl ?_
    refine n_new ns_X3_23 hz (by omega) dX3_init_96 fun K1 f1 V => ?_
    refine x_dup dX3_init_99 rfl ?_
    refine n_call (As := []) (rest := [.ref (kN K), .int (nI i), .ref (q + 3)]) (Or.inr (cn_X3_31 (d + 1))) rfl rfl (Nat.le_of_ble_eq_true rfl) (dep (show d + 1 + 1 ≤ d + 2 by omega) (Nat.le_of_ble_eq_true rfl)) dX3_init_100 (c_X8_init d) fun K2 e2 => ?_
    subst e2
    refine n_aast (ci := 108) (co := 6) (n := 16) (H.2.1.2.2.fx f1) V (by decide) rfl ⟨by omega, by decide⟩ dX3_init_103 fun K3 s3 => ?_
    have s : Sx K K3 (q + 3) i (kN K) 1 11 := f1.put s3
    refine x_iincN (d := 1) dX3_init_104 rfl rfl rfl ?_
    refine x_goto 85 dX3_init_107 rfl ?_
    exact ih (i + 1) K3 (by omega) (hz.le (by have := s.1.1; omega)) (n_step_w H hk s (V.sx s3)) (by have := F.sx s (Or.inr (by omega)); rwa [show 14 + i + 1 = 14 + (i + 1) from rfl, show 95 + 11 * i + 11 = 95 + 11 * (i + 1) by omega] at this)
theorem c_X3_init (d : Nat) {I : Mem} {K : Kt} {q : Nat} (hz : Zr I K) (H0 : LO K 1 q) (hq : kN K = q + 1) (hlim : q + 40 < 900000) : Ct (mX3_init (d + 2)) cX3_init 30 271 [.ref q] I K (Qi I (fun K' => LM K' q ∧ Fq K K' q 30 271)) := by
  refine Ct.of rfl pn_X3 (catR cat0) (Nat.le_of_ble_eq_true rfl) (show X _ _ _ _ _ _ 0 [.ref q, .retAddr 0] [] _ from ?_)
  refine X.less (bc' := 1 + (1 + (1 + (6 + (5 + (16 + 0)))))) (bs' := 6 + (5 + (16 + (8 * 6 + (4 * 5 + (11 * 16 + 0)))))) ?_ (Nat.le_of_ble_eq_true rfl) (Nat.le_of_ble_eq_true rfl)
  refine x_aloadn dX3_init_0 rfl ?_
  refine x_objInit (show Cond.methodLink RX3 3 Lib.objectInit ∈ wsG from inT1 91 rfl rfl) (show Cond.instanceMethod Lib.objectInit ∈ wsG from inT1 46 rfl rfl) (show Cond.code Lib.objectInit ⟨#[0xb1]⟩ 1 none ∈ wsG from inT1 47 rfl rfl) (Nat.le_of_ble_eq_true rfl) (by show 1 ≤ d + 2; omega) dX3_init_1 ?_
  refine x_aloadn dX3_init_4 rfl ?_
  refine x_bipush (nI 6) dX3_init_5 (by decide) ?_
  refine x_newq (ci := 106) (t0 := 6) (n := 6) (by decide) (fun _ => rfl) (show Cond.classLink RX3 9 RX4 ∈ wsG from inT1 92 rfl rfl) (show Cond.arrayOver (.object RX4) ∈ wsN from List.mem_filter.mpr ⟨inTb1 93 rfl, rfl⟩) rfl (Nat.le_of_ble_eq_true rfl) (Nat.lt_trans (by omega : _ < 900000) (by decide)) dX3_init_7 ?_
  refine n_arr hz fun K1 f1 A1 => ?_
  refine n_put fs_X3_11 (H0.fx f1) (fun _ => rfl) (fun _ => ⟨rfl, rfl⟩) dX3_init_10 fun K2 s2 => ?_
  have s1 := f1.put s2
  have n1 := s1.1.1
  refine x_aloadn dX3_init_13 rfl ?_
  refine x_iconst (nI 5) dX3_init_14 rfl ?_
  refine x_newq (ci := 107) (t0 := 7) (n := 5) (by decide) (fun _ => rfl) (show Cond.classLink RX3 17 RX6 ∈ wsG from inT1 94 rfl rfl) (show Cond.arrayOver (.object RX6) ∈ wsN from List.mem_filter.mpr ⟨inTb1 95 rfl, rfl⟩) rfl (Nat.le_of_ble_eq_true rfl) (Nat.lt_trans (by omega : _ < 900000) (by decide)) dX3_init_15 ?_
  refine n_arr (hz.le (by omega)) fun K3 f3 A3 => ?_
  refine n_put fs_X3_19 ((H0.sx s1).fx f3) (fun _ => rfl) (fun _ => ⟨rfl, rfl⟩) dX3_init_18 fun K4 s4 => ?_
  have s3 := f3.put s4
  have n3 := s3.1.1
  refine x_aloadn dX3_init_21 rfl ?_
  refine x_bipush (nI 16) dX3_init_22 (by decide) ?_
  refine x_newq (ci := 108) (t0 := 8) (n := 16) (by decide) (fun _ => rfl) (show Cond.classLink RX3 23 RX8 ∈ wsG from inT1 96 rfl rfl) (show Cond.arrayOver (.object RX8) ∈ wsN from List.mem_filter.mpr ⟨inTb1 97 rfl, rfl⟩) rfl (Nat.le_of_ble_eq_true rfl) (Nat.lt_trans (by omega : _ < 900000) (by decide)) dX3_init_24 ?_
  refine n_arr (hz.le (by omega)) fun K5 f5 A5 => ?_
  refine n_put fs_X3_25 (((H0.sx s1).sx s3).fx f5) (fun _ => rfl) (fun _ => ⟨rfl, rfl⟩) dX3_init_27 fun K6 s6 => ?_
  have s5 := f5.put s6
  have n5 := s5.1.1
  have e1 : kN K = q + 1 := hq
  have e2 : kN K2 = q + 2 := by omega
  have e4 : kN K4 = q + 3 := by omega
  have hL : LMp K6 q 0 0 0 := by
    rw [e1] at A1 s1; rw [e2] at A3 s3; rw [e4] at A5 s5
    exact ⟨⟨((H0.sx s1).sx s3).sx s5, s5.gg (s3.gg s1.2.2.2 (by omega) (by omega)) (by omega) (by omega), s5.gg s3.2.2.2 (by omega) (by omega), s5.2.2.2⟩, ⟨(((A1.sx s2).sx s3).sx s5), (A3.sx s4).sx s5, A5.sx s6⟩, fun i hi => absurd hi (Nat.not_lt_zero _), fun i hi => absurd hi (Nat.not_lt_zero _), fun i hi => absurd hi (Nat.not_lt_zero _)⟩
  have F : Fq K K6 q 3 27 := ((Fq.refl.sx s1 (Or.inl rfl)).sx s3 (Or.inl rfl)).sx s5 (Or.inl rfl)
  refine x_iconst (nI 0) dX3_init_30 rfl ?_
  refine x_istoren dX3_init_31 (Nat.le_of_ble_eq_true rfl) rfl rfl ?_
  refine n_loop_p d hlim hq (fun K7 H7 F7 => ?_) 6 0 K6 rfl (hz.le (by omega)) hL F
  refine x_iconst (nI 0) dX3_init_57 rfl ?_
  refine x_istoren dX3_init_58 (Nat.le_of_ble_eq_true rfl) rfl rfl ?_
  refine n_loop_s d hlim hq (fun K8 H8 F8 => ?_) 5 0 K7 rfl (hz.le (by have := F7.1.1; omega)) H7 F7
  refine x_iconst (nI 0) dX3_init_83 rfl ?_
  refine x_istoren dX3_init_84 (Nat.le_of_ble_eq_true rfl) rfl rfl ?_
  refine n_loop_w d hlim hq (fun K9 H9 F9 => ?_) 16 0 K8 rfl (hz.le (by have := F8.1.1; omega)) H8 F8
  exact x_vret rfl dX3_init_110 ⟨rfl, rfl, H9, F9⟩
