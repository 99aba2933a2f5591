/-! the law's cases: what each needs, and the rows that it is made of -/
/-- what a case needs: the class's contract, the number of what it throws, the reference's contract, and the relation behind -/
def KA (K K1 : Kt) : Prop := kN K ≤ kN K1 ∧ ∀ a, a < kN K → kS K1 a = kS K a
theorem LA.ka {K K1 : Kt} {ci n a : Nat} (h : LA K ci n a) (g : KA K K1) : LA K1 ci n a := ⟨by rw [g.2 a h.2]; exact h.1, Nat.lt_of_lt_of_le h.2 g.1⟩
theorem KA.refl {K : Kt} : KA K K := ⟨Nat.le_refl _, fun _ _ => rfl⟩
theorem Gw.ka {K K1 : Kt} (h : Gw K K1) : KA K K1 := ⟨h.1, h.2.1⟩
def LC (M9 : MD) (c9 : ByteArray) (M10 : MD) (c10 : ByteArray) (es : List String) (As : List Value) (I : Mem) (K : Kt) (w m kb gb D' : Nat) : Prop :=
  ∃ (r : Except String Int32) (t b : Int32) (I1 I2 : Mem) (K1 : Kt) (a6 b6 : Nat), (Ct M9 c9 a6 b6 (.ref w :: As) I K (Ro (rI r) I1 K1) ∧ Ec es r t ∧ (∀ Kj, MK Kj m → Ct M10 c10 0 0 (.ref m :: As) I1 Kj (Ro (.inl (some (.int b))) I2 Kj))) ∧
    (I2 m 0 = t ∧ ∀ v, r = .ok v → b = v) ∧ ST I2 K1 w m kb gb D' ∧ (Gm K K1 ∧ KA K K1) ∧ a6 ≤ 2 + (kN K1 - kN K) ∧ b6 ≤ 12 + (gz K1 - gz K)
def LB (M9 : MD) (c9 : ByteArray) (M10 : MD) (c10 : ByteArray) (es : List String) (As : List Value) (I : Mem) (K : Kt) (w m kb gb D' : Nat) : Prop :=
  ∃ (r : Except String Int32) (t b : Int32) (I2 : Mem), (Ct M9 c9 (cst r) (cs6 r) (.ref w :: As) I K (Ro (rI r) I K) ∧ Ec es r t ∧ (∀ Kj, MK Kj m → Ct M10 c10 0 0 (.ref m :: As) I Kj (Ro (.inl (some (.int b))) I2 Kj))) ∧
    (I2 m 0 = t ∧ (∀ v, r = .ok v → b = v) ∧ ∀ v, r = .ok v → v = 0 ∨ v = 1) ∧ ST I2 K w m kb gb D'
/-- a call that throws nothing -/
def LN (M9 : MD) (c9 : ByteArray) (M10 : MD) (c10 : ByteArray) (As : List Value) (I : Mem) (K : Kt) (w m kb gb D' : Nat) : Prop :=
  ∃ (v : Int32) (I1 I2 : Mem), Ct M9 c9 0 0 (.ref w :: As) I K (Ro (.inl (some (.int v))) I1 K) ∧ Ct M10 c10 0 0 (.ref m :: As) I1 K (Ro (.inl (some (.int v))) I2 K) ∧ ST I2 K w m kb gb D'
def LD64 (I : Mem) (K : Kt) (w m kb gb D' : Nat) : Prop :=
  ∃ (r : Except String UInt64) (t : Int32) (b : UInt64) (I2 : Mem), (Ct (mX9_averageWear 7) cX9_averageWear (cst r) (cs6 r) [.ref w] I K (Ro (rD r) I K) ∧ Ec [eIS] r t ∧ (∀ Kj, MK Kj m → Ct (mX10_averageWear 2) cX10_averageWear 0 0 [.ref m] I Kj (Ro (.inl (some (.double b))) I2 Kj))) ∧
    (I2 m 0 = t ∧ ∀ v, r = .ok v → b = v ∧ Op.cmpValue (FP.dcmp v v) .l = 0) ∧ ST I2 K w m kb gb D'
def LD32 (I : Mem) (K : Kt) (w m kb gb D' : Nat) : Prop :=
  ∃ (r : Except String UInt32) (t : Int32) (b : UInt32) (I2 : Mem), (Ct (mX9_averageStars 7) cX9_averageStars (cst r) (cs6 r) [.ref w] I K (Ro (rF r) I K) ∧ Ec [eIS] r t ∧ (∀ Kj, MK Kj m → Ct (mX10_averageStars 2) cX10_averageStars 0 0 [.ref m] I Kj (Ro (.inl (some (.float b))) I2 Kj))) ∧
    (I2 m 0 = t ∧ ∀ v, r = .ok v → b = v ∧ vf_n64 (FP.f2d v) ∧ Op.cmpValue (FP.dcmp (FP.f2d v) (FP.f2d v)) .l = 0) ∧ ST I2 K w m kb gb D'
theorem ST.size {I : Mem} {K : Kt} {w m kb gb D : Nat} (h : ST I K w m kb gb D) : kN K ≤ kb + 3 ∧ gz K ≤ gb + 246 := by
  obtain ⟨-, -, e, e1, e2, e3, e4⟩ := h.2.2.2.2.2.2.2
  refine ⟨by omega, ?_⟩
  rw [e4]
  have : ∀ e, e < 4 → capS.getD e 0 ≤ 246 := by decide
  have := this e e1
  omega
theorem ST.mk {I : Mem} {K : Kt} {w m kb gb D : Nat} (h : ST I K w m kb gb D) : MK K m := h.1.1.2.2
theorem ST.lw {I : Mem} {K : Kt} {w m kb gb D : Nat} (h : ST I K w m kb gb D) : LW K w := h.1.1.1
theorem ST.kj {I : Mem} {K : Kt} {w m kb gb D o : Nat} {r : Except String Int32} (h : ST I K w m kb gb D) : ST I (KJ K o r) w m kb gb D := by cases r <;> exact h
theorem ST.kd {I : Mem} {K : Kt} {w m kb gb D o : Nat} {r : Except String UInt64} (h : ST I K w m kb gb D) : ST I (KD K o r) w m kb gb D := by cases r <;> exact h
theorem ST.kf {I : Mem} {K : Kt} {w m kb gb D o : Nat} {r : Except String UInt32} (h : ST I K w m kb gb D) : ST I (KF K o r) w m kb gb D := by cases r <;> exact h
theorem LA.kj {K : Kt} {o ci n a : Nat} {r : Except String Int32} (h : LA K ci n a) : LA (KJ K o r) ci n a := by cases r <;> exact h
theorem LA.kd {K : Kt} {o ci n a : Nat} {r : Except String UInt64} (h : LA K ci n a) : LA (KD K o r) ci n a := by cases r <;> exact h
theorem LA.kf {K : Kt} {o ci n a : Nat} {r : Except String UInt32} (h : LA K ci n a) : LA (KF K o r) ci n a := by cases r <;> exact h
theorem kN_kj {K : Kt} {o : Nat} {r : Except String Int32} : kN (KJ K o r) = kN K ∧ gz (KJ K o r) = gz K := by cases r <;> exact ⟨rfl, rfl⟩
theorem kN_kd {K : Kt} {o : Nat} {r : Except String UInt64} : kN (KD K o r) = kN K ∧ gz (KD K o r) = gz K := by cases r <;> exact ⟨rfl, rfl⟩
theorem kN_kf {K : Kt} {o : Nat} {r : Except String UInt32} : kN (KF K o r) = kN K ∧ gz (KF K o r) = gz K := by cases r <;> exact ⟨rfl, rfl⟩
abbrev lawL (w m o o2 i : Nat) : List Value := [.ref (xE 50), .ref w, .ref m, .ref o, .ref o2, .int (nI i), .retAddr 0, .retAddr 0, .retAddr 0]
abbrev lawQ : Rs → Mem → Kt → Prop := fun r _ _ => r = .inl (some (.int 1))
/-- what comes behind a case -/
def Tail (n : Nat) (xs : Nat → Int32) (w m o o2 i kb gb D' bb sb : Nat) : Prop := ∀ I K, ST I K w m kb gb D' → LA K 103 1 o → LA K 104 1 o2 → X mLaw code (bb + (kb + 3 - kN K)) (sb + (gb + 246 - gz K)) I K 3795 (lawL w m o o2 i) [] lawQ (GsL n xs)
section XLw
variable {M : MD} {cc : ByteArray} {bc bs : Nat} {I : Mem} {K : Kt} {pc : Nat} {L st : List Value} {Q : Rs → Mem → Kt → Prop} {n : Nat} {xs : Nat → Int32}
theorem x_arg {i j : Nat} {jj : Int} (hjj : Int32.ofInt jj = nI j) (h1 : decode cc pc = .ok (.aload_n 0, 1)) (h2 : decode cc (pc + 1) = .ok (.iload 5, 2)) (h3 : decode cc (pc + 3) = .ok (.iconst jj, 1)) (h4 : decode cc (pc + 4) = .ok (.iadd, 1)) (h5 : decode cc (pc + 5) = .ok (.iaload, 1)) (hL0 : L[0]? = some (.ref (xE 50))) (hL5 : L[5]? = some (.int (nI i))) (hj : i + j < n) (hn : n < 2147483648) (k : X M cc bc bs I K (pc + 6) L (.int (xs (i + j)) :: st) Q (GsL n xs)) : X M cc bc bs I K pc L st Q (GsL n xs) := by
  refine x_aloadn h1 hL0 ?_
  refine x_iload h2 hL5 ?_
  refine x_iconst (nI j) h3 hjj ?_
  refine x_iadd h4 ?_
  exact x_sld (nI_add i j) hj hn h5 k
end XLw
section XDl
variable {Γ : (Nat → Nat) → (Nat → Prop) → State → Array Value → Prop} {M : MD} {cc : ByteArray} {bc bs : Nat} {I : Mem} {K : Kt} {pc : Nat} {L st : List Value} {Q : Rs → Mem → Kt → Prop}
theorem Rl.set2 {ad : Nat → Nat} {ls : Array Slot} {nL : Nat} {L : List Value} (h : Rl ad ls nL L) {i : Nat} {v : Value} (hi : i + 1 < L.length) (hc : v.category = 2) (h2 : c2 L i = true) : ∃ ls', storeLocals ls i (cv ad v) = some ls' ∧ Rl ad ls' nL ((L.set i v).set (i + 1) (.retAddr 0)) := by
  obtain ⟨h0, lv, h1, h3⟩ := h
  obtain ⟨ls', e, h4⟩ := lv_store2 (v := cv ad v) h1 (i := i) (by omega) (by rw [cv_cat]; exact hc)
  refine ⟨ls', e, by rw [List.length_set, List.length_set]; exact h0, _, h4, fun j w hj hw => ?_⟩
  rw [List.getElem?_set] at hj
  by_cases hj1 : i + 1 = j
  · rw [if_pos hj1] at hj
    split at hj
    · cases hj; exact absurd rfl (hw 0)
    · cases hj
  · rw [if_neg hj1, List.getElem?_set] at hj
    by_cases hij : i = j
    · subst hij
      rw [if_pos rfl, if_pos (by omega)] at hj
      cases hj
      exact List.mem_cons_self
    · rw [if_neg hij] at hj
      refine List.mem_cons_of_mem _ (List.mem_filter.mpr ⟨h3 j w hj hw, ?_⟩)
      have a1 : (j == i) = false := by simpa using fun z => hij z.symm
      have a2 : (j == i + 1) = false := by simpa using fun z => hj1 z.symm
      show (!(j == i) && (!(j == i + 1) && !(j + 1 == i && (cv ad w).category == 2))) = true
      rw [a1, a2, cv_cat]
      by_cases h5 : j + 1 = i
      · subst h5
        unfold c2 at h2
        simp only [hj] at h2
        simpa using h2
      · simp [h5]
theorem x_dstore {i : Nat} {v : UInt64} (hd : decode cc pc = .ok (.dstore i, 2)) (hi : i + 1 < L.length) (h2 : c2 L i = true) {L' : List Value} (hl : (L.set i (.double v)).set (i + 1) (.retAddr 0) = L') (k : X M cc bc bs I K (pc + 2) L' st Q Γ) : X M cc bc bs I K pc L (.double v :: st) Q Γ := by
  subst hl
  intro p l e s m args below meth c mc ms D cA A ad0 n0 hC hE hΓ ad H locs cells slots ls hR hc hs hL hvL hvS
  obtain ⟨ls', e', hL'⟩ := hL.set2 (v := .double v) hi rfl h2
  have k9 := k p l e s m args below meth c mc ms D cA A ad0 n0 hC hE hΓ ad H locs cells slots ls' hR hc hs hL' (fun w hw => by
    rcases List.mem_or_eq_of_mem_set hw with h | h
    · rcases List.mem_or_eq_of_mem_set h with h | h
      · exact hvL w h
      · rw [h]; trivial
    · rw [h]; trivial) (List.forall_mem_cons.mp hvS).2
  have hx := hC.1
  have hb := hC.2.1
  intro T hT XX
  obtain ⟨t, a, b⟩ := k9 T hT XX
  refine ⟨t, ?_, b⟩
  have e' : storeLocals _ _ (.double v) = _ := e'
  show Steps _ _ _ (T.setTop (F0 _ pc _ (.double v :: _))) t
  jvm_step XX.here [XX.here.top, hx, hb, hd, e']
  exact a
theorem x_dload {i : Nat} {v : UInt64} (hd : decode cc pc = .ok (.dload i, 2)) (hL9 : L[i]? = some (.double v)) (k : X M cc bc bs I K (pc + 2) L (.double v :: st) Q Γ) : X M cc bc bs I K pc L st Q Γ :=
  k.sk (fun n h _ => List.forall_mem_cons.mpr ⟨trivial, h⟩) fun hx hb _ _ hL k => lv_dload hx hb hd (hL.at hL9 (fun q => by simp)) k
theorem x_fload {i : Nat} {v : UInt32} (hd : decode cc pc = .ok (.fload i, 2)) (hL9 : L[i]? = some (.float v)) (k : X M cc bc bs I K (pc + 2) L (.float v :: st) Q Γ) : X M cc bc bs I K pc L st Q Γ :=
  k.sk (fun n h _ => List.forall_mem_cons.mpr ⟨trivial, h⟩) fun hx hb _ _ hL k => lv_fload hx hb hd (hL.at hL9 (fun q => by simp)) k
end XDl
