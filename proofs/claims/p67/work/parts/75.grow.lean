/-! THE STRING BUILDER: its value array is made anew when it grows; what is made is counted by the heap's size and its places -/
def vOf (K : Kt) (b : Nat) : Nat := (kG K b 0).getD 0
def nOf (K : Kt) (b : Nat) : Nat := (kS K (vOf K b)).2
def LSb (K : Kt) (b : Nat) : Prop := LO K 0 b ∧ kG K b 0 = some (vOf K b) ∧ LA K 101 (nOf K b) (vOf K b)
theorem LSb.o {K : Kt} {b : Nat} (h : LSb K b) : LO K 0 b := h.1
theorem LSb.g {K : Kt} {b : Nat} (h : LSb K b) : kG K b 0 = some (vOf K b) := h.2.1
theorem LSb.l {K : Kt} {b : Nat} (h : LSb K b) : LA K 101 (nOf K b) (vOf K b) := h.2.2
def gzS (S : Nat → Nat × Nat) : Nat → Nat
  | 0 => 0
  | n + 1 => gzS S n + (S n).2
def gz (K : Kt) : Nat := gzS (kS K) (kN K)
theorem gzS_congr {S S' : Nat → Nat × Nat} : ∀ n, (∀ a, a < n → S' a = S a) → gzS S' n = gzS S n
  | 0, _ => rfl
  | n + 1, h => by
    show gzS S' n + (S' n).2 = gzS S n + (S n).2
    rw [gzS_congr n (fun a ha => h a (Nat.lt_succ_of_lt ha)), h n (Nat.lt_succ_self n)]
theorem gz_new {K : Kt} {sh : Nat × Nat} : gz (kNew K sh) = gz K + sh.2 := by
  show gzS (u1 K.2.1 K.1 sh) K.1 + (u1 K.2.1 K.1 sh K.1).2 = gzS K.2.1 K.1 + sh.2
  rw [gzS_congr K.1 (fun a ha => u1_n (by omega)), u1_s]
def Gm (K K9 : Kt) : Prop := kN K ≤ kN K9 ∧ gz K ≤ gz K9
theorem Gm.refl {K : Kt} : Gm K K := ⟨Nat.le_refl _, Nat.le_refl _⟩
/-- the old cells stay, but for the builder's reference -/
def Gw (K K' : Kt) : Prop := kN K ≤ kN K' ∧ (∀ a, a < kN K → kS K' a = kS K a) ∧ ∀ a j, a < kN K → (kS K a).1 ≠ 0 → kG K' a j = kG K a j
theorem Gw.refl {K : Kt} : Gw K K := ⟨Nat.le_refl _, fun _ _ => rfl, fun _ _ _ _ => rfl⟩
theorem Gw.trans {K K1 K2 : Kt} (h : Gw K K1) (h2 : Gw K1 K2) : Gw K K2 :=
  ⟨Nat.le_trans h.1 h2.1, fun a ha => (h2.2.1 a (Nat.lt_of_lt_of_le ha h.1)).trans (h.2.1 a ha), fun a j ha hc => (h2.2.2 a j (Nat.lt_of_lt_of_le ha h.1) (by rw [h.2.1 a ha]; exact hc)).trans (h.2.2 a j ha hc)⟩
section GW
variable {K K' : Kt}
theorem LO.gw {ci a : Nat} (h : LO K ci a) (g : Gw K K') : LO K' ci a := ⟨by rw [g.2.1 a h.2]; exact h.1, Nat.lt_of_lt_of_le h.2 g.1⟩
theorem LA.gw {ci n a : Nat} (h : LA K ci n a) (g : Gw K K') : LA K' ci n a := ⟨by rw [g.2.1 a h.2]; exact h.1, Nat.lt_of_lt_of_le h.2 g.1⟩
theorem LO.gg {ci a j r : Nat} (h : LO K ci a) (g : Gw K K') (hc : ci ≠ 0) (hg : kG K a j = some r) : kG K' a j = some r := by rw [g.2.2 a j h.2 (by rw [h.1]; exact hc)]; exact hg
theorem LA.gg {ci n a j r : Nat} (h : LA K ci n a) (g : Gw K K') (hc : ci ≠ 0) (hg : kG K a j = some r) : kG K' a j = some r := by rw [g.2.2 a j h.2 (by rw [h.1]; exact hc)]; exact hg
theorem LM.gw {q : Nat} (h : LM K q) (g : Gw K K') : LM K' q :=
  ⟨⟨h.o.gw g, h.o.gg g (by decide) h.g0, h.o.gg g (by decide) h.g1, h.o.gg g (by decide) h.g2⟩, ⟨h.l0.gw g, h.l1.gw g, h.l2.gw g⟩, fun i hi => ⟨h.l0.gg g (by decide) (h.p hi), (h.po hi).gw g⟩, fun i hi => ⟨h.l1.gg g (by decide) (h.s hi), (h.so hi).gw g⟩, fun i hi => ⟨h.l2.gg g (by decide) (h.w hi), (h.wo hi).gw g⟩⟩
theorem LT.gw {t : Nat} (h : LT K t) (g : Gw K K') : LT K' t := ⟨h.o.gw g, h.o.gg g (by decide) h.g0, h.l0.gw g⟩
theorem LR.gw {r : Nat} (h : LR K r) (g : Gw K K') : LR K' r := ⟨⟨h.o.gw g, h.o.gg g (by decide) h.g0, h.o.gg g (by decide) h.g1, h.o.gg g (by decide) h.g4, h.o.gg g (by decide) h.g5⟩, ⟨h.t.gw g, h.q.gw g⟩, h.l4.gw g, h.l5.gw g⟩
theorem LW.gw {w : Nat} (h : LW K w) (g : Gw K K') : LW K' w :=
  ⟨⟨⟨h.o.gw g, h.o.gg g (by decide) h.g0⟩, ⟨h.o.gg g (by decide) h.g1, h.o.gg g (by decide) h.g2, h.o.gg g (by decide) h.g3⟩, h.o.gg g (by decide) h.g4, h.o.gg g (by decide) h.g5, h.o.gg g (by decide) h.g6⟩, ⟨⟨h.r.gw g, h.q.gw g⟩, h.f.gw g, h.l3.gw g, h.l4.gw g, h.l5.gw g⟩, fun i hi => ⟨h.l3.gg g (by decide) (h.h hi), (h.hq hi).gw g⟩, fun i hi => ⟨h.l4.gg g (by decide) (h.v hi), (h.vq hi).gw g⟩⟩
theorem MK.gw {m : Nat} (h : MK K m) (g : Gw K K') : MK K' m :=
  ⟨⟨Nat.le_trans h.1.1 g.1, by rw [g.2.1 m h.a]; exact h.s⟩, ⟨⟨h.o.gg g (by decide) h.g1, h.o.gg g (by decide) h.g2⟩, ⟨h.o.gg g (by decide) h.g3, h.o.gg g (by decide) h.g4⟩, ⟨h.o.gg g (by decide) h.g5, h.o.gg g (by decide) h.g6⟩, h.o.gg g (by decide) h.g7⟩, ⟨(h.l1.gw g).1, (h.l2.gw g).1⟩, ⟨(h.l3.gw g).1, (h.l4.gw g).1⟩, ⟨(h.l5.gw g).1, (h.l6.gw g).1⟩, (h.l7.gw g).1⟩
end GW
/-- what is asked of the heap behind a growth -/
noncomputable def ckG (K K' : Kt) (b : Nat) : Option Unit := @ite _ (Gw K K' ∧ LSb K' b) (Classical.propDecidable _) (some ()) none
theorem ckG_s {K K' : Kt} {b : Nat} {u : Unit} (h : ckG K K' b = some u) : Gw K K' ∧ LSb K' b := by
  unfold ckG at h
  split at h
  · assumption
  · cases h
theorem ckG_n {K K' : Kt} {b : Nat} (h : Gw K K' ∧ LSb K' b) : ckG K K' b = some () := if_pos h
def pK (K : Kt) (b r : Nat) : Option Kt := some (kSetG K (u2 (kG K) b 0 (some r)))
/-- the judgement with what is made on the way -/
def XG (M : MD) (cc : ByteArray) (x6 y6 : Nat) (K9 : Kt) (I : Mem) (K : Kt) (pc : Nat) (L st : List Value) (Q : Rs → Mem → Kt → Prop) (Γ : (Nat → Nat) → (Nat → Prop) → State → Array Value → Prop := fun _ _ _ _ => True) : Prop :=
  Gm K K9 ∧ X M cc (x6 + (kN K9 - kN K)) (y6 + (gz K9 - gz K)) I K pc L st Q Γ
def CtG (M : MD) (cc : ByteArray) (x6 y6 : Nat) (K9 : Kt) (As : List Value) (I : Mem) (K : Kt) (Q : Rs → Mem → Kt → Prop) : Prop :=
  Gm K K9 ∧ Ct M cc (x6 + (kN K9 - kN K)) (y6 + (gz K9 - gz K)) As I K Q
section XGs
variable {Γ : (Nat → Nat) → (Nat → Prop) → State → Array Value → Prop} {M : MD} {cc : ByteArray} {x6 y6 : Nat} {I I1 : Mem} {K K1 K9 : Kt} {pc : Nat} {L st : List Value} {Q : Rs → Mem → Kt → Prop}
theorem CtG.of {As : List Value} (hh : M.2.2.2.1 = []) (hy : plainName M.1.cls = true) (hcat : ∀ v ∈ As, v.category = 1) (hlen : As.length ≤ M.2.1) (h : XG M cc x6 y6 K9 I K 0 (As ++ List.replicate (M.2.1 - As.length) (.retAddr 0)) [] Q) : CtG M cc x6 y6 K9 As I K Q := ⟨h.1, Ct.of hh hy hcat hlen h.2⟩
theorem XG.l {pc' : Nat} {L' st' : List Value} (rule : X M cc (x6 + (kN K9 - kN K)) (y6 + (gz K9 - gz K)) I1 K pc' L' st' Q Γ → X M cc (x6 + (kN K9 - kN K)) (y6 + (gz K9 - gz K)) I K pc L st Q Γ) (k : XG M cc x6 y6 K9 I1 K pc' L' st' Q Γ) : XG M cc x6 y6 K9 I K pc L st Q Γ := ⟨k.1, rule k.2⟩
theorem XG.z (h : X M cc x6 y6 I K pc L st Q Γ) : XG M cc x6 y6 K I K pc L st Q Γ := ⟨Gm.refl, h.less (by omega) (by omega)⟩
theorem XG.e2 {v v' : Value} (e : v = v') (k : XG M cc x6 y6 K9 I K pc L (v' :: st) Q Γ) : XG M cc x6 y6 K9 I K pc L (v :: st) Q Γ := by rw [e]; exact k
theorem XG.forget {L' : List Value} (h : Lw L L') (k : XG M cc x6 y6 K9 I K pc L' st Q Γ) : XG M cc x6 y6 K9 I K pc L st Q Γ := ⟨k.1, X.forget h k.2⟩
/-- a call that may grow -/
theorem XG.V0 {ix n : Nat} {M' : MD} {cc' : ByteArray} (As rest : List Value) {b ci : Nat} {T : u_T} {N : Nat} (S : CsV M.1.cls ix M' cc' n) (hci : cls[ci]? = some (M'.1.cls, T, N)) (H : LO K ci b) (hdep : M'.2.2.2.2 + 1 ≤ M.2.2.2.2 ∧ 8 + (M'.2.1 + 11) + 40 * M'.2.2.2.2 ≤ 40 * M.2.2.2.2) (hd : decode cc pc = .ok (.invokevirtual ix, 3)) (hn : As.length = n) (hst : st = As.reverse ++ .ref b :: rest) (hW : (rest.map fun v => v.category).sum ≤ 8)
    (hcon : CtG M' cc' 0 0 K1 (.ref b :: As) I K (Ro (.inl none) I1 K1)) (k9 : XG M cc x6 y6 K9 I1 K1 (pc + 3) L rest Q Γ) : XG M cc x6 y6 K9 I K pc L st Q Γ :=
  ⟨⟨Nat.le_trans hcon.1.1 k9.1.1, Nat.le_trans hcon.1.2 k9.1.2⟩, (y_callV0 S hci H.1 H.2 hn hst hW hdep hd hcon.2 k9.2).less (by have := hcon.1.1; have := k9.1.1; omega) (by have := hcon.1.2; have := k9.1.2; omega)⟩
theorem XG.V1 {ix n : Nat} {M' : MD} {cc' : ByteArray} (As rest : List Value) {b ci : Nat} {T : u_T} {N : Nat} {w : Value} (S : CsV M.1.cls ix M' cc' n) (hci : cls[ci]? = some (M'.1.cls, T, N)) (H : LO K ci b) (hdep : M'.2.2.2.2 + 1 ≤ M.2.2.2.2 ∧ 8 + (M'.2.1 + 11) + 40 * M'.2.2.2.2 ≤ 40 * M.2.2.2.2) (hd : decode cc pc = .ok (.invokevirtual ix, 3)) (hn : As.length = n) (hst : st = As.reverse ++ .ref b :: rest) (hW : (rest.map fun v => v.category).sum ≤ 8)
    (hcon : CtG M' cc' 0 0 K1 (.ref b :: As) I K (Ro (.inl (some w)) I1 K1)) (k9 : XG M cc x6 y6 K9 I1 K1 (pc + 3) L (w :: rest) Q Γ) : XG M cc x6 y6 K9 I K pc L st Q Γ :=
  ⟨⟨Nat.le_trans hcon.1.1 k9.1.1, Nat.le_trans hcon.1.2 k9.1.2⟩, (y_callV1 S hci H.1 H.2 hn hst hW hdep hd hcon.2 k9.2).less (by have := hcon.1.1; have := k9.1.1; omega) (by have := hcon.1.2; have := k9.1.2; omega)⟩
theorem ro_no {r : Option Value} {I1 : Mem} {K1 : Kt} : ∀ E I' K', ¬ Ro (.inl r) I1 K1 (.inr E) I' K' := fun E I' K' h => by cases h.1
/-- the same on another class's receiver, of methods that never throw -/
theorem z_VC {ix n bc bs a6 b6 : Nat} {C : String} {M' : MD} {cc' : ByteArray} (As rest : List Value) {b ci : Nat} {T : u_T} {N : Nat} {r : Option Value} (S : CsVC M.1.cls ix C M' cc' n) (hci : cls[ci]? = some (C, T, N)) (H : LO K ci b) (hdep : M'.2.2.2.2 + 1 ≤ M.2.2.2.2 ∧ 8 + (M'.2.1 + 11) + 40 * M'.2.2.2.2 ≤ 40 * M.2.2.2.2) (hd : decode cc pc = .ok (.invokevirtual ix, 3)) (hn : As.length = n) (hst : st = As.reverse ++ .ref b :: rest) (hW : (rest.map fun v => v.category).sum ≤ 8)
    (hcon : Ct M' cc' a6 b6 (.ref b :: As) I K (Ro (.inl r) I1 K1)) (k9 : X M cc bc bs I1 K1 (pc + 3) L (r.toList ++ rest) Q Γ) : X M cc (a6 + bc) (b6 + bs) I K pc L st Q Γ :=
  x_callVC S hci H.1 H.2 hn hst hW hdep hd hcon ro_no (fun r' I' K' _ h => by obtain ⟨e, rfl, rfl⟩ := h; cases e; exact k9)
theorem z_SU {ix n bc bs a6 b6 : Nat} {C : String} {M' : MD} {cc' : ByteArray} (As rest : List Value) {b ci : Nat} {T : u_T} {N : Nat} {r : Option Value} (S : CsSU M.1.cls ix M' cc' n) (hci : cls[ci]? = some (C, T, N)) (H : LO K ci b) (hdep : M'.2.2.2.2 + 1 ≤ M.2.2.2.2 ∧ 8 + (M'.2.1 + 11) + 40 * M'.2.2.2.2 ≤ 40 * M.2.2.2.2) (hd : decode cc pc = .ok (.invokespecial ix, 3)) (hn : As.length = n) (hst : st = As.reverse ++ .ref b :: rest) (hW : (rest.map fun v => v.category).sum ≤ 8)
    (hcon : Ct M' cc' a6 b6 (.ref b :: As) I K (Ro (.inl r) I1 K1)) (k9 : X M cc bc bs I1 K1 (pc + 3) L (r.toList ++ rest) Q Γ) : X M cc (a6 + bc) (b6 + bs) I K pc L st Q Γ :=
  x_callSU S hci H.1 H.2 hn hst hW hdep hd hcon ro_no (fun r' I' K' _ h => by obtain ⟨e, rfl, rfl⟩ := h; cases e; exact k9)
theorem z_VC0 {ix n bc bs : Nat} {C : String} {M' : MD} {cc' : ByteArray} (As rest : List Value) {b ci : Nat} {T : u_T} {N : Nat} {r : Option Value} (S : CsVC M.1.cls ix C M' cc' n) (hci : cls[ci]? = some (C, T, N)) (H : LO K ci b) (hdep : M'.2.2.2.2 + 1 ≤ M.2.2.2.2 ∧ 8 + (M'.2.1 + 11) + 40 * M'.2.2.2.2 ≤ 40 * M.2.2.2.2) (hd : decode cc pc = .ok (.invokevirtual ix, 3)) (hn : As.length = n) (hst : st = As.reverse ++ .ref b :: rest) (hW : (rest.map fun v => v.category).sum ≤ 8)
    (hcon : Ct M' cc' 0 0 (.ref b :: As) I K (Ro (.inl r) I1 K1)) (k9 : X M cc bc bs I1 K1 (pc + 3) L (r.toList ++ rest) Q Γ) : X M cc bc bs I K pc L st Q Γ := (z_VC As rest S hci H hdep hd hn hst hW hcon k9).less le0 le0
theorem z_SU0 {ix n bc bs : Nat} {C : String} {M' : MD} {cc' : ByteArray} (As rest : List Value) {b ci : Nat} {T : u_T} {N : Nat} {r : Option Value} (S : CsSU M.1.cls ix M' cc' n) (hci : cls[ci]? = some (C, T, N)) (H : LO K ci b) (hdep : M'.2.2.2.2 + 1 ≤ M.2.2.2.2 ∧ 8 + (M'.2.1 + 11) + 40 * M'.2.2.2.2 ≤ 40 * M.2.2.2.2) (hd : decode cc pc = .ok (.invokespecial ix, 3)) (hn : As.length = n) (hst : st = As.reverse ++ .ref b :: rest) (hW : (rest.map fun v => v.category).sum ≤ 8)
    (hcon : Ct M' cc' 0 0 (.ref b :: As) I K (Ro (.inl r) I1 K1)) (k9 : X M cc bc bs I1 K1 (pc + 3) L (r.toList ++ rest) Q Γ) : X M cc bc bs I K pc L st Q Γ := (z_SU As rest S hci H hdep hd hn hst hW hcon k9).less le0 le0
theorem XG.VC {ix n : Nat} {C : String} {M' : MD} {cc' : ByteArray} (As rest : List Value) {b ci : Nat} {T : u_T} {N : Nat} {r : Option Value} (S : CsVC M.1.cls ix C M' cc' n) (hci : cls[ci]? = some (C, T, N)) (H : LO K ci b) (hdep : M'.2.2.2.2 + 1 ≤ M.2.2.2.2 ∧ 8 + (M'.2.1 + 11) + 40 * M'.2.2.2.2 ≤ 40 * M.2.2.2.2) (hd : decode cc pc = .ok (.invokevirtual ix, 3)) (hn : As.length = n) (hst : st = As.reverse ++ .ref b :: rest) (hW : (rest.map fun v => v.category).sum ≤ 8)
    (hcon : CtG M' cc' 0 0 K1 (.ref b :: As) I K (Ro (.inl r) I1 K1)) (k9 : XG M cc x6 y6 K9 I1 K1 (pc + 3) L (r.toList ++ rest) Q Γ) : XG M cc x6 y6 K9 I K pc L st Q Γ :=
  ⟨⟨Nat.le_trans hcon.1.1 k9.1.1, Nat.le_trans hcon.1.2 k9.1.2⟩, (z_VC As rest S hci H hdep hd hn hst hW hcon.2 k9.2).less (by have := hcon.1.1; have := k9.1.1; omega) (by have := hcon.1.2; have := k9.1.2; omega)⟩
theorem XG.SU {ix n : Nat} {C : String} {M' : MD} {cc' : ByteArray} (As rest : List Value) {b ci : Nat} {T : u_T} {N : Nat} {r : Option Value} (S : CsSU M.1.cls ix M' cc' n) (hci : cls[ci]? = some (C, T, N)) (H : LO K ci b) (hdep : M'.2.2.2.2 + 1 ≤ M.2.2.2.2 ∧ 8 + (M'.2.1 + 11) + 40 * M'.2.2.2.2 ≤ 40 * M.2.2.2.2) (hd : decode cc pc = .ok (.invokespecial ix, 3)) (hn : As.length = n) (hst : st = As.reverse ++ .ref b :: rest) (hW : (rest.map fun v => v.category).sum ≤ 8)
    (hcon : CtG M' cc' 0 0 K1 (.ref b :: As) I K (Ro (.inl r) I1 K1)) (k9 : XG M cc x6 y6 K9 I1 K1 (pc + 3) L (r.toList ++ rest) Q Γ) : XG M cc x6 y6 K9 I K pc L st Q Γ :=
  ⟨⟨Nat.le_trans hcon.1.1 k9.1.1, Nat.le_trans hcon.1.2 k9.1.2⟩, (z_SU As rest S hci H hdep hd hn hst hW hcon.2 k9.2).less (by have := hcon.1.1; have := k9.1.1; omega) (by have := hcon.1.2; have := k9.1.2; omega)⟩
theorem XG.S1 {ix n : Nat} {M' : MD} {cc' : ByteArray} (As rest : List Value) {w : Value} (S : CsS M.1.cls ix M' cc' n) (hdep : M'.2.2.2.2 + 1 ≤ M.2.2.2.2 ∧ 8 + (M'.2.1 + 11) + 40 * M'.2.2.2.2 ≤ 40 * M.2.2.2.2) (hd : decode cc pc = .ok (.invokestatic ix, 3)) (hn : As.length = n) (hst : st = As.reverse ++ rest) (hW : (rest.map fun v => v.category).sum ≤ 8)
    (hcon : CtG M' cc' 0 0 K1 As I K (Ro (.inl (some w)) I1 K1)) (k9 : XG M cc x6 y6 K9 I1 K1 (pc + 3) L (w :: rest) Q Γ) : XG M cc x6 y6 K9 I K pc L st Q Γ :=
  ⟨⟨Nat.le_trans hcon.1.1 k9.1.1, Nat.le_trans hcon.1.2 k9.1.2⟩, (y_callS1 S hn hst hW hdep hd hcon.2 k9.2).less (by have := hcon.1.1; have := k9.1.1; omega) (by have := hcon.1.2; have := k9.1.2; omega)⟩
/-- the builder's array is put in its place -/
theorem XG.putV {ix a r : Nat} (F : Fs M.1.cls ix 0 0 true false (.array .byte)) (H : LO K 0 a) (hp : pK K a r = some K1) (hd : decode cc pc = .ok (.putfield ix, 3)) (kk : XG M cc x6 y6 K9 I K1 (pc + 3) L st Q Γ) : XG M cc x6 y6 K9 I K pc L (.ref r :: .ref a :: st) Q Γ := by
  cases hp
  exact ⟨kk.1, x_putR F (fun h => by cases h) H.1 H.2 (fun q => ⟨rfl, rfl⟩) hd kk.2⟩
end XGs
section XCp
variable {Γ : (Nat → Nat) → (Nat → Prop) → State → Array Value → Prop} {M : MD} {cc : ByteArray} {bc bs : Nat} {I : Mem} {K : Kt} {pc : Nat} {L st : List Value} {Q : Rs → Mem → Kt → Prop}
theorem x_copyB {ix v a n1 n2 m1 : Nat} (h1 : Cond.methodLink M.1.cls ix arraycopyName ∈ wsG) (h2 : Cond.native arraycopyName ∈ wsG) (h3 : Cond.static arraycopyName ∈ wsG) (h4 : Cond.initialized "java/lang/System" ∈ wsG) (H1 : LA K 101 n1 v) (H2 : LA K 101 n2 a) (hm1 : m1 ≤ n1) (hm2 : m1 ≤ n2) (hlt : m1 < 2147483648) (hfit : ∀ i, i < m1 → fits .byte (.int (I v i)) = true) (hdep : 1 ≤ M.2.2.2.2) (hW : (st.map fun v => v.category).sum ≤ 8) (hd : decode cc pc = .ok (.invokestatic ix, 3))
    (kk : X M cc bc bs (u1 I a (va_cpy (I v) (I a) 0 0 m1)) K (pc + 3) L st Q Γ) : X M cc bc bs I K pc L (.int (nI m1) :: .int 0 :: .ref a :: .int 0 :: .ref v :: st) Q Γ := by
  intro p l e s m args below meth c mc ms D cA A ad0 n0 hC hE hΓ ad H locs cells slots ls hR hc hs hL hvL hvS
  obtain ⟨r1, r2, r3, r4, r5, r6, r7, r8⟩ := hR
  have ht := hC.2.2.2.2.2.1
  have hls : c.maxLocals = ls.size := by
    obtain ⟨k0, lv, k1, -⟩ := hL
    rw [hC.2.2.2.1]
    exact k1.1.symm
  have hW9 : ((st.map (cv ad)).map fun v => v.category).sum ≤ 8 := by
    rw [List.map_map, show ((fun v : Value => v.category) ∘ cv ad) = (fun v => v.category) from funext fun v => cv_cat ad v]
    exact hW
  have hnw : nativeFrameWords "java/lang/System" "arraycopy" 5 + 11 ≤ 2000 := by decide
  have e0 : (0 : Int32).toNatClampNeg = 0 := rfl
  have e1 : (nI m1).toNatClampNeg = m1 := nI_clamp hlt
  refine va_copyi (ty := .byte) hC.1 hC.2.1 hls hC.2.2.2.2.1 (ht _ h1) (ht _ h2) (ht _ h3) (ht _ h4) r1 r2 r3 r4 v a 1 1 (wl_get H1.2 |>.trans (by rw [ce_ints H1.1 (by decide) (by decide)])) (wl_get H2.2 |>.trans (by rw [ce_ints H2.1 (by decide) (by decide)])) rfl rfl rfl (sp := 0) (dp := 0) (n := nI m1) (by decide) (by decide) (nI_pos hlt) (by rw [e0, e1]; omega) (by rw [e0, e1]; omega) (by rw [e0, e1]; exact fun i hi => by rw [Nat.zero_add]; exact hfit i hi) hdep (Nat.le_trans (Nat.add_le_add hW9 hnw) (by show 8 + 2000 ≤ 40 * M.2.2.2.2 + 2080; omega)) hd fun H1' locs1 p1 p2 p3 => ?_
  rw [e0, e1, show (wl cA ad I K).set a (ad a, Sum.inl (cA 101, n2, .inl (va_cpy (I v) (I a) 0 0 m1))) = wl cA ad (u1 I a (va_cpy (I v) (I a) 0 0 m1)) K from wl_set rfl (by rw [ce_ints H2.1 (by decide) (by decide), u1_s]) (fun b hb9 => ce_congr rfl (u1_n hb9) rfl rfl rfl)] at p1 p2
  exact kk p l e s m args below meth c mc ms D cA A ad0 n0 hC hE hΓ ad H1' locs1 cells slots ls ⟨r1, p1, p2, p3, r5, r6, r7, r8⟩ hc hs hL hvL (fun w hw => hvS w (List.mem_cons_of_mem _ (List.mem_cons_of_mem _ (List.mem_cons_of_mem _ (List.mem_cons_of_mem _ (List.mem_cons_of_mem _ hw))))))
/-- the digits' tables -/
theorem x_gsTens {ix : Nat} (hl : Cond.fieldLink M.1.cls ix "java/lang/Integer" "DigitTens" "[B" ∈ wsG) (hd : decode cc pc = .ok (.getstatic ix, 3)) (kk : X M cc bc bs I K (pc + 3) L (.ref (xE 40) :: st) Q Γ) : X M cc bc bs I K pc L st Q Γ := by
  refine X.fo kk (fun n => Or.inr (xE_ge _)) (fun n h => h) fun ad ad0 => fun hx hb ho ht hE hS ha k9 => ?_
  refine va_gets hx hb hE.1.2.2.2.2.2.1.1 hS ho (ht _ hl) (fun _ h => h) hd ?_
  have e2 : ad (xE 40) = ad0 (xE 40) := ha 40
  dsimp only
  rw [← e2]
  exact k9
theorem x_gsOnes {ix : Nat} (hl : Cond.fieldLink M.1.cls ix "java/lang/Integer" "DigitOnes" "[B" ∈ wsG) (hd : decode cc pc = .ok (.getstatic ix, 3)) (kk : X M cc bc bs I K (pc + 3) L (.ref (xE 41) :: st) Q Γ) : X M cc bc bs I K pc L st Q Γ := by
  refine X.fo kk (fun n => Or.inr (xE_ge _)) (fun n h => h) fun ad ad0 => fun hx hb ho ht hE hS ha k9 => ?_
  refine va_gets hx hb hE.1.2.2.2.2.2.2.1.1 hS ho (ht _ hl) (fun _ h => h) hd ?_
  have e2 : ad (xE 41) = ad0 (xE 41) := ha 41
  dsimp only
  rw [← e2]
  exact k9
theorem x_tens {j : Nat} {x : Int32} (hj : ix x 100 = some j) (hd : decode cc pc = .ok (.baload, 1)) (kk : X M cc bc bs I K (pc + 1) L (.int (nI (48 + j / 10)) :: st) Q Γ) : X M cc bc bs I K pc L (.int x :: .ref (xE 40) :: st) Q Γ := by
  obtain ⟨rfl, h1, h2⟩ := ix_s hj
  refine X.fo kk (fun n => trivial) (fun n h => (List.forall_mem_cons.mp (List.forall_mem_cons.mp h).2).2) fun ad ad0 => fun hx hb ho ht hE hS ha k9 => ?_
  have e2 : ad (xE 40) = ad0 (xE 40) := ha 40
  show W _ _ _ _ _ _ _ _ _ _ _ _ _ _ _ (F0 _ pc _ (.int (nI j) :: .ref (ad (xE 40)) :: _))
  rw [e2]
  exact va_tb hx hb hE.1.2.2.2.2.2.1.2 hS (vp_in_nI h1 h2) (by show tensT (nI j).toNatClampNeg = _; rw [nI_clamp (by omega)]; rfl) hd k9
theorem x_ones {j : Nat} {x : Int32} (hj : ix x 100 = some j) (hd : decode cc pc = .ok (.baload, 1)) (kk : X M cc bc bs I K (pc + 1) L (.int (nI (48 + j % 10)) :: st) Q Γ) : X M cc bc bs I K pc L (.int x :: .ref (xE 41) :: st) Q Γ := by
  obtain ⟨rfl, h1, h2⟩ := ix_s hj
  refine X.fo kk (fun n => trivial) (fun n h => (List.forall_mem_cons.mp (List.forall_mem_cons.mp h).2).2) fun ad ad0 => fun hx hb ho ht hE hS ha k9 => ?_
  have e2 : ad (xE 41) = ad0 (xE 41) := ha 41
  show W _ _ _ _ _ _ _ _ _ _ _ _ _ _ _ (F0 _ pc _ (.int (nI j) :: .ref (ad (xE 41)) :: _))
  rw [e2]
  exact va_tb hx hb hE.1.2.2.2.2.2.2.1.2 hS (vp_in_nI h1 h2) (by show onesT (nI j).toNatClampNeg = _; rw [nI_clamp (by omega)]; rfl) hd k9
end XCp
