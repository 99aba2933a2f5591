/-- a result o, a heap I1, K1, nothing else -/
def Ro (o : Rs) (I1 : Mem) (K1 : Kt) : Rs → Mem → Kt → Prop := fun r I K => r = o ∧ I = I1 ∧ K = K1
theorem Ro.i {E S : Int32} {I I1 : Mem} {K K1 : Kt} (h : E = S) (hI : I = I1) (hK : K = K1) : Ro (.inl (some (.int S))) I1 K1 (.inl (some (.int E))) I K := ⟨by rw [h], hI, hK⟩
theorem Ro.v {I I1 : Mem} {K K1 : Kt} (hI : I = I1) (hK : K = K1) : Ro (.inl none) I1 K1 (.inl none) I K := ⟨rfl, hI, hK⟩
theorem Ro.r {E S : Nat} {I I1 : Mem} {K K1 : Kt} (h : E = S) (hI : I = I1) (hK : K = K1) : Ro (.inl (some (.ref S))) I1 K1 (.inl (some (.ref E))) I K := ⟨by rw [h], hI, hK⟩
theorem Ro.e {E S : String} {I I1 : Mem} {K K1 : Kt} (h : E = S) (hI : I = I1) (hK : K = K1) : Ro (.inr S) I1 K1 (.inr E) I K := ⟨by rw [h], hI, hK⟩
/-- true as 1 -/
def bI (p : Prop) [Decidable p] : Int32 := if p then 1 else 0
theorem bI_t {p : Prop} [Decidable p] (h : p) : bI p = 1 := if_pos h
theorem bI_f {p : Prop} [Decidable p] (h : ¬ p) : bI p = 0 := if_neg h
section XN
variable {Γ : (Nat → Nat) → (Nat → Prop) → State → Array Value → Prop} {M : MD} {cc : ByteArray} {bc bs : Nat} {I : Mem} {K : Kt} {pc : Nat} {L st : List Value} {Q : Rs → Mem → Kt → Prop}
theorem X.e2 {v w : Value} (h : v = w) (k : X M cc bc bs I K pc L (w :: st) Q Γ) : X M cc bc bs I K pc L (v :: st) Q Γ := h ▸ k
theorem x_iaddN {a b : Nat} (hd : decode cc pc = .ok (.iadd, 1)) (k : X M cc bc bs I K (pc + 1) L (.int (nI (a + b)) :: st) Q Γ) : X M cc bc bs I K pc L (.int (nI b) :: .int (nI a) :: st) Q Γ := x_iadd hd (by rw [nI_add]; exact k)
theorem x_imulN {a b : Nat} (hd : decode cc pc = .ok (.imul, 1)) (k : X M cc bc bs I K (pc + 1) L (.int (nI (a * b)) :: st) Q Γ) : X M cc bc bs I K pc L (.int (nI b) :: .int (nI a) :: st) Q Γ := x_imul hd (by rw [pk_mul]; exact k)
theorem x_isubN {a b : Nat} (h : b ≤ a) (hd : decode cc pc = .ok (.isub, 1)) (k : X M cc bc bs I K (pc + 1) L (.int (nI (a - b)) :: st) Q Γ) : X M cc bc bs I K pc L (.int (nI b) :: .int (nI a) :: st) Q Γ := x_isub hd (by rw [pk_sub h]; exact k)
theorem x_iincN {i a d : Nat} (hd : decode cc pc = .ok (.iinc i (d : Int), 3)) (hL : L[i]? = some (.int (nI a))) (h2 : c2 L i = true) {L' : List Value} (hl : L.set i (.int (nI (a + d))) = L') (k : X M cc bc bs I K (pc + 3) L' st Q Γ) : X M cc bc bs I K pc L st Q Γ :=
  x_iinc hd hL h2 (by rw [show nI a + Int32.ofInt (d : Int) = nI (a + d) from by rw [show Int32.ofInt (d : Int) = nI d from Int32.ofInt_eq_ofNat]; exact nI_add a d]; exact hl) k
theorem x_if_eqN {a : Nat} {off : Int} (tgt : Nat) (ha : a < 2147483648) (hd : decode cc pc = .ok (.ifCond .eq off, 3)) (ht : (pc : Int) + off = (tgt : Int)) (kt : a = 0 → X M cc bc bs I K tgt L st Q Γ) (kf : ¬ a = 0 → X M cc bc bs I K (pc + 3) L st Q Γ) : X M cc bc bs I K pc L (.int (nI a) :: st) Q Γ :=
  x_if_eq tgt hd ht (fun h => kt ((nI_eq ha (by decide)).mp h)) (fun h => kf (fun z => h (by rw [z]; rfl)))
theorem x_if_neN {a : Nat} {off : Int} (tgt : Nat) (ha : a < 2147483648) (hd : decode cc pc = .ok (.ifCond .ne off, 3)) (ht : (pc : Int) + off = (tgt : Int)) (kt : ¬ a = 0 → X M cc bc bs I K tgt L st Q Γ) (kf : a = 0 → X M cc bc bs I K (pc + 3) L st Q Γ) : X M cc bc bs I K pc L (.int (nI a) :: st) Q Γ :=
  x_if_ne tgt hd ht (fun h => kt (fun z => h (by rw [z]; rfl))) (fun h => kf ((nI_eq ha (by decide)).mp h))
theorem x_if_gtN {a : Nat} {off : Int} (tgt : Nat) (ha : a < 2147483648) (hd : decode cc pc = .ok (.ifCond .gt off, 3)) (ht : (pc : Int) + off = (tgt : Int)) (kt : 0 < a → X M cc bc bs I K tgt L st Q Γ) (kf : a = 0 → X M cc bc bs I K (pc + 3) L st Q Γ) : X M cc bc bs I K pc L (.int (nI a) :: st) Q Γ :=
  x_if_gt tgt hd ht (fun h => kt ((nI_ltI (a := 0) (by decide) ha).mp h)) (fun h => kf (by have : ¬ 0 < a := mt (nI_ltI (a := 0) (by decide) ha).mpr h; omega))
theorem x_if_leN {a : Nat} {off : Int} (tgt : Nat) (ha : a < 2147483648) (hd : decode cc pc = .ok (.ifCond .le off, 3)) (ht : (pc : Int) + off = (tgt : Int)) (kt : a = 0 → X M cc bc bs I K tgt L st Q Γ) (kf : 0 < a → X M cc bc bs I K (pc + 3) L st Q Γ) : X M cc bc bs I K pc L (.int (nI a) :: st) Q Γ :=
  x_if_le tgt hd ht (fun h => kt (by have : a ≤ 0 := (nI_leI (b := 0) ha (by decide)).mp h; omega)) (fun h => kf (by have : ¬ a ≤ 0 := mt (nI_leI (b := 0) ha (by decide)).mpr h; omega))
theorem x_icmp_eqN {a b : Nat} {off : Int} (tgt : Nat) (ha : a < 2147483648 ∧ b < 2147483648) (hd : decode cc pc = .ok (.if_icmp .eq off, 3)) (ht : (pc : Int) + off = (tgt : Int)) (kt : a = b → X M cc bc bs I K tgt L st Q Γ) (kf : ¬ a = b → X M cc bc bs I K (pc + 3) L st Q Γ) : X M cc bc bs I K pc L (.int (nI b) :: .int (nI a) :: st) Q Γ :=
  x_icmp_eq tgt hd ht (fun h => kt ((nI_eq ha.1 ha.2).mp h)) (fun h => kf (fun z => h (by rw [z])))
theorem x_icmp_neN {a b : Nat} {off : Int} (tgt : Nat) (ha : a < 2147483648 ∧ b < 2147483648) (hd : decode cc pc = .ok (.if_icmp .ne off, 3)) (ht : (pc : Int) + off = (tgt : Int)) (kt : ¬ a = b → X M cc bc bs I K tgt L st Q Γ) (kf : a = b → X M cc bc bs I K (pc + 3) L st Q Γ) : X M cc bc bs I K pc L (.int (nI b) :: .int (nI a) :: st) Q Γ :=
  x_icmp_ne tgt hd ht (fun h => kt (fun z => h (by rw [z]))) (fun h => kf ((nI_eq ha.1 ha.2).mp h))
theorem x_icmp_ltN {a b : Nat} {off : Int} (tgt : Nat) (ha : a < 2147483648 ∧ b < 2147483648) (hd : decode cc pc = .ok (.if_icmp .lt off, 3)) (ht : (pc : Int) + off = (tgt : Int)) (kt : a < b → X M cc bc bs I K tgt L st Q Γ) (kf : b ≤ a → X M cc bc bs I K (pc + 3) L st Q Γ) : X M cc bc bs I K pc L (.int (nI b) :: .int (nI a) :: st) Q Γ :=
  x_icmp_lt tgt hd ht (fun h => kt ((nI_ltI ha.1 ha.2).mp h)) (fun h => kf (Nat.not_lt.mp (mt (nI_ltI ha.1 ha.2).mpr h)))
theorem x_icmp_geN {a b : Nat} {off : Int} (tgt : Nat) (ha : a < 2147483648 ∧ b < 2147483648) (hd : decode cc pc = .ok (.if_icmp .ge off, 3)) (ht : (pc : Int) + off = (tgt : Int)) (kt : b ≤ a → X M cc bc bs I K tgt L st Q Γ) (kf : a < b → X M cc bc bs I K (pc + 3) L st Q Γ) : X M cc bc bs I K pc L (.int (nI b) :: .int (nI a) :: st) Q Γ :=
  x_icmp_ge tgt hd ht (fun h => kt ((nI_leI ha.2 ha.1).mp h)) (fun h => kf (Nat.not_le.mp (mt (nI_leI ha.2 ha.1).mpr h)))
theorem x_icmp_gtN {a b : Nat} {off : Int} (tgt : Nat) (ha : a < 2147483648 ∧ b < 2147483648) (hd : decode cc pc = .ok (.if_icmp .gt off, 3)) (ht : (pc : Int) + off = (tgt : Int)) (kt : b < a → X M cc bc bs I K tgt L st Q Γ) (kf : a ≤ b → X M cc bc bs I K (pc + 3) L st Q Γ) : X M cc bc bs I K pc L (.int (nI b) :: .int (nI a) :: st) Q Γ :=
  x_icmp_gt tgt hd ht (fun h => kt ((nI_ltI ha.2 ha.1).mp h)) (fun h => kf (Nat.not_lt.mp (mt (nI_ltI ha.2 ha.1).mpr h)))
theorem x_icmp_leN {a b : Nat} {off : Int} (tgt : Nat) (ha : a < 2147483648 ∧ b < 2147483648) (hd : decode cc pc = .ok (.if_icmp .le off, 3)) (ht : (pc : Int) + off = (tgt : Int)) (kt : a ≤ b → X M cc bc bs I K tgt L st Q Γ) (kf : b < a → X M cc bc bs I K (pc + 3) L st Q Γ) : X M cc bc bs I K pc L (.int (nI b) :: .int (nI a) :: st) Q Γ :=
  x_icmp_le tgt hd ht (fun h => kt ((nI_leI ha.1 ha.2).mp h)) (fun h => kf (Nat.not_le.mp (mt (nI_leI ha.1 ha.2).mpr h)))
/-- calls of what answers o and leaves I1, K1 -/
theorem y_callV {ix n : Nat} {M' : MD} {cc' : ByteArray} {As rest : List Value} {b ci : Nat} {T : u_T} {N bc' bs' : Nat} {v : Option Value} {I1 : Mem} {K1 : Kt} (S : CsV M.1.cls ix M' cc' n) (hci : cls[ci]? = some (M'.1.cls, T, N)) (hb1 : (kS K b).1 = ci) (hb2 : b < kN K) (hn : As.length = n) (hst : st = As.reverse ++ .ref b :: rest) (hW : (rest.map fun v => v.category).sum ≤ 8) (hdep : M'.2.2.2.2 + 1 ≤ M.2.2.2.2 ∧ 8 + (M'.2.1 + 11) + 40 * M'.2.2.2.2 ≤ 40 * M.2.2.2.2) (hd : decode cc pc = .ok (.invokevirtual ix, 3))
    (hcon : Ct M' cc' bc' bs' (.ref b :: As) I K (Ro (.inl v) I1 K1)) (kk : X M cc bc bs I1 K1 (pc + 3) L (v.toList ++ rest) Q Γ) : X M cc (bc' + bc) (bs' + bs) I K pc L st Q Γ :=
  x_callV S hci hb1 hb2 hn hst hW hdep hd hcon (fun r I' K' _ h => by obtain ⟨e, rfl, rfl⟩ := h; cases e; exact kk) (fun E I' K' _ h => by cases h.1)
theorem y_callVe {ix n : Nat} {M' : MD} {cc' : ByteArray} {As rest : List Value} {b ci : Nat} {T : u_T} {N bc' bs' : Nat} {E : String} {I1 : Mem} {K1 : Kt} (S : CsV M.1.cls ix M' cc' n) (hci : cls[ci]? = some (M'.1.cls, T, N)) (hb1 : (kS K b).1 = ci) (hb2 : b < kN K) (hn : As.length = n) (hst : st = As.reverse ++ .ref b :: rest) (hW : (rest.map fun v => v.category).sum ≤ 8) (hdep : M'.2.2.2.2 + 1 ≤ M.2.2.2.2 ∧ 8 + (M'.2.1 + 11) + 40 * M'.2.2.2.2 ≤ 40 * M.2.2.2.2) (hd : decode cc pc = .ok (.invokevirtual ix, 3))
    (hcon : Ct M' cc' bc' bs' (.ref b :: As) I K (Ro (.inr E) I1 K1)) (kx : XT M cc bc bs I1 K1 pc E L Q Γ) : X M cc (bc' + bc) (bs' + bs) I K pc L st Q Γ :=
  x_callV S hci hb1 hb2 hn hst hW hdep hd hcon (fun r I' K' _ h => by cases h.1) (fun E' I' K' _ h => by obtain ⟨e, rfl, rfl⟩ := h; cases e; exact kx)
theorem y_callS {ix n : Nat} {M' : MD} {cc' : ByteArray} {As rest : List Value} {bc' bs' : Nat} {v : Option Value} {I1 : Mem} {K1 : Kt} (S : CsS M.1.cls ix M' cc' n) (hn : As.length = n) (hst : st = As.reverse ++ rest) (hW : (rest.map fun v => v.category).sum ≤ 8) (hdep : M'.2.2.2.2 + 1 ≤ M.2.2.2.2 ∧ 8 + (M'.2.1 + 11) + 40 * M'.2.2.2.2 ≤ 40 * M.2.2.2.2) (hd : decode cc pc = .ok (.invokestatic ix, 3))
    (hcon : Ct M' cc' bc' bs' As I K (Ro (.inl v) I1 K1)) (kk : X M cc bc bs I1 K1 (pc + 3) L (v.toList ++ rest) Q Γ) : X M cc (bc' + bc) (bs' + bs) I K pc L st Q Γ :=
  x_callS S hn hst hW hdep hd hcon (fun r I' K' _ h => by obtain ⟨e, rfl, rfl⟩ := h; cases e; exact kk) (fun E I' K' _ h => by cases h.1)
theorem y_callSe {ix n : Nat} {M' : MD} {cc' : ByteArray} {As rest : List Value} {bc' bs' : Nat} {E : String} {I1 : Mem} {K1 : Kt} (S : CsS M.1.cls ix M' cc' n) (hn : As.length = n) (hst : st = As.reverse ++ rest) (hW : (rest.map fun v => v.category).sum ≤ 8) (hdep : M'.2.2.2.2 + 1 ≤ M.2.2.2.2 ∧ 8 + (M'.2.1 + 11) + 40 * M'.2.2.2.2 ≤ 40 * M.2.2.2.2) (hd : decode cc pc = .ok (.invokestatic ix, 3))
    (hcon : Ct M' cc' bc' bs' As I K (Ro (.inr E) I1 K1)) (kx : XT M cc bc bs I1 K1 pc E L Q Γ) : X M cc (bc' + bc) (bs' + bs) I K pc L st Q Γ :=
  x_callS S hn hst hW hdep hd hcon (fun r I' K' _ h => by cases h.1) (fun E' I' K' _ h => by obtain ⟨e, rfl, rfl⟩ := h; cases e; exact kx)
theorem y_callI {ix n : Nat} {M' : MD} {cc' : ByteArray} {As rest : List Value} {b bc' bs' : Nat} {v : Option Value} {I1 : Mem} {K1 : Kt} (S : CsI M.1.cls ix M' cc' n ∨ ∃ host, CsN M.1.cls host ix M' cc' n) (hn : As.length = n) (hst : st = As.reverse ++ .ref b :: rest) (hW : (rest.map fun v => v.category).sum ≤ 8) (hdep : M'.2.2.2.2 + 1 ≤ M.2.2.2.2 ∧ 8 + (M'.2.1 + 11) + 40 * M'.2.2.2.2 ≤ 40 * M.2.2.2.2) (hd : decode cc pc = .ok (.invokespecial ix, 3))
    (hcon : Ct M' cc' bc' bs' (.ref b :: As) I K (Ro (.inl v) I1 K1)) (kk : X M cc bc bs I1 K1 (pc + 3) L (v.toList ++ rest) Q Γ) : X M cc (bc' + bc) (bs' + bs) I K pc L st Q Γ :=
  x_callI0 S hn hst hW hdep hd hcon (fun r I' K' _ h => by obtain ⟨e, rfl, rfl⟩ := h; cases e; exact kk) (fun E I' K' _ h => by cases h.1)
end XN
/-- n steps -/
def it {σ : Type} (f : Nat → σ → σ) : Nat → σ → σ
  | 0, s => s
  | n + 1, s => f n (it f n s)
theorem it_loop {σ : Type} (f : Nat → σ → σ) (s0 : σ) (n : Nat) (P : Nat → σ → Prop) (hs : ∀ j, j < n → P (j + 1) (it f (j + 1) s0) → P j (it f j s0)) (hx : P n (it f n s0)) : P 0 s0 := by
  have key : ∀ k, k ≤ n → P (n - k) (it f (n - k) s0) := by
    intro k
    induction k with
    | zero => intro _; exact hx
    | succ k ih =>
      intro hk
      refine hs (n - (k + 1)) (by omega) ?_
      rw [show n - (k + 1) + 1 = n - k by omega]
      exact ih (by omega)
  have := key n (Nat.le_refl n)
  rw [Nat.sub_self] at this
  exact this
