theorem dep {a b n : Nat} (h : a + 1 ≤ b) (hn : n ≤ 21) : a + 1 ≤ b ∧ 8 + (n + 11) + 40 * a ≤ 40 * b := ⟨h, by omega⟩
section XV
variable {Γ : (Nat → Nat) → (Nat → Prop) → State → Array Value → Prop} {M : MD} {cc : ByteArray} {bc bs : Nat} {I : Mem} {K : Kt} {pc : Nat} {L st : List Value} {Q : Rs → Mem → Kt → Prop}
theorem y_callV0 {ix n : Nat} {M' : MD} {cc' : ByteArray} {As rest : List Value} {b ci : Nat} {T : u_T} {N bc' bs' : Nat} {I1 : Mem} {K1 : Kt} (S : CsV M.1.cls ix M' cc' n) (hci : cls[ci]? = some (M'.1.cls, T, N)) (hb1 : (kS K b).1 = ci) (hb2 : b < kN K) (hn : As.length = n) (hst : st = As.reverse ++ .ref b :: rest) (hW : (rest.map fun v => v.category).sum ≤ 8) (hdep : M'.2.2.2.2 + 1 ≤ M.2.2.2.2 ∧ 8 + (M'.2.1 + 11) + 40 * M'.2.2.2.2 ≤ 40 * M.2.2.2.2) (hd : decode cc pc = .ok (.invokevirtual ix, 3))
    (hcon : Ct M' cc' bc' bs' (.ref b :: As) I K (Ro (.inl none) I1 K1)) (kk : X M cc bc bs I1 K1 (pc + 3) L rest Q Γ) : X M cc (bc' + bc) (bs' + bs) I K pc L st Q Γ :=
  y_callV S hci hb1 hb2 hn hst hW hdep hd hcon kk
theorem y_callV1 {ix n : Nat} {M' : MD} {cc' : ByteArray} {As rest : List Value} {b ci : Nat} {T : u_T} {N bc' bs' : Nat} {w : Value} {I1 : Mem} {K1 : Kt} (S : CsV M.1.cls ix M' cc' n) (hci : cls[ci]? = some (M'.1.cls, T, N)) (hb1 : (kS K b).1 = ci) (hb2 : b < kN K) (hn : As.length = n) (hst : st = As.reverse ++ .ref b :: rest) (hW : (rest.map fun v => v.category).sum ≤ 8) (hdep : M'.2.2.2.2 + 1 ≤ M.2.2.2.2 ∧ 8 + (M'.2.1 + 11) + 40 * M'.2.2.2.2 ≤ 40 * M.2.2.2.2) (hd : decode cc pc = .ok (.invokevirtual ix, 3))
    (hcon : Ct M' cc' bc' bs' (.ref b :: As) I K (Ro (.inl (some w)) I1 K1)) (kk : X M cc bc bs I1 K1 (pc + 3) L (w :: rest) Q Γ) : X M cc (bc' + bc) (bs' + bs) I K pc L st Q Γ :=
  y_callV S hci hb1 hb2 hn hst hW hdep hd hcon kk
theorem y_callS0 {ix n : Nat} {M' : MD} {cc' : ByteArray} {As rest : List Value} {bc' bs' : Nat} {I1 : Mem} {K1 : Kt} (S : CsS M.1.cls ix M' cc' n) (hn : As.length = n) (hst : st = As.reverse ++ rest) (hW : (rest.map fun v => v.category).sum ≤ 8) (hdep : M'.2.2.2.2 + 1 ≤ M.2.2.2.2 ∧ 8 + (M'.2.1 + 11) + 40 * M'.2.2.2.2 ≤ 40 * M.2.2.2.2) (hd : decode cc pc = .ok (.invokestatic ix, 3))
    (hcon : Ct M' cc' bc' bs' As I K (Ro (.inl none) I1 K1)) (kk : X M cc bc bs I1 K1 (pc + 3) L rest Q Γ) : X M cc (bc' + bc) (bs' + bs) I K pc L st Q Γ :=
  y_callS S hn hst hW hdep hd hcon kk
theorem y_callS1 {ix n : Nat} {M' : MD} {cc' : ByteArray} {As rest : List Value} {bc' bs' : Nat} {w : Value} {I1 : Mem} {K1 : Kt} (S : CsS M.1.cls ix M' cc' n) (hn : As.length = n) (hst : st = As.reverse ++ rest) (hW : (rest.map fun v => v.category).sum ≤ 8) (hdep : M'.2.2.2.2 + 1 ≤ M.2.2.2.2 ∧ 8 + (M'.2.1 + 11) + 40 * M'.2.2.2.2 ≤ 40 * M.2.2.2.2) (hd : decode cc pc = .ok (.invokestatic ix, 3))
    (hcon : Ct M' cc' bc' bs' As I K (Ro (.inl (some w)) I1 K1)) (kk : X M cc bc bs I1 K1 (pc + 3) L (w :: rest) Q Γ) : X M cc (bc' + bc) (bs' + bs) I K pc L st Q Γ :=
  y_callS S hn hst hW hdep hd hcon kk
theorem y_callI0 {ix n : Nat} {M' : MD} {cc' : ByteArray} {As rest : List Value} {b bc' bs' : Nat} {I1 : Mem} {K1 : Kt} (S : CsI M.1.cls ix M' cc' n ∨ ∃ host, CsN M.1.cls host ix M' cc' n) (hn : As.length = n) (hst : st = As.reverse ++ .ref b :: rest) (hW : (rest.map fun v => v.category).sum ≤ 8) (hdep : M'.2.2.2.2 + 1 ≤ M.2.2.2.2 ∧ 8 + (M'.2.1 + 11) + 40 * M'.2.2.2.2 ≤ 40 * M.2.2.2.2) (hd : decode cc pc = .ok (.invokespecial ix, 3))
    (hcon : Ct M' cc' bc' bs' (.ref b :: As) I K (Ro (.inl none) I1 K1)) (kk : X M cc bc bs I1 K1 (pc + 3) L rest Q Γ) : X M cc (bc' + bc) (bs' + bs) I K pc L st Q Γ :=
  y_callI S hn hst hW hdep hd hcon kk
theorem y_callI1 {ix n : Nat} {M' : MD} {cc' : ByteArray} {As rest : List Value} {b bc' bs' : Nat} {w : Value} {I1 : Mem} {K1 : Kt} (S : CsI M.1.cls ix M' cc' n ∨ ∃ host, CsN M.1.cls host ix M' cc' n) (hn : As.length = n) (hst : st = As.reverse ++ .ref b :: rest) (hW : (rest.map fun v => v.category).sum ≤ 8) (hdep : M'.2.2.2.2 + 1 ≤ M.2.2.2.2 ∧ 8 + (M'.2.1 + 11) + 40 * M'.2.2.2.2 ≤ 40 * M.2.2.2.2) (hd : decode cc pc = .ok (.invokespecial ix, 3))
    (hcon : Ct M' cc' bc' bs' (.ref b :: As) I K (Ro (.inl (some w)) I1 K1)) (kk : X M cc bc bs I1 K1 (pc + 3) L (w :: rest) Q Γ) : X M cc (bc' + bc) (bs' + bs) I K pc L st Q Γ :=
  y_callI S hn hst hW hdep hd hcon kk
end XV
/-- the reference: where it lies -/
def MK (K : Kt) (m : Nat) : Prop := (m + 8 ≤ kN K ∧ (kS K m).1 = 8) ∧
  ((kG K m 1 = some (m + 1) ∧ kG K m 2 = some (m + 2)) ∧ (kG K m 3 = some (m + 3) ∧ kG K m 4 = some (m + 4)) ∧ (kG K m 5 = some (m + 5) ∧ kG K m 8 = some (m + 6)) ∧ kG K m 19 = some (m + 7)) ∧
  ((kS K (m + 1) = (100, 355) ∧ kS K (m + 2) = (100, 355)) ∧ (kS K (m + 3) = (100, 2840) ∧ kS K (m + 4) = (100, 710)) ∧ (kS K (m + 5) = (102, 2) ∧ kS K (m + 6) = (101, 500)) ∧ kS K (m + 7) = (101, 200))
section MKs
variable {K : Kt} {m : Nat}
theorem MK.s (h : MK K m) : (kS K m).1 = 8 := h.1.2
theorem MK.a (h : MK K m) : m < kN K := by have := h.1.1; omega
theorem MK.a1 (h : MK K m) : m + 1 < kN K := by have := h.1.1; omega
theorem MK.a2 (h : MK K m) : m + 2 < kN K := by have := h.1.1; omega
theorem MK.a3 (h : MK K m) : m + 3 < kN K := by have := h.1.1; omega
theorem MK.a4 (h : MK K m) : m + 4 < kN K := by have := h.1.1; omega
theorem MK.a5 (h : MK K m) : m + 5 < kN K := by have := h.1.1; omega
theorem MK.a6 (h : MK K m) : m + 6 < kN K := by have := h.1.1; omega
theorem MK.a7 (h : MK K m) : m + 7 < kN K := by have := h.1.1; omega
theorem MK.g1 (h : MK K m) : kG K m 1 = some (m + 1) := h.2.1.1.1
theorem MK.g2 (h : MK K m) : kG K m 2 = some (m + 2) := h.2.1.1.2
theorem MK.g3 (h : MK K m) : kG K m 3 = some (m + 3) := h.2.1.2.1.1
theorem MK.g4 (h : MK K m) : kG K m 4 = some (m + 4) := h.2.1.2.1.2
theorem MK.g5 (h : MK K m) : kG K m 5 = some (m + 5) := h.2.1.2.2.1.1
theorem MK.g6 (h : MK K m) : kG K m 8 = some (m + 6) := h.2.1.2.2.1.2
theorem MK.g7 (h : MK K m) : kG K m 19 = some (m + 7) := h.2.1.2.2.2
theorem MK.s1 (h : MK K m) : kS K (m + 1) = (100, 355) := h.2.2.1.1
theorem MK.s2 (h : MK K m) : kS K (m + 2) = (100, 355) := h.2.2.1.2
theorem MK.s3 (h : MK K m) : kS K (m + 3) = (100, 2840) := h.2.2.2.1.1
theorem MK.s4 (h : MK K m) : kS K (m + 4) = (100, 710) := h.2.2.2.1.2
theorem MK.s5 (h : MK K m) : kS K (m + 5) = (102, 2) := h.2.2.2.2.1.1
theorem MK.s6 (h : MK K m) : kS K (m + 6) = (101, 500) := h.2.2.2.2.1.2
theorem MK.s7 (h : MK K m) : kS K (m + 7) = (101, 200) := h.2.2.2.2.2
end MKs
