/-- what is foreign and stays: the two statics that a throw looks at, the nest words, the constants of the two enums, the array of the items, the switch's table, the words of the items, the String constants -/
def wsN : List Cond := lw_tbl.filter (fun w => match w with
  | .methodLinkNest .. => true
  | .fieldLinkNest .. => true
  | .castable .. => true
  | _ => false)
abbrev knN : List String := ["END", "WORD", "NUMBER", "SEMICOLON", "OPEN", "CLOSE", "MALFORMED"]
abbrev itN : List String := ["STALL", "PERSON", "WISH", "REGRET", "FEE", "LIMIT", "BUY", "SELL", "RETURN", "GRANT", "RENAME", "SWAP", "GIFT", "SALE", "AUCTION", "TAX", "ADVANCE", "REPEAT", "NO_ITEM"]
abbrev swT : Nat → Value := fun j => .int (nI (j + 1))
def Ex (ex : Nat → Nat) (A : Nat → Prop) (U : State) (H : Heap) : Prop :=
  vx_Zq Bundle.tN "UNASSIGNED_STACK" Bundle.steD A U H ∧ vx_Zq Bundle.tN "SUPPRESSED_SENTINEL" Bundle.listD A U H ∧ (∀ w ∈ wsN, va_Nw w U) ∧
  va_En RX2 "LWishMarket$Kind;" knN [] (fun i => ex i) A U H
theorem Ex.kept {ex : Nat → Nat} {A : Nat → Prop} {U : State} {H H1 : Heap} (h : Ex ex A U H) (hq : ∀ a : Nat, a < H.size → ¬ A a → H1[a]? = H[a]?) : Ex ex A U H1 := by
  obtain ⟨h1, h2, h3, h4⟩ := h
  exact ⟨h1.kept hq, h2.kept hq, h3, h4.kept hq⟩
theorem Ex.narrow {ex : Nat → Nat} {A B : Nat → Prop} {U : State} {H : Heap} (h : Ex ex A U H) (hAB : ∀ q, B q → A q) : Ex ex B U H := by
  obtain ⟨h1, h2, h3, h4⟩ := h
  exact ⟨h1.narrow hAB, h2.narrow hAB, h3, h4.narrow hAB⟩
theorem wsN_cases {w : Cond} (h : w ∈ wsN) : (∃ a b c d, w = .methodLinkNest a b c d) ∨ (∃ a b c d e f, w = .fieldLinkNest a b c d e f) ∨ ∃ a b, w = .castable a b := by
  have h1 := (List.mem_filter.mp h).2
  cases w <;> simp at h1
  all_goals first | exact Or.inl ⟨_, _, _, _, rfl⟩ | exact Or.inr (Or.inl ⟨_, _, _, _, _, _, rfl⟩) | exact Or.inr (Or.inr ⟨_, _, rfl⟩)
theorem Ex.warm {ex : Nat → Nat} {A : Nat → Prop} {s U : State} {H : Heap} (h : Ex ex A s H) (hW : s.WarmedH U.vm) : Ex ex A U H := by
  obtain ⟨h1, h2, h3, h4⟩ := h
  refine ⟨h1.moved hW.alike, h2.moved hW.alike, fun w hw => ?_, h4.moved hW.alike⟩
  rcases wsN_cases hw with ⟨a, b, c, d, rfl⟩ | ⟨a, b, c, d, e, f, rfl⟩ | ⟨a, b, rfl⟩
  · exact va_Nw.warmM hW (h3 _ hw)
  · exact va_Nw.warmF hW (h3 _ hw)
  · exact va_Nw.warmC hW (h3 _ hw)
theorem Ex.same {ex : Nat → Nat} {A : Nat → Prop} {s U : State} {H : Heap} (h : Ex ex A s H) (hv : s.vm = U.vm) : Ex ex A U H := by
  obtain ⟨h1, h2, h3, h4⟩ := h
  have ha : s.vm.Alike U.vm := by rw [hv]; exact Vm.Alike.refl _
  refine ⟨h1.moved ha, h2.moved ha, fun w hw => ?_, h4.moved ha⟩
  refine va_Nw.same ?_ hv (h3 w hw)
  rcases wsN_cases hw with ⟨a, b, c, d, rfl⟩ | ⟨a, b, c, d, e, f, rfl⟩ | ⟨a, b, rfl⟩ <;> rfl
/-- a method: its name, the number of its locals, what it hands back, its handlers, the frames that are left -/
abbrev MD : Type := MethodName × Nat × Option FieldType × List (Nat × Nat × Nat × Nat) × Nat
abbrev Rs : Type := Option Value ⊕ String
abbrev Rm (d mc ms : Nat) : Room := { frames := d, cells := mc, slots := ms, locals := 40 * d }
def Cx (M : MD) (cc : ByteArray) (p : Program) (l : Launch) (s : State) (m : MethodId) (args : Array Value) (meth : Method) (c : Code) : Prop :=
  p.tables.exec = Jvm.exec ∧ c.code = cc ∧ meth.sig.returnType = M.2.2.1 ∧ c.maxLocals = M.2.1 ∧ s.vm.findClass M.1.cls = some m.cls ∧ (∀ w ∈ wsG, w.before args s = true) ∧ meth.locks = false ∧ meth.name = M.1.name ∧ c.exceptionTable.toList = tableOf M.2.2.2.1 ∧ l.stackTraces = false
def Rp (D : va_G) (cA : Nat → ClassId) (A : Nat → Prop) (s : State) (ad0 : Nat → Nat) (n0 : Nat) (ad : Nat → Nat) (I : Mem) (K : Kt) (H : Heap) (locs : List Loc) : Prop :=
  va_K D cls (tys cA) s ∧ va_P D cls (wl cA ad I K) H ∧ va_D A (wl cA ad I K) ∧ va_S A s.heap H locs ∧ (∀ q, s.heap.size ≤ q → A q) ∧ Cl K ∧ n0 ≤ kN K ∧ ∀ k, (k < n0 ∨ 1000000 ≤ k) → ad k = ad0 k
def Wz (D : va_G) (cA : Nat → ClassId) (A : Nat → Prop) (ad0 : Nat → Nat) (n0 : Nat) (t : State) (ad : Nat → Nat) (I : Mem) (K : Kt) : Prop :=
  va_K D cls (tys cA) t ∧ va_P D cls (wl cA ad I K) t.heap ∧ va_D A (wl cA ad I K) ∧ Cl K ∧ n0 ≤ kN K ∧ ∀ k, (k < n0 ∨ 1000000 ≤ k) → ad k = ad0 k
def Qz (D : va_G) (cA : Nat → ClassId) (A : Nat → Prop) (ad0 : Nat → Nat) (n0 : Nat) (Q : Rs → Mem → Kt → Prop) : Array Value → State → Outcome → State → Prop := fun _ st o t =>
  (∃ (ad : Nat → Nat) (r : Option Value) (I : Mem) (K : Kt), o = .returned (r.map (cv ad)) ∧ (∀ v, r = some v → vok (kN K) v) ∧ Q (.inl r) I K ∧ Wz D cA A ad0 n0 t ad I K) ∧ va_F A st t
def Xz (D : va_G) (cA : Nat → ClassId) (A : Nat → Prop) (ad0 : Nat → Nat) (n0 : Nat) (Q : Rs → Mem → Kt → Prop) : String → State → State → Prop := fun E st t =>
  (∃ (ad : Nat → Nat) (I : Mem) (K : Kt), Q (.inr E) I K ∧ Wz D cA A ad0 n0 t ad I K) ∧ va_F A st t
/-- THE JUDGEMENT: from here the method comes to an end, with a result and a heap that Q allows; at most bc cells of bs places are new -/
def X (M : MD) (cc : ByteArray) (bc bs : Nat) (I : Mem) (K : Kt) (pc : Nat) (L st : List Value) (Q : Rs → Mem → Kt → Prop) : Prop :=
  ∀ (p : Program) (l : Launch) (e : Env) (s : State) (m : MethodId) (args : Array Value) (below : List Frame) (meth : Method) (c : Code) (mc ms : Nat) (D : va_G) (cA : Nat → ClassId) (A : Nat → Prop) (ad0 : Nat → Nat) (n0 : Nat), Cx M cc p l s m args meth c → Ex (fun i => ad0 (1000000 + i)) A s s.heap →
  ∀ (ad : Nat → Nat) (H : Heap) (locs : List Loc) (cells slots : Nat) (ls : Array Slot), Rp D cA A s ad0 n0 ad I K H locs → cells + bc ≤ mc → slots + bs ≤ ms → Rl ad ls M.2.1 L → (∀ v ∈ L, vok (kN K) v) → (∀ v ∈ st, vok (kN K) v) →
  W p l e (Rm M.2.2.2.2 mc ms) s m args below meth c H locs cells slots (vx_MQ below (Qz D cA A ad0 n0 Q) (Xz D cA A ad0 n0 Q) args s mc ms A) (F0 m pc ls (st.map (cv ad)))
section XR
variable {M : MD} {cc : ByteArray} {bc bs : Nat} {I : Mem} {K : Kt} {pc : Nat} {L st : List Value} {Q : Rs → Mem → Kt → Prop}
theorem X.mono {Q' : Rs → Mem → Kt → Prop} (h : X M cc bc bs I K pc L st Q) (hQ : ∀ r I' K', Q r I' K' → Q' r I' K') : X M cc bc bs I K pc L st Q' := by
  intro p l e s m args below meth c mc ms D cA A ad0 n0 hC hE ad H locs cells slots ls hR hc hs hL hvL hvS T hT XX
  obtain ⟨t, a, o, b1, b2, b3⟩ := h p l e s m args below meth c mc ms D cA A ad0 n0 hC hE ad H locs cells slots ls hR hc hs hL hvL hvS T hT XX
  refine ⟨t, a, o, b1, b2, ?_⟩
  rcases b3 with ⟨⟨⟨ad1, r, I1, K1, e1, e2, e3, e4⟩, e5⟩, e6⟩ | ⟨q, e0, E, ce, L1, ⟨⟨ad1, I1, K1, e1, e2⟩, e3⟩, e4⟩
  · exact Or.inl ⟨⟨⟨ad1, r, I1, K1, e1, e2, hQ _ _ _ e3, e4⟩, e5⟩, e6⟩
  · exact Or.inr ⟨q, e0, E, ce, L1, ⟨⟨ad1, I1, K1, hQ _ _ _ e1, e2⟩, e3⟩, e4⟩
theorem X.less {bc' bs' : Nat} (h : X M cc bc' bs' I K pc L st Q) (h1 : bc' ≤ bc) (h2 : bs' ≤ bs) : X M cc bc bs I K pc L st Q := by
  intro p l e s m args below meth c mc ms D cA A ad0 n0 hC hE ad H locs cells slots ls hR hc hs hL hvL hvS
  exact h p l e s m args below meth c mc ms D cA A ad0 n0 hC hE ad H locs cells slots ls hR (by omega) (by omega) hL hvL hvS
/-- a row that moves the stack alone -/
theorem X.sk {pc' : Nat} {st' : List Value} (k : X M cc bc bs I K pc' L st' Q) (hv : ∀ n, (∀ v ∈ st, vok n v) → (∀ v ∈ L, vok n v) → ∀ v ∈ st', vok n v)
    (row : ∀ {p : Program} {l : Launch} {e : Env} {R : Room} {s : State} {m : MethodId} {args : Array Value} {below : List Frame} {meth : Method} {c : Code} {H : Heap} {locs : List Loc} {cells slots : Nat} {Q : State → Prop} {ls : Array Slot} {ad : Nat → Nat}, p.tables.exec = Jvm.exec → c.code = cc → s.vm.findClass M.1.cls = some m.cls → (∀ w ∈ wsG, w.before args s = true) → Rl ad ls M.2.1 L → W p l e R s m args below meth c H locs cells slots Q (F0 m pc' ls (st'.map (cv ad))) → W p l e R s m args below meth c H locs cells slots Q (F0 m pc ls (st.map (cv ad)))) : X M cc bc bs I K pc L st Q := by
  intro p l e s m args below meth c mc ms D cA A ad0 n0 hC hE ad H locs cells slots ls hR hc hs hL hvL hvS
  exact row hC.1 hC.2.1 hC.2.2.2.2.1 hC.2.2.2.2.2.1 hL (k p l e s m args below meth c mc ms D cA A ad0 n0 hC hE ad H locs cells slots ls hR hc hs hL hvL (hv _ hvS hvL))
/-- a branch -/
theorem X.br {c : Prop} {pt pf : Nat} {st' : List Value} (kt : c → X M cc bc bs I K pt L st' Q) (kf : ¬ c → X M cc bc bs I K pf L st' Q) (hv : ∀ n, (∀ v ∈ st, vok n v) → ∀ v ∈ st', vok n v)
    (row : ∀ {p : Program} {l : Launch} {e : Env} {R : Room} {s : State} {m : MethodId} {args : Array Value} {below : List Frame} {meth : Method} {co : Code} {H : Heap} {locs : List Loc} {cells slots : Nat} {Q : State → Prop} {ls : Array Slot} {ad : Nat → Nat}, p.tables.exec = Jvm.exec → co.code = cc → (c → W p l e R s m args below meth co H locs cells slots Q (F0 m pt ls (st'.map (cv ad)))) → (¬ c → W p l e R s m args below meth co H locs cells slots Q (F0 m pf ls (st'.map (cv ad)))) → W p l e R s m args below meth co H locs cells slots Q (F0 m pc ls (st.map (cv ad)))) : X M cc bc bs I K pc L st Q := by
  intro p l e s m args below meth c mc ms D cA A ad0 n0 hC hE ad H locs cells slots ls hR hc hs hL hvL hvS
  exact row hC.1 hC.2.1 (fun h => kt h p l e s m args below meth c mc ms D cA A ad0 n0 hC hE ad H locs cells slots ls hR hc hs hL hvL (hv _ hvS)) (fun h => kf h p l e s m args below meth c mc ms D cA A ad0 n0 hC hE ad H locs cells slots ls hR hc hs hL hvL (hv _ hvS))
/-- a row that sets a local -/
theorem X.lo {pc' i : Nat} {v : Value} {st' : List Value} (k : X M cc bc bs I K pc' (L.set i v) st' Q) (hi : i < L.length) (hc1 : v.category = 1) (h2 : c2 L i = true) (hv : ∀ n, (∀ v ∈ st, vok n v) → (∀ v ∈ L, vok n v) → vok n v ∧ ∀ v ∈ st', vok n v)
    (row : ∀ {p : Program} {l : Launch} {e : Env} {R : Room} {s : State} {m : MethodId} {args : Array Value} {below : List Frame} {meth : Method} {c : Code} {H : Heap} {locs : List Loc} {cells slots : Nat} {Q : State → Prop} {ls ls' : Array Slot} {ad : Nat → Nat}, p.tables.exec = Jvm.exec → c.code = cc → Rl ad ls M.2.1 L → storeLocals ls i (cv ad v) = some ls' → W p l e R s m args below meth c H locs cells slots Q (F0 m pc' ls' (st'.map (cv ad))) → W p l e R s m args below meth c H locs cells slots Q (F0 m pc ls (st.map (cv ad)))) : X M cc bc bs I K pc L st Q := by
  intro p l e s m args below meth c mc ms D cA A ad0 n0 hC hE ad H locs cells slots ls hR hc hs hL hvL hvS
  obtain ⟨hw, hr⟩ := hv _ hvS hvL
  obtain ⟨ls', e1, hL'⟩ := hL.set1 hi hc1 h2
  exact row hC.1 hC.2.1 hL e1 (k p l e s m args below meth c mc ms D cA A ad0 n0 hC hE ad H locs cells slots ls' hR hc hs hL' (fun w hw' => (List.mem_or_eq_of_mem_set hw').elim (hvL w) (fun e => by rw [e]; exact hw)) hr)
end XR
