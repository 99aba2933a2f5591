/-- what is foreign and stays: the two statics that a throw looks at, the nest words, the constants of the two enums, the array of the items, the switch's table, the words of the items, the String constants -/
def wsN : List Cond := lw_tbl.filter (fun w => match w with
  | .methodLinkNest .. => true
  | .fieldLinkNest .. => true
  | .castable .. => true
  | .arrayOver (.object _) => true
  | .declares _ => true
  | _ => false)
abbrev knN : List String := ["END", "WORD", "NUMBER", "SEMICOLON", "OPEN", "CLOSE", "MALFORMED"]
abbrev itN : List String := ["STALL", "PERSON", "WISH", "REGRET", "FEE", "LIMIT", "BUY", "SELL", "RETURN", "GRANT", "RENAME", "SWAP", "GIFT", "SALE", "AUCTION", "TAX", "ADVANCE", "REPEAT", "NO_ITEM"]
def strT : List (String × Nat × String × Nat) := [("WishMarket", 60, "the buffer holds no such number of bytes", 42), ("WishMarket$SetupReader", 73, "market", 19), ("WishMarket$SetupReader", 65, "an error of the setup", 43), ("WishMarket$SetupReader", 273, "party", 20), ("WishMarket$SetupReader", 278, "bargain", 21), ("WishMarket$SetupReader", 312, "at", 22), ("WishMarket$SetupReader", 314, "with", 23), ("WishMarket$SetupReader", 307, "worn", 24), ("WishMarket", 71, "the setup is invalid", 44), ("WishMarket", 340, "no setup has been loaded", 45), ("WishMarket", 342, "there is no such index", 46), ("WishMarket", 348, "a number is out of range", 47), ("WishMarket", 350, "there is an obstacle", 48), ("WishMarket", 338, "no state is saved in the slot", 49), ("WishMarketLaw", 119, "market ", 25), ("WishMarketLaw", 127, ";regret ", 26), ("WishMarketLaw", 132, ";fee ", 27), ("WishMarketLaw", 134, ";auction ", 28), ("WishMarketLaw", 136, ";tax ", 29), ("WishMarketLaw", 145, ";stall ", 30), ("WishMarketLaw", 147, ";person ", 31), ("WishMarketLaw", 149, "ann", 32), ("WishMarketLaw", 151, "bob", 33), ("WishMarketLaw", 153, " party", 34), ("WishMarketLaw", 155, "", 18), ("WishMarketLaw", 157, " bargain", 35), ("WishMarketLaw", 159, ";limit ", 36), ("WishMarketLaw", 161, ";wish ", 37), ("WishMarketLaw", 163, " at ", 38), ("WishMarketLaw", 165, " with ", 39), ("WishMarketLaw", 167, " worn ", 40), ("WishMarketLaw", 169, ";repeat 2 (advance 1)", 41), ("WishMarket$Item", 142, "", 18), ("WishMarket$Item", 85, "stall", 0), ("WishMarket$Item", 91, "person", 1), ("WishMarket$Item", 94, "wish", 2), ("WishMarket$Item", 97, "regret", 3), ("WishMarket$Item", 100, "fee", 4), ("WishMarket$Item", 103, "limit", 5), ("WishMarket$Item", 106, "buy", 6), ("WishMarket$Item", 109, "sell", 7), ("WishMarket$Item", 112, "return", 8), ("WishMarket$Item", 115, "grant", 9), ("WishMarket$Item", 118, "rename", 10), ("WishMarket$Item", 121, "swap", 11), ("WishMarket$Item", 124, "gift", 12), ("WishMarket$Item", 127, "sale", 13), ("WishMarket$Item", 130, "auction", 14), ("WishMarket$Item", 133, "tax", 15), ("WishMarket$Item", 136, "advance", 16), ("WishMarket$Item", 139, "repeat", 17)]
abbrev lenT : List Nat := [5, 6, 4, 6, 3, 5, 3, 4, 6, 5, 6, 4, 4, 4, 7, 3, 7, 6, 0, 6, 5, 7, 2, 4, 4, 7, 8, 5, 9, 5, 7, 8, 3, 3, 6, 8, 7, 6, 4, 6, 6, 21]
abbrev bytT : List (List Int32) := [[115, 116, 97, 108, 108], [112, 101, 114, 115, 111, 110], [119, 105, 115, 104], [114, 101, 103, 114, 101, 116], [102, 101, 101], [108, 105, 109, 105, 116], [98, 117, 121], [115, 101, 108, 108], [114, 101, 116, 117, 114, 110], [103, 114, 97, 110, 116], [114, 101, 110, 97, 109, 101], [115, 119, 97, 112], [103, 105, 102, 116], [115, 97, 108, 101], [97, 117, 99, 116, 105, 111, 110], [116, 97, 120], [97, 100, 118, 97, 110, 99, 101], [114, 101, 112, 101, 97, 116], [], [109, 97, 114, 107, 101, 116], [112, 97, 114, 116, 121], [98, 97, 114, 103, 97, 105, 110], [97, 116], [119, 105, 116, 104], [119, 111, 114, 110], [109, 97, 114, 107, 101, 116, 32], [59, 114, 101, 103, 114, 101, 116, 32], [59, 102, 101, 101, 32], [59, 97, 117, 99, 116, 105, 111, 110, 32], [59, 116, 97, 120, 32], [59, 115, 116, 97, 108, 108, 32], [59, 112, 101, 114, 115, 111, 110, 32], [97, 110, 110], [98, 111, 98], [32, 112, 97, 114, 116, 121], [32, 98, 97, 114, 103, 97, 105, 110], [59, 108, 105, 109, 105, 116, 32], [59, 119, 105, 115, 104, 32], [32, 97, 116, 32], [32, 119, 105, 116, 104, 32], [32, 119, 111, 114, 110, 32], [59, 114, 101, 112, 101, 97, 116, 32, 50, 32, 40, 97, 100, 118, 97, 110, 99, 101, 32, 49, 41]]
abbrev swT : Nat → Value := fun j => .int (if j < 18 then nI (j + 1) else 0)
abbrev ordF : List (String × String × String × List Int32) := [("java/lang/Enum", "ordinal", "I", [0, 1, 2, 3, 4, 5, 6, 7, 8, 9, 10, 11, 12, 13, 14, 15, 16, 17, 18])]
abbrev tensT : Nat → Value := fun j => .int (nI (48 + j / 10))
abbrev onesT : Nat → Value := fun j => .int (nI (48 + j % 10))
/-- a static that may be null -/
def Zo (ex : Nat → Nat) (A : Nat → Prop) (U : State) (H : Heap) : Prop := ∃ v : Value, (v = .null ∨ v = .ref (ex 42)) ∧ va_Z "jdk/internal/util/Preconditions" "SIOOBE_FORMATTER" "Ljava/util/function/BiFunction;" v A U H
theorem Zo.kept {ex : Nat → Nat} {A : Nat → Prop} {U : State} {H H1 : Heap} (h : Zo ex A U H) (hq : ∀ a : Nat, a < H.size → ¬ A a → H1[a]? = H[a]?) : Zo ex A U H1 := h.imp fun _ h => ⟨h.1, h.2.kept hq⟩
theorem Zo.narrow {ex : Nat → Nat} {A B : Nat → Prop} {U : State} {H : Heap} (h : Zo ex A U H) (hAB : ∀ q, B q → A q) : Zo ex B U H := h.imp fun _ h => ⟨h.1, h.2.narrow hAB⟩
theorem Zo.moved {ex : Nat → Nat} {A : Nat → Prop} {u U : State} {H : Heap} (hvm : u.vm.Alike U.vm) (h : Zo ex A u H) : Zo ex A U H := h.imp fun _ h => ⟨h.1, va_Z.moved hvm h.2⟩
/-- the JDK's own statics: a list's first array, what the comparison of long arrays asks -/
def ExJ (ex : Nat → Nat) (A : Nat → Prop) (U : State) (H : Heap) : Prop :=
  (va_Z "java/util/ArrayList" "DEFAULTCAPACITY_EMPTY_ELEMENTDATA" "[Ljava/lang/Object;" (.ref (ex 43)) A U H ∧ va_T (.object "java/lang/Object") (ex 43) 0 (fun _ => .null) A U H) ∧
  (va_Z "jdk/internal/util/ArraysSupport" "U" "Ljdk/internal/misc/Unsafe;" (.ref (ex 44)) A U H ∧ va_O "jdk/internal/misc/Unsafe" (ex 44) A U H) ∧
  (va_Z "jdk/internal/misc/Unsafe" "ARRAY_LONG_BASE_OFFSET" "I" (.int 16) A U H ∧ va_Z "jdk/internal/util/ArraysSupport" "LOG2_ARRAY_LONG_INDEX_SCALE" "I" (.int 3) A U H ∧ va_Z "jdk/internal/util/ArraysSupport" "LOG2_ARRAY_INT_INDEX_SCALE" "I" (.int 2) A U H) ∧
  (va_Fw "java/lang/String" ⟨"java/lang/CharSequence", "length", "()I"⟩ ⟨"java/lang/String", "length", "()I"⟩ U ∧ va_Fw "java/lang/String" ⟨"java/lang/CharSequence", "charAt", "(I)C"⟩ ⟨"java/lang/String", "charAt", "(I)C"⟩ U)
theorem ExJ.kept {ex : Nat → Nat} {A : Nat → Prop} {U : State} {H H1 : Heap} (h : ExJ ex A U H) (hq : ∀ a : Nat, a < H.size → ¬ A a → H1[a]? = H[a]?) : ExJ ex A U H1 := by
  obtain ⟨⟨a1, a2⟩, ⟨b1, b2⟩, ⟨c1, c2, c3⟩, d1, d2⟩ := h
  exact ⟨⟨a1.kept hq, a2.kept hq⟩, ⟨b1.kept hq, b2.kept hq⟩, ⟨c1.kept hq, c2.kept hq, c3.kept hq⟩, d1, d2⟩
theorem ExJ.narrow {ex : Nat → Nat} {A B : Nat → Prop} {U : State} {H : Heap} (h : ExJ ex A U H) (hAB : ∀ q, B q → A q) : ExJ ex B U H := by
  obtain ⟨⟨a1, a2⟩, ⟨b1, b2⟩, ⟨c1, c2, c3⟩, d1, d2⟩ := h
  exact ⟨⟨a1.narrow hAB, a2.narrow hAB⟩, ⟨b1.narrow hAB, b2.narrow hAB⟩, ⟨c1.narrow hAB, c2.narrow hAB, c3.narrow hAB⟩, d1, d2⟩
theorem ExJ.moved {ex : Nat → Nat} {A : Nat → Prop} {u U : State} {H : Heap} (hvm : u.vm.Alike U.vm) (h : ExJ ex A u H) : ExJ ex A U H := by
  obtain ⟨⟨a1, a2⟩, ⟨b1, b2⟩, ⟨c1, c2, c3⟩, d1, d2⟩ := h
  exact ⟨⟨va_Z.moved hvm a1, va_T.moved hvm a2⟩, ⟨va_Z.moved hvm b1, va_O.moved hvm b2⟩, ⟨va_Z.moved hvm c1, va_Z.moved hvm c2, va_Z.moved hvm c3⟩, va_Fw.moved ⟨by decide, by decide⟩ hvm d1, va_Fw.moved ⟨by decide, by decide⟩ hvm d2⟩
def ExH (ex : Nat → Nat) (A : Nat → Prop) (U : State) (H : Heap) : Prop :=
  (vx_Zq Bundle.tN "UNASSIGNED_STACK" Bundle.steD A U H ∧ vx_Zq Bundle.tN "SUPPRESSED_SENTINEL" Bundle.listD A U H) ∧
  (va_En RX2 "LWishMarket$Kind;" knN [] (fun i => ex i) A U H ∧ va_En RX1 "LWishMarket$Item;" itN ordF (fun i => ex (10 + i)) A U H) ∧
  (va_Ef 19 RX1 "word" "Ljava/lang/String;" (fun i => .ref (ex (100 + i))) (fun i => ex (10 + i)) A U H ∧ va_Z RX9 "ITEMS" "[LWishMarket$Item;" (.ref (ex 30)) A U H ∧ va_T (.object RX1) (ex 30) 19 (fun j => .ref (ex (10 + j))) A U H) ∧
  (va_Z RX0 "$SwitchMap$WishMarket$Item" "[I" (.ref (ex 31)) A U H ∧ va_T .int (ex 31) 19 swT A U H ∧ vk_S 42 lenT bytT (fun i => ex (100 + i)) (fun i => ex (200 + i)) A U H) ∧
  ((va_Z "java/lang/String" "COMPACT_STRINGS" "Z" (.int 1) A U H ∧ Zo ex A U H) ∧ (va_Z "java/lang/Integer" "DigitTens" "[B" (.ref (ex 40)) A U H ∧ va_T .byte (ex 40) 100 tensT A U H) ∧ (va_Z "java/lang/Integer" "DigitOnes" "[B" (.ref (ex 41)) A U H ∧ va_T .byte (ex 41) 100 onesT A U H) ∧ ExJ ex A U H)
def ncT : List (String × String) := []
def ExW (ex : Nat → Nat) (U : State) : Prop := (∀ w ∈ wsN, va_Nw w U) ∧ (∀ q ∈ strT, vk_R q.1 q.2.1 q.2.2.1 (ex (100 + q.2.2.2)) U) ∧ ∀ q ∈ ncT, va_Nc q.1 q.2 U
def Ex (ex : Nat → Nat) (A : Nat → Prop) (U : State) (H : Heap) : Prop := ExH ex A U H ∧ ExW ex U
theorem ExH.kept {ex : Nat → Nat} {A : Nat → Prop} {U : State} {H H1 : Heap} (h : ExH ex A U H) (hq : ∀ a : Nat, a < H.size → ¬ A a → H1[a]? = H[a]?) : ExH ex A U H1 := by
  obtain ⟨⟨a1, a2⟩, ⟨b1, b2⟩, ⟨c1, c2, c3⟩, ⟨d1, d2, d3⟩, ⟨e1, e2⟩, ⟨f1, f2⟩, ⟨g1, g2⟩, j9⟩ := h
  exact ⟨⟨a1.kept hq, a2.kept hq⟩, ⟨b1.kept hq, b2.kept hq⟩, ⟨c1.kept hq, c2.kept hq, c3.kept hq⟩, ⟨d1.kept hq, d2.kept hq, d3.kept hq⟩, ⟨e1.kept hq, e2.kept hq⟩, ⟨f1.kept hq, f2.kept hq⟩, ⟨g1.kept hq, g2.kept hq⟩, j9.kept hq⟩
theorem ExH.narrow {ex : Nat → Nat} {A B : Nat → Prop} {U : State} {H : Heap} (h : ExH ex A U H) (hAB : ∀ q, B q → A q) : ExH ex B U H := by
  obtain ⟨⟨a1, a2⟩, ⟨b1, b2⟩, ⟨c1, c2, c3⟩, ⟨d1, d2, d3⟩, ⟨e1, e2⟩, ⟨f1, f2⟩, ⟨g1, g2⟩, j9⟩ := h
  exact ⟨⟨a1.narrow hAB, a2.narrow hAB⟩, ⟨b1.narrow hAB, b2.narrow hAB⟩, ⟨c1.narrow hAB, c2.narrow hAB, c3.narrow hAB⟩, ⟨d1.narrow hAB, d2.narrow hAB, d3.narrow hAB⟩, ⟨e1.narrow hAB, e2.narrow hAB⟩, ⟨f1.narrow hAB, f2.narrow hAB⟩, ⟨g1.narrow hAB, g2.narrow hAB⟩, j9.narrow hAB⟩
theorem ExH.moved {ex : Nat → Nat} {A : Nat → Prop} {u U : State} {H : Heap} (hvm : u.vm.Alike U.vm) (h : ExH ex A u H) : ExH ex A U H := by
  obtain ⟨⟨a1, a2⟩, ⟨b1, b2⟩, ⟨c1, c2, c3⟩, ⟨d1, d2, d3⟩, ⟨e1, e2⟩, ⟨f1, f2⟩, ⟨g1, g2⟩, j9⟩ := h
  exact ⟨⟨vx_Zq.moved hvm a1, vx_Zq.moved hvm a2⟩, ⟨va_En.moved hvm b1, va_En.moved hvm b2⟩, ⟨va_Ef.moved hvm c1, va_Z.moved hvm c2, va_T.moved hvm c3⟩, ⟨va_Z.moved hvm d1, va_T.moved hvm d2, vk_S.moved hvm d3⟩, ⟨va_Z.moved hvm e1, Zo.moved hvm e2⟩, ⟨va_Z.moved hvm f1, va_T.moved hvm f2⟩, ⟨va_Z.moved hvm g1, va_T.moved hvm g2⟩, ExJ.moved hvm j9⟩
theorem Ex.kept {ex : Nat → Nat} {A : Nat → Prop} {U : State} {H H1 : Heap} (h : Ex ex A U H) (hq : ∀ a : Nat, a < H.size → ¬ A a → H1[a]? = H[a]?) : Ex ex A U H1 := ⟨h.1.kept hq, h.2⟩
theorem Ex.narrow {ex : Nat → Nat} {A B : Nat → Prop} {U : State} {H : Heap} (h : Ex ex A U H) (hAB : ∀ q, B q → A q) : Ex ex B U H := ⟨h.1.narrow hAB, h.2⟩
theorem wsN_cases {w : Cond} (h : w ∈ wsN) : (∃ a b c d, w = .methodLinkNest a b c d) ∨ (∃ a b c d e f, w = .fieldLinkNest a b c d e f) ∨ (∃ a b, w = .castable a b) ∨ (∃ C, w = .arrayOver (.object C)) ∨ ∃ x, w = .declares x := by
  have h1 := (List.mem_filter.mp h).2
  split at h1
  all_goals first | exact Or.inl ⟨_, _, _, _, rfl⟩ | exact Or.inr (Or.inl ⟨_, _, _, _, _, _, rfl⟩) | exact Or.inr (Or.inr (Or.inl ⟨_, _, rfl⟩)) | exact Or.inr (Or.inr (Or.inr (Or.inl ⟨_, rfl⟩))) | exact Or.inr (Or.inr (Or.inr (Or.inr ⟨_, rfl⟩))) | cases h1
theorem Ex.warm {ex : Nat → Nat} {A : Nat → Prop} {s U : State} {H : Heap} (h : Ex ex A s H) (hW : s.WarmedH U.vm) : Ex ex A U H := by
  obtain ⟨h1, h3, h4, h5⟩ := h
  refine ⟨h1.moved hW.alike, fun w hw => ?_, fun q hq => (h4 q hq).warm hW, fun q hq => (h5 q hq).moved hW.alike⟩
  rcases wsN_cases hw with ⟨a, b, c, d, rfl⟩ | ⟨a, b, c, d, e, f, rfl⟩ | ⟨a, b, rfl⟩ | ⟨C, rfl⟩ | ⟨x, rfl⟩
  · exact va_Nw.warmM hW (h3 _ hw)
  · exact va_Nw.warmF hW (h3 _ hw)
  · exact va_Nw.warmC hW (h3 _ hw)
  · exact va_AO.moved hW.alike (h3 _ hw)
  · exact va_Nw.warmD hW (h3 _ hw)
theorem Ex.same {ex : Nat → Nat} {A : Nat → Prop} {s U : State} {H : Heap} (h : Ex ex A s H) (hv : s.vm = U.vm) : Ex ex A U H := by
  obtain ⟨h1, h3, h4, h5⟩ := h
  have ha : s.vm.Alike U.vm := by rw [hv]; exact Vm.Alike.refl _
  refine ⟨h1.moved ha, fun w hw => ?_, fun q hq => (h4 q hq).same hv.symm, fun q hq => (h5 q hq).moved ha⟩
  rcases wsN_cases hw with ⟨a, b, c, d, rfl⟩ | ⟨a, b, c, d, e, f, rfl⟩ | ⟨a, b, rfl⟩ | ⟨C, rfl⟩ | ⟨x, rfl⟩
  · exact va_Nw.same rfl hv (h3 _ hw)
  · exact va_Nw.same rfl hv (h3 _ hw)
  · exact va_Nw.same rfl hv (h3 _ hw)
  · exact va_AO.moved ha (h3 _ hw)
  · exact va_Nw.same rfl hv (h3 _ hw)
/-- a method: its name, the number of its locals, what it hands back, its handlers, the frames that are left -/
abbrev MD : Type := MethodName × Nat × Option FieldType × List (Nat × Nat × Nat × Nat) × Nat
abbrev Rs : Type := Option Value ⊕ String
abbrev Rm (d mc ms : Nat) : Room := { frames := d, cells := mc, slots := ms, locals := 40 * d + 2080 }
theorem dep40 {a b n : Nat} (h : a + 1 ≤ b ∧ 8 + (n + 11) + 40 * a ≤ 40 * b) : a + 1 ≤ b ∧ 8 + (n + 11) + (40 * a + 2080) ≤ 40 * b + 2080 := ⟨h.1, by omega⟩
def Cx (M : MD) (cc : ByteArray) (p : Program) (l : Launch) (s : State) (m : MethodId) (args : Array Value) (meth : Method) (c : Code) : Prop :=
  p.tables.exec = Jvm.exec ∧ c.code = cc ∧ meth.sig.returnType = M.2.2.1 ∧ c.maxLocals = M.2.1 ∧ s.vm.findClass M.1.cls = some m.cls ∧ (∀ w ∈ wsG, w.before args s = true) ∧ meth.locks = false ∧ meth.name = M.1.name ∧ c.exceptionTable.toList = tableOf M.2.2.2.1 ∧ l.stackTraces = false
def Rp (D : va_G) (cA : Nat → ClassId) (A : Nat → Prop) (s : State) (ad0 : Nat → Nat) (n0 : Nat) (ad : Nat → Nat) (I : Mem) (K : Kt) (H : Heap) (locs : List Loc) : Prop :=
  va_K D cls (tys cA) s ∧ va_P D cls (wl cA ad I K) H ∧ va_D A (wl cA ad I K) ∧ va_S A s.heap H locs ∧ (∀ q, s.heap.size ≤ q → A q) ∧ Cl K ∧ n0 ≤ kN K ∧ ∀ k, (k < n0 ∨ xB ≤ k) → ad k = ad0 k
def Wz (D : va_G) (cA : Nat → ClassId) (A : Nat → Prop) (ad0 : Nat → Nat) (n0 : Nat) (t : State) (ad : Nat → Nat) (I : Mem) (K : Kt) : Prop :=
  va_K D cls (tys cA) t ∧ va_P D cls (wl cA ad I K) t.heap ∧ va_D A (wl cA ad I K) ∧ Cl K ∧ n0 ≤ kN K ∧ ∀ k, (k < n0 ∨ xB ≤ k) → ad k = ad0 k
def Qz (D : va_G) (cA : Nat → ClassId) (A : Nat → Prop) (ad0 : Nat → Nat) (n0 : Nat) (Q : Rs → Mem → Kt → Prop) : Array Value → State → Outcome → State → Prop := fun _ st o t =>
  (∃ (ad : Nat → Nat) (r : Option Value) (I : Mem) (K : Kt), o = .returned (r.map (cv ad)) ∧ (∀ v, r = some v → vok (kN K) v) ∧ Q (.inl r) I K ∧ Wz D cA A ad0 n0 t ad I K) ∧ va_F A st t
def Xz (D : va_G) (cA : Nat → ClassId) (A : Nat → Prop) (ad0 : Nat → Nat) (n0 : Nat) (Q : Rs → Mem → Kt → Prop) : String → State → State → Prop := fun E st t =>
  (∃ (ad : Nat → Nat) (I : Mem) (K : Kt), Q (.inr E) I K ∧ Wz D cA A ad0 n0 t ad I K) ∧ va_F A st t
/-- THE JUDGEMENT: from here the method comes to an end, with a result and a heap that Q allows; at most bc cells of bs places are new -/
def X (M : MD) (cc : ByteArray) (bc bs : Nat) (I : Mem) (K : Kt) (pc : Nat) (L st : List Value) (Q : Rs → Mem → Kt → Prop) (Γ : (Nat → Nat) → (Nat → Prop) → State → Array Value → Prop := fun _ _ _ _ => True) : Prop :=
  ∀ (p : Program) (l : Launch) (e : Env) (s : State) (m : MethodId) (args : Array Value) (below : List Frame) (meth : Method) (c : Code) (mc ms : Nat) (D : va_G) (cA : Nat → ClassId) (A : Nat → Prop) (ad0 : Nat → Nat) (n0 : Nat), Cx M cc p l s m args meth c → Ex (fun i => ad0 (xE i)) A s s.heap → Γ ad0 A s args →
  ∀ (ad : Nat → Nat) (H : Heap) (locs : List Loc) (cells slots : Nat) (ls : Array Slot), Rp D cA A s ad0 n0 ad I K H locs → cells + bc ≤ mc → slots + bs ≤ ms → Rl ad ls M.2.1 L → (∀ v ∈ L, vok (kN K) v) → (∀ v ∈ st, vok (kN K) v) →
  W p l e (Rm M.2.2.2.2 mc ms) s m args below meth c H locs cells slots (vx_MQ below (Qz D cA A ad0 n0 Q) (Xz D cA A ad0 n0 Q) args s mc ms A) (F0 m pc ls (st.map (cv ad)))
section XR
variable {Γ : (Nat → Nat) → (Nat → Prop) → State → Array Value → Prop} {M : MD} {cc : ByteArray} {bc bs : Nat} {I : Mem} {K : Kt} {pc : Nat} {L st : List Value} {Q : Rs → Mem → Kt → Prop}
theorem X.mono {Q' : Rs → Mem → Kt → Prop} (h : X M cc bc bs I K pc L st Q Γ) (hQ : ∀ r I' K', Q r I' K' → Q' r I' K') : X M cc bc bs I K pc L st Q' Γ := by
  intro p l e s m args below meth c mc ms D cA A ad0 n0 hC hE hΓ ad H locs cells slots ls hR hc hs hL hvL hvS T hT XX
  obtain ⟨t, a, o, b1, b2, b3⟩ := h p l e s m args below meth c mc ms D cA A ad0 n0 hC hE hΓ ad H locs cells slots ls hR hc hs hL hvL hvS T hT XX
  refine ⟨t, a, o, b1, b2, ?_⟩
  rcases b3 with ⟨⟨⟨ad1, r, I1, K1, e1, e2, e3, e4⟩, e5⟩, e6⟩ | ⟨q, e0, E, ce, L1, ⟨⟨ad1, I1, K1, e1, e2⟩, e3⟩, e4⟩
  · exact Or.inl ⟨⟨⟨ad1, r, I1, K1, e1, e2, hQ _ _ _ e3, e4⟩, e5⟩, e6⟩
  · exact Or.inr ⟨q, e0, E, ce, L1, ⟨⟨ad1, I1, K1, hQ _ _ _ e1, e2⟩, e3⟩, e4⟩
theorem X.less {bc' bs' : Nat} (h : X M cc bc' bs' I K pc L st Q Γ) (h1 : bc' ≤ bc) (h2 : bs' ≤ bs) : X M cc bc bs I K pc L st Q Γ := by
  intro p l e s m args below meth c mc ms D cA A ad0 n0 hC hE hΓ ad H locs cells slots ls hR hc hs hL hvL hvS
  exact h p l e s m args below meth c mc ms D cA A ad0 n0 hC hE hΓ ad H locs cells slots ls hR (by omega) (by omega) hL hvL hvS
/-- a row that moves the stack alone -/
theorem X.sk {pc' : Nat} {st' : List Value} (k : X M cc bc bs I K pc' L st' Q Γ) (hv : ∀ n, (∀ v ∈ st, vok n v) → (∀ v ∈ L, vok n v) → ∀ v ∈ st', vok n v)
    (row : ∀ {p : Program} {l : Launch} {e : Env} {R : Room} {s : State} {m : MethodId} {args : Array Value} {below : List Frame} {meth : Method} {c : Code} {H : Heap} {locs : List Loc} {cells slots : Nat} {Q : State → Prop} {ls : Array Slot} {ad : Nat → Nat}, p.tables.exec = Jvm.exec → c.code = cc → s.vm.findClass M.1.cls = some m.cls → (∀ w ∈ wsG, w.before args s = true) → Rl ad ls M.2.1 L → W p l e R s m args below meth c H locs cells slots Q (F0 m pc' ls (st'.map (cv ad))) → W p l e R s m args below meth c H locs cells slots Q (F0 m pc ls (st.map (cv ad)))) : X M cc bc bs I K pc L st Q Γ := by
  intro p l e s m args below meth c mc ms D cA A ad0 n0 hC hE hΓ ad H locs cells slots ls hR hc hs hL hvL hvS
  exact row hC.1 hC.2.1 hC.2.2.2.2.1 hC.2.2.2.2.2.1 hL (k p l e s m args below meth c mc ms D cA A ad0 n0 hC hE hΓ ad H locs cells slots ls hR hc hs hL hvL (hv _ hvS hvL))
/-- a branch -/
theorem X.br {c : Prop} {pt pf : Nat} {st' : List Value} (kt : c → X M cc bc bs I K pt L st' Q Γ) (kf : ¬ c → X M cc bc bs I K pf L st' Q Γ) (hv : ∀ n, (∀ v ∈ st, vok n v) → ∀ v ∈ st', vok n v)
    (row : ∀ {p : Program} {l : Launch} {e : Env} {R : Room} {s : State} {m : MethodId} {args : Array Value} {below : List Frame} {meth : Method} {co : Code} {H : Heap} {locs : List Loc} {cells slots : Nat} {Q : State → Prop} {ls : Array Slot} {ad : Nat → Nat}, p.tables.exec = Jvm.exec → co.code = cc → (c → W p l e R s m args below meth co H locs cells slots Q (F0 m pt ls (st'.map (cv ad)))) → (¬ c → W p l e R s m args below meth co H locs cells slots Q (F0 m pf ls (st'.map (cv ad)))) → W p l e R s m args below meth co H locs cells slots Q (F0 m pc ls (st.map (cv ad)))) : X M cc bc bs I K pc L st Q Γ := by
  intro p l e s m args below meth c mc ms D cA A ad0 n0 hC hE hΓ ad H locs cells slots ls hR hc hs hL hvL hvS
  exact row hC.1 hC.2.1 (fun h => kt h p l e s m args below meth c mc ms D cA A ad0 n0 hC hE hΓ ad H locs cells slots ls hR hc hs hL hvL (hv _ hvS)) (fun h => kf h p l e s m args below meth c mc ms D cA A ad0 n0 hC hE hΓ ad H locs cells slots ls hR hc hs hL hvL (hv _ hvS))
/-- a row that sets a local -/
theorem X.lo {pc' i : Nat} {v : Value} {st' : List Value} (k : X M cc bc bs I K pc' (L.set i v) st' Q Γ) (hi : i < L.length) (hc1 : v.category = 1) (h2 : c2 L i = true) (hv : ∀ n, (∀ v ∈ st, vok n v) → (∀ v ∈ L, vok n v) → vok n v ∧ ∀ v ∈ st', vok n v)
    (row : ∀ {p : Program} {l : Launch} {e : Env} {R : Room} {s : State} {m : MethodId} {args : Array Value} {below : List Frame} {meth : Method} {c : Code} {H : Heap} {locs : List Loc} {cells slots : Nat} {Q : State → Prop} {ls ls' : Array Slot} {ad : Nat → Nat}, p.tables.exec = Jvm.exec → c.code = cc → Rl ad ls M.2.1 L → storeLocals ls i (cv ad v) = some ls' → W p l e R s m args below meth c H locs cells slots Q (F0 m pc' ls' (st'.map (cv ad))) → W p l e R s m args below meth c H locs cells slots Q (F0 m pc ls (st.map (cv ad)))) : X M cc bc bs I K pc L st Q Γ := by
  intro p l e s m args below meth c mc ms D cA A ad0 n0 hC hE hΓ ad H locs cells slots ls hR hc hs hL hvL hvS
  obtain ⟨hw, hr⟩ := hv _ hvS hvL
  obtain ⟨ls', e1, hL'⟩ := hL.set1 hi hc1 h2
  exact row hC.1 hC.2.1 hL e1 (k p l e s m args below meth c mc ms D cA A ad0 n0 hC hE hΓ ad H locs cells slots ls' hR hc hs hL' (fun w hw' => (List.mem_or_eq_of_mem_set hw').elim (hvL w) (fun e => by rw [e]; exact hw)) hr)
end XR
