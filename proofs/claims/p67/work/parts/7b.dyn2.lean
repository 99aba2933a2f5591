theorem castP : Cond.castable "WishMarketLaw$Person" "java/lang/Object" ∈ lw_tbl := inTb9 18 rfl
theorem castW : Cond.castable "WishMarketLaw$Wish" "java/lang/Object" ∈ lw_tbl := inTb9 19 rfl
theorem castA : Cond.castable "[I" "java/lang/Object" ∈ lw_tbl := inTb9 33 rfl
section DYb
variable {Γ : (Nat → Nat) → (Nat → Prop) → State → Array Value → Prop} {M : MD} {cc : ByteArray} {bc bs : Nat} {I : Mem} {K : Kt} {pc : Nat} {L st : List Value} {Q : Rs → Mem → Kt → Prop}
theorem any_obj {ci v : Nat} {C : String} {T : u_T} {N : Nat} (hci : cls[ci]? = some (C, T, N)) (hca : Cond.castable C "java/lang/Object" ∈ wsN) (H : LO K ci v) (cA : Nat → ClassId) (ad : Nat → Nat) {s : State} {H0 : Heap} {D : va_G} (hN : ∀ w ∈ wsN, va_Nw w s) (hK : va_K D cls (tys cA) s) (hP : va_P D cls (wl cA ad I K) H0) : va_Any "java/lang/Object" s H0 (ad v) :=
  va_rAny hK hP ((wl_get H.2).trans (by rw [ce_obj H.1 (cls_lt hci)])) hci (fun comp c0 h1 h2 => by
    obtain ⟨c9, t9, f1, f2, f3⟩ := Cond.castable_spec (va_Nw.use (A := #[]) rfl (hN _ hca))
    cases h2.symm.trans f1
    cases h1.symm.trans f2
    exact f3)
theorem any_int {v n : Nat} (hca : Cond.castable "[I" "java/lang/Object" ∈ wsN) (H : LA K 100 n v) (cA : Nat → ClassId) (ad : Nat → Nat) {s : State} {H0 : Heap} {D : va_G} (hN : ∀ w ∈ wsN, va_Nw w s) (hK : va_K D cls (tys cA) s) (hP : va_P D cls (wl cA ad I K) H0) : va_Any "java/lang/Object" s H0 (ad v) :=
  va_rArr (t0 := 0) hK hP (wl_get H.2 |>.trans (by rw [ce_ints H.1 (by decide) (by decide)])) rfl (hK.2 0 (cA 100, .int) rfl).2 (hN _ hca)
/-- what may go into a list -/
def cAny (K : Kt) (v : Nat) : Option Unit := if ((kS K v).1 = 9 ∨ (kS K v).1 = 10 ∨ (kS K v).1 = 100) ∧ v < kN K then some () else none
/-! what is asked of the heap on the way -/
def cO (K : Kt) (ci a : Nat) : Option Unit := if (kS K a).1 = ci ∧ a < kN K then some () else none
theorem cO_s {ci a : Nat} {u : Unit} (h : cO K ci a = some u) : LO K ci a := by
  unfold cO at h
  split at h
  · assumption
  · cases h
theorem cO_n {ci a : Nat} (h : LO K ci a) : cO K ci a = some () := if_pos h
def cA (K : Kt) (ci a : Nat) : Option Nat := if (kS K a).1 = ci ∧ a < kN K then some (kS K a).2 else none
theorem cA_s {ci a n : Nat} (h : cA K ci a = some n) : LA K ci n a := by
  unfold cA at h
  split at h
  · next hc => cases h; exact ⟨Prod.ext hc.1 rfl, hc.2⟩
  · cases h
theorem cA_n {ci a n : Nat} (h : LA K ci n a) : cA K ci a = some n := by
  unfold cA
  rw [if_pos ⟨by rw [h.1], h.2⟩, h.1]
def gR (K : Kt) (a k : Nat) : Option Nat := kG K a k
def cL (K : Kt) : Option Unit := if kN K < 900000 then some () else none
theorem cL_s {u : Unit} (h : cL K = some u) : kN K < xB := by
  unfold cL at h
  split at h
  · next hc => exact Nat.lt_trans hc (by decide)
  · cases h
theorem cL_n (h : kN K < 900000) : cL K = some () := if_pos h
/-- the length of something new -/
def ixn (i : Int32) : Option Nat := if 0 ≤ i.toInt ∧ i.toInt ≤ 60000 then some i.toInt.toNat else none
theorem ixn_s {i : Int32} {n : Nat} (h : ixn i = some n) : i = nI n ∧ n ≤ 60000 := by
  unfold ixn at h
  split at h
  · next hc =>
    cases h
    have h9 : i.toInt = (i.toInt.toNat : Int) := (Int.toNat_of_nonneg hc.1).symm
    refine ⟨?_, by omega⟩
    apply Int32.toInt_inj.mp
    rw [nI_toInt (by omega : i.toInt.toNat < 2 ^ 31)]
    exact h9
  · cases h
theorem ixn_n {n : Nat} (h : n ≤ 60000) : ixn (nI n) = some n := by
  have e : (nI n).toInt = (n : Int) := nI_toInt (by omega)
  unfold ixn
  rw [e, if_pos ⟨by omega, by omega⟩, Int.toNat_natCast]
noncomputable def cW (K : Kt) (w : Nat) : Option Unit := @ite _ (LW K w) (Classical.propDecidable _) (some ()) none
theorem cW_s {w : Nat} {u : Unit} (h : cW K w = some u) : LW K w := by
  unfold cW at h
  split at h
  · assumption
  · cases h
theorem cW_n {w : Nat} (h : LW K w) : cW K w = some () := if_pos h
/-- the kind of the current token, as it stands -/
noncomputable def cT (K : Kt) (t : Nat) : Option Nat := @dite _ (∃ k, k < 7 ∧ kG K t 5 = some (xE k)) (Classical.propDecidable _) (fun h => some (Classical.choose h)) (fun _ => none)
theorem cT_s {t k : Nat} (h : cT K t = some k) : kk K t k = K ∧ k < 7 := by
  unfold cT at h
  split at h
  · next hc =>
    cases h
    have h9 := Classical.choose_spec hc
    refine ⟨?_, h9.1⟩
    show (K.1, K.2.1, u2 (kG K) t 5 _, K.2.2.2) = K
    rw [← h9.2, show u2 (kG K) t 5 (kG K t 5) = kG K from by
      funext a j
      by_cases h1 : a = t
      · subst h1
        by_cases h2 : j = 5
        · subst h2; exact u2_s
        · exact u2_k h2
      · exact congrFun (u2_a h1) j]
  · cases h
theorem cT_n {t k : Nat} (hk : k < 7) (h : kG K t 5 = some (xE k)) : cT K t = some k := by
  unfold cT
  have hc : ∃ k, k < 7 ∧ kG K t 5 = some (xE k) := ⟨k, hk, h⟩
  rw [dif_pos hc]
  have h9 := (Classical.choose_spec hc).2
  have e : xE (Classical.choose hc) = xE k := Option.some.inj (h9.symm.trans h)
  exact congrArg some (Nat.add_left_cancel e)
/-- a value that fits where it goes -/
def cF (ty : FieldType) (v : Int32) : Option Unit := if narrow ty (.int v) = .int v ∧ fits ty (.int v) = true then some () else none
theorem cF_s {ty : FieldType} {v : Int32} {u : Unit} (h : cF ty v = some u) : narrow ty (.int v) = .int v ∧ fits ty (.int v) = true := by
  unfold cF at h
  split at h
  · assumption
  · cases h
theorem cF_z : cF .boolean 0 = some () := rfl
theorem cF_o : cF .boolean 1 = some () := rfl
theorem cF_b : cF .byte 0 = some () := rfl
section OB
variable {α β γ δ : Type}
def o1 (o : Option (Except String α)) (f : α → Option δ) : Option δ := match o with
  | some (.ok a) => f a
  | _ => none
def o2 (o : Option (Except String α × β)) (f : α → β → Option δ) : Option δ := match o with
  | some (.ok a, b) => f a b
  | _ => none
def o3 (o : Option (Except String α × β × γ)) (f : α → β → γ → Option δ) : Option δ := match o with
  | some (.ok a, b, c) => f a b c
  | _ => none
theorem o1_s {o : Option (Except String α)} {f : α → Option δ} {r : δ} (h : o1 o f = some r) : ∃ a, o = some (.ok a) ∧ f a = some r := by
  rcases o with _ | (E | a)
  · cases h
  · cases h
  · exact ⟨a, rfl, h⟩
theorem o2_s {o : Option (Except String α × β)} {f : α → β → Option δ} {r : δ} (h : o2 o f = some r) : ∃ a b, o = some (.ok a, b) ∧ f a b = some r := by
  rcases o with _ | ⟨E | a, b⟩
  · cases h
  · cases h
  · exact ⟨a, b, rfl, h⟩
theorem o3_s {o : Option (Except String α × β × γ)} {f : α → β → γ → Option δ} {r : δ} (h : o3 o f = some r) : ∃ a b c, o = some (.ok a, b, c) ∧ f a b c = some r := by
  rcases o with _ | ⟨E | a, b, c⟩
  · cases h
  · cases h
  · exact ⟨a, b, c, rfl, h⟩
end OB
theorem cAny_l {v : Nat} {u : Unit} (h : cAny K v = some u) : v < kN K := by
  unfold cAny at h
  split at h
  · next hc => exact hc.2
  · cases h
theorem cAny_a {I : Mem} {v : Nat} {u : Unit} (h : cAny K v = some u) : ∀ (cA : Nat → ClassId) (ad : Nat → Nat) {s : State} {H : Heap} {D : va_G}, (∀ w ∈ wsN, va_Nw w s) → va_K D cls (tys cA) s → va_P D cls (wl cA ad I K) H → va_Any "java/lang/Object" s H (ad v) := by
  unfold cAny at h
  split at h
  · next hc =>
    obtain ⟨h1, h2⟩ := hc
    refine fun cA ad {s H D} hN hK hP => ?_
    rcases h1 with h1 | h1 | h1
    · exact any_obj (ci := 9) rfl (List.mem_filter.mpr ⟨castP, rfl⟩) ⟨h1, h2⟩ cA ad hN hK hP
    · exact any_obj (ci := 10) rfl (List.mem_filter.mpr ⟨castW, rfl⟩) ⟨h1, h2⟩ cA ad hN hK hP
    · exact any_int (n := (kS K v).2) (List.mem_filter.mpr ⟨castA, rfl⟩) ⟨Prod.ext h1 rfl, h2⟩ cA ad hN hK hP
  · cases h
theorem cAny_n {v : Nat} (h : LO K 9 v ∨ LO K 10 v ∨ ∃ n, LA K 100 n v) : cAny K v = some () := by
  refine if_pos ?_
  rcases h with h | h | ⟨n, h⟩
  · exact ⟨Or.inl h.1, h.2⟩
  · exact ⟨Or.inr (Or.inl h.1), h.2⟩
  · exact ⟨Or.inr (Or.inr (by rw [h.1])), h.2⟩
/-! statics of the JDK -/
theorem x_gsE {ix : Nat} (hl : Cond.fieldLink M.1.cls ix "java/util/ArrayList" "DEFAULTCAPACITY_EMPTY_ELEMENTDATA" "[Ljava/lang/Object;" ∈ wsG) (hd : decode cc pc = .ok (.getstatic ix, 3)) (kk : X M cc bc bs I K (pc + 3) L (.ref (xE 43) :: st) Q Γ) : X M cc bc bs I K pc L st Q Γ := by
  refine X.fo kk (fun n => Or.inr (xE_ge _)) (fun n h => h) fun ad ad0 => fun hx hb ho ht hE hS ha k9 => ?_
  refine va_gets hx hb hE.1.2.2.2.2.2.2.2.1.1 hS ho (ht _ hl) (fun _ h => h) hd ?_
  have e2 : ad (xE 43) = ad0 (xE 43) := ha 43
  dsimp only
  rw [← e2]
  exact k9
theorem x_elen (hd : decode cc pc = .ok (.arraylength, 1)) (kk : X M cc bc bs I K (pc + 1) L (.int 0 :: st) Q Γ) : X M cc bc bs I K pc L (.ref (xE 43) :: st) Q Γ := by
  refine X.fo kk (fun n => trivial) (fun n h => (List.forall_mem_cons.mp h).2) fun ad ad0 => fun hx hb ho ht hE hS ha k9 => ?_
  have e2 : ad (xE 43) = ad0 (xE 43) := ha 43
  show W _ _ _ _ _ _ _ _ _ _ _ _ _ _ _ (F0 _ pc _ (.ref (ad (xE 43)) :: _))
  rw [e2]
  exact va_tlen hx hb hE.1.2.2.2.2.2.2.2.1.2 hS rfl hd k9
theorem x_gsU {ix : Nat} (hl : Cond.fieldLink M.1.cls ix "jdk/internal/util/ArraysSupport" "U" "Ljdk/internal/misc/Unsafe;" ∈ wsG) (hd : decode cc pc = .ok (.getstatic ix, 3)) (kk : X M cc bc bs I K (pc + 3) L (.ref (xE 44) :: st) Q Γ) : X M cc bc bs I K pc L st Q Γ := by
  refine X.fo kk (fun n => Or.inr (xE_ge _)) (fun n h => h) fun ad ad0 => fun hx hb ho ht hE hS ha k9 => ?_
  refine va_gets hx hb hE.1.2.2.2.2.2.2.2.2.1.1 hS ho (ht _ hl) (fun _ h => h) hd ?_
  have e2 : ad (xE 44) = ad0 (xE 44) := ha 44
  dsimp only
  rw [← e2]
  exact k9
theorem x_gsO {ix : Nat} (hl : Cond.fieldLink M.1.cls ix "jdk/internal/misc/Unsafe" "ARRAY_LONG_BASE_OFFSET" "I" ∈ wsG) (hd : decode cc pc = .ok (.getstatic ix, 3)) (kk : X M cc bc bs I K (pc + 3) L (.int 16 :: st) Q Γ) : X M cc bc bs I K pc L st Q Γ := by
  refine X.fo kk (fun n => trivial) (fun n h => h) fun ad ad0 => fun hx hb ho ht hE hS ha k9 => ?_
  exact va_gets hx hb hE.1.2.2.2.2.2.2.2.2.2.1.1 hS ho (ht _ hl) (fun _ h => h) hd k9
theorem x_gsL {ix : Nat} (hl : Cond.fieldLink M.1.cls ix "jdk/internal/util/ArraysSupport" "LOG2_ARRAY_LONG_INDEX_SCALE" "I" ∈ wsG) (hd : decode cc pc = .ok (.getstatic ix, 3)) (kk : X M cc bc bs I K (pc + 3) L (.int 3 :: st) Q Γ) : X M cc bc bs I K pc L st Q Γ := by
  refine X.fo kk (fun n => trivial) (fun n h => h) fun ad ad0 => fun hx hb ho ht hE hS ha k9 => ?_
  exact va_gets hx hb hE.1.2.2.2.2.2.2.2.2.2.1.2.1 hS ho (ht _ hl) (fun _ h => h) hd k9
theorem x_gsI {ix : Nat} (hl : Cond.fieldLink M.1.cls ix "jdk/internal/util/ArraysSupport" "LOG2_ARRAY_INT_INDEX_SCALE" "I" ∈ wsG) (hd : decode cc pc = .ok (.getstatic ix, 3)) (kk : X M cc bc bs I K (pc + 3) L (.int 2 :: st) Q Γ) : X M cc bc bs I K pc L st Q Γ := by
  refine X.fo kk (fun n => trivial) (fun n h => h) fun ad ad0 => fun hx hb ho ht hE hS ha k9 => ?_
  exact va_gets hx hb hE.1.2.2.2.2.2.2.2.2.2.1.2.2 hS ho (ht _ hl) (fun _ h => h) hd k9
/-! copies of bytes -/
/-- how far a copy goes: places d.. of n2, from s.. of n1 -/
def cpy (s d m : Int32) (n1 n2 : Nat) : Option (Nat × Nat × Nat) := if (0 ≤ s.toInt ∧ 0 ≤ d.toInt ∧ 0 ≤ m.toInt) ∧ s.toInt + m.toInt ≤ (n1 : Int) ∧ d.toInt + m.toInt ≤ (n2 : Int) ∧ n1 < 2147483648 ∧ n2 < 2147483648 then some (s.toInt.toNat, d.toInt.toNat, m.toInt.toNat) else none
theorem toNC {i : Int32} (h : 0 ≤ i.toInt) : i = nI i.toInt.toNat := by
  apply Int32.toInt_inj.mp
  have h2 := i.toInt_lt
  rw [nI_toInt (by omega)]
  omega
theorem cpy_s {s d m : Int32} {n1 n2 a b c : Nat} (h : cpy s d m n1 n2 = some (a, b, c)) : s = nI a ∧ d = nI b ∧ m = nI c ∧ a + c ≤ n1 ∧ b + c ≤ n2 ∧ n1 < 2147483648 ∧ n2 < 2147483648 := by
  unfold cpy at h
  split at h
  · next hc =>
    obtain ⟨⟨h1, h2, h3⟩, h4, h5, h6, h7⟩ := hc
    cases h
    exact ⟨toNC h1, toNC h2, toNC h3, by omega, by omega, h6, h7⟩
  · cases h
theorem cpy_n {a b c n1 n2 : Nat} (h1 : a + c ≤ n1) (h2 : b + c ≤ n2) (h3 : n1 < 2147483648) (h4 : n2 < 2147483648) : cpy (nI a) (nI b) (nI c) n1 n2 = some (a, b, c) := by
  unfold cpy
  rw [nI_toInt (by omega : a < 2 ^ 31), nI_toInt (by omega : b < 2 ^ 31), nI_toInt (by omega : c < 2 ^ 31), if_pos ⟨⟨by omega, by omega, by omega⟩, by omega, by omega, h3, h4⟩]
  simp
/-- bytes that are bytes -/
noncomputable def cFit (f : Nat → Int32) (a c : Nat) : Option Unit := @ite _ (∀ i, i < c → fits .byte (.int (f (a + i))) = true) (Classical.propDecidable _) (some ()) none
theorem cFit_s {f : Nat → Int32} {a c : Nat} {u : Unit} (h : cFit f a c = some u) : ∀ i, i < c → fits .byte (.int (f (a + i))) = true := by
  unfold cFit at h
  split at h
  · assumption
  · cases h
theorem cFit_n {f : Nat → Int32} {a c : Nat} (h : ∀ i, i < c → fits .byte (.int (f (a + i))) = true) : cFit f a c = some () := if_pos h
theorem x_copyBB {ix v a n1 n2 s1 d1 m1 : Nat} {s d m : Int32} {u : Unit} (h1 : Cond.methodLink M.1.cls ix arraycopyName ∈ wsG) (h2 : Cond.native arraycopyName ∈ wsG) (h3 : Cond.static arraycopyName ∈ wsG) (h4 : Cond.initialized "java/lang/System" ∈ wsG) (H1 : LA K 101 n1 v) (H2 : LA K 101 n2 a) (hc : cpy s d m n1 n2 = some (s1, d1, m1)) (hfit : cFit (I v) s1 m1 = some u) (hdep : 1 ≤ M.2.2.2.2) (hW : (st.map fun v => v.category).sum ≤ 8) (hd : decode cc pc = .ok (.invokestatic ix, 3))
    (kk : X M cc bc bs (u1 I a (va_cpy (I v) (I a) s1 d1 m1)) K (pc + 3) L st Q Γ) : X M cc bc bs I K pc L (.int m :: .int d :: .ref a :: .int s :: .ref v :: st) Q Γ := by
  obtain ⟨rfl, rfl, rfl, g1, g2, g3, g4⟩ := cpy_s hc
  have hfit := cFit_s hfit
  intro p l e s m args below meth c mc ms D cA A ad0 n0 hC hE hΓ ad H locs cells slots ls hR hc hs hL hvL hvS
  obtain ⟨r1, r2, r3, r4, r5, r6, r7, r8⟩ := hR
  have ht := hC.2.2.2.2.2.1
  have hls : c.maxLocals = ls.size := by
    obtain ⟨k0, lv, k1, -⟩ := hL
    rw [hC.2.2.2.1]
    exact k1.1.symm
  have hW9 : ((st.map (cv ad)).map fun v => v.category).sum ≤ 8 := by
    rw [List.map_map, show ((fun v : Value => v.category) ∘ cv ad) = (fun v => v.category) from funext fun v => cv_cat ad v]
    exact hW
  have hnw : nativeFrameWords "java/lang/System" "arraycopy" 5 + 11 ≤ 2000 := by decide
  have e0 : (nI s1).toNatClampNeg = s1 := nI_clamp (by omega)
  have e1 : (nI m1).toNatClampNeg = m1 := nI_clamp (by omega)
  have e2 : (nI d1).toNatClampNeg = d1 := nI_clamp (by omega)
  refine va_copyi (ty := .byte) hC.1 hC.2.1 hls hC.2.2.2.2.1 (ht _ h1) (ht _ h2) (ht _ h3) (ht _ h4) r1 r2 r3 r4 v a 1 1 (wl_get H1.2 |>.trans (by rw [ce_ints H1.1 (by decide) (by decide)])) (wl_get H2.2 |>.trans (by rw [ce_ints H2.1 (by decide) (by decide)])) rfl rfl rfl (sp := nI s1) (dp := nI d1) (n := nI m1) (nI_pos (by omega)) (nI_pos (by omega)) (nI_pos (by omega)) (by rw [e0, e1]; omega) (by rw [e2, e1]; omega) (by rw [e0, e1]; exact hfit) hdep (Nat.le_trans (Nat.add_le_add hW9 hnw) (by show 8 + 2000 ≤ 40 * M.2.2.2.2 + 2080; omega)) hd fun H1' locs1 p1 p2 p3 => ?_
  rw [e0, e1, e2, show (wl cA ad I K).set a (ad a, Sum.inl (cA 101, n2, .inl (va_cpy (I v) (I a) s1 d1 m1))) = wl cA ad (u1 I a (va_cpy (I v) (I a) s1 d1 m1)) K from wl_set rfl (by rw [ce_ints H2.1 (by decide) (by decide), u1_s]) (fun b hb9 => ce_congr rfl (u1_n hb9) rfl rfl rfl)] at p1 p2
  exact kk p l e s m args below meth c mc ms D cA A ad0 n0 hC hE hΓ ad H1' locs1 cells slots ls ⟨r1, p1, p2, p3, r5, r6, r7, r8⟩ hc hs hL hvL (fun w hw => hvS w (List.mem_cons_of_mem _ (List.mem_cons_of_mem _ (List.mem_cons_of_mem _ (List.mem_cons_of_mem _ (List.mem_cons_of_mem _ hw))))))
theorem bytFit : ∀ i, i < lenT.length → ∀ j, j < lenT.getD i 0 → fits .byte (.int ((bytT.getD i []).getD j 0)) = true := by decide +kernel
theorem x_copyFB {ix i a n2 s1 d1 m1 : Nat} {s d m : Int32} {u : Unit} (h1 : Cond.methodLink M.1.cls ix arraycopyName ∈ wsG) (h2 : Cond.native arraycopyName ∈ wsG) (h3 : Cond.static arraycopyName ∈ wsG) (h4 : Cond.initialized "java/lang/System" ∈ wsG) (hi : ckS i = some u) (H2 : LA K 101 n2 a) (hc : cpy s d m (lenT.getD i 0) n2 = some (s1, d1, m1)) (hdep : 1 ≤ M.2.2.2.2) (hW : (st.map fun v => v.category).sum ≤ 8) (hd : decode cc pc = .ok (.invokestatic ix, 3))
    (kk : X M cc bc bs (u1 I a (va_cpy (fun j => (bytT.getD i []).getD j 0) (I a) s1 d1 m1)) K (pc + 3) L st Q Γ) : X M cc bc bs I K pc L (.int m :: .int d :: .ref a :: .int s :: .ref (xE (200 + i)) :: st) Q Γ := by
  obtain ⟨rfl, rfl, rfl, g1, g2, g3, g4⟩ := cpy_s hc
  intro p l e s m args below meth c mc ms D cA A ad0 n0 hC hE hΓ ad H locs cells slots ls hR hc hs hL hvL hvS
  obtain ⟨r1, r2, r3, r4, r5, r6, r7, r8⟩ := hR
  have ht := hC.2.2.2.2.2.1
  have hls : c.maxLocals = ls.size := by
    obtain ⟨k0, lv, k1, -⟩ := hL
    rw [hC.2.2.2.1]
    exact k1.1.symm
  have hW9 : ((st.map (cv ad)).map fun v => v.category).sum ≤ 8 := by
    rw [List.map_map, show ((fun v : Value => v.category) ∘ cv ad) = (fun v => v.category) from funext fun v => cv_cat ad v]
    exact hW
  have hnw : nativeFrameWords "java/lang/System" "arraycopy" 5 + 11 ≤ 2000 := by decide
  have e0 : (nI s1).toNatClampNeg = s1 := nI_clamp (by omega)
  have e1 : (nI m1).toNatClampNeg = m1 := nI_clamp (by omega)
  have e2 : (nI d1).toNatClampNeg = d1 := nI_clamp (by omega)
  have h9 := (hE.1.2.2.2.1.2.2.1 i (ckS_s hi)).2.2.2
  have e3 : ad (xE (200 + i)) = ad0 (xE (200 + i)) := r8 _ (Or.inr (xE_ge _))
  show W _ _ _ _ _ _ _ _ _ _ _ _ _ _ _ (F0 _ pc _ (.int (nI m1) :: .int (nI d1) :: .ref (ad a) :: .int (nI s1) :: .ref (ad (xE (200 + i))) :: _))
  rw [e3]
  refine vk_copyt hC.1 hC.2.1 hls hC.2.2.2.2.1 (ht _ h1) (ht _ h2) (ht _ h3) (ht _ h4) r1 r2 r3 r4 (f := fun j => (bytT.getD i []).getD j 0) h9 a 1 (wl_get H2.2 |>.trans (by rw [ce_ints H2.1 (by decide) (by decide)])) rfl (sp := nI s1) (dp := nI d1) (n := nI m1) (nI_pos (by omega)) (nI_pos (by omega)) (nI_pos (by omega)) (by rw [e0, e1]; omega) (by rw [e2, e1]; omega) (by rw [e0, e1]; exact fun j hj => bytFit i (ckS_s hi) _ (by omega)) hdep (Nat.le_trans (Nat.add_le_add hW9 hnw) (by show 8 + 2000 ≤ 40 * M.2.2.2.2 + 2080; omega)) hd fun H1' locs1 p1 p2 p3 => ?_
  rw [e0, e1, e2, show (wl cA ad I K).set a (ad a, Sum.inl (cA 101, n2, .inl (va_cpy (fun j => (bytT.getD i []).getD j 0) (I a) s1 d1 m1))) = wl cA ad (u1 I a (va_cpy (fun j => (bytT.getD i []).getD j 0) (I a) s1 d1 m1)) K from wl_set rfl (by rw [ce_ints H2.1 (by decide) (by decide), u1_s]) (fun b hb9 => ce_congr rfl (u1_n hb9) rfl rfl rfl)] at p1 p2
  exact kk p l e s m args below meth c mc ms D cA A ad0 n0 hC hE hΓ ad H1' locs1 cells slots ls ⟨r1, p1, p2, p3, r5, r6, r7, r8⟩ hc hs hL hvL (fun w hw => hvS w (List.mem_cons_of_mem _ (List.mem_cons_of_mem _ (List.mem_cons_of_mem _ (List.mem_cons_of_mem _ (List.mem_cons_of_mem _ hw))))))
end DYb
