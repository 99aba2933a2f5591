section Z
variable {Γ : (Nat → Nat) → (Nat → Prop) → State → Array Value → Prop} {M : MD} {cc : ByteArray} {bc bs : Nat} {I I1 : Mem} {K : Kt} {pc : Nat} {L st : List Value} {Q : Rs → Mem → Kt → Prop}
theorem z_getI {ix ci k a : Nat} {fin : Bool} {ty : FieldType} (F : Fs M.1.cls ix ci k false fin ty) (H : LO K ci a) (hd : decode cc pc = .ok (.getfield ix, 3)) (kk : X M cc bc bs I K (pc + 3) L (.int (I a k) :: st) Q Γ) : X M cc bc bs I K pc L (.ref a :: st) Q Γ := x_getI F H.1 H.2 hd kk
theorem z_getR {ix ci k a r : Nat} {fin : Bool} {ty : FieldType} (F : Fs M.1.cls ix ci k true fin ty) (H : LO K ci a) (hr : kG K a k = some r) (hd : decode cc pc = .ok (.getfield ix, 3)) (kk : X M cc bc bs I K (pc + 3) L (.ref r :: st) Q Γ) : X M cc bc bs I K pc L (.ref a :: st) Q Γ := x_getR F H.1 H.2 hr hd kk
theorem z_putI {ix ci k a : Nat} {x : Int32} (F : Fs M.1.cls ix ci k false false .int) (H : LO K ci a) (hp : pu I a k x = some I1) (hd : decode cc pc = .ok (.putfield ix, 3)) (kk : X M cc bc bs I1 K (pc + 3) L st Q Γ) : X M cc bc bs I K pc L (.int x :: .ref a :: st) Q Γ := by
  cases hp
  exact x_putI F H.1 H.2 ⟨rfl, rfl⟩ hd kk
theorem z_putZ {ix ci k a : Nat} {x : Int32} {u : Unit} (F : Fs M.1.cls ix ci k false false .boolean) (H : LO K ci a) (hb : cB x = some u) (hp : pu I a k x = some I1) (hd : decode cc pc = .ok (.putfield ix, 3)) (kk : X M cc bc bs I1 K (pc + 3) L st Q Γ) : X M cc bc bs I K pc L (.int x :: .ref a :: st) Q Γ := by
  cases hp
  refine x_putI F H.1 H.2 ?_ hd kk
  rcases cB_s hb with rfl | rfl <;> exact ⟨rfl, rfl⟩
theorem z_len {n a ci : Nat} (H : LA K ci n a) (hci : 100 ≤ ci ∧ (ci < 104 ∨ 104 < ci ∧ ci < 110)) (hd : decode cc pc = .ok (.arraylength, 1)) (kk : X M cc bc bs I K (pc + 1) L (.int (nI n) :: st) Q Γ) : X M cc bc bs I K pc L (.ref a :: st) Q Γ := x_len H.1 hci H.2 hd kk
theorem z_iald {n a j : Nat} {i : Int32} (H : LA K 100 n a) (h : ix i n = some j) (hd : decode cc pc = .ok (.iaload, 1)) (kk : X M cc bc bs I K (pc + 1) L (.int (I a j) :: st) Q Γ) : X M cc bc bs I K pc L (.int i :: .ref a :: st) Q Γ := x_iald H.1 H.2 (ix_s h).1 (ix_s h).2 hd kk
theorem z_bald {n a j : Nat} {i : Int32} (H : LA K 101 n a) (h : ix i n = some j) (hd : decode cc pc = .ok (.baload, 1)) (kk : X M cc bc bs I K (pc + 1) L (.int (I a j) :: st) Q Γ) : X M cc bc bs I K pc L (.int i :: .ref a :: st) Q Γ := x_bald H.1 H.2 (ix_s h).1 (ix_s h).2 hd kk
theorem z_zald {n a j : Nat} {i : Int32} (H : LA K 102 n a) (h : ix i n = some j) (hd : decode cc pc = .ok (.baload, 1)) (kk : X M cc bc bs I K (pc + 1) L (.int (I a j) :: st) Q Γ) : X M cc bc bs I K pc L (.int i :: .ref a :: st) Q Γ := x_zald H.1 H.2 (ix_s h).1 (ix_s h).2 hd kk
theorem z_iast {n a j : Nat} {i x : Int32} (H : LA K 100 n a) (h : ix i n = some j) (hp : pu I a j x = some I1) (hd : decode cc pc = .ok (.iastore, 1)) (kk : X M cc bc bs I1 K (pc + 1) L st Q Γ) : X M cc bc bs I K pc L (.int x :: .int i :: .ref a :: st) Q Γ := by
  cases hp
  exact x_iast H.1 H.2 (ix_s h).1 (ix_s h).2 hd kk
theorem z_bast {n a j : Nat} {i x : Int32} (H : LA K 101 n a) (h : ix i n = some j) (hp : pu I a j (vp_nar .byte x) = some I1) (hd : decode cc pc = .ok (.bastore, 1)) (kk : X M cc bc bs I1 K (pc + 1) L st Q Γ) : X M cc bc bs I K pc L (.int x :: .int i :: .ref a :: st) Q Γ := by
  cases hp
  exact x_bast H.1 H.2 (ix_s h).1 (ix_s h).2 hd kk
theorem z_zast {n a j : Nat} {i x : Int32} (H : LA K 102 n a) (h : ix i n = some j) (hp : pu I a j (vp_nar .boolean x) = some I1) (hd : decode cc pc = .ok (.bastore, 1)) (kk : X M cc bc bs I1 K (pc + 1) L st Q Γ) : X M cc bc bs I K pc L (.int x :: .int i :: .ref a :: st) Q Γ := by
  cases hp
  exact x_zast H.1 H.2 (ix_s h).1 (ix_s h).2 hd kk
theorem z_aald {n a j r ci : Nat} {i : Int32} (H : LA K ci n a) (hci : 104 < ci ∧ ci < 110) (h : ix i n = some j) (hr : kG K a j = some r) (hd : decode cc pc = .ok (.aaload, 1)) (kk : X M cc bc bs I K (pc + 1) L (.ref r :: st) Q Γ) : X M cc bc bs I K pc L (.int i :: .ref a :: st) Q Γ := x_aald H.1 hci H.2 (ix_s h).1 (ix_s h).2 hr hd kk
theorem z_putK {ix ci t k k' : Nat} (F : Fs M.1.cls ix ci 5 true false (.object "WishMarket$Kind")) (H : LO K ci t) (hd : decode cc pc = .ok (.putfield ix, 3)) (k9 : X M cc bc bs I (kk K t k') (pc + 3) L st Q Γ) : X M cc bc bs I (kk K t k) pc L (.ref (xE k') :: .ref t :: st) Q Γ := by
  refine x_putR (K := kk K t k) F (fun h => by cases h) H.1 H.2 (fun q => ⟨rfl, rfl⟩) hd ?_
  have e := kk_kk (K := K) (t := t) (a := k) (b := k')
  unfold kk at e ⊢
  rw [e]
  exact k9
/-- some locals are forgotten -/
def Lw : List Value → List Value → Prop
  | [], [] => True
  | a :: l, b :: m => (a = b ∨ b = .retAddr 0) ∧ Lw l m
  | _, _ => False
theorem Lw.len : ∀ {l m : List Value}, Lw l m → l.length = m.length
  | [], [], _ => rfl
  | _ :: _, _ :: _, h => congrArg (· + 1) (Lw.len h.2)
  | [], _ :: _, h => h.elim
  | _ :: _, [], h => h.elim
theorem Lw.get : ∀ {l m : List Value}, Lw l m → ∀ {i : Nat} {v : Value}, m[i]? = some v → v = .retAddr 0 ∨ l[i]? = some v
  | [], [], _, _, _, h => by simp at h
  | a :: l, b :: m, h, 0, v, e => by
    simp at e ⊢
    subst e
    exact h.1.symm
  | a :: l, b :: m, h, i + 1, v, e => by
    simp at e ⊢
    exact Lw.get h.2 e
  | [], _ :: _, h, _, _, _ => h.elim
  | _ :: _, [], h, _, _, _ => h.elim
theorem X.forget {L' : List Value} (h : Lw L L') (k : X M cc bc bs I K pc L' st Q Γ) : X M cc bc bs I K pc L st Q Γ := by
  intro p l e s m args below meth c mc ms D cA A ad0 n0 hC hE hΓ ad H locs cells slots ls hR hc hs hL hvL hvS
  refine k p l e s m args below meth c mc ms D cA A ad0 n0 hC hE hΓ ad H locs cells slots ls hR hc hs ?_ ?_ hvS
  · obtain ⟨k0, lv, k1, k2⟩ := hL
    refine ⟨by rw [← Lw.len h]; exact k0, lv, k1, fun i v hi hv => ?_⟩
    rcases Lw.get h hi with e9 | e9
    · exact absurd e9 (hv 0)
    · exact k2 i v e9 hv
  · intro v hv
    obtain ⟨i, hi⟩ := List.mem_iff_getElem?.mp hv
    rcases Lw.get h hi with e9 | e9
    · rw [e9]; trivial
    · exact hvL v (List.mem_of_getElem? e9)
theorem le0 {n : Nat} : 0 + n ≤ n := Nat.le_of_eq (Nat.zero_add n)
theorem z_V0 {ix n : Nat} {M' : MD} {cc' : ByteArray} (As rest : List Value) {b ci : Nat} {T : u_T} {N : Nat} {I1 : Mem} {K1 : Kt} (S : CsV M.1.cls ix M' cc' n) (hci : cls[ci]? = some (M'.1.cls, T, N)) (H : LO K ci b) (hdep : M'.2.2.2.2 + 1 ≤ M.2.2.2.2 ∧ 8 + (M'.2.1 + 11) + 40 * M'.2.2.2.2 ≤ 40 * M.2.2.2.2) (hd : decode cc pc = .ok (.invokevirtual ix, 3)) (hn : As.length = n) (hst : st = As.reverse ++ .ref b :: rest) (hW : (rest.map fun v => v.category).sum ≤ 8)
    (hcon : Ct M' cc' 0 0 (.ref b :: As) I K (Ro (.inl none) I1 K1)) (k9 : X M cc bc bs I1 K1 (pc + 3) L rest Q Γ) : X M cc bc bs I K pc L st Q Γ := (y_callV0 S hci H.1 H.2 hn hst hW hdep hd hcon k9).less le0 le0
theorem z_V1 {ix n : Nat} {M' : MD} {cc' : ByteArray} (As rest : List Value) {b ci : Nat} {T : u_T} {N : Nat} {w : Value} {I1 : Mem} {K1 : Kt} (S : CsV M.1.cls ix M' cc' n) (hci : cls[ci]? = some (M'.1.cls, T, N)) (H : LO K ci b) (hdep : M'.2.2.2.2 + 1 ≤ M.2.2.2.2 ∧ 8 + (M'.2.1 + 11) + 40 * M'.2.2.2.2 ≤ 40 * M.2.2.2.2) (hd : decode cc pc = .ok (.invokevirtual ix, 3)) (hn : As.length = n) (hst : st = As.reverse ++ .ref b :: rest) (hW : (rest.map fun v => v.category).sum ≤ 8)
    (hcon : Ct M' cc' 0 0 (.ref b :: As) I K (Ro (.inl (some w)) I1 K1)) (k9 : X M cc bc bs I1 K1 (pc + 3) L (w :: rest) Q Γ) : X M cc bc bs I K pc L st Q Γ := (y_callV1 S hci H.1 H.2 hn hst hW hdep hd hcon k9).less le0 le0
theorem z_Ve {ix n : Nat} {M' : MD} {cc' : ByteArray} (As rest : List Value) {b ci : Nat} {T : u_T} {N : Nat} {E : String} {I1 : Mem} {K1 : Kt} (S : CsV M.1.cls ix M' cc' n) (hci : cls[ci]? = some (M'.1.cls, T, N)) (H : LO K ci b) (hdep : M'.2.2.2.2 + 1 ≤ M.2.2.2.2 ∧ 8 + (M'.2.1 + 11) + 40 * M'.2.2.2.2 ≤ 40 * M.2.2.2.2) (hd : decode cc pc = .ok (.invokevirtual ix, 3)) (hn : As.length = n) (hst : st = As.reverse ++ .ref b :: rest) (hW : (rest.map fun v => v.category).sum ≤ 8)
    (hcon : Ct M' cc' 1 6 (.ref b :: As) I K (Ro (.inr E) I1 K1)) (hh : tableOf M.2.2.2.1 = []) : X M cc 1 6 I K pc L st (Ro (.inr E) I1 K1) Γ := y_callVe (bc := 0) (bs := 0) S hci H.1 H.2 hn hst hW hdep hd hcon (XT.out (by rw [hh]; exact fun x hx => by cases hx) ⟨rfl, rfl, rfl⟩)
theorem z_S0 {ix n : Nat} {M' : MD} {cc' : ByteArray} (As rest : List Value) {I1 : Mem} {K1 : Kt} (S : CsS M.1.cls ix M' cc' n) (hdep : M'.2.2.2.2 + 1 ≤ M.2.2.2.2 ∧ 8 + (M'.2.1 + 11) + 40 * M'.2.2.2.2 ≤ 40 * M.2.2.2.2) (hd : decode cc pc = .ok (.invokestatic ix, 3)) (hn : As.length = n) (hst : st = As.reverse ++ rest) (hW : (rest.map fun v => v.category).sum ≤ 8)
    (hcon : Ct M' cc' 0 0 As I K (Ro (.inl none) I1 K1)) (k9 : X M cc bc bs I1 K1 (pc + 3) L rest Q Γ) : X M cc bc bs I K pc L st Q Γ := (y_callS0 S hn hst hW hdep hd hcon k9).less le0 le0
theorem z_S1 {ix n : Nat} {M' : MD} {cc' : ByteArray} (As rest : List Value) {w : Value} {I1 : Mem} {K1 : Kt} (S : CsS M.1.cls ix M' cc' n) (hdep : M'.2.2.2.2 + 1 ≤ M.2.2.2.2 ∧ 8 + (M'.2.1 + 11) + 40 * M'.2.2.2.2 ≤ 40 * M.2.2.2.2) (hd : decode cc pc = .ok (.invokestatic ix, 3)) (hn : As.length = n) (hst : st = As.reverse ++ rest) (hW : (rest.map fun v => v.category).sum ≤ 8)
    (hcon : Ct M' cc' 0 0 As I K (Ro (.inl (some w)) I1 K1)) (k9 : X M cc bc bs I1 K1 (pc + 3) L (w :: rest) Q Γ) : X M cc bc bs I K pc L st Q Γ := (y_callS1 S hn hst hW hdep hd hcon k9).less le0 le0
theorem z_Se {ix n : Nat} {M' : MD} {cc' : ByteArray} (As rest : List Value) {E : String} {I1 : Mem} {K1 : Kt} (S : CsS M.1.cls ix M' cc' n) (hdep : M'.2.2.2.2 + 1 ≤ M.2.2.2.2 ∧ 8 + (M'.2.1 + 11) + 40 * M'.2.2.2.2 ≤ 40 * M.2.2.2.2) (hd : decode cc pc = .ok (.invokestatic ix, 3)) (hn : As.length = n) (hst : st = As.reverse ++ rest) (hW : (rest.map fun v => v.category).sum ≤ 8)
    (hcon : Ct M' cc' 1 6 As I K (Ro (.inr E) I1 K1)) (hh : tableOf M.2.2.2.1 = []) : X M cc 1 6 I K pc L st (Ro (.inr E) I1 K1) Γ := y_callSe (bc := 0) (bs := 0) S hn hst hW hdep hd hcon (XT.out (by rw [hh]; exact fun x hx => by cases hx) ⟨rfl, rfl, rfl⟩)
theorem z_throw {E text : String} {ik is ic i : Nat} {names : List String} (S : Ts M.1.cls E text ik is ic i names) (hdep : names.length + 4 ≤ M.2.2.2.2 ∧ (st.map fun v => v.category).sum + (13 * (names.length + 1) + 43) ≤ 40 * M.2.2.2.2) (hh : tableOf M.2.2.2.1 = [])
    (d0 : decode cc pc = .ok (.new ik, 3)) (d3 : decode cc (pc + 3) = .ok (.dup, 1)) (d4 : decode cc (pc + 4) = .ok (.ldc is, 2)) (d6 : decode cc (pc + 6) = .ok (.invokespecial ic, 3)) (d9 : decode cc (pc + 9) = .ok (.athrow, 1)) : X M cc 1 6 I K pc L st (Ro (.inr E) I K) Γ :=
  x_throw (bc := 0) (bs := 0) S hdep (by rw [hh]; exact fun x hx => by cases hx) d0 d3 d4 d6 d9 ⟨rfl, rfl, rfl⟩
theorem cat0 : ∀ v ∈ ([] : List Value), v.category = 1 := fun v h => by cases h
theorem catR {r : Nat} {l : List Value} (h : ∀ v ∈ l, v.category = 1) : ∀ v ∈ Value.ref r :: l, v.category = 1 := List.forall_mem_cons.mpr ⟨rfl, h⟩
theorem catI {r : Int32} {l : List Value} (h : ∀ v ∈ l, v.category = 1) : ∀ v ∈ Value.int r :: l, v.category = 1 := List.forall_mem_cons.mpr ⟨rfl, h⟩
end Z
section Z2
variable {Γ : (Nat → Nat) → (Nat → Prop) → State → Array Value → Prop} {M : MD} {cc : ByteArray} {bc bs : Nat} {I I1 : Mem} {K : Kt} {pc : Nat} {L st : List Value} {Q : Rs → Mem → Kt → Prop}
theorem LO.kk {t k ci a : Nat} (h : LO K ci a) : LO (kk K t k) ci a := h
theorem LA.kk {t k ci n a : Nat} (h : LA K ci n a) : LA (kk K t k) ci n a := h
theorem nar_b {x : Int32} {u : Unit} (h : cB x = some u) : narrow .boolean (.int x) = .int x := by
  rcases cB_s h with rfl | rfl <;> rfl
theorem z_iinc {i : Nat} {d : Int} {v : Int32} (w : Int32) (hw : Int32.ofInt d = w) (hd : decode cc pc = .ok (.iinc i d, 3)) (hL : L[i]? = some (.int v)) (h2 : c2 L i = true) {L' : List Value} (hl : L.set i (.int (v + w)) = L') (k : X M cc bc bs I K (pc + 3) L' st Q Γ) : X M cc bc bs I K pc L st Q Γ := by
  subst hw
  exact x_iinc hd hL h2 hl k
theorem x_ldcWS {ix : Nat} {text : String} (i : Nat) (hq : (M.1.cls, ix, text, i) ∈ strT) (hd : decode cc pc = .ok (.ldc_w ix, 3)) (kk : X M cc bc bs I K (pc + 3) L (.ref (xE (100 + i)) :: st) Q Γ) : X M cc bc bs I K pc L st Q Γ := by
  refine X.fo kk (fun n => Or.inr (xE_ge _)) (fun n h => h) fun ad ad0 => fun hx hb ho ht hE hS ha k9 => ?_
  have e1 : ad (xE (100 + i)) = ad0 (xE (100 + i)) := ha (100 + i)
  intro T hT XX
  obtain ⟨t, a1, b1⟩ := k9 T hT XX
  have hZ := hE.str hq
  rw [← e1] at hZ
  exact ⟨t, XX.ldcStringW hx ho (text := text) (a := ad (xE (100 + i))) hZ.1 hZ.2 (g := F0 _ pc _ _) rfl (by rw [hb]; exact hd) t a1, b1⟩
theorem x_ldcw {ix : Nat} (v : Int32) (hc : Cond.constant M.1.cls ix v ∈ wsG) (hd : decode cc pc = .ok (.ldc_w ix, 3)) (k : X M cc bc bs I K (pc + 3) L (.int v :: st) Q Γ) : X M cc bc bs I K pc L st Q Γ :=
  k.sk (fun n h _ => by simp only [List.forall_mem_cons] at h ⊢; exact ⟨trivial, h⟩) fun hx hb ho ht _ k => lv_ldcw hx hb ho (ht _ hc) hd k
noncomputable def FU : Nat := Classical.choose (⟨1000000000, Nat.le_refl _⟩ : ∃ n : Nat, 1000000000 ≤ n)
theorem FU_ge : 1000000000 ≤ FU := Classical.choose_spec (⟨1000000000, Nat.le_refl _⟩ : ∃ n : Nat, 1000000000 ≤ n)
def sLen (i : Nat) : Option Int32 := if i < 25 then some (nI (lenT.getD i 0)) else none
def sAt (i : Nat) (c : Int32) : Option Int32 := if i < 25 then (ix c (lenT.getD i 0)).map fun j => (bytT.getD i []).getD j 0 else none
end Z2
section Z3
variable {Γ : (Nat → Nat) → (Nat → Prop) → State → Array Value → Prop} {M : MD} {cc : ByteArray} {bc bs : Nat} {I : Mem} {K : Kt} {pc : Nat} {L st : List Value} {Q : Rs → Mem → Kt → Prop}
def Gs (own : String) (ix ci k : Nat) (b : Bool) : Prop :=
  ∃ (C : String) (T : u_T) (N : Nat), cls[ci]? = some (C, T, N) ∧ k < N ∧ (ft ci)[k]? = some b ∧ Cond.fieldLink own ix (T k).1 (T k).2.1 (T k).2.2.1 ∈ wsG ∧ ∀ w ∈ u_ws C T N, w ∈ wsG
theorem z_getRG {ix ci k a r : Nat} (F : Gs M.1.cls ix ci k true) (H : LO K ci a) (hr : kG K a k = some r) (hd : decode cc pc = .ok (.getfield ix, 3)) (kk : X M cc bc bs I K (pc + 3) L (.ref r :: st) Q Γ) : X M cc bc bs I K pc L (.ref a :: st) Q Γ := by
  obtain ⟨C, T, N, h1, h2, h3, h4, h5⟩ := F
  obtain ⟨hs, ha⟩ := H
  refine X.rd kk (fun hc h => ⟨hc a k r hr, (List.forall_mem_cons.mp h).2⟩) fun cA ad => fun hx hb ho ht hK hP k9 => ?_
  exact va_get (v := .ref _) hx hb ht h5 ho hK hP a (wl_get ha |>.trans (by rw [ce_obj hs (cls_lt h1)])) h1 k h2 (ht _ h4) (fun _ h => h) ((oc_get _ _ _ _ 0 k _ h3).trans (by rw [Nat.zero_add, hr]; rfl)) hd k9
end Z3
