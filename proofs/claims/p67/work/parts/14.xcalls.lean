section XE
variable {Γ : (Nat → Nat) → (Nat → Prop) → State → Array Value → Prop} {M : MD} {cc : ByteArray} {bc bs : Nat} {I : Mem} {K : Kt} {pc : Nat} {L st : List Value} {Q : Rs → Mem → Kt → Prop}
theorem Wz.of {D : va_G} {cA : Nat → ClassId} {A : Nat → Prop} {s t : State} {ad0 : Nat → Nat} {n0 : Nat} {ad : Nat → Nat} {H : Heap} {locs : List Loc} (h : Rp D cA A s ad0 n0 ad I K H locs) (ht : t.heap = H) (hv : s.vm.Alike t.vm) : Wz D cA A ad0 n0 t ad I K := by
  obtain ⟨r1, r2, r3, r4, r5, r6, r7, r8⟩ := h
  exact ⟨va_K.moved hv r1, by rw [ht]; exact r2, r3, r6, r7, r8⟩
theorem Qz.of {D : va_G} {cA : Nat → ClassId} {A : Nat → Prop} {s t : State} {ad0 : Nat → Nat} {n0 : Nat} {ad : Nat → Nat} {H : Heap} {locs : List Loc} {args : Array Value} {r : Option Value} (h : Rp D cA A s ad0 n0 ad I K H locs) (hr : ∀ v, r = some v → vok (kN K) v) (hQ : Q (.inl r) I K) (ht : t.heap = H) (hv : s.vm.Alike t.vm) : Qz D cA A ad0 n0 Q args s (.returned (r.map (cv ad))) t :=
  ⟨⟨ad, r, I, K, rfl, hr, hQ, Wz.of h ht hv⟩, h.2.2.2.1.F ht⟩
theorem x_iret {v : Int32} (hr : M.2.2.1 = some .int) (hd : decode cc pc = .ok (.ireturn, 1)) (hQ : Q (.inl (some (.int v))) I K) : X M cc bc bs I K pc L [.int v] Q Γ := by
  intro p l e s m args below meth c mc ms D cA A ad0 n0 hC hE hΓ ad H locs cells slots ls hR hc hs hL hvL hvS
  refine W.widen (k := mc) (n := ms) (by omega) (by omega) (vx_ret ?_)
  exact W.iret (v := v) hC.1 hC.2.1 (hC.2.2.1.trans hr) (fun t ht hW => Qz.of hR (r := some (.int v)) (fun w hw => by cases hw; trivial) hQ ht hW.alike) hR.2.2.2.1.2.2 hd hC.2.2.2.2.2.2.1
theorem x_zret {v : Int32} {ty : FieldType} (hr : M.2.2.1 = some ty) (hn : narrow ty (.int v) = .int v) (hd : decode cc pc = .ok (.ireturn, 1)) (hQ : Q (.inl (some (.int v))) I K) : X M cc bc bs I K pc L [.int v] Q Γ := by
  intro p l e s m args below meth c mc ms D cA A ad0 n0 hC hE hΓ ad H locs cells slots ls hR hc hs hL hvL hvS
  refine W.widen (k := mc) (n := ms) (by omega) (by omega) (vx_ret ?_)
  exact W.zret (v := v) hC.1 hC.2.1 (hC.2.2.1.trans hr) hn (fun t ht hW => Qz.of hR (r := some (.int v)) (fun w hw => by cases hw; trivial) hQ ht hW.alike) hR.2.2.2.1.2.2 hd hC.2.2.2.2.2.2.1
theorem x_vret (hr : M.2.2.1 = none) (hd : decode cc pc = .ok (.return_, 1)) (hQ : Q (.inl none) I K) : X M cc bc bs I K pc L [] Q Γ := by
  intro p l e s m args below meth c mc ms D cA A ad0 n0 hC hE hΓ ad H locs cells slots ls hR hc hs hL hvL hvS
  refine W.widen (k := mc) (n := ms) (by omega) (by omega) (vx_ret ?_)
  exact W.vret hC.1 hC.2.1 (hC.2.2.1.trans hr) (fun t ht hW => Qz.of hR (r := none) (fun w hw => by cases hw) hQ ht hW.alike) hR.2.2.2.1.2.2 hd hC.2.2.2.2.2.2.1
theorem x_aret {v : Nat} {ty : FieldType} (hr : M.2.2.1 = some ty) (hrt : (∃ n, ty = .object n) ∨ ∃ t, ty = .array t) (hd : decode cc pc = .ok (.areturn, 1)) (hQ : Q (.inl (some (.ref v))) I K) : X M cc bc bs I K pc L [.ref v] Q Γ := by
  intro p l e s m args below meth c mc ms D cA A ad0 n0 hC hE hΓ ad H locs cells slots ls hR hc hs hL hvL hvS
  refine W.widen (k := mc) (n := ms) (by omega) (by omega) (vx_ret ?_)
  exact W.aret (v := .ref (ad v)) hC.1 hC.2.1 (hC.2.2.1.trans hr) hrt (Or.inr ⟨_, rfl⟩) (fun t ht hW => Qz.of hR (r := some (.ref v)) (fun w hw => by cases hw; exact hvS _ List.mem_cons_self) hQ ht hW.alike) hR.2.2.2.1.2.2 hd hC.2.2.2.2.2.2.1
/-- the method's own word: its code, with its handlers if it has some -/
def wdM (M : MD) (cc : ByteArray) : Cond := match M.2.2.2.1 with
  | [] => .code M.1 cc M.2.1 M.2.2.1
  | hh => .codeWith M.1 cc M.2.1 M.2.2.1 hh
abbrev wsM (M : MD) (cc : ByteArray) : List Cond := wdM M cc :: wsG
def Pz (D : va_G) (cA : Nat → ClassId) (ad : Nat → Nat) (sz : Nat) (I : Mem) (K : Kt) : State → Prop := fun U =>
  U.heap.size = sz ∧ va_K D cls (tys cA) U ∧ va_P D cls (wl cA ad I K) U.heap ∧ va_D (fun _ => True) (wl cA ad I K) ∧ Ex (fun i => ad (xE i)) (va_A (wl cA ad I K) sz) U U.heap
/-- THE CONTRACT of a method at these arguments and this heap -/
def Ct (M : MD) (cc : ByteArray) (bc bs : Nat) (As : List Value) (I : Mem) (K : Kt) (Q : Rs → Mem → Kt → Prop) : Prop :=
  Cl K → (∀ v ∈ As, vok (kN K) v) → ∀ (l : Launch), l.stackTraces = false → ∀ (D : va_G) (cA : Nat → ClassId) (ad : Nat → Nat) (sz : Nat), vx_Met l M.1 (wsM M cc) (Rm M.2.2.2.2 bc bs) (va_Pc (As.map (cv ad)) (Pz D cA ad sz I K)) (Qz D cA (va_A (wl cA ad I K) sz) ad (kN K) Q) (Xz D cA (va_A (wl cA ad I K) sz) ad (kN K) Q) bc bs (va_A (wl cA ad I K) sz)
theorem Ct.body {l : Launch} (htr : l.stackTraces = false) {As : List Value} (hcat : ∀ v ∈ As, v.category = 1) (hlen : As.length ≤ M.2.1) (hcl : Cl K) (hvA : ∀ v ∈ As, vok (kN K) v) (h : X M cc bc bs I K 0 (As ++ List.replicate (M.2.1 - As.length) (.retAddr 0)) [] Q) {D : va_G} {cA : Nat → ClassId} {ad : Nat → Nat} {sz : Nat} {p : Program} {e : Env} {s : State} {m : MethodId} {args : Array Value} {below : List Frame} {meth : Method} {c : Code} {s₁ : State}
    (B : BodyLoose p l M.1 (headSpec (wsM M cc) (Rm M.2.2.2.2 bc bs)) cc M.2.1 M.2.2.1 e s m args below meth c s₁) (hml : c.maxLocals = M.2.1) (htab : c.exceptionTable.toList = tableOf M.2.2.2.1) (hv : va_Pc (As.map (cv ad)) (Pz D cA ad sz I K) args s) :
    W p l e (Rm M.2.2.2.2 bc bs) s m args below meth c s.heap [] 0 0 (vx_MQ below (Qz D cA (va_A (wl cA ad I K) sz) ad (kN K) Q) (Xz D cA (va_A (wl cA ad I K) sz) ad (kN K) Q) args s bc bs (va_A (wl cA ad I K) sz)) (entryFrame m args M.2.1) := by
  obtain ⟨rfl, hsz, hK, hP, hD0, hE⟩ := hv
  subst hsz
  obtain ⟨ls, e1, hL⟩ := Rl.entry (ad := ad) hcat hlen
  rw [e1]
  refine h p l e s m _ below meth c bc bs D cA _ ad (kN K) ⟨B.exec, B.bytes, B.returns, hml, findClass_of_methodNamed B.named, fun w hw => atoms_spec (ws := wsM M cc) B.pre w (List.mem_cons_of_mem _ hw), B.notSynchronized, (name_of_methodNamed B.named B.method).1, htab, htr⟩ hE trivial ad s.heap [] 0 0 ls ⟨hK, hP, hD0.self, va_S.rf, fun q hq => Or.inr hq, hcl, Nat.le_refl _, fun k _ => rfl⟩ (by omega) (by omega) hL ?_ (fun v hv => by cases hv)
  intro v hv
  rcases List.mem_append.mp hv with h1 | h1
  · exact hvA v h1
  · obtain ⟨-, rfl⟩ := List.mem_replicate.mp h1; trivial
theorem Ct.of {As : List Value} (hh : M.2.2.2.1 = []) (hy : plainName M.1.cls = true) (hcat : ∀ v ∈ As, v.category = 1) (hlen : As.length ≤ M.2.1) (h : X M cc bc bs I K 0 (As ++ List.replicate (M.2.1 - As.length) (.retAddr 0)) [] Q) : Ct M cc bc bs As I K Q := by
  intro hcl hvA l htr D cA ad sz
  have hw : wsM M cc = Cond.code M.1 cc M.2.1 M.2.2.1 :: wsG := by show wdM M cc :: wsG = _; unfold wdM; rw [hh]
  refine vx_ofW (cc := cc) (maxL := M.2.1) (ret := M.2.2.1) hy hw ?_
  intro p e s m args below meth c s₁ B hml ht hv
  refine Ct.body htr hcat hlen hcl hvA h B hml ?_ hv
  rw [hh]
  cases he : c.exceptionTable.toList with
  | nil => rfl
  | cons x r => exact (ht x (by rw [he]; exact List.mem_cons_self)).elim
theorem Ct.ofH {As : List Value} {h0 : Nat × Nat × Nat × Nat} {hr : List (Nat × Nat × Nat × Nat)} (hh : M.2.2.2.1 = h0 :: hr) (hy : plainName M.1.cls = true) (hcat : ∀ v ∈ As, v.category = 1) (hlen : As.length ≤ M.2.1) (h : X M cc bc bs I K 0 (As ++ List.replicate (M.2.1 - As.length) (.retAddr 0)) [] Q) : Ct M cc bc bs As I K Q := by
  intro hcl hvA l htr D cA ad sz
  have hw : wsM M cc = Cond.codeWith M.1 cc M.2.1 M.2.2.1 (h0 :: hr) :: wsG := by show wdM M cc :: wsG = _; unfold wdM; rw [hh]
  refine vx_ofWH (cc := cc) (maxL := M.2.1) (ret := M.2.2.1) (hh := h0 :: hr) hy hw ?_
  intro p e s m args below meth c s₁ B hml hv
  refine Ct.body htr hcat hlen hcl hvA h B hml ?_ hv
  rw [hh]
  exact vx_table (x := M.1) B (atoms_spec (ws := wsM M cc) B.pre _ (by rw [hw]; exact List.mem_cons_self))
/-- an exception of the class E is on its way, at pc -/
def XT (M : MD) (cc : ByteArray) (bc bs : Nat) (I : Mem) (K : Kt) (pc : Nat) (E : String) (L : List Value) (Q : Rs → Mem → Kt → Prop) (Γ : (Nat → Nat) → (Nat → Prop) → State → Array Value → Prop := fun _ _ _ _ => True) : Prop :=
  ∀ (p : Program) (l : Launch) (e : Env) (s : State) (m : MethodId) (args : Array Value) (below : List Frame) (meth : Method) (c : Code) (mc ms : Nat) (D : va_G) (cA : Nat → ClassId) (A : Nat → Prop) (ad0 : Nat → Nat) (n0 : Nat), Cx M cc p l s m args meth c → Ex (fun i => ad0 (xE i)) A s s.heap → Γ ad0 A s args →
  ∀ (ad : Nat → Nat) (H : Heap) (locs : List Loc) (cells slots : Nat) (ls : Array Slot), Rp D cA A s ad0 n0 ad I K H locs → cells + bc ≤ mc → slots + bs ≤ ms → Rl ad ls M.2.1 L → (∀ v ∈ L, vok (kN K) v) →
  ∀ (q : Addr) (ce : Cell) (rest : List Value), H[q]? = some ce → ce.vm = .none → s.vm.findClass E = some ce.cls →
  vx_W p l e (Rm M.2.2.2.2 mc ms) s m args below meth c H locs cells slots (vx_MQ below (Qz D cA A ad0 n0 Q) (Xz D cA A ad0 n0 Q) args s mc ms A) (F0 m pc ls rest) q
theorem XT.out {E : String} (hh : ∀ x ∈ tableOf M.2.2.2.1, covers x pc = false) (hQ : Q (.inr E) I K) : XT M cc bc bs I K pc E L Q Γ := by
  intro p l e s m args below meth c mc ms D cA A ad0 n0 hC hE hΓ ad H locs cells slots ls hR hc hs hL hvL q ce rest hq hv hcl
  refine vx_out (mc := mc) (ms := ms) (E := E) (by rw [hC.2.2.2.2.2.2.2.2.1]; exact hh) hC.2.2.2.2.2.2.1 hq hv hcl (fun t ht hW => ⟨⟨ad, I, K, hQ, Wz.of hR ht hW⟩, hR.2.2.2.1.F ht⟩) hR.2.2.2.1.2.2 (by omega) (by omega)
/-- caught, and put away unread -/
theorem XT.catch {E nm : String} {i h w : Nat} (pre : List ExceptionTableEntry) (x : ExceptionTableEntry) (suf : List ExceptionTableEntry) (hsplit : tableOf M.2.2.2.1 = pre ++ x :: suf) (hpass : ∀ z ∈ pre, covers z pc = false ∨ (z.catchType ≠ 0 ∧ ∃ nm9 : String, Cond.classLink M.1.cls z.catchType nm9 ∈ wsG ∧ (E, nm9) ∈ ncT)) (hx : covers x pc = true) (h0 : x.catchType ≠ 0) (hlink : Cond.classLink M.1.cls x.catchType nm ∈ wsG) (hcast : Cond.castable E nm ∈ wsN) (hpc : x.handlerPc = h)
    (hd : decode cc h = .ok (.astore i, w) ∧ w = 2 ∨ ∃ k : Fin 4, decode cc h = .ok (.astore_n k, w) ∧ (k : Nat) = i ∧ w = 1) (hi : i < L.length) (h2 : c2 L i = true) (kk : X M cc bc bs I K (h + w) (L.set i (.retAddr 0)) [] Q Γ) : XT M cc bc bs I K pc E L Q Γ := by
  intro p l e s m args below meth c mc ms D cA A ad0 n0 hC hE hΓ ad H locs cells slots ls hR hc hs hL hvL q ce rest hq hv hcl
  refine vx_catch (E := E) (name := nm) hC.2.2.2.2.1 pre x suf (by rw [hC.2.2.2.2.2.2.2.2.1]; exact hsplit) (fun z hz => (hpass z hz).imp id fun h => ⟨h.1, h.2.imp fun nm9 h9 => ⟨hC.2.2.2.2.2.1 _ h9.1, hE.2.2.2 _ h9.2⟩⟩) hx h0 (hC.2.2.2.2.2.1 _ hlink) (va_Nw.use rfl (hE.2.1 _ hcast)) hq hv hcl ?_
  rw [hpc]
  obtain ⟨k0, lv, k1, k2⟩ := hL
  obtain ⟨ls', e1, k3⟩ := lv_store1 (v := .ref q) k1 (i := i) (by omega) rfl
  have hL' : Rl ad ls' M.2.1 (L.set i (.retAddr 0)) := by
    refine ⟨by rw [List.length_set]; exact k0, _, k3, fun j u hj hu => ?_⟩
    rw [List.getElem?_set] at hj
    by_cases hij : i = j
    · subst hij
      rw [if_pos rfl, if_pos hi] at hj
      cases hj
      exact absurd rfl (hu 0)
    · rw [if_neg hij] at hj
      refine List.mem_cons_of_mem _ (List.mem_filter.mpr ⟨k2 j u hj hu, ?_⟩)
      have hji : (j == i) = false := by simpa using fun z => hij z.symm
      show (!(j == i) && !(j + 1 == i && (cv ad u).category == 2)) = true
      rw [hji, cv_cat]
      by_cases h5 : j + 1 = i
      · subst h5
        unfold c2 at h2
        simp only [hj] at h2
        simpa using h2
      · simp [h5]
  have hg := kk p l e s m args below meth c mc ms D cA A ad0 n0 hC hE hΓ ad H locs cells slots ls' hR hc hs hL' (fun w hw' => (List.mem_or_eq_of_mem_set hw').elim (hvL w) (fun e => by rw [e]; trivial)) (fun v hv => by cases hv)
  intro T hT XX
  obtain ⟨t, a, b⟩ := hg T hT XX
  refine ⟨t, ?_, b⟩
  have hx1 := hC.1
  have hb1 := hC.2.1
  rcases hd with ⟨hd, rfl⟩ | ⟨k, hd, rfl, rfl⟩
  · jvm_step XX.here [XX.here.top, ↓top_set XX.here.top, hx1, hb1, hd, e1]
    exact ⟨rfl, a⟩
  · jvm_step XX.here [XX.here.top, ↓top_set XX.here.top, hx1, hb1, hd, e1]
    exact ⟨rfl, a⟩
/-- behind a call, whichever it is -/
theorem x_run {rest : List Value} {bc' bs' : Nat} {Q' : Rs → Mem → Kt → Prop} (hrest : (∀ v ∈ st, vok (kN K) v) → ∀ v ∈ rest, vok (kN K) v)
    (hrun : ∀ (p : Program) (l : Launch) (e : Env) (s : State) (m : MethodId) (args : Array Value) (below : List Frame) (meth : Method) (c : Code) (mc ms : Nat) (D : va_G) (cA : Nat → ClassId) (A : Nat → Prop) (ad0 : Nat → Nat) (n0 : Nat), Cx M cc p l s m args meth c → Ex (fun i => ad0 (xE i)) A s s.heap → Γ ad0 A s args →
      ∀ (ad : Nat → Nat) (H : Heap) (locs : List Loc) (cells slots : Nat) (ls : Array Slot), Rp D cA A s ad0 n0 ad I K H locs → cells + bc' ≤ mc → slots + bs' ≤ ms → Rl ad ls M.2.1 L → (∀ v ∈ st, vok (kN K) v) → ∃ a9, vx_Run p l e (Rm M.2.2.2.2 mc ms) s m args below meth c H locs cells slots bc' bs' (F0 m pc ls (st.map (cv ad))) (rest.map (cv ad)) (Qz D cA (va_A (wl cA ad I K) H.size) ad (kN K) Q' a9) (Xz D cA (va_A (wl cA ad I K) H.size) ad (kN K) Q') (va_A (wl cA ad I K) H.size))
    (kk : ∀ r I' K', kN K ≤ kN K' → Q' (.inl r) I' K' → X M cc bc bs I' K' (pc + 3) L (r.toList ++ rest) Q Γ) (kx : ∀ E I' K', kN K ≤ kN K' → Q' (.inr E) I' K' → XT M cc bc bs I' K' pc E L Q Γ) : X M cc (bc' + bc) (bs' + bs) I K pc L st Q Γ := by
  intro p l e s m args below meth c mc ms D cA A ad0 n0 hC hE hΓ ad H locs cells slots ls hR hc hs hL hvL hvS
  obtain ⟨a9, hr⟩ := hrun p l e s m args below meth c mc ms D cA A ad0 n0 hC hE hΓ ad H locs cells slots ls hR (by omega) (by omega) hL hvS
  obtain ⟨r1, r2, r3, r4, r5, r6, r7, r8⟩ := hR
  have hA1 : ∀ q, va_A (wl cA ad I K) H.size q → A q := fun q hq => by
    rcases hq with ⟨k, e9, h9⟩ | h9
    · exact r3.2 k _ h9
    · exact r5 q (Nat.le_trans r4.1 h9)
  have fin : ∀ {t : State} {T' : State} {st₀ : State} {L9 : List Loc} {ad' : Nat → Nat} {I' : Mem} {K' : Kt}, st₀.heap = H → T'.heap = t.heap → (∀ z ∈ L9, va_A (wl cA ad I K) H.size z.base) → Wz D cA (va_A (wl cA ad I K) H.size) ad (kN K) t ad' I' K' → va_F (va_A (wl cA ad I K) H.size) st₀ t → Rp D cA A s ad0 n0 ad' I' K' T'.heap (locs ++ L9) := by
    intro t T' st₀ L9 ad' I' K' h0 e1 hL9 ⟨w1, w2, w3, w4, w5, w6⟩ hF
    obtain ⟨k1, k2, k3⟩ := vx_keep h0 e1 r4 (fun q _ h => hA1 q h) (fun q h => hA1 q h) hL9 hF
    exact ⟨r1, by rw [e1]; exact w2, w3.weaken (fun k q _ h => hA1 _ h), k3, r5, w4, Nat.le_trans r7 w5, fun k hk => (w6 k (hk.elim (fun h => Or.inl (Nat.lt_of_lt_of_le h r7)) Or.inr)).trans (r8 k hk)⟩
  intro T hT XX
  rcases hr T hT XX with ⟨v, st₀, t, T', L9, h0, X', hL9, e1, e2, ⟨⟨ad', r, I', K', er, hvr, hq, hw⟩, hF⟩, stp⟩ | ⟨q, st₀, t, T', L9, E, ce, h0, X', hL9, e1, e2, ⟨⟨ad', I', K', hq, hw⟩, hF⟩, hce, hcv, hcl, stp⟩
  · cases er
    have hg := kk r I' K' hw.2.2.2.2.1 hq p l e s m args below meth c mc ms D cA A ad0 n0 hC hE hΓ ad' T'.heap (locs ++ L9) (cells + bc') (slots + bs') ls (fin h0 e1 hL9 hw hF) (by omega) (by omega) (hL.ad hw.2.2.2.2.2 hvL) (fun v hv => vok_mono hw.2.2.2.2.1 (hvL v hv)) (fun v hv => by
      rcases List.mem_append.mp hv with h9 | h9
      · exact hvr v (by cases r with
          | none => cases h9
          | some w => cases h9 with
            | head => rfl
            | tail _ h => cases h)
      · exact vok_mono hw.2.2.2.2.1 (hrest hvS v h9))
    have e9 : (r.toList ++ rest).map (cv ad') = (r.map (cv ad')).toList ++ rest.map (cv ad) := by
      rw [List.map_append, cv_agreeL hw.2.2.2.2.2 (hrest hvS)]
      cases r <;> rfl
    rw [e9] at hg
    obtain ⟨t2, a1, b1⟩ := hg T' rfl X'
    exact ⟨t2, stp t2 a1, b1⟩
  · have hg := kx E I' K' hw.2.2.2.2.1 hq p l e s m args below meth c mc ms D cA A ad0 n0 hC hE hΓ ad' T'.heap (locs ++ L9) (cells + bc') (slots + bs') ls (fin h0 e1 hL9 hw hF) (by omega) (by omega) (hL.ad hw.2.2.2.2.2 hvL) (fun v hv => vok_mono hw.2.2.2.2.1 (hvL v hv)) q ce (rest.map (cv ad)) (by rw [e1]; exact hce) hcv hcl
    obtain ⟨t2, a1, b1⟩ := hg T' rfl X'
    exact ⟨t2, stp.trans a1, b1⟩
end XE
