/-! THE START: the classes and the arrays; the claim out of a walk of the law in the pure judgement -/
theorem k_arr {args : Array Value} {s : State} {ty : FieldType} (h : (Cond.arrayClass ty).before args s = true) (ht : va_RA s = va_RA s) : ∃ c : ClassId, ArrOfT s c ty ∧ s.vm.findClass ("[" ++ ty.toString) = some c := by
  obtain ⟨c, k, comp, h1, h2, h3⟩ := Cond.arrayClass_spec h
  exact ⟨c, fun n z => ⟨(fun k h => by cases h), k, h2, comp, h3⟩, h1⟩
theorem k_arrO {args : Array Value} {s : State} {C : String} (h : (Cond.arrayOver (.object C)).before args s = true) : ∃ c : ClassId, ArrOfT s c (.object C) ∧ va_RA s c (.object C) := by
  obtain ⟨comp, c, k, h1, h2, h3, h4, h5⟩ := Cond.arrayOver_spec h
  exact ⟨c, fun n z => ⟨(fun k h => by cases h), k, h3, comp, h4⟩, k, comp, h3, h4, h1, h5⟩
theorem K_start {args : Array Value} {s : State} (hts : ∀ w ∈ lw_tbl, w.before args s = true) (hG : ∀ w ∈ wsG, w.before args s = true) : ∃ (D : va_G) (cA : Nat → ClassId), va_K D cls (tys cA) s := by
  obtain ⟨c0, i0, k0⟩ := u_known (C := RJ4) (T := TJ4) (N := 4) (n := 4) hG icJ4 (hts _ (inTb2 98 rfl))
  obtain ⟨c1, i1, k1⟩ := u_known (C := RX3) (T := TX3) (N := 14) (n := 14) hG icX3 (hts _ (inTb1 87 rfl))
  obtain ⟨c2, i2, k2⟩ := u_known (C := RX4) (T := TX4) (N := 8) (n := 8) hG icX4 (hts _ (inTb1 98 rfl))
  obtain ⟨c3, i3, k3⟩ := u_known (C := RX5) (T := TX5) (N := 8) (n := 8) hG icX5 (hts _ (inTb1 49 rfl))
  obtain ⟨c4, i4, k4⟩ := u_known (C := RX6) (T := TX6) (N := 4) (n := 4) hG icX6 (hts _ (inTb1 149 rfl))
  obtain ⟨c5, i5, k5⟩ := u_known (C := RX7) (T := TX7) (N := 6) (n := 6) hG icX7 (hts _ (inTb1 55 rfl))
  obtain ⟨c6, i6, k6⟩ := u_known (C := RX8) (T := TX8) (N := 11) (n := 11) hG icX8 (hts _ (inTb1 178 rfl))
  obtain ⟨c7, i7, k7⟩ := u_known (C := RX9) (T := TX9) (N := 10) (n := 10) hG icX9 (hts _ (inTb1 41 rfl))
  obtain ⟨c8, i8, k8⟩ := u_known (C := RX10) (T := TX10) (N := 10) (n := 10) hG icX10 (hts _ (inTb5 198 rfl))
  obtain ⟨c9, i9, k9⟩ := u_known (C := RX11) (T := TX11) (N := 7) (n := 7) hG icX11 (hts _ (inTb6 92 rfl))
  obtain ⟨c10, i10, k10⟩ := u_known (C := RX12) (T := TX12) (N := 10) (n := 10) hG icX12 (hts _ (inTb6 126 rfl))
  obtain ⟨c11, i11, k11⟩ := u_known (C := RJx4a65c) (T := TJx4a65c) (N := 3) (n := 3) hG icJx4a65c (hts _ (inTb5 204 rfl))
  obtain ⟨c12, i12, k12⟩ := u_known (C := RJ0) (T := TJ0) (N := 4) (n := 4) hG icJ0 (hts _ (inTb7 220 rfl))
  obtain ⟨a0, b0, e0⟩ := k_arr (hts _ (inTb2 93 rfl)) rfl
  obtain ⟨a1, b1, e1⟩ := k_arr (hts _ (inTb1 85 rfl)) rfl
  obtain ⟨a2, b2, e2⟩ := k_arr (hts _ (inTb2 128 rfl)) rfl
  obtain ⟨a3, b3, e3⟩ := k_arr (hts _ (inTb8 235 rfl)) rfl
  obtain ⟨a4, b4, e4⟩ := k_arrO (C := "java/lang/Object") (hts _ (inTb6 83 rfl))
  obtain ⟨a5, b5, e5⟩ := k_arrO (C := RX3) (hts _ (inTb2 96 rfl))
  obtain ⟨a6, b6, e6⟩ := k_arrO (C := RX4) (hts _ (inTb1 93 rfl))
  obtain ⟨a7, b7, e7⟩ := k_arrO (C := RX6) (hts _ (inTb1 95 rfl))
  obtain ⟨a8, b8, e8⟩ := k_arrO (C := RX8) (hts _ (inTb1 97 rfl))
  refine ⟨(fun k => match k with | 0 => c0 | 1 => c1 | 2 => c2 | 3 => c3 | 4 => c4 | 5 => c5 | 6 => c6 | 7 => c7 | 8 => c8 | 9 => c9 | 10 => c10 | 11 => c11 | _ => c12, fun k => match k with | 0 => i0 | 1 => i1 | 2 => i2 | 3 => i3 | 4 => i4 | 5 => i5 | 6 => i6 | 7 => i7 | 8 => i8 | 9 => i9 | 10 => i10 | 11 => i11 | _ => i12), fun k => match k with | 100 => a0 | 101 => a1 | 102 => a2 | 103 => a3 | 109 => a4 | 105 => a5 | 106 => a6 | 107 => a7 | _ => a8, fun k q hq => ?_, fun k q hq => ?_⟩
  · match k, hq with
    | 0, hq => cases hq; exact k0
    | 1, hq => cases hq; exact k1
    | 2, hq => cases hq; exact k2
    | 3, hq => cases hq; exact k3
    | 4, hq => cases hq; exact k4
    | 5, hq => cases hq; exact k5
    | 6, hq => cases hq; exact k6
    | 7, hq => cases hq; exact k7
    | 8, hq => cases hq; exact k8
    | 9, hq => cases hq; exact k9
    | 10, hq => cases hq; exact k10
    | 11, hq => cases hq; exact k11
    | 12, hq => cases hq; exact k12
    | k + 13, hq => simp [cls] at hq
  · match k, hq with
    | 0, hq => cases hq; exact ⟨b0, e0⟩
    | 1, hq => cases hq; exact ⟨b1, e1⟩
    | 2, hq => cases hq; exact ⟨b2, e2⟩
    | 3, hq => cases hq; exact ⟨b3, e3⟩
    | 4, hq => cases hq; exact ⟨b4, e4⟩
    | 5, hq => cases hq; exact ⟨b5, e5⟩
    | 6, hq => cases hq; exact ⟨b6, e6⟩
    | 7, hq => cases hq; exact ⟨b7, e7⟩
    | 8, hq => cases hq; exact ⟨b8, e8⟩
    | k + 9, hq => simp [tys] at hq
theorem wsG_start {args : Array Value} {s : State} (hts : ∀ w ∈ lw_tbl, w.before args s = true) : ∀ w ∈ wsG, w.before args s = true := by
  intro w hw
  rcases List.mem_append.mp (List.mem_filter.mp hw).1 with h | h
  · exact hts w h
  · have k : ∀ y : MethodName, (y.cls ≠ "java/lang/invoke/MethodHandle" ∧ y.cls ≠ "java/lang/invoke/VarHandle") → Cond.privateMethod y ∈ lw_tbl → Cond.instanceMethod y ∈ lw_tbl → Cond.sameMethod y.cls y.cls y.name y.desc ∈ lw_tbl → (Cond.selects RJ4 y y).before args s = true := fun y h0 h1 h2 h3 => k_selP h0 (hts _ (inTb2 98 rfl)) (hts _ h1) (hts _ h2) (hts _ h3)
    simp only [lw_xs, List.mem_cons, List.not_mem_nil, or_false] at h
    rcases h with rfl | rfl | rfl | rfl
    · exact k _ ⟨by decide +kernel, by decide +kernel⟩ (inTb6 228 rfl) (inTb6 229 rfl) (inTb8 238 rfl)
    · exact k _ ⟨by decide +kernel, by decide +kernel⟩ (inTb6 232 rfl) (inTb6 233 rfl) (inTb8 239 rfl)
    · exact k _ ⟨by decide +kernel, by decide +kernel⟩ (inTb7 31 rfl) (inTb7 32 rfl) (inTb9 1 rfl)
    · exact k _ ⟨by decide +kernel, by decide +kernel⟩ (inTb7 27 rfl) (inTb7 28 rfl) (inTb9 0 rfl)
abbrev mLaw : MD := (x, 19, ret, [], 2048)
def K00 : Kt := (0, fun _ => (0, 0), fun _ _ => none, fun _ _ => 0, fun _ _ => 0)
def R_law : String := "WishMarketLaw"
def lw_P (b : Addr) (xs : List Int32) (args : Array Value) (s : State) : Prop := args = #[.ref b] ∧ s.IntsAt b xs ∧ xs.length ≤ 260 ∧ (Jvm.Cond.and given_1 narrow_1).before args s = true
def lw_Q (_ : Array Value) (s : State) (o : Outcome) (t : State) : Prop := o = .returned (some (.int 1)) ∧ Framed s o t [] 600086 7301442
def lw_Z (below : List Frame) (a : Array Value) (s : State) : State → Prop := fun t => ∃ o, t.status = .running ∧ Ended t below o ∧ lw_Q a s o t
/-- what holds at the law's entry -/
def lw_At (p : Program) (s : State) (m : MethodId) (meth : Method) (c : Code) (b L : Nat) (xs : Nat → Int32) : Prop :=
  p.tables.exec = Jvm.exec ∧ c.code = code ∧ meth.sig.returnType = ret ∧ c.maxLocals = 19 ∧ s.vm.findClass R_law = some m.cls ∧ (∀ w ∈ lw_tbl, w.before #[Value.ref b] s = true) ∧ va_X b L xs s s.heap ∧ b < s.heap.size ∧ meth.locks = false ∧ (Jvm.Cond.and given_1 narrow_1).before #[Value.ref b] s = true ∧ meth.name = x.name ∧ c.exceptionTable.toList = []
/-- THE CLAIM'S HEART: the law, from its first instruction, comes to its end with 1 -/
def LawX : Prop := ∀ (L : Nat) (xs : Nat → Int32), L ≤ 260 → X mLaw code 600086 7301442 (fun _ _ => 0) K00 0 (.ref (xE 50) :: List.replicate 18 (.retAddr 0)) [] (fun r _ _ => r = .inl (some (.int 1))) (GsL L xs)
theorem whole_start (hX : LawX) {p : Program} {e : Env} {s : State} {m : MethodId} {below : List Frame} {meth : Method} {c : Code} (l : Launch) (hflags : l.flags = flags0) {b L : Nat} {xs : Nat → Int32} (hL : L ≤ 260) (C0 : lw_At p s m meth c b L xs) : W p l e room_1 s m #[Value.ref b] below meth c s.heap [] 0 0 (lw_Z below #[Value.ref b] s) (entryFrame m ([Value.ref b] : List Value).toArray 19) := by
  obtain ⟨hx, hb, hr, hml, hown, hts, hSc, hbl, hlocks, hgv, hnm, htab⟩ := C0
  have hG := wsG_start hts
  obtain ⟨D, cA, hK⟩ := K_start hts hG
  obtain ⟨ex, he, hE⟩ := ex_start (b := b) (fun c hc => flat_of_before _ hgv c hc) hts
  have htr : l.stackTraces = false := by
    unfold Launch.stackTraces
    rw [hflags]
    decide +kernel
  have hv : ∀ (n : Nat), (fun k => ex (k - xB)) (xE n) = ex n := fun n => by
    show ex (xB + n - xB) = ex n
    rw [Nat.add_sub_cancel_left]
  obtain ⟨ls, e1, hLs⟩ := Rl.entry (ad := fun k => ex (k - xB)) (As := [.ref (xE 50)]) (n := 19) (fun v hv => by cases hv with
    | head => rfl
    | tail _ h => cases h) (by decide)
  have e2 : ([Value.ref (xE 50)] : List Value).map (cv fun k => ex (k - xB)) = [Value.ref b] := by
    show [Value.ref (ex (xB + 50 - xB))] = _
    rw [Nat.add_sub_cancel_left, he]
  rw [e2] at e1
  rw [e1]
  have k := hX L xs hL p l e s m #[Value.ref b] below meth c 600086 7301442 D cA (fun q => s.heap.size ≤ q) (fun k => ex (k - xB)) 0 ⟨hx, hb, hr, hml, hown, hG, hlocks, hnm, htab, htr⟩
    (by rw [show (fun i => (fun k => ex (k - xB)) (xE i)) = ex from funext hv]; exact hE)
    (by
      show va_X ((fun k => ex (k - xB)) (xE 50)) L xs s s.heap ∧ (fun k => ex (k - xB)) (xE 50) < s.heap.size ∧ ¬ s.heap.size ≤ (fun k => ex (k - xB)) (xE 50)
      rw [hv 50, he]
      exact ⟨hSc, hbl, by omega⟩)
    (fun k => ex (k - xB)) s.heap [] 0 0 ls ⟨hK, fun k q h => absurd h (by show ¬ ([] : va_W)[k]? = some q; simp), (show va_D _ ([] : va_W) from ⟨by simp, by simp⟩), va_S.rf, fun q h => h, fun a k r h => by simp [K00] at h, Nat.le_refl _, fun _ _ => rfl⟩ (by decide) (by decide) hLs (fun v hv => by
      rcases List.mem_cons.mp hv with rfl | h
      · exact Or.inr (xE_ge _)
      · obtain ⟨-, rfl⟩ := List.mem_replicate.mp h; trivial) (fun v hv => by cases hv)
  intro T hT XX
  obtain ⟨t, a1, o, b1, b2, b3⟩ := k T hT XX
  refine ⟨t, a1, o, b1, b2, ?_⟩
  rcases b3 with ⟨⟨⟨ad1, r, I1, K1, e1, e2, e3, e4⟩, e5⟩, J, ⟨f1, f2, f3⟩, f4⟩ | ⟨q, e0, E, ce, L1, ⟨⟨ad1, I1, K1, e1, e2⟩, e3⟩, e4⟩
  · cases e3
    refine ⟨e1, ?_⟩
    have f5 : s.sameButNew ({ t with vm := s.vm } : State) [] 600086 7301442 := State.sameButNew.drop_fresh (L := []) (J := J) (by rw [List.nil_append]; exact f3) f4
    exact ⟨⟨_, e1⟩, f2, f5⟩
  · cases e1
set_option maxHeartbeats 4000000 in
theorem lw_walk (hXL : LawX) (l : Launch) (hflags : l.flags = flags0) (b : Addr) (xs : List Int32) : MetFree l x (headSpec (Jvm.Cond.code x code maxLocals ret :: tables_1) room_1) (lw_P b xs) (fun _ _ _ _ _ => True) lw_Q := by
  refine MetFree.of_bodyS (code := code) (maxLocals := maxLocals) (ret := ret) (by decide) ?_ ?_
  · intro args s m h hn
    obtain ⟨meth, c, h1, h2, h3, h4, h5, h6, -, -⟩ := Cond.code_spec hn (atoms_spec (ws := Jvm.Cond.code x code maxLocals ret :: tables_1) h _ List.mem_cons_self)
    exact ⟨meth, c, h1, h2, h3, h4, h5, h6⟩
  · intro p e s m args below meth c s₁ B hml0 hP _
    obtain ⟨rfl, hx, hbd, hgv⟩ := hP
    obtain ⟨scr, harrAt, hlist, hof, hsmall⟩ := hx
    obtain ⟨hcb, hkn, -, -⟩ := State.arrayAt?_spec harrAt
    have hown : s.vm.findClass R_law = some m.cls := findClass_of_methodNamed B.named
    have hts0 : ∀ c ∈ (Jvm.Cond.code x code maxLocals ret :: tables_1), c.before #[Value.ref b] s = true := atoms_spec (ws := Jvm.Cond.code x code maxLocals ret :: tables_1) B.pre
    have hts : ∀ w ∈ lw_tbl, w.before #[Value.ref b] s = true := k2_hts_sels lw_privs (fun w hw => hts0 w (List.mem_cons_of_mem _ hw)) lw_privs_ok
    have htab : c.exceptionTable.toList = [] := by
      obtain ⟨meth9, c9, h1, h2, -, -, -, -, h7, -⟩ := Cond.code_spec B.named (hts0 _ List.mem_cons_self)
      cases Option.some.inj (h1.symm.trans B.method)
      cases Option.some.inj (h2.symm.trans (Stand.of_body B).code)
      rw [Array.isEmpty_iff.mp h7]
    have hnm := (name_of_methodNamed B.named B.method).1
    have hml : c.maxLocals = 19 := B.maxLocals_eq (hts0 _ List.mem_cons_self)
    have X₀ : Stand p l e room_1 s m #[Value.ref b] below meth c s₁ [] 0 0 := Stand.of_body B
    have hh0 : s₁.heap = s.heap := by rw [B.state]; rfl
    have hsz : scr.slots.size = xs.length := by rw [← Array.length_toList, hlist, List.length_map]
    have hval : ∀ j : Nat, j < xs.length → scr.slots[j]? = some (.int (xs.getD j 0)) := fun j hj => by
      rw [← Array.getElem?_toList, hlist]
      simp [hj]
    have hbl : b < s.heap.size := (Array.getElem?_eq_some_iff.mp hcb).1
    have hX : va_X b xs.length (fun j => xs.getD j 0) s s.heap := ⟨scr, hcb, hof, hkn, hsz, hval⟩
    have K : W p l e room_1 s m #[Value.ref b] below meth c s₁.heap [] 0 0 (lw_Z below #[Value.ref b] s) (entryFrame m ([Value.ref b] : List Value).toArray 19) := by
      rw [hh0]
      exact whole_start hXL l hflags hbd ⟨B.exec, B.bytes, B.returns, hml, hown, hts, hX, hbl, B.notSynchronized, hgv, hnm, htab⟩
    obtain ⟨t, a1, o, b1, b2, b3⟩ := K s₁ rfl X₀
    exact ⟨t, o, a1, b1, b2, b3⟩
theorem lw_pre_spec {args : Array Value} {s : State} (h : (Jvm.Cond.and given_1 narrow_1).before args s = true) (hr : rest_1_c.before args s = true) : ∃ (b : Addr) (xs : List Int32), lw_P b xs args s := by
  have hs := flat_of_before _ h
  have hq := flat_of_before _ hr
  have hc : (Cond.count 1).before args s = true := hs _ (by decide +kernel)
  have harr : (Cond.arrayOf (.arg 0) .int).before args s = true := hs _ (by decide +kernel)
  have hle : (Cond.le (.length (.arg 0)) (.int 260)).before args s = true := hs _ (by decide +kernel)
  have hlen : (Cond.isInt (.length (.arg 0))).before args s = true := hq _ (by decide +kernel)
  have hall : (Cond.all (.arg 0) (.isInt (.elem (.arg 0) (.index 0)))).before args s = true := hq _ (by decide +kernel)
  obtain ⟨b, xs, hb, hx⟩ := State.ints_of_pre rfl harr hlen hall
  have hsm : xs.length < 2 ^ 31 := hx.choose_spec.2.2.2
  have hev : (Term.length (.arg 0)).eval args s none [] s = some (.int xs.length.toInt32) := hx.length_eval hb
  have hv := Cond.le_ints hev (show (Term.int 260).eval args s none [] s = some (.int 260) from rfl)
  have hd : xs.length.toInt32 ≤ 260 := by
    simpa [Cond.before, Cond.holds, hv] using hle
  have hN : xs.length ≤ 260 := (Int32.ofNat_le_ofNat hsm (by decide)).mp (show Int32.ofNat xs.length ≤ Int32.ofNat 260 from hd)
  exact ⟨b, xs, Cond.one_arg hc (show args[0]? = some (.ref b) from hb), hx, hN, h⟩
theorem lw_comes (hXL : LawX) (l : Launch) (hflags : l.flags = flags0) : Comes l x (Jvm.Cond.code x code maxLocals ret :: tables_1) room_1 (fun tb e args s => Calls_1 tb e args s ∧ rest_1 tb e args s ∧ Pre_1 tb e args s)
    (fun _ _ args s o t => lw_Q args s o t) := by
  intro p e ha hc hk s m args below hf hfit hheap happ hpre
  obtain ⟨b, xs, hP⟩ := lw_pre_spec hpre.2.2 hpre.2.1
  obtain ⟨k, o, h1, h2, h3, hQ⟩ := lw_walk hXL l hflags b xs p e ha hc hk s m args below hf ((Spec.applies_iff_loose hf).mp happ).1 hP trivial
  exact ⟨k, o, h1, h2, h3, hQ⟩
theorem lw_frame {s t : State} {o : Outcome} {args : Array Value} (h : Framed s o t [] 600086 7301442) :
    Framed s o t (fieldLocs frame_1_writes args s ++ arrayLocs frame_1_arrays args s ++ staticLocs frame_1_statics s) 600086 7301442 := h
theorem lw_limb (hXL : LawX) (L : Cond) (hL : ∀ (args : Array Value) (s t : State), L.after args s (.returned (some (.int 1))) t = true) :
    ArmFor flags0 classFile x code maxLocals ret World_1 tables_1 room_1 Calls_1 rest_1 Pre_1
      (fun tb e a s o t => postC L tb e a s o t ∧ Framed s o t (fieldLocs frame_1_writes a s ++ arrayLocs frame_1_arrays a s ++ staticLocs frame_1_statics s) 600086 7301442) := by
  intro l hflags _ _ p e ha hc hk s m args below hf hfit hheap happ hpre
  obtain ⟨k, o, h1, h2, h3, rfl, hF⟩ := lw_comes hXL l hflags p e ha hc hk s m args below hf hfit hheap happ hpre
  exact ⟨k, _, h1, h2, h3, hL args s _, lw_frame hF⟩
theorem vc_of (hXL : LawX) : Claimed_1_1 ∧ Claimed_1_2 := ⟨lw_limb hXL limb_1_1 (fun args s t => by simp [limb_1_1, Cond.after, Cond.holds, Cond.value]), lw_limb hXL limb_1_2 (fun args s t => Cond.after_iff.mpr (by
  first | (rw [show limb_1_2 = Cond.eq .result (.int 1) from rfl, Cond.eq_ints (x := 1) (y := 1) rfl rfl]; simp; done) | (simp [limb_1_2, Cond.value, Term.eval]; done)))⟩
