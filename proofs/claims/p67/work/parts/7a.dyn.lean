/-! rules for the law's own side: long numbers, nest mates, casts, lists, strings of one's own -/
section DYa
variable {Γ : (Nat → Nat) → (Nat → Prop) → State → Array Value → Prop} {M : MD} {cc : ByteArray} {bc bs : Nat} {I : Mem} {K : Kt} {pc : Nat} {L st : List Value} {Q : Rs → Mem → Kt → Prop}
theorem Rl.set2 {ad : Nat → Nat} {ls : Array Slot} {nL : Nat} {L : List Value} (h : Rl ad ls nL L) {i : Nat} {v : Value} (hi : i + 1 < L.length) (hc : v.category = 2) (h2 : c2 L i = true) : ∃ ls', storeLocals ls i (cv ad v) = some ls' ∧ Rl ad ls' nL ((L.set i v).set (i + 1) (.retAddr 0)) := by
  obtain ⟨h0, lv, h1, h3⟩ := h
  obtain ⟨ls', e, h4⟩ := lv_store2 (v := cv ad v) h1 (i := i) (by omega) (by rw [cv_cat]; exact hc)
  refine ⟨ls', e, by rw [List.length_set, List.length_set]; exact h0, _, h4, fun j w hj hw => ?_⟩
  rw [List.getElem?_set] at hj
  by_cases hj1 : i + 1 = j
  · subst hj1
    rw [if_pos rfl, if_pos (by rw [List.length_set]; exact hi)] at hj
    cases hj
    exact absurd rfl (hw 0)
  · rw [if_neg hj1, List.getElem?_set] at hj
    by_cases hij : i = j
    · subst hij
      rw [if_pos rfl, if_pos (by omega)] at hj
      cases hj
      exact List.mem_cons_self
    · rw [if_neg hij] at hj
      refine List.mem_cons_of_mem _ (List.mem_filter.mpr ⟨h3 j w hj hw, ?_⟩)
      have hji : (j == i) = false := by simpa using fun z => hij z.symm
      have hji1 : (j == i + 1) = false := by simpa using fun z => hj1 z.symm
      show (!(j == i) && (!(j == i + 1) && !(j + 1 == i && (cv ad w).category == 2))) = true
      rw [hji, hji1, cv_cat]
      by_cases h5 : j + 1 = i
      · subst h5
        unfold c2 at h2
        simp only [hj] at h2
        simpa using h2
      · simp [h5]
theorem X.lo2 {pc' i : Nat} {v : Value} {st' : List Value} (k : X M cc bc bs I K pc' ((L.set i v).set (i + 1) (.retAddr 0)) st' Q Γ) (hi : i + 1 < L.length) (hc1 : v.category = 2) (h2 : c2 L i = true) (hv : ∀ n, (∀ v ∈ st, vok n v) → (∀ v ∈ L, vok n v) → vok n v ∧ ∀ v ∈ st', vok n v)
    (row : ∀ {p : Program} {l : Launch} {e : Env} {R : Room} {s : State} {m : MethodId} {args : Array Value} {below : List Frame} {meth : Method} {c : Code} {H : Heap} {locs : List Loc} {cells slots : Nat} {Q : State → Prop} {ls ls' : Array Slot} {ad : Nat → Nat}, p.tables.exec = Jvm.exec → c.code = cc → Rl ad ls M.2.1 L → storeLocals ls i (cv ad v) = some ls' → W p l e R s m args below meth c H locs cells slots Q (F0 m pc' ls' (st'.map (cv ad))) → W p l e R s m args below meth c H locs cells slots Q (F0 m pc ls (st.map (cv ad)))) : X M cc bc bs I K pc L st Q Γ := by
  intro p l e s m args below meth c mc ms D cA A ad0 n0 hC hE hΓ ad H locs cells slots ls hR hc hs hL hvL hvS
  obtain ⟨hw, hr⟩ := hv _ hvS hvL
  obtain ⟨ls', e1, hL'⟩ := hL.set2 hi hc1 h2
  refine row hC.1 hC.2.1 hL e1 (k p l e s m args below meth c mc ms D cA A ad0 n0 hC hE hΓ ad H locs cells slots ls' hR hc hs hL' (fun w hw' => ?_) hr)
  rcases List.mem_or_eq_of_mem_set hw' with h9 | rfl
  · rcases List.mem_or_eq_of_mem_set h9 with h9 | rfl
    · exact hvL w h9
    · exact hw
  · trivial
theorem x_lstore {i : Nat} {v : Int64} (hd : decode cc pc = .ok (.lstore i, 2)) (hi : i + 1 < L.length) (h2 : c2 L i = true) {L' : List Value} (hl : (L.set i (.long v)).set (i + 1) (.retAddr 0) = L') (k : X M cc bc bs I K (pc + 2) L' st Q Γ) : X M cc bc bs I K pc L (.long v :: st) Q Γ := by
  subst hl
  refine k.lo2 hi rfl h2 (fun n h _ => List.forall_mem_cons.mp h) fun hx hb _ e' k => ?_
  intro T hT XX
  obtain ⟨t, a, b⟩ := k T hT XX
  refine ⟨t, ?_, b⟩
  have e' : storeLocals _ _ (cv _ (.long v)) = _ := e'
  simp only [List.map_cons, cv] at e' ⊢
  jvm_step XX.here [XX.here.top, ↓top_set XX.here.top, hx, hb, hd, e']
  exact a
theorem x_lload {i : Nat} {v : Int64} (hd : decode cc pc = .ok (.lload i, 2)) (hL : L[i]? = some (.long v)) (k : X M cc bc bs I K (pc + 2) L (.long v :: st) Q Γ) : X M cc bc bs I K pc L st Q Γ :=
  k.sk (fun n h _ => by simp only [List.forall_mem_cons] at h ⊢; exact ⟨trivial, h⟩) fun hx hb _ _ hl k => lv_lload hx hb hd (hl.at hL (fun q h => by cases h)) k
theorem x_lloadn {i : Fin 4} {v : Int64} (hd : decode cc pc = .ok (.lload_n i, 1)) (hL : L[(i : Nat)]? = some (.long v)) (k : X M cc bc bs I K (pc + 1) L (.long v :: st) Q Γ) : X M cc bc bs I K pc L st Q Γ :=
  k.sk (fun n h _ => by simp only [List.forall_mem_cons] at h ⊢; exact ⟨trivial, h⟩) fun hx hb _ _ hl k => lv_lload_n hx hb hd rfl (hl.at hL (fun q h => by cases h)) k
theorem x_ladd {x y : Int64} (hd : decode cc pc = .ok (.ladd, 1)) (k : X M cc bc bs I K (pc + 1) L (.long (x + y) :: st) Q Γ) : X M cc bc bs I K pc L (.long y :: .long x :: st) Q Γ :=
  k.sk (fun n h _ => by simp only [List.forall_mem_cons] at h ⊢; exact ⟨trivial, h.2.2⟩) fun hx hb _ _ _ k => lv_ladd hx hb hd k
theorem x_lmul {x y : Int64} (hd : decode cc pc = .ok (.lmul, 1)) (k : X M cc bc bs I K (pc + 1) L (.long (x * y) :: st) Q Γ) : X M cc bc bs I K pc L (.long y :: .long x :: st) Q Γ :=
  k.sk (fun n h _ => by simp only [List.forall_mem_cons] at h ⊢; exact ⟨trivial, h.2.2⟩) fun hx hb _ _ _ k => lv_lmul hx hb hd k
theorem x_land {x y : Int64} (hd : decode cc pc = .ok (.land, 1)) (k : X M cc bc bs I K (pc + 1) L (.long (x &&& y) :: st) Q Γ) : X M cc bc bs I K pc L (.long y :: .long x :: st) Q Γ :=
  k.sk (fun n h _ => by simp only [List.forall_mem_cons] at h ⊢; exact ⟨trivial, h.2.2⟩) fun hx hb _ _ _ k => lv_land hx hb hd k
theorem x_lshl {x : Int64} {y : Int32} (hd : decode cc pc = .ok (.lshl, 1)) (k : X M cc bc bs I K (pc + 1) L (.long (x <<< (y.toInt64 &&& 63)) :: st) Q Γ) : X M cc bc bs I K pc L (.int y :: .long x :: st) Q Γ :=
  k.sk (fun n h _ => by simp only [List.forall_mem_cons] at h ⊢; exact ⟨trivial, h.2.2⟩) fun hx hb _ _ _ k => lv_lshl hx hb hd rfl k
/-- the unsigned shift of an int -/
def ush (x y : Int32) : Int32 := (x.toUInt32 >>> (y.toUInt32 &&& Int32.toUInt32 31)).toInt32
theorem x_iushr {x y : Int32} (hd : decode cc pc = .ok (.iushr, 1)) (k : X M cc bc bs I K (pc + 1) L (.int (ush x y) :: st) Q Γ) : X M cc bc bs I K pc L (.int y :: .int x :: st) Q Γ :=
  k.sk (fun n h _ => by simp only [List.forall_mem_cons] at h ⊢; exact ⟨trivial, h.2.2⟩) fun hx hb _ _ _ k => lv_iushr hx hb hd rfl k
theorem x_ixor {x y : Int32} (hd : decode cc pc = .ok (.ixor, 1)) (k : X M cc bc bs I K (pc + 1) L (.int (x ^^^ y) :: st) Q Γ) : X M cc bc bs I K pc L (.int y :: .int x :: st) Q Γ :=
  k.sk (fun n h _ => by simp only [List.forall_mem_cons] at h ⊢; exact ⟨trivial, h.2.2⟩) fun hx hb _ _ _ k => lv_ixor hx hb hd k
theorem x_ldc2 {ix : Nat} (v : Int64) (hc : Cond.constantLong M.1.cls ix v ∈ wsG) (hd : decode cc pc = .ok (.ldc2_w ix, 3)) (k : X M cc bc bs I K (pc + 3) L (.long v :: st) Q Γ) : X M cc bc bs I K pc L st Q Γ :=
  k.sk (fun n h _ => by simp only [List.forall_mem_cons] at h ⊢; exact ⟨trivial, h⟩) fun hx hb ho ht _ k => lv_ldc2 hx hb ho (ht _ hc) hd k
theorem x_null (hd : decode cc pc = .ok (.aconst_null, 1)) (k : X M cc bc bs I K (pc + 1) L (.null :: st) Q Γ) : X M cc bc bs I K pc L st Q Γ := by
  refine k.sk (fun n h _ => List.forall_mem_cons.mpr ⟨trivial, h⟩) fun hx hb _ _ _ k => ?_
  intro T hT XX
  obtain ⟨t, a, b⟩ := k T hT XX
  refine ⟨t, ?_, b⟩
  simp only [List.map_cons, cv] at a ⊢
  jvm_step XX.here [XX.here.top, hx, hb, hd]
  exact a
theorem x_ifnonnull {a : Nat} {off : Int} (tgt : Nat) (hd : decode cc pc = .ok (.ifnonnull off, 3)) (ht : (pc : Int) + off = (tgt : Int)) (k : X M cc bc bs I K tgt L st Q Γ) : X M cc bc bs I K pc L (.ref a :: st) Q Γ :=
  k.sk (fun n h _ => (List.forall_mem_cons.mp h).2) fun hx hb _ _ _ k => lv_ifnonnull hx hb hd ht k
theorem x_ifnull {a : Nat} {off : Int} (hd : decode cc pc = .ok (.ifnull off, 3)) (k : X M cc bc bs I K (pc + 3) L st Q Γ) : X M cc bc bs I K pc L (.ref a :: st) Q Γ :=
  k.sk (fun n h _ => (List.forall_mem_cons.mp h).2) fun hx hb _ _ _ k => lv_ifnull hx hb hd k
/-- the same reference twice -/
theorem x_acmpS {a : Nat} {off : Int} (tgt : Nat) (hd : decode cc pc = .ok (.if_acmp .eq off, 3)) (ht : (pc : Int) + off = (tgt : Int)) (k : X M cc bc bs I K tgt L st Q Γ) : X M cc bc bs I K pc L (.ref a :: .ref a :: st) Q Γ :=
  k.sk (fun n h _ => (List.forall_mem_cons.mp (List.forall_mem_cons.mp h).2).2) fun {_ _ _ _ _ _ _ _ _ _ _ _ _ _ _ _ ad} hx hb _ _ _ k => lv_acmp_eq (rx := some (ad a)) (ry := some (ad a)) hx hb hd ht (fun _ => k) (fun h => absurd rfl h)
/-- two cells of one's own -/
theorem x_acmpD {a b : Nat} {off : Int} (tgt : Nat) (ha : a < kN K) (hb0 : b < kN K) (hab : a ≠ b) (hd : decode cc pc = .ok (.if_acmp .ne off, 3)) (ht : (pc : Int) + off = (tgt : Int)) (k : X M cc bc bs I K tgt L st Q Γ) : X M cc bc bs I K pc L (.ref b :: .ref a :: st) Q Γ := by
  intro p l e s m args below meth c mc ms D cA A ad0 n0 hC hE hΓ ad H locs cells slots ls hR hc hs hL hvL hvS
  refine lv_acmp_ne (rx := some (ad a)) (ry := some (ad b)) hC.1 hC.2.1 hd ht (fun _ => ?_) (fun h => ?_)
  · exact k p l e s m args below meth c mc ms D cA A ad0 n0 hC hE hΓ ad H locs cells slots ls hR hc hs hL hvL (List.forall_mem_cons.mp (List.forall_mem_cons.mp hvS).2).2
  · exact absurd (hR.2.2.1.1 a b _ _ (wl_get ha) (wl_get hb0) (Option.some.inj h)) hab
/-- a row that reads the heap, the nest's words at hand -/
theorem X.rdE {pc' : Nat} {v : Value} {st' : List Value} (k : X M cc bc bs I K pc' L (v :: st') Q Γ) (hv : Cl K → (∀ v ∈ st, vok (kN K) v) → vok (kN K) v ∧ ∀ v ∈ st', vok (kN K) v)
    (row : ∀ (cA : Nat → ClassId) (ad : Nat → Nat) {p : Program} {l : Launch} {e : Env} {R : Room} {s : State} {m : MethodId} {args : Array Value} {below : List Frame} {meth : Method} {c : Code} {H : Heap} {locs : List Loc} {cells slots : Nat} {Q : State → Prop} {ls : Array Slot} {D : va_G}, p.tables.exec = Jvm.exec → c.code = cc → s.vm.findClass M.1.cls = some m.cls → (∀ w ∈ wsG, w.before args s = true) → (∀ w ∈ wsN, va_Nw w s) → va_K D cls (tys cA) s → va_P D cls (wl cA ad I K) H → W p l e R s m args below meth c H locs cells slots Q (F0 m pc' ls (cv ad v :: st'.map (cv ad))) → W p l e R s m args below meth c H locs cells slots Q (F0 m pc ls (st.map (cv ad)))) : X M cc bc bs I K pc L st Q Γ := by
  intro p l e s m args below meth c mc ms D cA A ad0 n0 hC hE hΓ ad H locs cells slots ls hR hc hs hL hvL hvS
  obtain ⟨h1, h2⟩ := hv hR.2.2.2.2.2.1 hvS
  exact row cA ad hC.1 hC.2.1 hC.2.2.2.2.1 hC.2.2.2.2.2.1 hE.2.1 hR.1 hR.2.1 (k p l e s m args below meth c mc ms D cA A ad0 n0 hC hE hΓ ad H locs cells slots ls hR hc hs hL hvL (List.forall_mem_cons.mpr ⟨h1, h2⟩))
theorem X.wrE {pc' : Nat} {st' : List Value} {I' : Mem} {K' : Kt} (k : X M cc bc bs I' K' pc' L st' Q Γ) (hn : kN K' = kN K) (hcl : Cl K → (∀ v ∈ st, vok (kN K) v) → Cl K') (hv : (∀ v ∈ st, vok (kN K) v) → ∀ v ∈ st', vok (kN K) v)
    (row : ∀ (cA : Nat → ClassId) (ad : Nat → Nat) {p : Program} {l : Launch} {e : Env} {R : Room} {s : State} {m : MethodId} {args : Array Value} {below : List Frame} {meth : Method} {c : Code} {H H0 : Heap} {locs : List Loc} {cells slots : Nat} {Q : State → Prop} {ls : Array Slot} {D : va_G} {A : Nat → Prop}, p.tables.exec = Jvm.exec → c.code = cc → s.vm.findClass M.1.cls = some m.cls → (∀ w ∈ wsG, w.before args s = true) → meth.name = M.1.name → (∀ w ∈ wsN, va_Nw w s) → va_K D cls (tys cA) s → va_P D cls (wl cA ad I K) H → va_D A (wl cA ad I K) → va_S A H0 H locs →
      (∀ H' locs', va_P D cls (wl cA ad I' K') H' → va_D A (wl cA ad I' K') → va_S A H0 H' locs' → W p l e R s m args below meth c H' locs' cells slots Q (F0 m pc' ls (st'.map (cv ad)))) → W p l e R s m args below meth c H locs cells slots Q (F0 m pc ls (st.map (cv ad)))) : X M cc bc bs I K pc L st Q Γ := by
  intro p l e s m args below meth c mc ms D cA A ad0 n0 hC hE hΓ ad H locs cells slots ls hR hc hs hL hvL hvS
  obtain ⟨r1, r2, r3, r4, r5, r6, r7, r8⟩ := hR
  refine row cA ad (H0 := s.heap) hC.1 hC.2.1 hC.2.2.2.2.1 hC.2.2.2.2.2.1 hC.2.2.2.2.2.2.2.1 hE.2.1 r1 r2 r3 r4 fun H' locs' p1 p2 p3 => ?_
  exact k p l e s m args below meth c mc ms D cA A ad0 n0 hC hE hΓ ad H' locs' cells slots ls ⟨r1, p1, p2, p3, r5, hcl r6 hvS, by rw [hn]; exact r7, r8⟩ hc hs hL (by rw [hn]; exact hvL) (by rw [hn]; exact hv hvS)
/-- a nest mate's field -/
def FsN (own : String) (ix ci k : Nat) (b fin : Bool) (ty : FieldType) : Prop :=
  ∃ (C : String) (T : u_T) (N : Nat) (ty0 : Nat → FieldType) (host : String), cls[ci]? = some (C, T, N) ∧ k < N ∧ (ft ci)[k]? = some b ∧ Cond.fieldLinkNest own ix (T k).1 (T k).2.1 (T k).2.2.1 host ∈ wsN ∧ (∀ w ∈ u_ws C T N, w ∈ wsG) ∧ (T k).2.2.2 = fin ∧ parseFieldDescriptor (T k).2.2.1 = some ty ∧ (∀ k, k < N → parseFieldDescriptor (T k).2.2.1 = some (ty0 k)) ∧ (∀ a, a < N → ∀ b, b < N → a ≠ b → (T a).2.1 ≠ (T b).2.1) ∧ (ft ci).length = N
theorem x_getIN {ix ci k a : Nat} {fin : Bool} {ty : FieldType} (F : FsN M.1.cls ix ci k false fin ty) (hs : (kS K a).1 = ci) (ha : a < kN K) (hd : decode cc pc = .ok (.getfield ix, 3)) (kk : X M cc bc bs I K (pc + 3) L (.int (I a k) :: st) Q Γ) : X M cc bc bs I K pc L (.ref a :: st) Q Γ := by
  obtain ⟨C, T, N, ty0, host, h1, h2, h3, h4, h5, -⟩ := F
  refine X.rdE kk (fun _ h => ⟨trivial, (List.forall_mem_cons.mp h).2⟩) fun cA ad => fun hx hb ho ht hN hK hP k9 => ?_
  exact va_getN (v := .int (I a k)) hx hb ht h5 ho hK hP a (wl_get ha |>.trans (by rw [ce_obj hs (cls_lt h1)])) h1 k h2 (va_Nw.use rfl (hN _ h4)) (fun _ h => h) ((oc_get _ _ _ _ 0 k _ h3).trans (by rw [Nat.zero_add]; rfl)) hd k9
theorem x_getRN {ix ci k a r : Nat} {fin : Bool} {ty : FieldType} (F : FsN M.1.cls ix ci k true fin ty) (hs : (kS K a).1 = ci) (ha : a < kN K) (hr : kG K a k = some r) (hd : decode cc pc = .ok (.getfield ix, 3)) (kk : X M cc bc bs I K (pc + 3) L (.ref r :: st) Q Γ) : X M cc bc bs I K pc L (.ref a :: st) Q Γ := by
  obtain ⟨C, T, N, ty0, host, h1, h2, h3, h4, h5, -⟩ := F
  refine X.rdE kk (fun hc h => ⟨hc a k r hr, (List.forall_mem_cons.mp h).2⟩) fun cA ad => fun hx hb ho ht hN hK hP k9 => ?_
  exact va_getN (v := .ref _) hx hb ht h5 ho hK hP a (wl_get ha |>.trans (by rw [ce_obj hs (cls_lt h1)])) h1 k h2 (va_Nw.use rfl (hN _ h4)) (fun _ h => h) ((oc_get _ _ _ _ 0 k _ h3).trans (by rw [Nat.zero_add, hr]; rfl)) hd k9
theorem x_putIN {ix ci k a : Nat} {x : Int32} {ty : FieldType} (F : FsN M.1.cls ix ci k false false ty) (hs : (kS K a).1 = ci) (ha : a < kN K) (hnf : narrow ty (.int x) = .int x ∧ fits ty (.int x) = true) (hd : decode cc pc = .ok (.putfield ix, 3)) (kk : X M cc bc bs (u2 I a k x) K (pc + 3) L st Q Γ) : X M cc bc bs I K pc L (.int x :: .ref a :: st) Q Γ := by
  obtain ⟨C, T, N, ty0, host, h1, h2, h3, h4, h5, h6, h7, h8, h9, h11⟩ := F
  refine X.wrE kk rfl (fun h _ => h) (fun h => by simp only [List.forall_mem_cons] at h; exact h.2.2) fun cA ad => fun hx hb ho ht _ hN hK hP hD hS k9 => ?_
  refine va_putN (v := .int x) hx hb ht h5 ty0 h8 h9 ho hK hP hD hS a (wl_get ha |>.trans (by rw [ce_obj hs (cls_lt h1)])) h1 k h2 (va_Nw.use rfl (hN _ h4)) (fun _ h => h) h6 h7 hnf.1 hnf.2 (by rw [oc_len, h11]; exact h2) hd fun H' locs' p1 p2 p3 => ?_
  rw [oc_set _ _ _ _ 0 k x h3, Nat.zero_add, show (wl cA ad I K).set a (ad a, Sum.inr (ci, oc ad (upd (I a) k x) (kG K a) 0 (ft ci))) = wl cA ad (u2 I a k x) K from wl_set rfl (by rw [ce_obj hs (cls_lt h1), u2_upd]) (fun b hb9 => ce_congr rfl (u2_a hb9) rfl rfl rfl)] at p1 p2
  exact k9 H' locs' p1 p2 p3
/-- a final number of a constructor's own object -/
theorem x_putIF {ix ci k a : Nat} {x : Int32} {ty : FieldType} (F : Fs M.1.cls ix ci k false true ty) (hM : M.1.name = "<init>") (hs : (kS K a).1 = ci) (ha : a < kN K) (hnf : narrow ty (.int x) = .int x ∧ fits ty (.int x) = true) (hd : decode cc pc = .ok (.putfield ix, 3)) (kk : X M cc bc bs (u2 I a k x) K (pc + 3) L st Q Γ) : X M cc bc bs I K pc L (.int x :: .ref a :: st) Q Γ := by
  obtain ⟨C, T, N, ty0, h1, h2, h3, h4, h5, h6, h7, h8, h9, h10, h11⟩ := F
  refine X.wr kk rfl (fun h _ => h) (fun h => by simp only [List.forall_mem_cons] at h; exact h.2.2) fun cA ad => fun hx hb ho ht hnm hK hP hD hS k9 => ?_
  refine va_putF (v := .int x) hx hb ht h5 ty0 h8 h9 ho hK hP hD hS a (wl_get ha |>.trans (by rw [ce_obj hs (cls_lt h1)])) h1 k h2 (ht _ h4) (fun _ h => h) h6 (hnm.trans hM) (h10 rfl) h7 hnf.1 hnf.2 (by rw [oc_len, h11]; exact h2) hd fun H' locs' p1 p2 p3 => ?_
  rw [oc_set _ _ _ _ 0 k x h3, Nat.zero_add, show (wl cA ad I K).set a (ad a, Sum.inr (ci, oc ad (upd (I a) k x) (kG K a) 0 (ft ci))) = wl cA ad (u2 I a k x) K from wl_set rfl (by rw [ce_obj hs (cls_lt h1), u2_upd]) (fun b hb9 => ce_congr rfl (u2_a hb9) rfl rfl rfl)] at p1 p2
  exact k9 H' locs' p1 p2 p3
/-- casts -/
theorem x_castC {ix ci a : Nat} {C : String} {T : u_T} {N : Nat} (hci : cls[ci]? = some (C, T, N)) (hl : Cond.classLink M.1.cls ix C ∈ wsG) (H : LO K ci a) (hd : decode cc pc = .ok (.checkcast ix, 3)) (kk : X M cc bc bs I K (pc + 3) L (.ref a :: st) Q Γ) : X M cc bc bs I K pc L (.ref a :: st) Q Γ := by
  refine X.rd kk (fun _ h => List.forall_mem_cons.mp h) fun cA ad => fun hx hb ho ht hK hP k9 => ?_
  exact va_castE hx hb ho (ht _ hl) (va_recv hK hP hci ((wl_get H.2).trans (by rw [ce_obj H.1 (cls_lt hci)]))) hd k9
theorem x_castI {ix n a : Nat} (hl : Cond.classLink M.1.cls ix "[I" ∈ wsG) (H : LA K 100 n a) (hd : decode cc pc = .ok (.checkcast ix, 3)) (kk : X M cc bc bs I K (pc + 3) L (.ref a :: st) Q Γ) : X M cc bc bs I K pc L (.ref a :: st) Q Γ := by
  refine X.rd kk (fun _ h => List.forall_mem_cons.mp h) fun cA ad => fun hx hb ho ht hK hP k9 => ?_
  exact va_castA hx hb ho (ht _ hl) hP a (wl_get H.2 |>.trans (by rw [ce_ints H.1 (by decide) (by decide)])) (hK.2 0 (cA 100, .int) rfl).2 hd k9
theorem x_castB {ix n a : Nat} (hl : Cond.classLink M.1.cls ix "[B" ∈ wsG) (H : LA K 101 n a) (hd : decode cc pc = .ok (.checkcast ix, 3)) (kk : X M cc bc bs I K (pc + 3) L (.ref a :: st) Q Γ) : X M cc bc bs I K pc L (.ref a :: st) Q Γ := by
  refine X.rd kk (fun _ h => List.forall_mem_cons.mp h) fun cA ad => fun hx hb ho ht hK hP k9 => ?_
  exact va_castA hx hb ho (ht _ hl) hP a (wl_get H.2 |>.trans (by rw [ce_ints H.1 (by decide) (by decide)])) (hK.2 1 (cA 101, .byte) rfl).2 hd k9
/-- something of one's own goes into a list's array -/
theorem va_rArr {s : State} {H : Heap} {D : va_G} {cl : List vw_C} {tys : List (ClassId × FieldType)} {ws : va_W} {a q0 t0 : Nat} {cA : ClassId} {x : vp_A} {ty : FieldType} {C E : String} (hK : va_K D cl tys s) (hP : va_P D cl ws H) (he : ws[q0]? = some (a, .inl (cA, x))) (ht : tys[t0]? = some (cA, ty)) (hC : s.vm.findClass C = some cA) (hasg : va_Nw (.castable C E) s) : va_Any E s H a := by
  have h1 : H[a]? = some (vp_cell cA x) := hP q0 _ he
  have hvm0 : (vp_cell cA x).vm = .none := by
    obtain ⟨n, f | f | f | f | f⟩ := x <;> rfl
  have hcl0 : (vp_cell cA x).cls = cA := by
    obtain ⟨n, f | f | f | f | f⟩ := x <;> rfl
  obtain ⟨kC, hkC, -⟩ := Vm.findClass_spec hC
  obtain ⟨c0, t9, f1, f2, f3⟩ := Cond.castable_spec (va_Nw.use (A := #[]) rfl hasg)
  cases hC.symm.trans f1
  exact ⟨_, h1, by rw [hvm0]; rfl, ⟨kC, by rw [hcl0]; exact hkC⟩, fun comp h => by cases h.symm.trans f2; rw [hcl0]; exact f3⟩
theorem x_aastX {a n j v : Nat} {i : Int32} (hs : kS K a = (109, n)) (ha : a < kN K) (hv2 : v < kN K) (hi : i = nI j) (hj : j < n ∧ n < 2147483648)
    (hany : ∀ (cA : Nat → ClassId) (ad : Nat → Nat) {s : State} {H : Heap} {D : va_G}, (∀ w ∈ wsN, va_Nw w s) → va_K D cls (tys cA) s → va_P D cls (wl cA ad I K) H → va_Any "java/lang/Object" s H (ad v))
    (hd : decode cc pc = .ok (.aastore, 1)) (kk : X M cc bc bs I (kSetG K (u2 (kG K) a j (some v))) (pc + 1) L st Q Γ) : X M cc bc bs I K pc L (.ref v :: .int i :: .ref a :: st) Q Γ := by
  subst hi
  refine X.wrE kk rfl (fun h hw b j9 q hq => ?_) (fun h => by simp only [List.forall_mem_cons] at h; exact h.2.2.2) fun cA ad => fun hx hb ho ht _ hN hK hP hD hS k9 => ?_
  · unfold kG kSetG u2 at hq
    dsimp only at hq
    split at hq
    · split at hq
      · cases hq; exact Or.inl hv2
      · exact h _ _ _ hq
    · exact h _ _ _ hq
  · refine va_astqM (E := "java/lang/Object") hx hb hK hP hD hS a 4 (wl_get ha |>.trans (by rw [ce_refs hs (by decide)])) rfl (hany cA ad hN hK hP) (vp_in_nI hj.1 hj.2) hd fun H' locs' p1 p2 p3 => ?_
    rw [nI_clamp (by omega), show (wl cA ad I K).set a (ad a, Sum.inl (cA 109, n, .inr (.inr (.inr (.inr (va_up (fun j => (kG K a j).map ad) j (some (ad v)))))))) = wl cA ad I (kSetG K (u2 (kG K) a j (some v))) from wl_set rfl (by
      rw [ce_refs (K := kSetG K (u2 (kG K) a j (some v))) hs (by decide), show va_up (fun j => (kG K a j).map ad) j (some (ad v)) = (fun j9 => (u2 (kG K) a j (some v) a j9).map ad) from by
        funext j9
        rw [u2_va]
        unfold va_up
        split <;> rfl]) (fun b hb9 => ce_congr rfl rfl (by exact u2_a hb9) rfl rfl)] at p1 p2
    exact k9 H' locs' p1 p2 p3
end DYa
