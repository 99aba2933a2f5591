section DYe
variable {Γ : (Nat → Nat) → (Nat → Prop) → State → Array Value → Prop} {M : MD} {cc : ByteArray} {bc bs : Nat} {I I1 : Mem} {K K1 : Kt} {pc : Nat} {L st : List Value} {Q : Rs → Mem → Kt → Prop}
theorem X.nwL {pc' m2 : Nat} {rest : List Value} {I' : Mem} {K' : Kt} (k : X M cc bc bs I' K' pc' L (.ref (kN K) :: rest) Q Γ) (hn : kN K' = kN K + 1) (hlim : kN K < xB) (hS : ∀ b, b ≠ kN K → kS K' b = kS K b) (hI : ∀ b, b ≠ kN K → I' b = I b) (hG : kG K' = u1 (kG K) (kN K) (fun _ => none)) (hJ : ∀ b, b ≠ kN K → kJ K' b = kJ K b) (hD : ∀ b, b ≠ kN K → kD K' b = kD K b) (hv : (∀ v ∈ st, vok (kN K) v) → ∀ v ∈ rest, vok (kN K) v)
    (row : ∀ (cA : Nat → ClassId) (ad : Nat → Nat) {p : Program} {l : Launch} {e : Env} {R : Room} {s : State} {m : MethodId} {args : Array Value} {below : List Frame} {meth : Method} {c : Code} {H : Heap} {locs : List Loc} {cells slots : Nat} {Q : State → Prop} {ls : Array Slot} {D : va_G} {A : Nat → Prop}, p.tables.exec = Jvm.exec → c.code = cc → s.vm.findClass M.1.cls = some m.cls → (∀ w ∈ wsG, w.before args s = true) → va_K D cls (tys cA) s → va_P D cls (wl cA ad I K) H → va_D A (wl cA ad I K) → va_S A s.heap H locs → (∀ q, s.heap.size ≤ q → A q) → (∀ w ∈ wsN, va_Nw w s) → c.maxLocals = ls.size → R.frames = M.2.2.2.2 → R.locals = 40 * M.2.2.2.2 + 2080 → cells + 1 ≤ R.cells → slots + m2 ≤ R.slots →
      (∀ (q : Nat) (e9 : va_E) (H' : Heap), (∀ ad' : Nat → Nat, e9 = ce cA ad' I' K' (kN K)) → va_P D cls (wl cA ad I K ++ [(q, e9)]) H' → va_D A (wl cA ad I K ++ [(q, e9)]) → va_S A s.heap H' locs → W p l e R s m args below meth c H' locs (cells + 1) (slots + m2) Q (F0 m pc' ls (.ref q :: rest.map (cv ad)))) → W p l e R s m args below meth c H locs cells slots Q (F0 m pc ls (st.map (cv ad)))) : X M cc (1 + bc) (m2 + bs) I K pc L st Q Γ := by
  intro p l e s m args below meth c mc ms D cA A ad0 n0 hC hE hΓ ad H locs cells slots ls hR hc hs hL hvL hvS
  obtain ⟨r1, r2, r3, r4, r5, r6, r7, r8⟩ := hR
  have hml : c.maxLocals = ls.size := by
    obtain ⟨k0, lv, k1, -⟩ := hL
    rw [hC.2.2.2.1]
    exact k1.1.symm
  refine row cA ad hC.1 hC.2.1 hC.2.2.2.2.1 hC.2.2.2.2.2.1 r1 r2 r3 r4 r5 hE.2.1 hml rfl rfl (by show cells + 1 ≤ mc; omega) (by show slots + m2 ≤ ms; omega) fun q e9 H' he p1 p2 p3 => ?_
  have hag : ∀ k9, (k9 < kN K ∨ xB ≤ k9) → va_up ad (kN K) q k9 = ad k9 := fun k9 h9 => if_neg (by omega)
  have hgn : kG K' (kN K) = fun _ => none := by rw [hG]; exact u1_s
  have hgo : ∀ b, b ≠ kN K → kG K' b = kG K b := fun b hb => by rw [hG]; exact u1_n hb
  have hw : wl cA ad I K ++ [(q, e9)] = wl cA (va_up ad (kN K) q) I' K' := by
    refine wl_push hn (if_pos rfl) (fun b hb => hag b (Or.inl hb)) (he _) (fun b hb => ce_mv (hS b (by omega)) (hI b (by omega)) (fun j => ?_) (hJ b (by omega)) (hD b (by omega)))
    rw [hgo b (by omega)]
    cases hg : kG K b j with
    | none => rfl
    | some r => exact congrArg some (hag r (r6 b j r hg))
  rw [hw] at p1 p2
  have hcl : Cl K' := by
    intro a j r hr
    by_cases ha : a = kN K
    · rw [ha, hgn] at hr; cases hr
    · rw [hgo a ha] at hr
      rcases r6 a j r hr with h9 | h9
      · exact Or.inl (by omega)
      · exact Or.inr h9
  have hg := k p l e s m args below meth c mc ms D cA A ad0 n0 hC hE hΓ (va_up ad (kN K) q) H' locs (cells + 1) (slots + m2) ls ⟨r1, p1, p2, p3, r5, hcl, by omega, fun k9 h9 => (hag k9 (by omega)).trans (r8 k9 h9)⟩ (by omega) (by omega) (hL.ad hag hvL) (fun v h9 => vok_mono (by omega) (hvL v h9)) (fun v h9 => by
    rcases List.mem_cons.mp h9 with rfl | h9
    · exact Or.inl (show kN K < kN K' by omega)
    · exact vok_mono (by omega) (hv hvS v h9))
  have e9 : (Value.ref (kN K) :: rest).map (cv (va_up ad (kN K) q)) = .ref q :: rest.map (cv ad) := by
    rw [List.map_cons, cv_agreeL hag (hv hvS)]
    show Value.ref (va_up ad (kN K) q (kN K)) :: _ = _
    rw [show va_up ad (kN K) q (kN K) = q from if_pos rfl]
  rw [e9] at hg
  exact hg
theorem x_callUf {ix n : Nat} {M' : MD} {cc' : ByteArray} {As rest : List Value} {bc' bs' : Nat} {Q' : Rs → Mem → Kt → Prop} (S : CsV M.1.cls ix M' cc' n) (hcl : M'.1.cls = "jdk/internal/misc/Unsafe") (hn : As.length = n) (hst : st = As.reverse ++ .ref (xE 44) :: rest) (hW : (rest.map fun v => v.category).sum ≤ 8) (hdep : M'.2.2.2.2 + 1 ≤ M.2.2.2.2 ∧ 8 + (M'.2.1 + 11) + 40 * M'.2.2.2.2 ≤ 40 * M.2.2.2.2) (hd : decode cc pc = .ok (.invokevirtual ix, 3))
    (hcon : Ct M' cc' bc' bs' (.ref (xE 44) :: As) I K Q') (kk : ∀ r I' K', kN K ≤ kN K' → Q' (.inl r) I' K' → X M cc bc bs I' K' (pc + 3) L (r.toList ++ rest) Q Γ) (kx : ∀ E I' K', kN K ≤ kN K' → Q' (.inr E) I' K' → XT M cc bc bs I' K' pc E L Q Γ) : X M cc (bc' + bc) (bs' + bs) I K pc L st Q Γ := by
  subst hst
  refine x_run (rest := rest) (fun h v hv => h v (by simp [hv])) ?_ kk kx
  intro p l e s m args below meth c mc ms D cA A ad0 n0 hC hE hΓ ad H locs cells slots ls hR hc hs hL hvS
  obtain ⟨S1, S2, S3, S4, S5, S6⟩ := S
  have hM := hcon hR.2.2.2.2.2.1 (fun v hv => hvS v (by simp only [List.mem_cons] at hv; rcases hv with rfl | hv <;> simp [*])) l hC.2.2.2.2.2.2.2.2.2 D cA ad H.size
  have hF : CallFix p m c cc M.2.1 s args wsG M.1.cls := ⟨hC.1, hC.2.1, hC.2.2.2.1, hC.2.2.2.2.1, hC.2.2.2.2.2.1⟩
  have hG : GoodIn wsG (wsV M.1.cls ix M'.1.cls M'.1 (wsM M' cc')) := wsG_in (fun w h => h) (fun w h => by
    simp only [wsV, List.cons_append, List.nil_append, List.mem_cons] at h
    rcases h with rfl | rfl | rfl | rfl | rfl | h <;> assumption)
  have hrc : ∃ cell : Cell, H[ad (xE 44)]? = some cell ∧ cell.vm.isStatics = false ∧ s.vm.findClass M'.1.cls = some cell.cls := by
    rw [hR.2.2.2.2.2.2.2 _ (Or.inr (xE_ge _)), hcl]
    exact va_Orecv hE.1.2.2.2.2.2.2.2.2.1.2 hR.2.2.2.1
  have hp : PreV s H M'.1.cls (ad (xE 44)) (va_Pc ((Value.ref (xE 44) :: As).map (cv ad)) (Pz D cA ad H.size I K)) (As.map (cv ad)) := ⟨Pz.blind, hrc, fun U hU hW => ⟨rfl, Pz.at hE hR hU hW⟩⟩
  have hst9 : (F0 m pc ls ((As.reverse ++ .ref (xE 44) :: rest).map (cv ad))).stack = (As.map (cv ad)).reverse ++ .ref (ad (xE 44)) :: rest.map (cv ad) := by
    show (As.reverse ++ .ref (xE 44) :: rest).map (cv ad) = _
    rw [List.map_append, List.map_reverse]; rfl
  have hW9 : 2 * (F0 m pc ls ((As.reverse ++ .ref (xE 44) :: rest).map (cv ad))).monitorRoom + ((rest.map (cv ad)).map fun v => v.category).sum ≤ 8 := by
    rw [List.map_map, show ((fun v : Value => v.category) ∘ cv ad) = (fun v => v.category) from funext fun v => cv_cat ad v]
    show 2 * 0 + _ ≤ 8
    omega
  refine ⟨(Value.ref (ad (xE 44)) :: As.map (cv ad)).toArray, ?_⟩
  rcases hh : M'.2.2.2.1 with _ | ⟨h0, hr⟩
  · have hw : wsM M' cc' = Cond.code M'.1 cc' M'.2.1 M'.2.2.1 :: wsG := by show wdM M' cc' :: wsG = _; unfold wdM; rw [hh]
    exact vx_runV hF hM (cwV n hC.2.2.2.2.2.1 hG hw rfl rfl ⟨rfl, S6.1, S6.2.1, S6.2.2⟩ (dep40 hdep)) hp rfl (by rw [List.length_map]; exact hn) (by obtain ⟨k0, lv, k1, -⟩ := hL; exact k1.1) hst9 hW9 hd ⟨hc, hs⟩
  · have hw : wsM M' cc' = Cond.codeWith M'.1 cc' M'.2.1 M'.2.2.1 (h0 :: hr) :: wsG := by show wdM M' cc' :: wsG = _; unfold wdM; rw [hh]
    exact vx_runVX hF hM (vx_cwVW n hC.2.2.2.2.2.1 hG hw rfl rfl ⟨rfl, S6.1, S6.2.1, S6.2.2⟩ (dep40 hdep)) hp rfl (by rw [List.length_map]; exact hn) (by obtain ⟨k0, lv, k1, -⟩ := hL; exact k1.1) hst9 hW9 hd ⟨hc, hs⟩

/-- what a clone of bytes rests on -/
def CsC (own : String) (ix : Nat) : Prop := (Cond.methodLink own ix ⟨"[B", "clone", "()Ljava/lang/Object;"⟩ ∈ wsG ∧ Cond.sameMethod "[B" "java/lang/Object" "clone" "()Ljava/lang/Object;" ∈ wsG ∧ Cond.native ⟨"java/lang/Object", "clone", "()Ljava/lang/Object;"⟩ ∈ wsG) ∧ Cond.instanceMethod ⟨"java/lang/Object", "clone", "()Ljava/lang/Object;"⟩ ∈ wsG ∧ Cond.selects "[B" ⟨"[B", "clone", "()Ljava/lang/Object;"⟩ ⟨"java/lang/Object", "clone", "()Ljava/lang/Object;"⟩ ∈ wsG ∧ Cond.castable "[B" "java/lang/Cloneable" ∈ wsN
theorem x_cloneB {ix n a : Nat} (S : CsC M.1.cls ix) (H : LA K 101 n a) (hfit : ∀ i, i < n → fits .byte (.int (I a (0 + i))) = true) (hlim : kN K < xB) (hdep : 1 ≤ M.2.2.2.2) (hW : (st.map fun v => v.category).sum ≤ 8) (hd : decode cc pc = .ok (.invokevirtual ix, 3)) (kk : X M cc bc bs (u1 I (kN K) (I a)) (kNew K (101, n)) (pc + 3) L (.ref (kN K) :: st) Q Γ) : X M cc (1 + bc) (n + bs) I K pc L (.ref a :: st) Q Γ := by
  obtain ⟨⟨s1, s2, s3⟩, s4, s5, s6⟩ := S
  refine X.nwL kk rfl hlim (fun b hb => u1_n hb) (fun b hb => u1_n hb) rfl (fun b hb => u1_n hb) (fun b hb => u1_n hb) (fun h v hv => h v (List.mem_cons_of_mem _ hv)) fun cA ad => fun hx hb ho ht hK hP hD hS hA hN hml hfr hlo hc hs k9 => ?_
  have hW9 : ((st.map (cv ad)).map fun v => v.category).sum ≤ 8 := by
    rw [List.map_map, show ((fun v : Value => v.category) ∘ cv ad) = (fun v => v.category) from funext fun v => cv_cat ad v]
    exact hW
  refine va_clone (x := (n, .inl (I a))) (ty := .byte) hx hb hml ho (ht _ s1) (ht _ s2) (ht _ s3) (ht _ s4) (ht _ s5) (hN _ s6) hK hP hD hS hA a 1 (wl_get H.2 |>.trans (by rw [ce_ints H.1 (by decide) (by decide)])) rfl (hK.2 1 (cA 101, .byte) rfl).2 (fun i v hv => ?_) (by rw [hfr]; exact hdep) (by rw [hlo]; omega) hc hs hd fun q H' pK p1 p2 p3 => ?_
  · have h9 : (arrV (cA 101) n (fun j => .int (I a j))).slots[i]? = some v := hv
    have hi : i < n := by
      have := (Array.getElem?_eq_some_iff.mp h9).1
      rwa [arrV_size] at this
    rw [arrV_read _ _ hi] at h9
    cases h9
    have := hfit i hi
    rwa [Nat.zero_add] at this
  · refine k9 q _ H' (fun ad' => ?_) p1 p2 p3
    have hs : kS (kNew K (101, n)) (kN K) = (101, n) := by show u1 K.2.1 K.1 (101, n) K.1 = _; rw [u1_s]
    rw [ce_ints hs (by decide) (by decide)]
    exact congrArg (fun f => (Sum.inl (cA 101, n, .inl f) : va_E)) (u1_s (f := I) (a := K.1) (x := I a)).symm
def puC (I : Mem) (K : Kt) (o : Nat) (sh : Nat × Nat) : Option (Mem × Kt) := some (u1 I (kN K) (I o), kNew K sh)
theorem XG.sc {x6 y6 : Nat} {K9 : Kt} {o : Nat} {sh : Nat × Nat} {pc' : Nat} {L' st' : List Value} (hp : puC I K o sh = some (I1, K1)) (k9 : XG M cc x6 y6 K9 I1 K1 pc' L' st' Q Γ) (h : ∀ {bc bs : Nat}, X M cc bc bs (u1 I (kN K) (I o)) (kNew K sh) pc' L' st' Q Γ → X M cc (1 + bc) (sh.2 + bs) I K pc L st Q Γ) : XG M cc x6 y6 K9 I K pc L st Q Γ := by
  cases hp
  exact XG.nw k9 h
theorem z_Ufcall {ix n bc bs a6 b6 : Nat} {M' : MD} {cc' : ByteArray} (As rest : List Value) {r : Option Value} (S : CsV M.1.cls ix M' cc' n) (hcl : M'.1.cls = "jdk/internal/misc/Unsafe") (hdep : M'.2.2.2.2 + 1 ≤ M.2.2.2.2 ∧ 8 + (M'.2.1 + 11) + 40 * M'.2.2.2.2 ≤ 40 * M.2.2.2.2) (hd : decode cc pc = .ok (.invokevirtual ix, 3)) (hn : As.length = n) (hst : st = As.reverse ++ .ref (xE 44) :: rest) (hW : (rest.map fun v => v.category).sum ≤ 8)
    (hcon : Ct M' cc' a6 b6 (.ref (xE 44) :: As) I K (Ro (.inl r) I1 K1)) (k9 : X M cc bc bs I1 K1 (pc + 3) L (r.toList ++ rest) Q Γ) : X M cc (a6 + bc) (b6 + bs) I K pc L st Q Γ :=
  x_callUf S hcl hn hst hW hdep hd hcon (fun r' I' K' _ h => by obtain ⟨e, rfl, rfl⟩ := h; cases e; exact k9) (fun E I' K' _ h => by cases h.1)
theorem catN {l : List Value} (h : ∀ v ∈ l, v.category = 1) : ∀ w ∈ Value.null :: l, w.category = 1 := List.forall_mem_cons.mpr ⟨rfl, h⟩
def cLen (K : Kt) (a : Nat) : Option Nat := if a = xE 43 then some 0 else if (100 ≤ (kS K a).1 ∧ ((kS K a).1 < 104 ∨ 104 < (kS K a).1 ∧ (kS K a).1 < 110)) ∧ a < kN K then some (kS K a).2 else none
theorem cLen_n {ci n a : Nat} (h : LA K ci n a) (hc : 100 ≤ ci ∧ (ci < 104 ∨ 104 < ci ∧ ci < 110)) (hx : a < xB) : cLen K a = some n := by
  unfold cLen
  rw [if_neg (fun e => by subst e; exact absurd hx (Nat.not_lt.mpr (xE_ge _))), if_pos ⟨by rw [h.1]; exact hc, h.2⟩, h.1]
theorem z_lenD {n a : Nat} (h : cLen K a = some n) (hd : decode cc pc = .ok (.arraylength, 1)) (kk : X M cc bc bs I K (pc + 1) L (.int (nI n) :: st) Q Γ) : X M cc bc bs I K pc L (.ref a :: st) Q Γ := by
  unfold cLen at h
  split at h
  · next hc => subst hc; cases h; exact x_elen hd kk
  · split at h
    · next hc => cases h; exact x_len (Prod.ext rfl rfl) hc.1 hc.2 hd kk
    · cases h
def cNe (K : Kt) (a b : Nat) : Option Unit := if a < kN K ∧ b < kN K ∧ a ≠ b then some () else none
theorem cNe_s {a b : Nat} {u : Unit} (h : cNe K a b = some u) : a < kN K ∧ b < kN K ∧ a ≠ b := by
  unfold cNe at h
  split at h
  · assumption
  · cases h
theorem x_acmpE {a b : Nat} {off : Int} (tgt : Nat) (e : a = b) (hd : decode cc pc = .ok (.if_acmp .eq off, 3)) (ht : (pc : Int) + off = (tgt : Int)) (k : X M cc bc bs I K tgt L st Q Γ) : X M cc bc bs I K pc L (.ref b :: .ref a :: st) Q Γ := by
  subst e
  exact x_acmpS tgt hd ht k
theorem z_putA {ix ci k a : Nat} {x : Int32} {ty : FieldType} (F : Fs M.1.cls ix ci k false false ty) (H : LO K ci a) (hnf : narrow ty (.int x) = .int x ∧ fits ty (.int x) = true) (hp : pu I a k x = some I1) (hd : decode cc pc = .ok (.putfield ix, 3)) (kk : X M cc bc bs I1 K (pc + 3) L st Q Γ) : X M cc bc bs I K pc L (.int x :: .ref a :: st) Q Γ := by
  cases hp
  exact x_putI F H.1 H.2 hnf hd kk
theorem z_putAN {ix ci k a : Nat} {x : Int32} {ty : FieldType} (F : FsN M.1.cls ix ci k false false ty) (H : LO K ci a) (hnf : narrow ty (.int x) = .int x ∧ fits ty (.int x) = true) (hp : pu I a k x = some I1) (hd : decode cc pc = .ok (.putfield ix, 3)) (kk : X M cc bc bs I1 K (pc + 3) L st Q Γ) : X M cc bc bs I K pc L (.int x :: .ref a :: st) Q Γ := by
  cases hp
  exact x_putIN F H.1 H.2 hnf hd kk
theorem z_putAF {ix ci k a : Nat} {x : Int32} {ty : FieldType} (F : Fs M.1.cls ix ci k false true ty) (hM : M.1.name = "<init>") (H : LO K ci a) (hnf : narrow ty (.int x) = .int x ∧ fits ty (.int x) = true) (hp : pu I a k x = some I1) (hd : decode cc pc = .ok (.putfield ix, 3)) (kk : X M cc bc bs I1 K (pc + 3) L st Q Γ) : X M cc bc bs I K pc L (.int x :: .ref a :: st) Q Γ := by
  cases hp
  exact x_putIF F hM H.1 H.2 hnf hd kk
/-- a field by its heir's name -/
def FsS (own : String) (ix ci k : Nat) (ty : FieldType) : Prop :=
  ∃ (C : String) (T : u_T) (N : Nat) (ty0 : Nat → FieldType) (ref : String), cls[ci]? = some (C, T, N) ∧ k < N ∧ (ft ci)[k]? = some false ∧ (Cond.fieldLink own ix ref (T k).2.1 (T k).2.2.1 ∈ wsG ∧ Cond.sameField ref (T k).1 (T k).2.1 (T k).2.2.1 ∈ wsG) ∧ (∀ w ∈ u_ws C T N, w ∈ wsG) ∧ (T k).2.2.2 = false ∧ parseFieldDescriptor (T k).2.2.1 = some ty ∧ (∀ k, k < N → parseFieldDescriptor (T k).2.2.1 = some (ty0 k)) ∧ (∀ a, a < N → ∀ b, b < N → a ≠ b → (T a).2.1 ≠ (T b).2.1) ∧ (ft ci).length = N
theorem x_getIS {ix ci k a : Nat} {ty : FieldType} (F : FsS M.1.cls ix ci k ty) (hs : (kS K a).1 = ci) (ha : a < kN K) (hd : decode cc pc = .ok (.getfield ix, 3)) (kk : X M cc bc bs I K (pc + 3) L (.int (I a k) :: st) Q Γ) : X M cc bc bs I K pc L (.ref a :: st) Q Γ := by
  obtain ⟨C, T, N, ty0, ref, h1, h2, h3, ⟨h4, h40⟩, h5, -⟩ := F
  refine X.rd kk (fun _ h => ⟨trivial, (List.forall_mem_cons.mp h).2⟩) fun cA ad => fun hx hb ho ht hK hP k9 => ?_
  exact va_get (v := .int (I a k)) hx hb ht h5 ho hK hP a (wl_get ha |>.trans (by rw [ce_obj hs (cls_lt h1)])) h1 k h2 (ht _ h4) (u_same (ht _ h40)) ((oc_get _ _ _ _ 0 k _ h3).trans (by rw [Nat.zero_add]; rfl)) hd k9
theorem z_putAS {ix ci k a : Nat} {x : Int32} {ty : FieldType} (F : FsS M.1.cls ix ci k ty) (H : LO K ci a) (hnf : narrow ty (.int x) = .int x ∧ fits ty (.int x) = true) (hp : pu I a k x = some I1) (hd : decode cc pc = .ok (.putfield ix, 3)) (kk : X M cc bc bs I1 K (pc + 3) L st Q Γ) : X M cc bc bs I K pc L (.int x :: .ref a :: st) Q Γ := by
  cases hp
  obtain ⟨C, T, N, ty0, ref, h1, h2, h3, ⟨h4, h40⟩, h5, h6, h7, h8, h9, h11⟩ := F
  refine X.wr kk rfl (fun h _ => h) (fun h => by simp only [List.forall_mem_cons] at h; exact h.2.2) fun cA ad => fun hx hb ho ht _ hK hP hD hS k9 => ?_
  refine va_put (v := .int x) hx hb ht h5 ty0 h8 h9 ho hK hP hD hS a (wl_get H.2 |>.trans (by rw [ce_obj H.1 (cls_lt h1)])) h1 k h2 (ht _ h4) (u_same (ht _ h40)) h6 h7 hnf.1 hnf.2 (by rw [oc_len, h11]; exact h2) hd fun H' locs' p1 p2 p3 => ?_
  rw [oc_set _ _ _ _ 0 k x h3, Nat.zero_add, show (wl cA ad I K).set a (ad a, Sum.inr (ci, oc ad (upd (I a) k x) (kG K a) 0 (ft ci))) = wl cA ad (u2 I a k x) K from wl_set rfl (by rw [ce_obj H.1 (cls_lt h1), u2_upd]) (fun b hb9 => ce_congr rfl (u2_a hb9) rfl rfl rfl)] at p1 p2
  exact k9 H' locs' p1 p2 p3
def puY (I : Mem) (a : Nat) (f : Nat → Int32) : Option Mem := some (u1 I a f)
def pkk (K : Kt) (t k : Nat) : Option Kt := some (kk K t k)
theorem z0 {As : List Value} {v : Int32} (h : Ct M cc (cst (α := Int32) (.ok v)) (cs6 (α := Int32) (.ok v)) As I K (Ro (rI (.ok v)) I1 K1)) : Ct M cc 0 0 As I K (Ro (.inl (some (.int v))) I1 K1) := h
theorem zP {As : List Value} {v : Int32} (h : Ct M cc 2 12 As I K (Ro (rI (.ok v)) I1 K1)) : Ct M cc 2 12 As I K (Ro (.inl (some (.int v))) I1 K1) := h
theorem XG.pay {K9 : Kt} {t k : Nat} {pc' : Nat} {L' st' : List Value} (k9 : XG M cc 0 0 K9 I1 (kk K t k) pc' L' st' Q Γ) (h : ∀ {bc bs : Nat}, X M cc bc bs I1 (kk K t k) pc' L' st' Q Γ → X M cc (2 + bc) (12 + bs) I K pc L st Q Γ) : XG M cc 2 12 K9 I K pc L st Q Γ :=
  ⟨k9.1, (h k9.2).less (by show 2 + (0 + (kN K9 - kN K)) ≤ _; omega) (by show 12 + (0 + (gz K9 - gz K)) ≤ _; omega)⟩
end DYe
