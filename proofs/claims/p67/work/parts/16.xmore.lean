section XM
variable {Γ : (Nat → Nat) → (Nat → Prop) → State → Array Value → Prop} {M : MD} {cc : ByteArray} {bc bs : Nat} {I : Mem} {K : Kt} {pc : Nat} {L st : List Value} {Q : Rs → Mem → Kt → Prop}
/-- the two ways to a constructor -/
theorem x_callI0 {ix n : Nat} {M' : MD} {cc' : ByteArray} {As rest : List Value} {b bc' bs' : Nat} {Q' : Rs → Mem → Kt → Prop} (S : CsI M.1.cls ix M' cc' n ∨ ∃ host, CsN M.1.cls host ix M' cc' n) (hn : As.length = n) (hst : st = As.reverse ++ .ref b :: rest) (hW : (rest.map fun v => v.category).sum ≤ 8) (hdep : M'.2.2.2.2 + 1 ≤ M.2.2.2.2 ∧ 8 + (M'.2.1 + 11) + 40 * M'.2.2.2.2 ≤ 40 * M.2.2.2.2) (hd : decode cc pc = .ok (.invokespecial ix, 3))
    (hcon : Ct M' cc' bc' bs' (.ref b :: As) I K Q') (kk : ∀ r I' K', kN K ≤ kN K' → Q' (.inl r) I' K' → X M cc bc bs I' K' (pc + 3) L (r.toList ++ rest) Q Γ) (kx : ∀ E I' K', kN K ≤ kN K' → Q' (.inr E) I' K' → XT M cc bc bs I' K' pc E L Q Γ) : X M cc (bc' + bc) (bs' + bs) I K pc L st Q Γ := by
  subst hst
  refine x_run (rest := rest) (fun h v hv => h v (by simp [hv])) ?_ kk kx
  intro p l e s m args below meth c mc ms D cA A ad0 n0 hC hE hΓ ad H locs cells slots ls hR hc hs hL hvS
  have hM := hcon hR.2.2.2.2.2.1 (fun v hv => hvS v (by simp only [List.mem_cons] at hv; rcases hv with rfl | hv <;> simp [*])) l hC.2.2.2.2.2.2.2.2.2 D cA ad H.size
  have hF : CallFix p m c cc M.2.1 s args wsG M.1.cls := ⟨hC.1, hC.2.1, hC.2.2.2.1, hC.2.2.2.2.1, hC.2.2.2.2.2.1⟩
  have hp : PreS s H (va_Pc ((Value.ref b :: As).map (cv ad)) (Pz D cA ad H.size I K)) (.ref (ad b) :: As.map (cv ad)) := ⟨Pz.blind, fun U hU hW => ⟨rfl, Pz.at hE hR hU hW⟩⟩
  have hst9 : (F0 m pc ls ((As.reverse ++ .ref b :: rest).map (cv ad))).stack = (As.map (cv ad)).reverse ++ .ref (ad b) :: rest.map (cv ad) := by
    show (As.reverse ++ .ref b :: rest).map (cv ad) = _
    rw [List.map_append, List.map_reverse]; rfl
  have hW9 : 2 * (F0 m pc ls ((As.reverse ++ .ref b :: rest).map (cv ad))).monitorRoom + ((rest.map (cv ad)).map fun v => v.category).sum ≤ 8 := by
    rw [List.map_map, show ((fun v : Value => v.category) ∘ cv ad) = (fun v => v.category) from funext fun v => cv_cat ad v]
    show 2 * 0 + _ ≤ 8
    omega
  have hls : (F0 m pc ls ((As.reverse ++ .ref b :: rest).map (cv ad))).locals.size = M.2.1 := by obtain ⟨k0, lv, k1, -⟩ := hL; exact k1.1
  have hts := hC.2.2.2.2.2.1
  refine ⟨(Value.ref (ad b) :: As.map (cv ad)).toArray, ?_⟩
  rcases S with ⟨S1, S2, S3, S5, S6, S7, S8, S9⟩ | ⟨host, S1, S2, S3, S5, S6, S7, S8, S9⟩
  · have hw : wsM M' cc' = Cond.code M'.1 cc' M'.2.1 none :: wsG := by show wdM M' cc' :: wsG = _; unfold wdM; rw [S9, S8]
    have hG : GoodIn wsG (wsM M' cc') := wsG_in (fun w h => h) (fun w h => (List.mem_cons.mp h).elim (fun e => by rw [e]; exact S1) id)
    exact vx_runI hF hM (cwI n hts hG hw rfl rfl (hts _ S5) (hts _ S2) (hts _ S3) S7 S6 (dep40 hdep)) hp rfl (by rw [List.length_map]; exact hn) hls hst9 hW9 hd ⟨hc, hs⟩
  · have hw : wsM M' cc' = Cond.code M'.1 cc' M'.2.1 none :: wsG := by show wdM M' cc' :: wsG = _; unfold wdM; rw [S9, S8]
    have hG : GoodIn wsG (wsM M' cc') := wsG_in (fun w h => h) (fun w h => (List.mem_cons.mp h).elim (fun e => by rw [e]; exact S1) id)
    exact vx_runIN hF hM ⟨va_cnB n hts hG hw rfl rfl (hE.2.1 _ S2) (hts _ S5) S6 (dep40 hdep), S7, hts _ S3⟩ hp rfl (by rw [List.length_map]; exact hn) hls hst9 hW9 hd ⟨hc, hs⟩
theorem x_objInit {ix a : Nat} {rest : List Value} (h1 : Cond.methodLink M.1.cls ix Lib.objectInit ∈ wsG) (h2 : Cond.instanceMethod Lib.objectInit ∈ wsG) (h3 : Cond.code Lib.objectInit ⟨#[0xb1]⟩ 1 none ∈ wsG) (hW : (rest.map fun v => v.category).sum ≤ 8) (hdep : 1 ≤ M.2.2.2.2) (hd : decode cc pc = .ok (.invokespecial ix, 3)) (kk : X M cc bc bs I K (pc + 3) L rest Q Γ) : X M cc bc bs I K pc L (.ref a :: rest) Q Γ := by
  intro p l e s m args below meth c mc ms D cA A ad0 n0 hC hE hΓ ad H locs cells slots ls hR hc hs hL hvL hvS
  have hts := hC.2.2.2.2.2.1
  have hls : ls.size = c.maxLocals := by obtain ⟨k0, lv, k1, -⟩ := hL; rw [hC.2.2.2.1]; exact k1.1
  refine W.objInit hC.1 hC.2.1 hC.2.2.2.2.1 (hts _ h1) (hts _ h2) (hts _ h3) rfl hls rfl hd hdep ?_ ?_
  · show 2 * 0 + ((rest.map (cv ad)).map fun v => v.category).sum + 12 ≤ 40 * M.2.2.2.2 + 2080
    rw [List.map_map, show ((fun v : Value => v.category) ∘ cv ad) = (fun v => v.category) from funext fun v => cv_cat ad v]
    omega
  · refine W.eq (g2 := F0 m (pc + 3) ls (rest.map (cv ad))) rfl ?_
    exact kk p l e s m args below meth c mc ms D cA A ad0 n0 hC hE hΓ ad H locs cells slots ls hR hc hs hL hvL (fun v hv => hvS v (List.mem_cons_of_mem _ hv))
theorem ce_mv {cA : Nat → ClassId} {ad ad' : Nat → Nat} {I I' : Mem} {K K' : Kt} {a : Nat} (h1 : kS K' a = kS K a) (h2 : I' a = I a) (h3 : ∀ j, (kG K' a j).map ad' = (kG K a j).map ad) (h4 : kJ K' a = kJ K a) (h5 : kD K' a = kD K a) : ce cA ad' I' K' a = ce cA ad I K a := by
  have e : (fun j => (kG K' a j).map ad') = fun j => (kG K a j).map ad := funext h3
  unfold ce
  rw [h1, h2, e, h4, h5, oc_congr (ad := ad) (I := I a) (G := kG K a) _ 0 (fun j _ _ => rfl) (fun j _ _ => h3 j)]
/-- something new: a cell comes last -/
theorem X.nw {pc' m2 : Nat} {rest : List Value} {I' : Mem} {K' : Kt} (k : X M cc bc bs I' K' pc' L (.ref (kN K) :: rest) Q Γ) (hn : kN K' = kN K + 1) (hlim : kN K < xB) (hS : ∀ b, b ≠ kN K → kS K' b = kS K b) (hI : ∀ b, b ≠ kN K → I' b = I b) (hG : kG K' = u1 (kG K) (kN K) (fun _ => none)) (hJ : ∀ b, b ≠ kN K → kJ K' b = kJ K b) (hD : ∀ b, b ≠ kN K → kD K' b = kD K b) (hv : (∀ v ∈ st, vok (kN K) v) → ∀ v ∈ rest, vok (kN K) v)
    (row : ∀ (cA : Nat → ClassId) (ad : Nat → Nat) {p : Program} {l : Launch} {e : Env} {R : Room} {s : State} {m : MethodId} {args : Array Value} {below : List Frame} {meth : Method} {c : Code} {H : Heap} {locs : List Loc} {cells slots : Nat} {Q : State → Prop} {ls : Array Slot} {D : va_G} {A : Nat → Prop}, p.tables.exec = Jvm.exec → c.code = cc → s.vm.findClass M.1.cls = some m.cls → (∀ w ∈ wsG, w.before args s = true) → va_K D cls (tys cA) s → va_P D cls (wl cA ad I K) H → va_D A (wl cA ad I K) → va_S A s.heap H locs → (∀ q, s.heap.size ≤ q → A q) → (∀ w ∈ wsN, va_Nw w s) → cells + 1 ≤ R.cells → slots + m2 ≤ R.slots →
      (∀ (q : Nat) (e9 : va_E) (H' : Heap), (∀ ad' : Nat → Nat, e9 = ce cA ad' I' K' (kN K)) → va_P D cls (wl cA ad I K ++ [(q, e9)]) H' → va_D A (wl cA ad I K ++ [(q, e9)]) → va_S A s.heap H' locs → W p l e R s m args below meth c H' locs (cells + 1) (slots + m2) Q (F0 m pc' ls (.ref q :: rest.map (cv ad)))) → W p l e R s m args below meth c H locs cells slots Q (F0 m pc ls (st.map (cv ad)))) : X M cc (1 + bc) (m2 + bs) I K pc L st Q Γ := by
  intro p l e s m args below meth c mc ms D cA A ad0 n0 hC hE hΓ ad H locs cells slots ls hR hc hs hL hvL hvS
  obtain ⟨r1, r2, r3, r4, r5, r6, r7, r8⟩ := hR
  refine row cA ad hC.1 hC.2.1 hC.2.2.2.2.1 hC.2.2.2.2.2.1 r1 r2 r3 r4 r5 hE.2.1 (by show cells + 1 ≤ mc; omega) (by show slots + m2 ≤ ms; omega) fun q e9 H' he p1 p2 p3 => ?_
  have hag : ∀ k9, (k9 < kN K ∨ xB ≤ k9) → va_up ad (kN K) q k9 = ad k9 := fun k9 h9 => if_neg (by omega)
  have hgn : kG K' (kN K) = fun _ => none := by rw [hG]; exact u1_s
  have hgo : ∀ b, b ≠ kN K → kG K' b = kG K b := fun b hb => by rw [hG]; exact u1_n hb
  have hw : wl cA ad I K ++ [(q, e9)] = wl cA (va_up ad (kN K) q) I' K' := by
    refine wl_push hn (if_pos rfl) (fun b hb => hag b (Or.inl hb)) (he _) (fun b hb => ce_mv (hS b (by omega)) (hI b (by omega)) (fun j => ?_) (hJ b (by omega)) (hD b (by omega)))
    rw [hgo b (by omega)]
    cases hg : kG K b j with
    | none => rfl
    | some r => exact congrArg some (hag r (r6 b j r hg))
  rw [hw] at p1 p2
  have hcl : Cl K' := by
    intro a j r hr
    by_cases ha : a = kN K
    · rw [ha, hgn] at hr; cases hr
    · rw [hgo a ha] at hr
      rcases r6 a j r hr with h9 | h9
      · exact Or.inl (by omega)
      · exact Or.inr h9
  have hg := k p l e s m args below meth c mc ms D cA A ad0 n0 hC hE hΓ (va_up ad (kN K) q) H' locs (cells + 1) (slots + m2) ls ⟨r1, p1, p2, p3, r5, hcl, by omega, fun k9 h9 => (hag k9 (by omega)).trans (r8 k9 h9)⟩ (by omega) (by omega) (hL.ad hag hvL) (fun v h9 => vok_mono (by omega) (hvL v h9)) (fun v h9 => by
    rcases List.mem_cons.mp h9 with rfl | h9
    · exact Or.inl (show kN K < kN K' by omega)
    · exact vok_mono (by omega) (hv hvS v h9))
  have e9 : (Value.ref (kN K) :: rest).map (cv (va_up ad (kN K) q)) = .ref q :: rest.map (cv ad) := by
    rw [List.map_cons, cv_agreeL hag (hv hvS)]
    show Value.ref (va_up ad (kN K) q (kN K)) :: _ = _
    rw [show va_up ad (kN K) q (kN K) = q from if_pos rfl]
  rw [e9] at hg
  exact hg
def Ns (own : String) (ix ci N : Nat) : Prop := ∃ (C : String) (T : u_T) (ty0 : Nat → FieldType), cls[ci]? = some (C, T, N) ∧ (∀ w ∈ u_ws C T N, w ∈ wsG) ∧ (∀ k, k < N → parseFieldDescriptor (T k).2.2.1 = some (ty0 k)) ∧ Cond.classLink own ix C ∈ wsG ∧ Cond.instantiable C N ∈ wsG ∧ Cond.initialized C ∈ wsG ∧ (∀ j, j < N → defaultValue (ty0 j) = vp_V (oc id (fun _ => 0) (fun _ => none) 0 (ft ci)) j)
abbrev kNew (K : Kt) (sh : Nat × Nat) : Kt := (K.1 + 1, u1 K.2.1 K.1 sh, u1 K.2.2.1 K.1 (fun _ => none), u1 K.2.2.2.1 K.1 (fun _ => 0), u1 K.2.2.2.2 K.1 (fun _ => 0))
theorem x_new {ix ci N : Nat} (S : Ns M.1.cls ix ci N) (hlim : kN K < xB) (hd : decode cc pc = .ok (.new ix, 3)) (kk : X M cc bc bs (u1 I (kN K) (fun _ => 0)) (kNew K (ci, N)) (pc + 3) L (.ref (kN K) :: st) Q Γ) : X M cc (1 + bc) (N + bs) I K pc L st Q Γ := by
  obtain ⟨C, T, ty0, h1, h2, h3, h4, h5, h6, h7⟩ := S
  refine X.nw kk rfl hlim (fun b hb => u1_n hb) (fun b hb => u1_n hb) rfl (fun b hb => u1_n hb) (fun b hb => u1_n hb) (fun h => h) fun cA ad => fun hx hb ho ht hK hP hD hS hA hN hc hs k9 => ?_
  refine va_new (ci := ci) (fs := oc id (fun _ => 0) (fun _ => none) 0 (ft ci)) (C := C) (T := T) (N := N) hx hb ht h2 ty0 h3 ho (ht _ h4) (ht _ h5) (ht _ h6) hK hP hD hS hA h1 h7 hc hs hd fun q H' p1 p2 p3 => ?_
  refine k9 q _ H' (fun ad' => ?_) p1 p2 p3
  rw [ce_obj (ci := ci) (K := kNew K (ci, N)) (by show (u1 K.2.1 K.1 (ci, N) K.1).1 = ci; rw [u1_s]) (cls_lt h1)]
  congr 2
  show oc id (fun _ => 0) (fun _ => none) 0 (ft ci) = oc ad' (u1 I K.1 (fun _ => 0) K.1) (u1 K.2.2.1 K.1 (fun _ => none) K.1) 0 (ft ci)
  rw [u1_s, u1_s]
  exact (oc_congr (ad := id) (ad' := ad') (I := fun _ => 0) (I' := fun _ => 0) (G := fun _ => none) (G' := fun _ => none) (ft ci) 0 (fun j _ _ => rfl) (fun j _ _ => rfl)).symm
theorem cb_le {n k : Nat} (h : n ≤ 60000) (h2 : k ≤ 8) : n * k ≤ 536870912 := Nat.le_trans (Nat.mul_le_mul h h2) (by decide)
theorem x_newI {n : Nat} {i : Int32} (ha : Cond.arrayClass .int ∈ wsG) (hi : i = nI n) (hn : n ≤ 60000) (hlim : kN K < xB) (hd : decode cc pc = .ok (.newarray .int, 2)) (kk : X M cc bc bs (u1 I (kN K) (fun _ => 0)) (kNew K (100, n)) (pc + 2) L (.ref (kN K) :: st) Q Γ) : X M cc (1 + bc) (n + bs) I K pc L (.int i :: st) Q Γ := by
  subst hi
  refine X.nw kk rfl hlim (fun b hb => u1_n hb) (fun b hb => u1_n hb) rfl (fun b hb => u1_n hb) (fun b hb => u1_n hb) (fun h v hv => h v (List.mem_cons_of_mem _ hv)) fun cA ad => fun hx hb ho ht hK hP hD hS hA hN hc hs k9 => ?_
  refine va_newa (atype := .int) (n := nI n) (N' := n) (a0 := (n, .inl (fun _ => 0))) hx hb (ht _ ha) rfl hK hP hD hS hA (fun _ => rfl) (nI_pos (by omega)) (nI_clamp (by omega)) (cb_le hn (by decide)) hc hs hd fun q cA' H' pK p1 p2 p3 => ?_
  have e1 : cA' = cA 100 := by
    have h1 := (pK.2 9 (cA', .int) rfl).2
    have h2 := (hK.2 0 (cA 100, .int) rfl).2
    exact Option.some.inj (h1.symm.trans h2)
  subst e1
  refine k9 q _ H' (fun ad' => ?_) p1 p2 p3
  have hs : kS (kNew K (100, n)) (kN K) = (100, n) := by show u1 K.2.1 K.1 (100, n) K.1 = _; rw [u1_s]
  rw [ce_ints hs (by decide) (by decide)]
  exact congrArg (fun f => (Sum.inl (cA 100, n, .inl f) : va_E)) (u1_s (f := I) (a := K.1) (x := fun _ => 0)).symm
theorem x_newB {n : Nat} {i : Int32} (ha : Cond.arrayClass .byte ∈ wsG) (hi : i = nI n) (hn : n ≤ 60000) (hlim : kN K < xB) (hd : decode cc pc = .ok (.newarray .byte, 2)) (kk : X M cc bc bs (u1 I (kN K) (fun _ => 0)) (kNew K (101, n)) (pc + 2) L (.ref (kN K) :: st) Q Γ) : X M cc (1 + bc) (n + bs) I K pc L (.int i :: st) Q Γ := by
  subst hi
  refine X.nw kk rfl hlim (fun b hb => u1_n hb) (fun b hb => u1_n hb) rfl (fun b hb => u1_n hb) (fun b hb => u1_n hb) (fun h v hv => h v (List.mem_cons_of_mem _ hv)) fun cA ad => fun hx hb ho ht hK hP hD hS hA hN hc hs k9 => ?_
  refine va_newa (atype := .byte) (n := nI n) (N' := n) (a0 := (n, .inl (fun _ => 0))) hx hb (ht _ ha) rfl hK hP hD hS hA (fun _ => rfl) (nI_pos (by omega)) (nI_clamp (by omega)) (cb_le hn (by decide)) hc hs hd fun q cA' H' pK p1 p2 p3 => ?_
  have e1 : cA' = cA 101 := by
    have h1 := (pK.2 9 (cA', .byte) rfl).2
    have h2 := (hK.2 1 (cA 101, .byte) rfl).2
    exact Option.some.inj (h1.symm.trans h2)
  subst e1
  refine k9 q _ H' (fun ad' => ?_) p1 p2 p3
  have hs : kS (kNew K (101, n)) (kN K) = (101, n) := by show u1 K.2.1 K.1 (101, n) K.1 = _; rw [u1_s]
  rw [ce_ints hs (by decide) (by decide)]
  exact congrArg (fun f => (Sum.inl (cA 101, n, .inl f) : va_E)) (u1_s (f := I) (a := K.1) (x := fun _ => 0)).symm
theorem x_newZ {n : Nat} {i : Int32} (ha : Cond.arrayClass .boolean ∈ wsG) (hi : i = nI n) (hn : n ≤ 60000) (hlim : kN K < xB) (hd : decode cc pc = .ok (.newarray .boolean, 2)) (kk : X M cc bc bs (u1 I (kN K) (fun _ => 0)) (kNew K (102, n)) (pc + 2) L (.ref (kN K) :: st) Q Γ) : X M cc (1 + bc) (n + bs) I K pc L (.int i :: st) Q Γ := by
  subst hi
  refine X.nw kk rfl hlim (fun b hb => u1_n hb) (fun b hb => u1_n hb) rfl (fun b hb => u1_n hb) (fun b hb => u1_n hb) (fun h v hv => h v (List.mem_cons_of_mem _ hv)) fun cA ad => fun hx hb ho ht hK hP hD hS hA hN hc hs k9 => ?_
  refine va_newa (atype := .boolean) (n := nI n) (N' := n) (a0 := (n, .inl (fun _ => 0))) hx hb (ht _ ha) rfl hK hP hD hS hA (fun _ => rfl) (nI_pos (by omega)) (nI_clamp (by omega)) (cb_le hn (by decide)) hc hs hd fun q cA' H' pK p1 p2 p3 => ?_
  have e1 : cA' = cA 102 := by
    have h1 := (pK.2 9 (cA', .boolean) rfl).2
    have h2 := (hK.2 2 (cA 102, .boolean) rfl).2
    exact Option.some.inj (h1.symm.trans h2)
  subst e1
  refine k9 q _ H' (fun ad' => ?_) p1 p2 p3
  have hs : kS (kNew K (102, n)) (kN K) = (102, n) := by show u1 K.2.1 K.1 (102, n) K.1 = _; rw [u1_s]
  rw [ce_ints hs (by decide) (by decide)]
  exact congrArg (fun f => (Sum.inl (cA 102, n, .inl f) : va_E)) (u1_s (f := I) (a := K.1) (x := fun _ => 0)).symm
theorem x_newJ {n : Nat} {i : Int32} (ha : Cond.arrayClass .long ∈ wsG) (hi : i = nI n) (hn : n ≤ 60000) (hlim : kN K < xB) (hd : decode cc pc = .ok (.newarray .long, 2)) (kk : X M cc bc bs (u1 I (kN K) (fun _ => 0)) (kNew K (103, n)) (pc + 2) L (.ref (kN K) :: st) Q Γ) : X M cc (1 + bc) (n + bs) I K pc L (.int i :: st) Q Γ := by
  subst hi
  refine X.nw kk rfl hlim (fun b hb => u1_n hb) (fun b hb => u1_n hb) rfl (fun b hb => u1_n hb) (fun b hb => u1_n hb) (fun h v hv => h v (List.mem_cons_of_mem _ hv)) fun cA ad => fun hx hb ho ht hK hP hD hS hA hN hc hs k9 => ?_
  refine va_newa (atype := .long) (n := nI n) (N' := n) (a0 := (n, .inr (.inl (fun _ => 0)))) hx hb (ht _ ha) rfl hK hP hD hS hA (fun _ => rfl) (nI_pos (by omega)) (nI_clamp (by omega)) (cb_le hn (by decide)) hc hs hd fun q cA' H' pK p1 p2 p3 => ?_
  have e1 : cA' = cA 103 := by
    have h1 := (pK.2 9 (cA', .long) rfl).2
    have h2 := (hK.2 3 (cA 103, .long) rfl).2
    exact Option.some.inj (h1.symm.trans h2)
  subst e1
  refine k9 q _ H' (fun ad' => ?_) p1 p2 p3
  have hs : kS (kNew K (103, n)) (kN K) = (103, n) := by show u1 K.2.1 K.1 (103, n) K.1 = _; rw [u1_s]
  rw [ce_longs hs]
  exact congrArg (fun f => (Sum.inl (cA 103, n, .inr (.inl f)) : va_E)) (u1_s (f := K.2.2.2.1) (a := K.1) (x := fun _ => 0)).symm
theorem x_newq {ix n ci t0 : Nat} {C : String} {i : Int32} (hci : 104 < ci) (ht0 : ∀ cA, (tys cA)[t0]? = some (cA ci, .object C)) (hcl : Cond.classLink M.1.cls ix C ∈ wsG) (hov : Cond.arrayOver (.object C) ∈ wsN) (hi : i = nI n) (hn : n ≤ 60000) (hlim : kN K < xB) (hd : decode cc pc = .ok (.anewarray ix, 3)) (kk : X M cc bc bs (u1 I (kN K) (fun _ => 0)) (kNew K (ci, n)) (pc + 3) L (.ref (kN K) :: st) Q Γ) : X M cc (1 + bc) (n + bs) I K pc L (.int i :: st) Q Γ := by
  subst hi
  refine X.nw kk rfl hlim (fun b hb => u1_n hb) (fun b hb => u1_n hb) rfl (fun b hb => u1_n hb) (fun b hb => u1_n hb) (fun h v hv => h v (List.mem_cons_of_mem _ hv)) fun cA ad => fun hx hb ho ht hK hP hD hS hA hN hc hs k9 => ?_
  refine va_newq (C := C) hx hb ho (ht _ hcl) (hN _ hov) hK hP hD hS hA (nI_pos (by omega)) (nI_clamp (by omega)) (by omega) hc hs hd fun q cA' H' pK p1 p2 p3 => ?_
  have e1 : cA' = cA ci := by
    obtain ⟨_, _, -, -, -, h1⟩ := (pK.2 9 (cA', .object C) rfl).2
    obtain ⟨_, _, -, -, -, h2⟩ := (hK.2 t0 (cA ci, .object C) (ht0 cA)).2
    exact Option.some.inj (h1.symm.trans h2)
  subst e1
  refine k9 q _ H' (fun ad' => ?_) p1 p2 p3
  have hs : kS (kNew K (ci, n)) (kN K) = (ci, n) := by show u1 K.2.1 K.1 (ci, n) K.1 = _; rw [u1_s]
  rw [ce_refs hs hci]
  exact congrArg (fun f : Nat → Option Nat => (Sum.inl (cA ci, n, .inr (.inr (.inr (.inr (fun j => (f j).map ad'))))) : va_E)) (u1_s (f := K.2.2.1) (a := K.1) (x := fun _ => none)).symm
end XM
