abbrev unsL : MethodName := ⟨"jdk/internal/misc/Unsafe", "getLong", "(Ljava/lang/Object;J)J"⟩
theorem find_at.{w} {α : Type w} {p : α → Bool} {a : α} : ∀ {l : List α} (k : Nat), (l.take k).all (fun r => !p r) = true → l[k]? = some a → p a = true → l.find? p = some a
  | [], k, _, h, _ => by simp at h
  | b :: l, 0, _, h, hp => by cases h; simp [hp]
  | b :: l, k + 1, h0, h, hp => by
    rw [List.take_succ_cons, List.all_cons, Bool.and_eq_true] at h0
    have hb : p b = false := by simpa using h0.1
    rw [List.find?_cons, hb]
    exact find_at k h0.2 (by simpa using h) hp
set_option maxRecDepth 100000 in
theorem unsL_find : NativeRow.find? Jvm.natives "jdk/internal/misc/Unsafe" "getLong" "(Ljava/lang/Object;J)J" = some (Native.jdk_internal_misc_Unsafe.memory.getRow "Long" "J" .long "" .plain) :=
  by
    unfold NativeRow.find?
    exact find_at 460 (by decide +kernel) rfl (by decide +kernel)
theorem unsL_desc : parseMethodDescriptor unsL.desc = some { parameters := [.object "java/lang/Object", .long], returnType := some .long } := by decide +kernel
theorem unsL_loc {e : Env} {d : Bool} {acts : List Action} {s : State} {E : CtlPost} {a : Addr} {A : Cell} {k : Class} {comp : ClassId} {j : Nat} {off : Int64} {x : Int64} {Q : Value → Pre}
    (hA : s.heap[a]? = some A) (hvm : A.vm = .none) (hk : s.vm.classes[A.cls]? = some k) (hkind : k.kind = .array comp .long) (hneg : ¬ off < 0) (hoff : off.toNatClampNeg = 16 + 8 * j) (hx : A.slots[j]? = some (.long x))
    (hQ : ∀ d' acts', Q (.long x) d' acts' s) : wp (UnsafeMem.get .long (.ref a) off .plain) Q E e d acts s := by
  have h1 : off.toNatClampNeg - 16 = 8 * j := by omega
  simp [UnsafeMem.get, UnsafeMem.locate, hneg, hoff, hA, Cell.info, hvm, hk, hkind, UnsafeMem.arrayBase, UnsafeMem.scaleOf, UnsafeMem.isRefType, UnsafeMem.handedOut, hx, hQ]
theorem unsL_pays {l : Launch} {R : Room} {p : Program} {e : Env} {below : List Frame} {s : State} {sargs : Array Value} {len W : Nat} (hnat : (Cond.native unsL).before sargs s = true) (hinst : (Cond.instanceMethod unsL).before sargs s = true) (hfr : 1 ≤ R.frames) (hlo : W + 17 ≤ R.locals) :
    Jvm.Free.Back l R p e below s sargs unsL len W (fun A a => ∃ g : Addr × Addr × Cell × Nat × Int64 × Int64, a = #[.ref g.1, .ref g.2.1, .long g.2.2.2.2.1] ∧ A.U.heap[g.2.1]? = some g.2.2.1 ∧ g.2.2.1.vm = .none ∧ (∃ (k : Class) (comp : ClassId), A.U.vm.classes[g.2.2.1.cls]? = some k ∧ k.kind = .array comp .long) ∧ ¬ g.2.2.2.2.1 < 0 ∧ g.2.2.2.2.1.toNatClampNeg = 16 + 8 * g.2.2.2.1 ∧ g.2.2.1.slots[g.2.2.2.1]? = some (.long g.2.2.2.2.2))
      (fun A a v B => B = A ∧ ∀ g : Addr × Addr × Cell × Nat × Int64 × Int64, (a = #[.ref g.1, .ref g.2.1, .long g.2.2.2.2.1] ∧ A.U.heap[g.2.1]? = some g.2.2.1 ∧ g.2.2.1.vm = .none ∧ (∃ (k : Class) (comp : ClassId), A.U.vm.classes[g.2.2.1.cls]? = some k ∧ k.kind = .array comp .long) ∧ ¬ g.2.2.2.2.1 < 0 ∧ g.2.2.2.2.1.toNatClampNeg = 16 + 8 * g.2.2.2.1 ∧ g.2.2.1.slots[g.2.2.2.1]? = some (.long g.2.2.2.2.2)) → v = some (.long g.2.2.2.2.2)) :=
  Jvm.Free.Back.of_nativeQ (words := 4) (P := fun (g : Addr × Addr × Cell × Nat × Int64 × Int64) a U => a = #[.ref g.1, .ref g.2.1, .long g.2.2.2.2.1] ∧ U.heap[g.2.1]? = some g.2.2.1 ∧ g.2.2.1.vm = .none ∧ (∃ (k : Class) (comp : ClassId), U.vm.classes[g.2.2.1.cls]? = some k ∧ k.kind = .array comp .long) ∧ ¬ g.2.2.2.2.1 < 0 ∧ g.2.2.2.2.1.toNatClampNeg = 16 + 8 * g.2.2.2.1 ∧ g.2.2.1.slots[g.2.2.2.1]? = some (.long g.2.2.2.2.2)) (val := fun g => some (.long g.2.2.2.2.2))
    (by cases p <;> exact unsL_find) (Jvm.Free.nativeInstance hnat hinst unsL_desc) hfr (by rw [show nativeFrameWords unsL.cls unsL.name 4 = 6 from by decide +kernel]; omega) fun g U a m _ hst hps hP => by
    obtain ⟨u, arr, A, j, off, x⟩ := g
    obtain ⟨rfl, hA, hvm, ⟨k, comp, hk, hkind⟩, hneg, hoff, hx⟩ := hP
    dsimp only at hA hvm hk hkind hneg hoff hx
    refine ⟨rfl, by simp [seenByNative, hst, hps, narrow], fun fs Q hq => ?_⟩
    show wp (do let v ← UnsafeMem.get .long (.ref arr) off .plain; mark "nat.jdk_internal_misc_Unsafe.get"; Pure.pure (some v)) Q _ e false [] (U.setFrames fs)
    simp only [wp_bind']
    refine unsL_loc (s := U.setFrames fs) (A := A) (k := k) (comp := comp) (j := j) hA hvm hk hkind hneg hoff hx fun d' acts' => ?_
    simp
    exact hq _ _
section DYk
variable {Γ : (Nat → Nat) → (Nat → Prop) → State → Array Value → Prop} {M : MD} {cc : ByteArray} {bc bs : Nat} {I : Mem} {K : Kt} {pc : Nat} {L st : List Value} {Q : Rs → Mem → Kt → Prop}
theorem x_lret {v : Int64} (hr : M.2.2.1 = some .long) (hd : decode cc pc = .ok (.lreturn, 1)) (hQ : Q (.inl (some (.long v))) I K) : X M cc bc bs I K pc L [.long v] Q Γ := by
  intro p l e s m args below meth c mc ms D cA A ad0 n0 hC hE hΓ ad H locs cells slots ls hR hc hs hL hvL hvS
  refine W.widen (k := mc) (n := ms) (by omega) (by omega) (vx_ret ?_)
  exact W.lret (v := v) hC.1 hC.2.1 (hC.2.2.1.trans hr) (fun t ht hW => Qz.of hR (r := some (.long v)) (fun w hw => by cases hw; trivial) hQ ht hW.alike) hR.2.2.2.1.2.2 hd hC.2.2.2.2.2.2.1
/-- a place of an array of longs, by its offset -/
theorem x_getL {n a j : Nat} {off : Int64} (H9 : LA K 103 n a) (hj : j < n) (hneg : ¬ off < 0) (hoff : off.toNatClampNeg = 16 + 8 * j) (hown : M.1.cls = "jdk/internal/misc/Unsafe") (hdep : 1 ≤ M.2.2.2.2) (hW : (st.map fun v => v.category).sum ≤ 8) (hd : decode cc pc = .ok (.invokevirtual 27, 3)) (kk : X M cc bc bs I K (pc + 3) L (.long (kJ K a j) :: st) Q Γ) : X M cc bc bs I K pc L (.long off :: .ref a :: .ref (xE 44) :: st) Q Γ := by
  intro p l e s m args below meth c mc ms D cA A ad0 n0 hC hE hΓ ad H locs cells slots ls hR hc hs hL hvL hvS
  have hvS' : ∀ v ∈ st, vok (kN K) v := fun v hv => hvS v (List.mem_cons_of_mem _ (List.mem_cons_of_mem _ (List.mem_cons_of_mem _ hv)))
  have hk := kk p l e s m args below meth c mc ms D cA A ad0 n0 hC hE hΓ ad H locs cells slots ls hR hc hs hL hvL (List.forall_mem_cons.mpr ⟨trivial, hvS'⟩)
  intro T hT XX
  have hw := hC.2.2.2.2.2.1
  have hlink : (Cond.methodLink "jdk/internal/misc/Unsafe" 27 unsL).before args s = true := hw _ (inT8 150 rfl rfl)
  have hinst : (Cond.instanceMethod unsL).before args s = true := hw _ (inT8 151 rfl rfl)
  have hsel : (Cond.selects "jdk/internal/misc/Unsafe" unsL unsL).before args s = true := hw _ (inT8 152 rfl rfl)
  have hnat : (Cond.native unsL).before args s = true := hw _ (inT8 153 rfl rfl)
  have hfc : s.vm.findClass "jdk/internal/misc/Unsafe" = some m.cls := by rw [← hown]; exact hC.2.2.2.2.1
  have hrc : ∃ cell : Cell, H[ad (xE 44)]? = some cell ∧ cell.vm.isStatics = false ∧ s.vm.findClass "jdk/internal/misc/Unsafe" = some cell.cls := by
    rw [hR.2.2.2.2.2.2.2 _ (Or.inr (xE_ge _))]
    exact va_Orecv hE.1.2.2.2.2.2.2.2.2.1.2 hR.2.2.2.1
  obtain ⟨cellU, v1, v2, v3⟩ := hrc
  have hml : ls.size = c.maxLocals := by
    obtain ⟨k0, lv, k1, -⟩ := hL
    rw [hC.2.2.2.1]
    exact k1.1
  obtain ⟨mk, methM, hnamed, hmethM, hstM, habM⟩ := Cond.instanceMethod_spec hinst
  obtain ⟨r9, k9, x9, n1, N9⟩ := Jvm.Free.nativeInstance hnat hinst unsL_desc
  cases hnamed.symm.trans n1
  have hx9 : s.vm.method? mk = some x9 := by
    simp [Vm.method?, N9.cls, N9.meth]
  cases hmethM.symm.trans hx9
  obtain ⟨c2, r2, m2, q1, q2, q3, q4, kP, hkP, hkPi⟩ := Cond.selects_spec hsel
  cases v3.symm.trans q1
  have hy : unsL.cls ≠ "java/lang/invoke/MethodHandle" ∧ unsL.cls ≠ "java/lang/invoke/VarHandle" := by decide
  cases (State.methodFound?_of_named hnamed hy).symm.trans q2
  cases hnamed.symm.trans q3
  have hselP : selectMethod e.platform s.vm cellU.cls mk = .method mk := by rw [Launch.admits_selectMethod XX.admits]; exact q4
  have hdb : decode c.code pc = .ok (.invokevirtual 27, 3) := by rw [hC.2.1]; exact hd
  obtain ⟨vm₁, X₁, st₁⟩ := XX.invokevirtual hC.1 hfc hlink hnamed hmethM hstM hkP hkPi hy (a := ad (xE 44)) (cell := cellU) (by rw [hT]; exact v1)
    (fun z h => by rw [h] at v2; cases v2) hselP hmethM habM hkP hkPi (g := F0 m pc ls (.long off :: .ref (ad a) :: .ref (ad (xE 44)) :: st.map (cv ad))) rfl (argsL := [.ref (ad a), .long off]) (rest := st.map (cv ad)) (by rw [N9.sig]; rfl) rfl hdb
  have hcell : (T.setVm vm₁).heap[ad a]? = some (arrV (cA 103) n (fun j => .long (kJ K a j))) := by
    show T.heap[ad a]? = _
    rw [hT]
    exact hR.2.1 a _ ((wl_get H9.2).trans (by rw [ce_longs H9.1]))
  have hrd : (arrV (cA 103) n (fun j => .long (kJ K a j))).slots[j]? = some (.long (kJ K a j)) := arrV_read _ _ hj
  obtain ⟨-, kA, hkA, comp, hkind⟩ := State.isArrayOf_alike X₁.warmed.alike ((hR.1.2 3 (cA 103, .long) rfl).1 n (fun j => .long (kJ K a j)))
  have hpre : ∃ g : Addr × Addr × Cell × Nat × Int64 × Int64, (#[Value.ref (ad (xE 44)), .ref (ad a), .long off] : Array Value) = #[.ref g.1, .ref g.2.1, .long g.2.2.2.2.1] ∧ (T.setVm vm₁).heap[g.2.1]? = some g.2.2.1 ∧ g.2.2.1.vm = .none ∧ (∃ (k : Class) (comp : ClassId), (T.setVm vm₁).vm.classes[g.2.2.1.cls]? = some k ∧ k.kind = .array comp .long) ∧ ¬ g.2.2.2.2.1 < 0 ∧ g.2.2.2.2.1.toNatClampNeg = 16 + 8 * g.2.2.2.1 ∧ g.2.2.1.slots[g.2.2.2.1]? = some (.long g.2.2.2.2.2) :=
    ⟨(ad (xE 44), ad a, arrV (cA 103) n (fun j => .long (kJ K a j)), j, off, kJ K a j), rfl, hcell, rfl, ⟨kA, comp, hkA, hkind⟩, hneg, hoff, hrd⟩
  obtain ⟨g, hg⟩ := id hpre
  have hW9 : 2 * (F0 m pc ls (st.map (cv ad))).monitorRoom + ((st.map (cv ad)).map fun v => v.category).sum ≤ 8 := by
    rw [List.map_map, show ((fun v : Value => v.category) ∘ cv ad) = (fun v => v.category) from funext fun v => cv_cat ad v]
    show 2 * 0 + _ ≤ 8
    omega
  obtain ⟨v, B, X', ⟨hB, hv⟩, hsteps⟩ := unsL_pays (l := l) (p := p) (e := e) (below := below) (R := Rm M.2.2.2.2 mc ms) (len := 3) (W := 8) hnat hinst hdep (by show 8 + 17 ≤ 40 * M.2.2.2.2 + 2080; omega) m meth c (T.setVm vm₁, locs, cells, slots) (F0 m pc ls (st.map (cv ad))) (.invokevirtual 27) mk #[.ref (ad (xE 44)), .ref (ad a), .long off] X₁ rfl hml hdb hW9 (X₁.named hnamed) hpre
  have hv9 := hv (ad (xE 44), ad a, arrV (cA 103) n (fun j => .long (kJ K a j)), j, off, kJ K a j) ⟨rfl, hcell, rfl, ⟨kA, comp, hkA, hkind⟩, hneg, hoff, hrd⟩
  subst hB
  subst hv9
  obtain ⟨t, a1, b1⟩ := hk (T.setVm vm₁) hT X'
  exact ⟨t, st₁ t (fun acts => by rw [doInvoke_state]; exact hsteps.trans a1), b1⟩
theorem pkk_s {K K1 : Kt} {t k : Nat} (h : pkk K t k = some K1) : kk K t k = K1 := Option.some.inj h
theorem XG.payE {I1 : Mem} {K1 K9 : Kt} {pc' : Nat} {L' st' : List Value} {t k : Nat} (k9 : XG M cc 0 0 K9 I1 K1 pc' L' st' Q Γ) (h : ∀ {bc bs : Nat}, X M cc bc bs I1 K1 pc' L' st' Q Γ → X M cc (2 + bc) (12 + bs) I K pc L st Q Γ) (e : kk K t k = K1) : XG M cc 2 12 K9 I K pc L st Q Γ := by
  subst e
  exact XG.pay k9 h
/-- a method of a class some of whose methods are answered by the machine -/
theorem Ct.of3 {As : List Value} (hh : M.2.2.2.1 = []) (hy : plainFor M.1 = true) (hlen : (lay2 As).length ≤ M.2.1) (h : X M cc bc bs I K 0 (lay2 As ++ List.replicate (M.2.1 - (lay2 As).length) (.retAddr 0)) [] Q) : Ct M cc bc bs As I K Q := by
  intro hcl hvA l htr D cA ad sz
  have hw : Cond.code M.1 cc M.2.1 M.2.2.1 ∈ wsM M cc := by
    show _ ∈ wdM M cc :: wsG
    unfold wdM
    rw [hh]
    exact List.mem_cons_self
  refine MetFree.of_bodySF (code := cc) (maxLocals := M.2.1) (ret := M.2.2.1) hy ?_ ?_
  · intro args s m h hn
    obtain ⟨meth, c, h1, h2, h3, h4, h5, h6, -, -⟩ := Cond.code_spec hn (atoms_spec (ws := wsM M cc) h _ hw)
    exact ⟨meth, c, h1, h2, h3, h4, h5, h6⟩
  intro p e s m args below meth c s₁ B hml hv _
  have hh0 : s₁.heap = s.heap := by rw [B.state]; rfl
  have htab : c.exceptionTable.toList = tableOf M.2.2.2.1 := by
    rw [hh]
    obtain ⟨meth9, c9, h1, h2, -, -, -, -, h7, -⟩ := Cond.code_spec B.named (atoms_spec (ws := wsM M cc) B.pre _ hw)
    cases Option.some.inj (h1.symm.trans B.method)
    cases Option.some.inj (h2.symm.trans (Stand.of_body B).code)
    rw [Array.isEmpty_iff.mp h7]
    rfl
  obtain ⟨rfl, hsz, hK, hP, hD0, hE⟩ := hv
  subst hsz
  obtain ⟨ls, e1, hL⟩ := Rl.entry2 (ad := ad) hlen
  rw [e1]
  obtain ⟨t, a1, o, b1, b2, b3⟩ := h p l e s m _ below meth c bc bs D cA _ ad (kN K) ⟨B.exec, B.bytes, B.returns, hml, findClass_of_methodNamed B.named, fun w hw => atoms_spec (ws := wsM M cc) B.pre w (List.mem_cons_of_mem _ hw), B.notSynchronized, (name_of_methodNamed B.named B.method).1, htab, htr⟩ hE trivial ad s.heap [] 0 0 ls ⟨hK, hP, hD0.self, va_S.rf, fun q hq => Or.inr hq, hcl, Nat.le_refl _, fun k _ => rfl⟩ (by omega) (by omega) hL (by
    intro v hv
    rcases List.mem_append.mp hv with h1 | h1
    · rcases lay2_mem h1 with h1 | rfl
      · exact hvA v h1
      · trivial
    · obtain ⟨-, rfl⟩ := List.mem_replicate.mp h1; trivial) (fun v hv => by cases hv) s₁ hh0 (Stand.of_body B)
  exact ⟨t, o, a1, b1, b2, b3⟩
end DYk
def f_Jx9a822_getLongUnaligned_f02c6 (_I : Mem) (K : Kt) (a : Nat) (off : Int64) : Option Int64 := b1 (cA K 103 a) fun n => if ¬ off < 0 ∧ off.toNatClampNeg = 16 + 8 * ((off.toNatClampNeg - 16) / 8) ∧ (off.toNatClampNeg - 16) / 8 < n ∧ off &&& 7 = 0 then some (kJ K a ((off.toNatClampNeg - 16) / 8)) else none
theorem c_Jx9a822_getLongUnaligned_f02c6 (d : Nat) {K : Kt} {I : Mem} {a : Nat} {off v : Int64} (h : f_Jx9a822_getLongUnaligned_f02c6 I K a off = some v) : Ct (mJx9a822_getLongUnaligned_f02c6 (d + 2)) cJx9a822_getLongUnaligned_f02c6 0 0 [.ref (xE 44), .ref a, .long off] I K (Ro (.inl (some (.long v))) I K) := by
  refine Ct.of3 rfl (show plainFor yJx9a822_getLongUnaligned_f02c6 = true from by decide +kernel) (Nat.le_of_ble_eq_true rfl) (show X (mJx9a822_getLongUnaligned_f02c6 (d + 2)) cJx9a822_getLongUnaligned_f02c6 0 0 I K 0 [.ref (xE 44), .ref a, .long off, .retAddr 0] [] (Ro (.inl (some (.long v))) I K) from ?_)
  unfold f_Jx9a822_getLongUnaligned_f02c6 at h
  obtain ⟨n, hq, h⟩ := b1_s h
  split at h
  · next hc =>
    cases h
    refine x_lloadn dJx9a822_getLongUnaligned_f02c6_0 rfl ?_
    refine x_ldc2 7 (show Cond.constantLong RJx9a822 696 7 ∈ wsG from inT8 149 rfl rfl) dJx9a822_getLongUnaligned_f02c6_1 ?_
    refine x_land dJx9a822_getLongUnaligned_f02c6_4 ?_
    rw [hc.2.2.2]
    refine x_lconst 0 dJx9a822_getLongUnaligned_f02c6_5 rfl ?_
    refine x_lcmp dJx9a822_getLongUnaligned_f02c6_6 ?_
    refine x_if_ne 17 dJx9a822_getLongUnaligned_f02c6_7 rfl (fun z => absurd (show lg_cmp 0 0 = 0 from by decide) z) (fun _ => ?_)
    refine x_aloadn dJx9a822_getLongUnaligned_f02c6_10 rfl ?_
    refine x_aloadn dJx9a822_getLongUnaligned_f02c6_11 rfl ?_
    refine x_lloadn dJx9a822_getLongUnaligned_f02c6_12 rfl ?_
    refine x_getL (cA_s hq) hc.2.2.1 hc.1 hc.2.1 rfl (by show 1 ≤ d + 2; omega) (Nat.le_of_ble_eq_true rfl) dJx9a822_getLongUnaligned_f02c6_13 ?_
    exact x_lret rfl dJx9a822_getLongUnaligned_f02c6_16 ⟨rfl, rfl, rfl⟩
  · cases h
