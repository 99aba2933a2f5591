/-- the law's script, foreign, at its place -/
def GsL (L : Nat) (xs : Nat → Int32) : (Nat → Nat) → (Nat → Prop) → State → Array Value → Prop := fun ad0 A s _ => va_X (ad0 (xE 50)) L xs s s.heap ∧ ad0 (xE 50) < s.heap.size ∧ ¬ A (ad0 (xE 50))
section XSc
variable {M : MD} {cc : ByteArray} {bc bs : Nat} {I : Mem} {K : Kt} {pc : Nat} {L st : List Value} {Q : Rs → Mem → Kt → Prop} {n : Nat} {xs : Nat → Int32}
theorem x_sld {j : Nat} {i : Int32} (hj : ix i n = some j) (hd : decode cc pc = .ok (.iaload, 1)) (kk : X M cc bc bs I K (pc + 1) L (.int (xs j) :: st) Q (GsL n xs)) : X M cc bc bs I K pc L (.int i :: .ref (xE 50) :: st) Q (GsL n xs) := by
  obtain ⟨rfl, hj, hn⟩ := ix_s hj
  intro p l e s m args below meth c mc ms D cA A ad0 n0 hC hE hΓ ad H locs cells slots ls hR hc hs hL hvL hvS
  have e2 : ad (xE 50) = ad0 (xE 50) := hR.2.2.2.2.2.2.2 _ (Or.inr (xE_ge _))
  show W _ _ _ _ _ _ _ _ _ _ _ _ _ _ _ (F0 _ pc _ (.int (nI j) :: .ref (ad (xE 50)) :: _))
  rw [e2]
  refine va_sld hC.1 hC.2.1 hΓ.1 hΓ.2.1 hΓ.2.2 hR.2.2.2.1 (vp_in_nI hj hn) hd ?_
  rw [nI_clamp (by omega)]
  exact kk p l e s m args below meth c mc ms D cA A ad0 n0 hC hE hΓ ad H locs cells slots ls hR hc hs hL hvL (List.forall_mem_cons.mpr ⟨trivial, (List.forall_mem_cons.mp (List.forall_mem_cons.mp hvS).2).2⟩)
theorem x_slen (hd : decode cc pc = .ok (.arraylength, 1)) (kk : X M cc bc bs I K (pc + 1) L (.int (nI n) :: st) Q (GsL n xs)) : X M cc bc bs I K pc L (.ref (xE 50) :: st) Q (GsL n xs) := by
  intro p l e s m args below meth c mc ms D cA A ad0 n0 hC hE hΓ ad H locs cells slots ls hR hc hs hL hvL hvS
  have e2 : ad (xE 50) = ad0 (xE 50) := hR.2.2.2.2.2.2.2 _ (Or.inr (xE_ge _))
  show W _ _ _ _ _ _ _ _ _ _ _ _ _ _ _ (F0 _ pc _ (.ref (ad (xE 50)) :: _))
  rw [e2]
  exact va_slen hC.1 hC.2.1 hΓ.1 hΓ.2.1 hΓ.2.2 hR.2.2.2.1 hd (kk p l e s m args below meth c mc ms D cA A ad0 n0 hC hE hΓ ad H locs cells slots ls hR hc hs hL hvL (List.forall_mem_cons.mpr ⟨trivial, (List.forall_mem_cons.mp hvS).2⟩))
/-- a contract beside the script -/
def CtS (n : Nat) (xs : Nat → Int32) (M : MD) (cc : ByteArray) (bc bs : Nat) (As : List Value) (I : Mem) (K : Kt) (Q : Rs → Mem → Kt → Prop) : Prop :=
  Cl K → (∀ v ∈ As, vok (kN K) v) → ∀ (l : Launch), l.stackTraces = false → ∀ (D : va_G) (cA : Nat → ClassId) (ad : Nat → Nat) (sz : Nat), vx_Met l M.1 (wsM M cc) (Rm M.2.2.2.2 bc bs) (va_Pc (As.map (cv ad)) (fun U => Pz D cA ad sz I K U ∧ GsL n xs ad (va_A (wl cA ad I K) sz) U #[])) (Qz D cA (va_A (wl cA ad I K) sz) ad (kN K) Q) (Xz D cA (va_A (wl cA ad I K) sz) ad (kN K) Q) bc bs (va_A (wl cA ad I K) sz)
theorem CtS.of {As : List Value} (hh : M.2.2.2.1 = []) (hy : plainName M.1.cls = true) (hcat : ∀ v ∈ As, v.category = 1) (hlen : As.length ≤ M.2.1) (h : X M cc bc bs I K 0 (As ++ List.replicate (M.2.1 - As.length) (.retAddr 0)) [] Q (GsL n xs)) : CtS n xs M cc bc bs As I K Q := by
  intro hcl hvA l htr D cA ad sz
  have hw : wsM M cc = Cond.code M.1 cc M.2.1 M.2.2.1 :: wsG := by show wdM M cc :: wsG = _; unfold wdM; rw [hh]
  refine vx_ofW (cc := cc) (maxL := M.2.1) (ret := M.2.2.1) hy hw ?_
  intro p e s m args below meth c s₁ B hml ht hv
  have htab : c.exceptionTable.toList = tableOf M.2.2.2.1 := by
    rw [hh]
    cases he : c.exceptionTable.toList with
    | nil => rfl
    | cons x r => exact (ht x (by rw [he]; exact List.mem_cons_self)).elim
  obtain ⟨rfl, ⟨hsz, hK, hP, hD0, hE⟩, hG⟩ := hv
  subst hsz
  obtain ⟨ls, e1, hL⟩ := Rl.entry (ad := ad) hcat hlen
  rw [e1]
  refine h p l e s m _ below meth c bc bs D cA _ ad (kN K) ⟨B.exec, B.bytes, B.returns, hml, findClass_of_methodNamed B.named, fun w hw => atoms_spec (ws := wsM M cc) B.pre w (List.mem_cons_of_mem _ hw), B.notSynchronized, (name_of_methodNamed B.named B.method).1, htab, htr⟩ hE hG ad s.heap [] 0 0 ls ⟨hK, hP, hD0.self, va_S.rf, fun q hq => Or.inr hq, hcl, Nat.le_refl _, fun k _ => rfl⟩ (by omega) (by omega) hL ?_ (fun v hv => by cases hv)
  intro v hv
  rcases List.mem_append.mp hv with h1 | h1
  · exact hvA v h1
  · obtain ⟨-, rfl⟩ := List.mem_replicate.mp h1; trivial
theorem x_callSS {ix k : Nat} {M' : MD} {cc' : ByteArray} {As rest : List Value} {bc' bs' : Nat} {Q' : Rs → Mem → Kt → Prop} (S : CsS M.1.cls ix M' cc' k) (hn : As.length = k) (hst : st = As.reverse ++ rest) (hW : (rest.map fun v => v.category).sum ≤ 8) (hdep : M'.2.2.2.2 + 1 ≤ M.2.2.2.2 ∧ 8 + (M'.2.1 + 11) + 40 * M'.2.2.2.2 ≤ 40 * M.2.2.2.2) (hd : decode cc pc = .ok (.invokestatic ix, 3)) (hh : M'.2.2.2.1 = [])
    (hcon : CtS n xs M' cc' bc' bs' As I K Q') (kk : ∀ r I' K', kN K ≤ kN K' → Q' (.inl r) I' K' → X M cc bc bs I' K' (pc + 3) L (r.toList ++ rest) Q (GsL n xs)) (kx : ∀ E I' K', kN K ≤ kN K' → Q' (.inr E) I' K' → XT M cc bc bs I' K' pc E L Q (GsL n xs)) : X M cc (bc' + bc) (bs' + bs) I K pc L st Q (GsL n xs) := by
  subst hst
  refine x_run (rest := rest) (fun h v hv => h v (by simp [hv])) ?_ kk kx
  intro p l e s m args below meth c mc ms D cA A ad0 n0 hC hE hΓ ad H locs cells slots ls hR hc hs hL hvS
  obtain ⟨S1, S2, S3, S5, S6⟩ := S
  have hM := hcon hR.2.2.2.2.2.1 (fun v hv => hvS v (by simp [hv])) l hC.2.2.2.2.2.2.2.2.2 D cA ad H.size
  have hF : CallFix p m c cc M.2.1 s args wsG M.1.cls := ⟨hC.1, hC.2.1, hC.2.2.2.1, hC.2.2.2.2.1, hC.2.2.2.2.2.1⟩
  have hG : GoodIn wsG (va_wsS M.1.cls ix M'.1 (wsM M' cc')) := wsG_in (fun w h => h) (fun w h => by
    simp only [va_wsS, List.cons_append, List.nil_append, List.mem_cons] at h
    rcases h with rfl | rfl | rfl | rfl | h <;> assumption)
  have hA1 : ∀ q, va_A (wl cA ad I K) H.size q → A q := fun q hq => by
    rcases hq with ⟨k, e9, h9⟩ | h9
    · exact hR.2.2.1.2 k _ h9
    · exact hR.2.2.2.2.1 q (Nat.le_trans hR.2.2.2.1.1 h9)
  have e2 : ad (xE 50) = ad0 (xE 50) := hR.2.2.2.2.2.2.2 _ (Or.inr (xE_ge _))
  have hbl : FrameBlind (va_Pc (As.map (cv ad)) (fun U => Pz D cA ad H.size I K U ∧ GsL n xs ad (va_A (wl cA ad I K) H.size) U #[])) := by
    intro a U g mk ⟨q0, ⟨q1, q2, q3, q4, q5⟩, g1, g2, g3⟩
    exact ⟨q0, ⟨q1, va_K.moved (u := U) (U := U.calling g mk a) (Vm.Alike.refl U.vm) q2, q3, q4, q5.same (U := U.calling g mk a) rfl⟩, va_X.moved (u := U) (U := U.calling g mk a) (Vm.Alike.refl U.vm) g1, g2, g3⟩
  have hp : PreS s H (va_Pc (As.map (cv ad)) (fun U => Pz D cA ad H.size I K U ∧ GsL n xs ad (va_A (wl cA ad I K) H.size) U #[])) (As.map (cv ad)) := by
    refine ⟨hbl, fun U hU hW => ⟨rfl, Pz.at hE hR hU hW, ?_⟩⟩
    obtain ⟨g1, g2, g3⟩ := hΓ
    unfold GsL
    rw [e2, hU]
    exact ⟨va_X.moved hW.alike (g1.kept (hR.2.2.2.1.2.1 _ g2 g3)), Nat.lt_of_lt_of_le g2 hR.2.2.2.1.1, fun h => g3 (hA1 _ h)⟩
  have hst9 : (F0 m pc ls ((As.reverse ++ rest).map (cv ad))).stack = (As.map (cv ad)).reverse ++ rest.map (cv ad) := by
    show (As.reverse ++ rest).map (cv ad) = _
    rw [List.map_append, List.map_reverse]
  have hW9 : 2 * (F0 m pc ls ((As.reverse ++ rest).map (cv ad))).monitorRoom + ((rest.map (cv ad)).map fun v => v.category).sum ≤ 8 := by
    rw [List.map_map, show ((fun v : Value => v.category) ∘ cv ad) = (fun v => v.category) from funext fun v => cv_cat ad v]
    show 2 * 0 + _ ≤ 8
    omega
  refine ⟨(As.map (cv ad)).toArray, ?_⟩
  have hw : wsM M' cc' = Cond.code M'.1 cc' M'.2.1 M'.2.2.1 :: wsG := by show wdM M' cc' :: wsG = _; unfold wdM; rw [hh]
  exact vx_runS hF hM (va_cwS k hC.2.2.2.2.2.1 hG hw rfl rfl S6 (dep40 hdep)) hp rfl (by rw [List.length_map]; exact hn) (by obtain ⟨k0, lv, k1, -⟩ := hL; exact k1.1) hst9 hW9 hd ⟨hc, hs⟩
theorem y_callSS {ix k a6 b6 : Nat} {M' : MD} {cc' : ByteArray} {As rest : List Value} {r : Option Value} {I1 : Mem} {K1 : Kt} (S : CsS M.1.cls ix M' cc' k) (hn : As.length = k) (hst : st = As.reverse ++ rest) (hW : (rest.map fun v => v.category).sum ≤ 8) (hdep : M'.2.2.2.2 + 1 ≤ M.2.2.2.2 ∧ 8 + (M'.2.1 + 11) + 40 * M'.2.2.2.2 ≤ 40 * M.2.2.2.2) (hd : decode cc pc = .ok (.invokestatic ix, 3)) (hh : M'.2.2.2.1 = [])
    (hcon : CtS n xs M' cc' a6 b6 As I K (Ro (.inl r) I1 K1)) (k9 : X M cc bc bs I1 K1 (pc + 3) L (r.toList ++ rest) Q (GsL n xs)) : X M cc (a6 + bc) (b6 + bs) I K pc L st Q (GsL n xs) :=
  x_callSS S hn hst hW hdep hd hh hcon (fun r' I' K' _ h => by obtain ⟨e, rfl, rfl⟩ := h; cases e; exact k9) (fun E I' K' _ h => by cases h.1)
end XSc
def CtGS (n : Nat) (xs : Nat → Int32) (M : MD) (cc : ByteArray) (x6 y6 : Nat) (K9 : Kt) (As : List Value) (I : Mem) (K : Kt) (Q : Rs → Mem → Kt → Prop) : Prop :=
  Gm K K9 ∧ CtS n xs M cc (x6 + (kN K9 - kN K)) (y6 + (gz K9 - gz K)) As I K Q
section XGm
variable {Γ : (Nat → Nat) → (Nat → Prop) → State → Array Value → Prop} {M : MD} {cc : ByteArray} {x6 y6 : Nat} {I I1 : Mem} {K K1 K9 : Kt} {pc : Nat} {L st : List Value} {Q : Rs → Mem → Kt → Prop}
theorem CtGS.of {n : Nat} {xs : Nat → Int32} {As : List Value} (hh : M.2.2.2.1 = []) (hy : plainName M.1.cls = true) (hcat : ∀ v ∈ As, v.category = 1) (hlen : As.length ≤ M.2.1) (h : XG M cc x6 y6 K9 I K 0 (As ++ List.replicate (M.2.1 - As.length) (.retAddr 0)) [] Q (GsL n xs)) : CtGS n xs M cc x6 y6 K9 As I K Q := ⟨h.1, CtS.of hh hy hcat hlen h.2⟩
theorem CtG.of2 {As : List Value} (hh : M.2.2.2.1 = []) (hy : plainName M.1.cls = true) (hlen : (lay2 As).length ≤ M.2.1) (h : XG M cc x6 y6 K9 I K 0 (lay2 As ++ List.replicate (M.2.1 - (lay2 As).length) (.retAddr 0)) [] Q) : CtG M cc x6 y6 K9 As I K Q := ⟨h.1, Ct.of2 hh hy hlen h.2⟩
/-- a call that may grow -/
theorem XG.call {pc' : Nat} {L' st' : List Value} (hg : Gm K K1) (k9 : XG M cc x6 y6 K9 I1 K1 pc' L' st' Q Γ) (h : ∀ {bc bs : Nat}, X M cc bc bs I1 K1 pc' L' st' Q Γ → X M cc (0 + (kN K1 - kN K) + bc) (0 + (gz K1 - gz K) + bs) I K pc L st Q Γ) : XG M cc x6 y6 K9 I K pc L st Q Γ :=
  ⟨⟨Nat.le_trans hg.1 k9.1.1, Nat.le_trans hg.2 k9.1.2⟩, (h k9.2).less (by have := hg.1; have := k9.1.1; omega) (by have := hg.2; have := k9.1.2; omega)⟩
theorem XG.nw {sh : Nat × Nat} {pc' : Nat} {L' st' : List Value} (k9 : XG M cc x6 y6 K9 I1 (kNew K sh) pc' L' st' Q Γ) (h : ∀ {bc bs : Nat}, X M cc bc bs I1 (kNew K sh) pc' L' st' Q Γ → X M cc (1 + bc) (sh.2 + bs) I K pc L st Q Γ) : XG M cc x6 y6 K9 I K pc L st Q Γ := by
  have g1 := k9.1.1
  have g2 := k9.1.2
  have e1 : kN (kNew K sh) = kN K + 1 := rfl
  have e2 : gz (kNew K sh) = gz K + sh.2 := gz_new
  exact ⟨⟨by omega, by omega⟩, (h k9.2).less (by omega) (by omega)⟩
/-- references and long numbers are set -/
def puG (K : Kt) (a k r : Nat) : Option Kt := some (kSetG K (u2 (kG K) a k (some r)))
def puJ (K : Kt) (a k : Nat) (x : Int64) : Option Kt := some (kSetJ K (u2 (kJ K) a k x))
def puN (I : Mem) (K : Kt) (sh : Nat × Nat) : Option (Mem × Kt) := some (u1 I (kN K) (fun _ => 0), kNew K sh)
theorem XG.sg {a k r : Nat} {pc' : Nat} {L' st' : List Value} (hp : puG K a k r = some K1) (k9 : XG M cc x6 y6 K9 I1 K1 pc' L' st' Q Γ) (h : ∀ {bc bs : Nat}, X M cc bc bs I1 (kSetG K (u2 (kG K) a k (some r))) pc' L' st' Q Γ → X M cc bc bs I K pc L st Q Γ) : XG M cc x6 y6 K9 I K pc L st Q Γ := by
  cases hp
  exact ⟨k9.1, h k9.2⟩
theorem XG.sj {a k : Nat} {x : Int64} {pc' : Nat} {L' st' : List Value} (hp : puJ K a k x = some K1) (k9 : XG M cc x6 y6 K9 I1 K1 pc' L' st' Q Γ) (h : ∀ {bc bs : Nat}, X M cc bc bs I1 (kSetJ K (u2 (kJ K) a k x)) pc' L' st' Q Γ → X M cc bc bs I K pc L st Q Γ) : XG M cc x6 y6 K9 I K pc L st Q Γ := by
  cases hp
  exact ⟨k9.1, h k9.2⟩
theorem XG.sn {sh : Nat × Nat} {pc' : Nat} {L' st' : List Value} (hp : puN I K sh = some (I1, K1)) (k9 : XG M cc x6 y6 K9 I1 K1 pc' L' st' Q Γ) (h : ∀ {bc bs : Nat}, X M cc bc bs (u1 I (kN K) (fun _ => 0)) (kNew K sh) pc' L' st' Q Γ → X M cc (1 + bc) (sh.2 + bs) I K pc L st Q Γ) : XG M cc x6 y6 K9 I K pc L st Q Γ := by
  cases hp
  exact XG.nw k9 h
/-- calls of the other kinds, never throwing -/
theorem z_Ucall {ix n bc bs a6 b6 : Nat} {C : String} {x : MethodName} {M' : MD} {cc' : ByteArray} (As rest : List Value) {b ci : Nat} {T : u_T} {N : Nat} {r : Option Value} (S : CsO M.1.cls ix C x M' cc' n) (hci : cls[ci]? = some (C, T, N)) (H : LO K ci b) (hdep : M'.2.2.2.2 + 1 ≤ M.2.2.2.2 ∧ 8 + (M'.2.1 + 11) + 40 * M'.2.2.2.2 ≤ 40 * M.2.2.2.2) (hd : decode cc pc = .ok (.invokevirtual ix, 3)) (hn : As.length = n) (hst : st = As.reverse ++ .ref b :: rest) (hW : (rest.map fun v => v.category).sum ≤ 8)
    (hcon : Ct M' cc' a6 b6 (.ref b :: As) I K (Ro (.inl r) I1 K1)) (k9 : X M cc bc bs I1 K1 (pc + 3) L (r.toList ++ rest) Q Γ) : X M cc (a6 + bc) (b6 + bs) I K pc L st Q Γ :=
  x_callU S hci H.1 H.2 hn hst hW hdep hd hcon ro_no (fun r' I' K' _ h => by obtain ⟨e, rfl, rfl⟩ := h; cases e; exact k9)
theorem z_Fcall {ix n count bc bs a6 b6 : Nat} {C : String} {x : MethodName} {M' : MD} {cc' : ByteArray} (As rest : List Value) {b ci : Nat} {T : u_T} {N : Nat} {r : Option Value} (S : CsF M.1.cls ix C x M' cc' n) (hfw : ∀ {ex : Nat → Nat} {A : Nat → Prop} {U : State} {H : Heap}, Ex ex A U H → va_Fw C x M'.1 U) (hci : cls[ci]? = some (C, T, N)) (H : LO K ci b) (hdep : M'.2.2.2.2 + 1 ≤ M.2.2.2.2 ∧ 8 + (M'.2.1 + 11) + 40 * M'.2.2.2.2 ≤ 40 * M.2.2.2.2) (hd : decode cc pc = .ok (.invokeinterface ix count, 5)) (hn : As.length = n) (hst : st = As.reverse ++ .ref b :: rest) (hW : (rest.map fun v => v.category).sum ≤ 8)
    (hcon : Ct M' cc' a6 b6 (.ref b :: As) I K (Ro (.inl r) I1 K1)) (k9 : X M cc bc bs I1 K1 (pc + 5) L (r.toList ++ rest) Q Γ) : X M cc (a6 + bc) (b6 + bs) I K pc L st Q Γ :=
  x_callFc S hfw hci H.1 H.2 hn hst hW hdep hd hcon ro_no (fun r' I' K' _ h => by obtain ⟨e, rfl, rfl⟩ := h; cases e; exact k9)
theorem z_Icall {ix n bc bs a6 b6 : Nat} {M' : MD} {cc' : ByteArray} (As rest : List Value) {b : Nat} (S : CsI M.1.cls ix M' cc' n ∨ ∃ host, CsN M.1.cls host ix M' cc' n) (hdep : M'.2.2.2.2 + 1 ≤ M.2.2.2.2 ∧ 8 + (M'.2.1 + 11) + 40 * M'.2.2.2.2 ≤ 40 * M.2.2.2.2) (hd : decode cc pc = .ok (.invokespecial ix, 3)) (hn : As.length = n) (hst : st = As.reverse ++ .ref b :: rest) (hW : (rest.map fun v => v.category).sum ≤ 8)
    (hcon : Ct M' cc' a6 b6 (.ref b :: As) I K (Ro (.inl none) I1 K1)) (k9 : X M cc bc bs I1 K1 (pc + 3) L rest Q Γ) : X M cc (a6 + bc) (b6 + bs) I K pc L st Q Γ :=
  x_callI0 S hn hst hW hdep hd hcon (fun r' I' K' _ h => by obtain ⟨e, rfl, rfl⟩ := h; cases e; exact k9) (fun E I' K' _ h => by cases h.1)
theorem z_Scall {ix n bc bs a6 b6 : Nat} {M' : MD} {cc' : ByteArray} (As rest : List Value) {r : Option Value} (S : CsS M.1.cls ix M' cc' n) (hdep : M'.2.2.2.2 + 1 ≤ M.2.2.2.2 ∧ 8 + (M'.2.1 + 11) + 40 * M'.2.2.2.2 ≤ 40 * M.2.2.2.2) (hd : decode cc pc = .ok (.invokestatic ix, 3)) (hn : As.length = n) (hst : st = As.reverse ++ rest) (hW : (rest.map fun v => v.category).sum ≤ 8)
    (hcon : Ct M' cc' a6 b6 As I K (Ro (.inl r) I1 K1)) (k9 : X M cc bc bs I1 K1 (pc + 3) L (r.toList ++ rest) Q Γ) : X M cc (a6 + bc) (b6 + bs) I K pc L st Q Γ :=
  x_callS S hn hst hW hdep hd hcon (fun r' I' K' _ h => by obtain ⟨e, rfl, rfl⟩ := h; cases e; exact k9) (fun E I' K' _ h => by cases h.1)
theorem z_Vcall {ix n bc bs a6 b6 : Nat} {M' : MD} {cc' : ByteArray} (As rest : List Value) {b ci : Nat} {T : u_T} {N : Nat} {r : Option Value} (S : CsV M.1.cls ix M' cc' n) (hci : cls[ci]? = some (M'.1.cls, T, N)) (H : LO K ci b) (hdep : M'.2.2.2.2 + 1 ≤ M.2.2.2.2 ∧ 8 + (M'.2.1 + 11) + 40 * M'.2.2.2.2 ≤ 40 * M.2.2.2.2) (hd : decode cc pc = .ok (.invokevirtual ix, 3)) (hn : As.length = n) (hst : st = As.reverse ++ .ref b :: rest) (hW : (rest.map fun v => v.category).sum ≤ 8)
    (hcon : Ct M' cc' a6 b6 (.ref b :: As) I K (Ro (.inl r) I1 K1)) (k9 : X M cc bc bs I1 K1 (pc + 3) L (r.toList ++ rest) Q Γ) : X M cc (a6 + bc) (b6 + bs) I K pc L st Q Γ :=
  x_callV S hci H.1 H.2 hn hst hW hdep hd hcon (fun r' I' K' _ h => by obtain ⟨e, rfl, rfl⟩ := h; cases e; exact k9) (fun E I' K' _ h => by cases h.1)
theorem z_SScall {ix k bc bs a6 b6 n : Nat} {xs : Nat → Int32} {M' : MD} {cc' : ByteArray} (As rest : List Value) {r : Option Value} (S : CsS M.1.cls ix M' cc' k) (hh : M'.2.2.2.1 = []) (hdep : M'.2.2.2.2 + 1 ≤ M.2.2.2.2 ∧ 8 + (M'.2.1 + 11) + 40 * M'.2.2.2.2 ≤ 40 * M.2.2.2.2) (hd : decode cc pc = .ok (.invokestatic ix, 3)) (hn : As.length = k) (hst : st = As.reverse ++ rest) (hW : (rest.map fun v => v.category).sum ≤ 8)
    (hcon : CtS n xs M' cc' a6 b6 As I K (Ro (.inl r) I1 K1)) (k9 : X M cc bc bs I1 K1 (pc + 3) L (r.toList ++ rest) Q (GsL n xs)) : X M cc (a6 + bc) (b6 + bs) I K pc L st Q (GsL n xs) := y_callSS S hn hst hW hdep hd hh hcon k9
theorem z_VCcall {ix n bc bs a6 b6 : Nat} {C : String} {M' : MD} {cc' : ByteArray} (As rest : List Value) {b ci : Nat} {T : u_T} {N : Nat} {r : Option Value} (S : CsVC M.1.cls ix C M' cc' n) (hci : cls[ci]? = some (C, T, N)) (H : LO K ci b) (hdep : M'.2.2.2.2 + 1 ≤ M.2.2.2.2 ∧ 8 + (M'.2.1 + 11) + 40 * M'.2.2.2.2 ≤ 40 * M.2.2.2.2) (hd : decode cc pc = .ok (.invokevirtual ix, 3)) (hn : As.length = n) (hst : st = As.reverse ++ .ref b :: rest) (hW : (rest.map fun v => v.category).sum ≤ 8)
    (hcon : Ct M' cc' a6 b6 (.ref b :: As) I K (Ro (.inl r) I1 K1)) (k9 : X M cc bc bs I1 K1 (pc + 3) L (r.toList ++ rest) Q Γ) : X M cc (a6 + bc) (b6 + bs) I K pc L st Q Γ := z_VC As rest S hci H hdep hd hn hst hW hcon k9
theorem z_SUcall {ix n bc bs a6 b6 : Nat} {C : String} {M' : MD} {cc' : ByteArray} (As rest : List Value) {b ci : Nat} {T : u_T} {N : Nat} {r : Option Value} (S : CsSU M.1.cls ix M' cc' n) (hci : cls[ci]? = some (C, T, N)) (H : LO K ci b) (hdep : M'.2.2.2.2 + 1 ≤ M.2.2.2.2 ∧ 8 + (M'.2.1 + 11) + 40 * M'.2.2.2.2 ≤ 40 * M.2.2.2.2) (hd : decode cc pc = .ok (.invokespecial ix, 3)) (hn : As.length = n) (hst : st = As.reverse ++ .ref b :: rest) (hW : (rest.map fun v => v.category).sum ≤ 8)
    (hcon : Ct M' cc' a6 b6 (.ref b :: As) I K (Ro (.inl r) I1 K1)) (k9 : X M cc bc bs I1 K1 (pc + 3) L (r.toList ++ rest) Q Γ) : X M cc (a6 + bc) (b6 + bs) I K pc L st Q Γ := z_SU As rest S hci H hdep hd hn hst hW hcon k9
theorem X.c0 {bc bs : Nat} (h : X M cc (0 + bc) (0 + bs) I K pc L st Q Γ) : X M cc bc bs I K pc L st Q Γ := h.less (by omega) (by omega)
theorem z_FScall {ix n bc bs : Nat} {M' : MD} {cc' : ByteArray} (As rest : List Value) {i : Nat} {r : Option Value} {u : Unit} (S : CsV M.1.cls ix M' cc' n) (hcl : M'.1.cls = RJ0) (hi : ckS i = some u) (hdep : M'.2.2.2.2 + 1 ≤ M.2.2.2.2 ∧ 8 + (M'.2.1 + 11) + 40 * M'.2.2.2.2 ≤ 40 * M.2.2.2.2) (hd : decode cc pc = .ok (.invokevirtual ix, 3)) (hn : As.length = n) (hst : st = As.reverse ++ .ref (xE (100 + i)) :: rest) (hW : (rest.map fun v => v.category).sum ≤ 8)
    (hcon : Ct M' cc' 0 0 (.ref (xE (100 + i)) :: As) I K (Ro (.inl r) I1 K1)) (k9 : X M cc bc bs I1 K1 (pc + 3) L (r.toList ++ rest) Q Γ) : X M cc bc bs I K pc L st Q Γ :=
  X.c0 (x_callF S hcl (ckS_s hi) hn hst hW hdep hd hcon (fun r' I' K' _ h => by obtain ⟨e, rfl, rfl⟩ := h; cases e; exact k9) (fun E I' K' _ h => by cases h.1))
end XGm
