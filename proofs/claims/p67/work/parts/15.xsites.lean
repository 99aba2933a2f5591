section XS
variable {Γ : (Nat → Nat) → (Nat → Prop) → State → Array Value → Prop} {M : MD} {cc : ByteArray} {bc bs : Nat} {I : Mem} {K : Kt} {pc : Nat} {L st : List Value} {Q : Rs → Mem → Kt → Prop}
theorem Pz.blind {D : va_G} {cA : Nat → ClassId} {ad : Nat → Nat} {sz : Nat} {av : List Value} : FrameBlind (va_Pc av (Pz D cA ad sz I K)) := by
  intro a U g mk ⟨q0, q1, q2, q3, q4, q5⟩
  exact ⟨q0, q1, va_K.moved (u := U) (U := U.calling g mk a) (Vm.Alike.refl U.vm) q2, q3, q4, q5.same (U := U.calling g mk a) rfl⟩
theorem Pz.at {D : va_G} {cA : Nat → ClassId} {A : Nat → Prop} {s : State} {ad0 : Nat → Nat} {n0 : Nat} {ad : Nat → Nat} {H : Heap} {locs : List Loc} (hE : Ex (fun i => ad0 (xE i)) A s s.heap) (hR : Rp D cA A s ad0 n0 ad I K H locs) {U : State} (hU : U.heap = H) (hW : s.WarmedH U.vm) : Pz D cA ad H.size I K U := by
  obtain ⟨r1, r2, r3, r4, r5, r6, r7, r8⟩ := hR
  have hA1 : ∀ q, va_A (wl cA ad I K) H.size q → A q := fun q hq => by
    rcases hq with ⟨k, e9, h9⟩ | h9
    · exact r3.2 k _ h9
    · exact r5 q (Nat.le_trans r4.1 h9)
  refine ⟨by rw [hU], va_K.moved hW.alike r1, by rw [hU]; exact r2, r3.weaken (fun _ _ _ _ => trivial), ?_⟩
  rw [hU, show (fun i => ad (xE i)) = (fun i => ad0 (xE i)) from funext fun i => r8 _ (Or.inr (xE_ge _))]
  exact ((hE.kept r4.2.1).narrow hA1).warm hW
abbrev noMH (y : MethodName) (n : Nat) : Prop := y.cls ≠ "java/lang/invoke/MethodHandle" ∧ y.cls ≠ "java/lang/invoke/VarHandle" ∧ (parseMethodDescriptor y.desc).map (fun d => d.parameters.length) = some n
def CsV (own : String) (ix : Nat) (M' : MD) (cc' : ByteArray) (n : Nat) : Prop := wdM M' cc' ∈ wsG ∧ .methodLink own ix M'.1 ∈ wsG ∧ .instanceMethod M'.1 ∈ wsG ∧ .selects M'.1.cls M'.1 M'.1 ∈ wsG ∧ .initialized M'.1.cls ∈ wsG ∧ noMH M'.1 n
def CsS (own : String) (ix : Nat) (M' : MD) (cc' : ByteArray) (n : Nat) : Prop := wdM M' cc' ∈ wsG ∧ .methodLink own ix M'.1 ∈ wsG ∧ .static M'.1 ∈ wsG ∧ .initialized M'.1.cls ∈ wsG ∧ noMH M'.1 n
def CsI (own : String) (ix : Nat) (M' : MD) (cc' : ByteArray) (n : Nat) : Prop := wdM M' cc' ∈ wsG ∧ .methodLink own ix M'.1 ∈ wsG ∧ .instanceMethod M'.1 ∈ wsG ∧ .initialized M'.1.cls ∈ wsG ∧ noMH M'.1 n ∧ M'.1.name = "<init>" ∧ M'.2.2.1 = none ∧ M'.2.2.2.1 = []
def CsN (own host : String) (ix : Nat) (M' : MD) (cc' : ByteArray) (n : Nat) : Prop := wdM M' cc' ∈ wsG ∧ .methodLinkNest own ix M'.1 host ∈ wsN ∧ .instanceMethod M'.1 ∈ wsG ∧ .initialized M'.1.cls ∈ wsG ∧ noMH M'.1 n ∧ M'.1.name = "<init>" ∧ M'.2.2.1 = none ∧ M'.2.2.2.1 = []
theorem x_callV {ix n : Nat} {M' : MD} {cc' : ByteArray} {As rest : List Value} {b ci : Nat} {T : u_T} {N bc' bs' : Nat} {Q' : Rs → Mem → Kt → Prop} (S : CsV M.1.cls ix M' cc' n) (hci : cls[ci]? = some (M'.1.cls, T, N)) (hb1 : (kS K b).1 = ci) (hb2 : b < kN K) (hn : As.length = n) (hst : st = As.reverse ++ .ref b :: rest) (hW : (rest.map fun v => v.category).sum ≤ 8) (hdep : M'.2.2.2.2 + 1 ≤ M.2.2.2.2 ∧ 8 + (M'.2.1 + 11) + 40 * M'.2.2.2.2 ≤ 40 * M.2.2.2.2) (hd : decode cc pc = .ok (.invokevirtual ix, 3))
    (hcon : Ct M' cc' bc' bs' (.ref b :: As) I K Q') (kk : ∀ r I' K', kN K ≤ kN K' → Q' (.inl r) I' K' → X M cc bc bs I' K' (pc + 3) L (r.toList ++ rest) Q Γ) (kx : ∀ E I' K', kN K ≤ kN K' → Q' (.inr E) I' K' → XT M cc bc bs I' K' pc E L Q Γ) : X M cc (bc' + bc) (bs' + bs) I K pc L st Q Γ := by
  subst hst
  refine x_run (rest := rest) (fun h v hv => h v (by simp [hv])) ?_ kk kx
  intro p l e s m args below meth c mc ms D cA A ad0 n0 hC hE hΓ ad H locs cells slots ls hR hc hs hL hvS
  obtain ⟨S1, S2, S3, S4, S5, S6⟩ := S
  have hM := hcon hR.2.2.2.2.2.1 (fun v hv => hvS v (by simp only [List.mem_cons] at hv; rcases hv with rfl | hv <;> simp [*])) l hC.2.2.2.2.2.2.2.2.2 D cA ad H.size
  have hF : CallFix p m c cc M.2.1 s args wsG M.1.cls := ⟨hC.1, hC.2.1, hC.2.2.2.1, hC.2.2.2.2.1, hC.2.2.2.2.2.1⟩
  have hG : GoodIn wsG (wsV M.1.cls ix M'.1.cls M'.1 (wsM M' cc')) := wsG_in (fun w h => h) (fun w h => by
    simp only [wsV, List.cons_append, List.nil_append, List.mem_cons] at h
    rcases h with rfl | rfl | rfl | rfl | rfl | h <;> assumption)
  have hp : PreV s H M'.1.cls (ad b) (va_Pc ((Value.ref b :: As).map (cv ad)) (Pz D cA ad H.size I K)) (As.map (cv ad)) := ⟨Pz.blind, va_recv hR.1 hR.2.1 hci ((wl_get hb2).trans (by rw [ce_obj hb1 (cls_lt hci)])), fun U hU hW => ⟨rfl, Pz.at hE hR hU hW⟩⟩
  have hst9 : (F0 m pc ls ((As.reverse ++ .ref b :: rest).map (cv ad))).stack = (As.map (cv ad)).reverse ++ .ref (ad b) :: rest.map (cv ad) := by
    show (As.reverse ++ .ref b :: rest).map (cv ad) = _
    rw [List.map_append, List.map_reverse]; rfl
  have hW9 : 2 * (F0 m pc ls ((As.reverse ++ .ref b :: rest).map (cv ad))).monitorRoom + ((rest.map (cv ad)).map fun v => v.category).sum ≤ 8 := by
    rw [List.map_map, show ((fun v : Value => v.category) ∘ cv ad) = (fun v => v.category) from funext fun v => cv_cat ad v]
    show 2 * 0 + _ ≤ 8
    omega
  refine ⟨(Value.ref (ad b) :: As.map (cv ad)).toArray, ?_⟩
  rcases hh : M'.2.2.2.1 with _ | ⟨h0, hr⟩
  · have hw : wsM M' cc' = Cond.code M'.1 cc' M'.2.1 M'.2.2.1 :: wsG := by show wdM M' cc' :: wsG = _; unfold wdM; rw [hh]
    exact vx_runV hF hM (cwV n hC.2.2.2.2.2.1 hG hw rfl rfl ⟨rfl, S6.1, S6.2.1, S6.2.2⟩ (dep40 hdep)) hp rfl (by rw [List.length_map]; exact hn) (by obtain ⟨k0, lv, k1, -⟩ := hL; exact k1.1) hst9 hW9 hd ⟨hc, hs⟩
  · have hw : wsM M' cc' = Cond.codeWith M'.1 cc' M'.2.1 M'.2.2.1 (h0 :: hr) :: wsG := by show wdM M' cc' :: wsG = _; unfold wdM; rw [hh]
    exact vx_runVX hF hM (vx_cwVW n hC.2.2.2.2.2.1 hG hw rfl rfl ⟨rfl, S6.1, S6.2.1, S6.2.2⟩ (dep40 hdep)) hp rfl (by rw [List.length_map]; exact hn) (by obtain ⟨k0, lv, k1, -⟩ := hL; exact k1.1) hst9 hW9 hd ⟨hc, hs⟩
theorem x_callS {ix n : Nat} {M' : MD} {cc' : ByteArray} {As rest : List Value} {bc' bs' : Nat} {Q' : Rs → Mem → Kt → Prop} (S : CsS M.1.cls ix M' cc' n) (hn : As.length = n) (hst : st = As.reverse ++ rest) (hW : (rest.map fun v => v.category).sum ≤ 8) (hdep : M'.2.2.2.2 + 1 ≤ M.2.2.2.2 ∧ 8 + (M'.2.1 + 11) + 40 * M'.2.2.2.2 ≤ 40 * M.2.2.2.2) (hd : decode cc pc = .ok (.invokestatic ix, 3))
    (hcon : Ct M' cc' bc' bs' As I K Q') (kk : ∀ r I' K', kN K ≤ kN K' → Q' (.inl r) I' K' → X M cc bc bs I' K' (pc + 3) L (r.toList ++ rest) Q Γ) (kx : ∀ E I' K', kN K ≤ kN K' → Q' (.inr E) I' K' → XT M cc bc bs I' K' pc E L Q Γ) : X M cc (bc' + bc) (bs' + bs) I K pc L st Q Γ := by
  subst hst
  refine x_run (rest := rest) (fun h v hv => h v (by simp [hv])) ?_ kk kx
  intro p l e s m args below meth c mc ms D cA A ad0 n0 hC hE hΓ ad H locs cells slots ls hR hc hs hL hvS
  obtain ⟨S1, S2, S3, S5, S6⟩ := S
  have hM := hcon hR.2.2.2.2.2.1 (fun v hv => hvS v (by simp [hv])) l hC.2.2.2.2.2.2.2.2.2 D cA ad H.size
  have hF : CallFix p m c cc M.2.1 s args wsG M.1.cls := ⟨hC.1, hC.2.1, hC.2.2.2.1, hC.2.2.2.2.1, hC.2.2.2.2.2.1⟩
  have hG : GoodIn wsG (va_wsS M.1.cls ix M'.1 (wsM M' cc')) := wsG_in (fun w h => h) (fun w h => by
    simp only [va_wsS, List.cons_append, List.nil_append, List.mem_cons] at h
    rcases h with rfl | rfl | rfl | rfl | h <;> assumption)
  have hp : PreS s H (va_Pc (As.map (cv ad)) (Pz D cA ad H.size I K)) (As.map (cv ad)) := ⟨Pz.blind, fun U hU hW => ⟨rfl, Pz.at hE hR hU hW⟩⟩
  have hst9 : (F0 m pc ls ((As.reverse ++ rest).map (cv ad))).stack = (As.map (cv ad)).reverse ++ rest.map (cv ad) := by
    show (As.reverse ++ rest).map (cv ad) = _
    rw [List.map_append, List.map_reverse]
  have hW9 : 2 * (F0 m pc ls ((As.reverse ++ rest).map (cv ad))).monitorRoom + ((rest.map (cv ad)).map fun v => v.category).sum ≤ 8 := by
    rw [List.map_map, show ((fun v : Value => v.category) ∘ cv ad) = (fun v => v.category) from funext fun v => cv_cat ad v]
    show 2 * 0 + _ ≤ 8
    omega
  refine ⟨(As.map (cv ad)).toArray, ?_⟩
  rcases hh : M'.2.2.2.1 with _ | ⟨h0, hr⟩
  · have hw : wsM M' cc' = Cond.code M'.1 cc' M'.2.1 M'.2.2.1 :: wsG := by show wdM M' cc' :: wsG = _; unfold wdM; rw [hh]
    exact vx_runS hF hM (va_cwS n hC.2.2.2.2.2.1 hG hw rfl rfl S6 (dep40 hdep)) hp rfl (by rw [List.length_map]; exact hn) (by obtain ⟨k0, lv, k1, -⟩ := hL; exact k1.1) hst9 hW9 hd ⟨hc, hs⟩
  · have hw : wsM M' cc' = Cond.codeWith M'.1 cc' M'.2.1 M'.2.2.1 (h0 :: hr) :: wsG := by show wdM M' cc' :: wsG = _; unfold wdM; rw [hh]
    exact vx_runSX hF hM (vx_cwSW n hC.2.2.2.2.2.1 hG hw rfl rfl S6 (dep40 hdep)) hp rfl (by rw [List.length_map]; exact hn) (by obtain ⟨k0, lv, k1, -⟩ := hL; exact k1.1) hst9 hW9 hd ⟨hc, hs⟩
end XS
