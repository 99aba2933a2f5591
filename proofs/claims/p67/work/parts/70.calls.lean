/-! calls of private, inherited and superclass methods on a receiver of another class -/
theorem vx_runOf {p : Program} {l : Launch} {e : Env} {R : Room} {s : State} {m : MethodId} {args : Array Value} {below : List Frame} {meth : Method} {c : Code} {H : Heap} {locs : List Loc} {cells slots mc ms : Nat} {g : JFrame} {rest : List Value} {Qa : State → Outcome → State → Prop} {XC : String → State → State → Prop} {free : Addr → Prop} (h : va_Run p l e R s m args below meth c H locs cells slots mc ms g rest Qa free) : vx_Run p l e R s m args below meth c H locs cells slots mc ms g rest Qa XC free := fun T hT X => Or.inl (h T hT X)
theorem k_selP {y : MethodName} {s : State} {args : Array Value} {C : String} {n : Nat} (hy : y.cls ≠ "java/lang/invoke/MethodHandle" ∧ y.cls ≠ "java/lang/invoke/VarHandle")
    (hins : (Cond.instantiable C n).before args s = true) (hpriv : (Cond.privateMethod y).before args s = true) (hinst : (Cond.instanceMethod y).before args s = true) (hsm : (Cond.sameMethod y.cls y.cls y.name y.desc).before args s = true) :
    (Cond.selects C y y).before args s = true := by
  obtain ⟨c, k, hc, hk, -, hniab, -, -⟩ := Cond.instantiable_spec hins
  obtain ⟨mk, methM, hnamed, hmethM, -, -⟩ := Cond.instanceMethod_spec hinst
  have hfound : s.methodFound? y.cls y.name y.desc = some mk := State.methodFound?_of_named hnamed hy
  have hsel : selectMethod {} s.vm c mk = .method mk := selectMethod_private hmethM (Cond.privateMethod_at hpriv mk methM hnamed hmethM)
  have hcls := findClass_of_methodNamed hnamed
  have hni : Option.any (fun x => !x.isInterface) s.vm.classes[mk.cls]? = true := by
    have hn2 : s.methodNamed? { cls := y.cls, name := y.name, desc := y.desc } = some mk := hnamed
    simp only [Cond.before, Cond.holds, Cond.value, hcls, hfound, hn2] at hsm
    simpa using hsm
  simp only [Cond.before, Cond.holds, Cond.value, hc, hfound, hnamed, hsel, hk]
  simp
  exact hni
def CsVC (own : String) (ix : Nat) (C : String) (M' : MD) (cc' : ByteArray) (n : Nat) : Prop := wdM M' cc' ∈ wsG ∧ .methodLink own ix M'.1 ∈ wsG ∧ .instanceMethod M'.1 ∈ wsG ∧ (.selects C M'.1 M'.1 ∈ wsG ∨ (.privateMethod M'.1 ∈ wsG ∧ ∃ k, .instantiable C k ∈ wsG)) ∧ .initialized M'.1.cls ∈ wsG ∧ noMH M'.1 n ∧ .sameMethod M'.1.cls M'.1.cls M'.1.name M'.1.desc ∈ wsG ∧ M'.2.2.2.1 = []
def CsSU (own : String) (ix : Nat) (M' : MD) (cc' : ByteArray) (n : Nat) : Prop := wdM M' cc' ∈ wsG ∧ .methodLink own ix M'.1 ∈ wsG ∧ .sameMethod M'.1.cls M'.1.cls M'.1.name M'.1.desc ∈ wsG ∧ .superclass own M'.1.cls ∈ wsG ∧ .instanceMethod M'.1 ∈ wsG ∧ .initialized M'.1.cls ∈ wsG ∧ (M'.1.name ≠ "<init>" ∧ (parseMethodDescriptor M'.1.desc).map (fun d => d.parameters.length) = some n) ∧ M'.2.2.2.1 = []
def CsU (own : String) (ix : Nat) (C : String) (x : MethodName) (M' : MD) (cc' : ByteArray) (n : Nat) : Prop := wdM M' cc' ∈ wsG ∧ .methodLink own ix x ∈ wsG ∧ .sameMethod x.cls M'.1.cls x.name x.desc ∈ wsG ∧ .selects C x M'.1 ∈ wsG ∧ .instanceMethod M'.1 ∈ wsG ∧ .initialized M'.1.cls ∈ wsG ∧ M'.1 = ⟨M'.1.cls, x.name, x.desc⟩ ∧ (M'.1.cls ≠ "java/lang/invoke/MethodHandle" ∧ M'.1.cls ≠ "java/lang/invoke/VarHandle" ∧ (parseMethodDescriptor x.desc).map (fun d => d.parameters.length) = some n) ∧ M'.2.2.2.1 = []
section XCa
variable {Γ : (Nat → Nat) → (Nat → Prop) → State → Array Value → Prop} {M : MD} {cc : ByteArray} {bc bs : Nat} {I : Mem} {K : Kt} {pc : Nat} {L st : List Value} {Q : Rs → Mem → Kt → Prop}
/-- an invokevirtual, the receiver's class by its number, a method that never throws -/
theorem x_callVC {ix n : Nat} {M' : MD} {cc' : ByteArray} {As rest : List Value} {b ci : Nat} {C : String} {T : u_T} {N bc' bs' : Nat} {Q' : Rs → Mem → Kt → Prop} (S : CsVC M.1.cls ix C M' cc' n) (hci : cls[ci]? = some (C, T, N)) (hb1 : (kS K b).1 = ci) (hb2 : b < kN K) (hn : As.length = n) (hst : st = As.reverse ++ .ref b :: rest) (hW : (rest.map fun v => v.category).sum ≤ 8) (hdep : M'.2.2.2.2 + 1 ≤ M.2.2.2.2 ∧ 8 + (M'.2.1 + 11) + 40 * M'.2.2.2.2 ≤ 40 * M.2.2.2.2) (hd : decode cc pc = .ok (.invokevirtual ix, 3))
    (hcon : Ct M' cc' bc' bs' (.ref b :: As) I K Q') (hno : ∀ E I' K', ¬ Q' (.inr E) I' K') (kk : ∀ r I' K', kN K ≤ kN K' → Q' (.inl r) I' K' → X M cc bc bs I' K' (pc + 3) L (r.toList ++ rest) Q Γ) : X M cc (bc' + bc) (bs' + bs) I K pc L st Q Γ := by
  subst hst
  refine x_run (rest := rest) (fun h v hv => h v (by simp [hv])) ?_ kk (fun E I' K' _ h => absurd h (hno E I' K'))
  intro p l e s m args below meth c mc ms D cA A ad0 n0 hC hE hΓ ad H locs cells slots ls hR hc hs hL hvS
  obtain ⟨S1, S2, S3, S4, S5, S6, S7, S8⟩ := S
  have hM := hcon hR.2.2.2.2.2.1 (fun v hv => hvS v (by simp only [List.mem_cons] at hv; rcases hv with rfl | hv <;> simp [*])) l hC.2.2.2.2.2.2.2.2.2 D cA ad H.size
  have hM' := vx_Met.met hM (fun E st t h => by obtain ⟨⟨ad1, I1, K1, h1, -⟩, -⟩ := h; exact hno _ _ _ h1)
  have hF : CallFix p m c cc M.2.1 s args wsG M.1.cls := ⟨hC.1, hC.2.1, hC.2.2.2.1, hC.2.2.2.2.1, hC.2.2.2.2.2.1⟩
  have hsel : (Cond.selects C M'.1 M'.1).before args s = true := by
    rcases S4 with h | ⟨h1, k, h2⟩
    · exact hC.2.2.2.2.2.1 _ h
    · exact k_selP ⟨S6.1, S6.2.1⟩ (hC.2.2.2.2.2.1 _ h2) (hC.2.2.2.2.2.1 _ h1) (hC.2.2.2.2.2.1 _ S3) (hC.2.2.2.2.2.1 _ S7)
  have hG : GoodIn (.selects C M'.1 M'.1 :: wsG) (va_wsU M.1.cls ix C M'.1.cls M'.1 M'.1 (wsM M' cc')) := fun w h => by
    have h0 : w = .selects C M'.1 M'.1 ∨ w ∈ wsG := by
      simp only [va_wsU, List.cons_append, List.nil_append, List.mem_cons] at h
      rcases h with rfl | rfl | rfl | rfl | rfl | rfl | h
      · exact Or.inr S2
      · exact Or.inr S7
      · exact Or.inl rfl
      · exact Or.inr S3
      · exact Or.inr S5
      · exact Or.inr S1
      · exact Or.inr h
    rcases h0 with rfl | h0
    · exact ⟨List.mem_cons_self, good_of_word rfl⟩
    · exact ⟨List.mem_cons_of_mem _ h0, good_of_word (List.mem_filter.mp h0).2⟩
  have hp : PreV s H C (ad b) (va_Pc ((Value.ref b :: As).map (cv ad)) (Pz D cA ad H.size I K)) (As.map (cv ad)) := ⟨Pz.blind, va_recv hR.1 hR.2.1 hci ((wl_get hb2).trans (by rw [ce_obj hb1 (cls_lt hci)])), fun U hU hW => ⟨rfl, Pz.at hE hR hU hW⟩⟩
  have hst9 : (F0 m pc ls ((As.reverse ++ .ref b :: rest).map (cv ad))).stack = (As.map (cv ad)).reverse ++ .ref (ad b) :: rest.map (cv ad) := by
    show (As.reverse ++ .ref b :: rest).map (cv ad) = _
    rw [List.map_append, List.map_reverse]; rfl
  have hW9 : 2 * (F0 m pc ls ((As.reverse ++ .ref b :: rest).map (cv ad))).monitorRoom + ((rest.map (cv ad)).map fun v => v.category).sum ≤ 8 := by
    rw [List.map_map, show ((fun v : Value => v.category) ∘ cv ad) = (fun v => v.category) from funext fun v => cv_cat ad v]
    show 2 * 0 + _ ≤ 8
    omega
  refine ⟨(Value.ref (ad b) :: As.map (cv ad)).toArray, ?_⟩
  have hw : wsM M' cc' = Cond.code M'.1 cc' M'.2.1 M'.2.2.1 :: wsG := by show wdM M' cc' :: wsG = _; unfold wdM; rw [S8]
  exact vx_runOf (va_runU hF hM' (va_cwU n (Ts := .selects C M'.1 M'.1 :: wsG) (List.forall_mem_cons.mpr ⟨hsel, hC.2.2.2.2.2.1⟩) hG hw rfl rfl rfl S6 (dep40 hdep)) hp rfl (by rw [List.length_map]; exact hn) (by obtain ⟨k0, lv, k1, -⟩ := hL; exact k1.1) hst9 hW9 hd ⟨hc, hs⟩)
/-- super.m(..), a method that never throws -/
theorem x_callSU {ix n : Nat} {M' : MD} {cc' : ByteArray} {As rest : List Value} {b ci : Nat} {C : String} {T : u_T} {N bc' bs' : Nat} {Q' : Rs → Mem → Kt → Prop} (S : CsSU M.1.cls ix M' cc' n) (hci : cls[ci]? = some (C, T, N)) (hb1 : (kS K b).1 = ci) (hb2 : b < kN K) (hn : As.length = n) (hst : st = As.reverse ++ .ref b :: rest) (hW : (rest.map fun v => v.category).sum ≤ 8) (hdep : M'.2.2.2.2 + 1 ≤ M.2.2.2.2 ∧ 8 + (M'.2.1 + 11) + 40 * M'.2.2.2.2 ≤ 40 * M.2.2.2.2) (hd : decode cc pc = .ok (.invokespecial ix, 3))
    (hcon : Ct M' cc' bc' bs' (.ref b :: As) I K Q') (hno : ∀ E I' K', ¬ Q' (.inr E) I' K') (kk : ∀ r I' K', kN K ≤ kN K' → Q' (.inl r) I' K' → X M cc bc bs I' K' (pc + 3) L (r.toList ++ rest) Q Γ) : X M cc (bc' + bc) (bs' + bs) I K pc L st Q Γ := by
  subst hst
  refine x_run (rest := rest) (fun h v hv => h v (by simp [hv])) ?_ kk (fun E I' K' _ h => absurd h (hno E I' K'))
  intro p l e s m args below meth c mc ms D cA A ad0 n0 hC hE hΓ ad H locs cells slots ls hR hc hs hL hvS
  obtain ⟨S1, S2, S3, S4, S5, S6, S7, S8⟩ := S
  have hM := hcon hR.2.2.2.2.2.1 (fun v hv => hvS v (by simp only [List.mem_cons] at hv; rcases hv with rfl | hv <;> simp [*])) l hC.2.2.2.2.2.2.2.2.2 D cA ad H.size
  have hM' := vx_Met.met hM (fun E st t h => by obtain ⟨⟨ad1, I1, K1, h1, -⟩, -⟩ := h; exact hno _ _ _ h1)
  have hF : CallFix p m c cc M.2.1 s args wsG M.1.cls := ⟨hC.1, hC.2.1, hC.2.2.2.1, hC.2.2.2.2.1, hC.2.2.2.2.2.1⟩
  have hG : GoodIn wsG (va_wsSU M.1.cls ix M'.1 (wsM M' cc')) := wsG_in (fun w h => h) (fun w h => by
    simp only [va_wsSU, List.cons_append, List.nil_append, List.mem_cons] at h
    rcases h with rfl | rfl | rfl | rfl | rfl | rfl | h <;> assumption)
  have hp : PreV s H C (ad b) (va_Pc ((Value.ref b :: As).map (cv ad)) (Pz D cA ad H.size I K)) (As.map (cv ad)) := ⟨Pz.blind, va_recv hR.1 hR.2.1 hci ((wl_get hb2).trans (by rw [ce_obj hb1 (cls_lt hci)])), fun U hU hW => ⟨rfl, Pz.at hE hR hU hW⟩⟩
  have hst9 : (F0 m pc ls ((As.reverse ++ .ref b :: rest).map (cv ad))).stack = (As.map (cv ad)).reverse ++ .ref (ad b) :: rest.map (cv ad) := by
    show (As.reverse ++ .ref b :: rest).map (cv ad) = _
    rw [List.map_append, List.map_reverse]; rfl
  have hW9 : 2 * (F0 m pc ls ((As.reverse ++ .ref b :: rest).map (cv ad))).monitorRoom + ((rest.map (cv ad)).map fun v => v.category).sum ≤ 8 := by
    rw [List.map_map, show ((fun v : Value => v.category) ∘ cv ad) = (fun v => v.category) from funext fun v => cv_cat ad v]
    show 2 * 0 + _ ≤ 8
    omega
  refine ⟨(Value.ref (ad b) :: As.map (cv ad)).toArray, ?_⟩
  have hw : wsM M' cc' = Cond.code M'.1 cc' M'.2.1 M'.2.2.1 :: wsG := by show wdM M' cc' :: wsG = _; unfold wdM; rw [S8]
  exact vx_runOf (va_runSU (hR.1.1 ci _ hci).2 hF hM' (va_cwSU n hC.2.2.2.2.2.1 hG hw rfl rfl S7 (dep40 hdep)) hp rfl (by rw [List.length_map]; exact hn) (by obtain ⟨k0, lv, k1, -⟩ := hL; exact k1.1) hst9 hW9 hd ⟨hc, hs⟩)
/-- the ordinal of an item -/
theorem x_callO {ix : Nat} {M' : MD} {cc' : ByteArray} {rest : List Value} {i bc' bs' : Nat} {Q' : Rs → Mem → Kt → Prop} {x : MethodName} (S : CsU M.1.cls ix RX1 x M' cc' 0) (hi : i < 19) (hW : (rest.map fun v => v.category).sum ≤ 8) (hdep : M'.2.2.2.2 + 1 ≤ M.2.2.2.2 ∧ 8 + (M'.2.1 + 11) + 40 * M'.2.2.2.2 ≤ 40 * M.2.2.2.2) (hd : decode cc pc = .ok (.invokevirtual ix, 3))
    (hcon : Ct M' cc' bc' bs' [.ref (xE (10 + i))] I K Q') (hno : ∀ E I' K', ¬ Q' (.inr E) I' K') (kk : ∀ r I' K', kN K ≤ kN K' → Q' (.inl r) I' K' → X M cc bc bs I' K' (pc + 3) L (r.toList ++ rest) Q Γ) : X M cc (bc' + bc) (bs' + bs) I K pc L (.ref (xE (10 + i)) :: rest) Q Γ := by
  refine x_run (rest := rest) (fun h v hv => h v (by simp [hv])) ?_ kk (fun E I' K' _ h => absurd h (hno E I' K'))
  intro p l e s m args below meth c mc ms D cA A ad0 n0 hC hE hΓ ad H locs cells slots ls hR hc hs hL hvS
  obtain ⟨S1, S2, S3, S4, S5, S6, S7, S8, S9⟩ := S
  have hM := hcon hR.2.2.2.2.2.1 (fun v hv => hvS v (by simp only [List.mem_cons, List.not_mem_nil, or_false] at hv; subst hv; exact List.mem_cons_self)) l hC.2.2.2.2.2.2.2.2.2 D cA ad H.size
  have hM' := vx_Met.met hM (fun E st t h => by obtain ⟨⟨ad1, I1, K1, h1, -⟩, -⟩ := h; exact hno _ _ _ h1)
  have hF : CallFix p m c cc M.2.1 s args wsG M.1.cls := ⟨hC.1, hC.2.1, hC.2.2.2.1, hC.2.2.2.2.1, hC.2.2.2.2.2.1⟩
  have hG : GoodIn wsG (va_wsU M.1.cls ix RX1 M'.1.cls x M'.1 (wsM M' cc')) := wsG_in (fun w h => h) (fun w h => by
    simp only [va_wsU, List.cons_append, List.nil_append, List.mem_cons] at h
    rcases h with rfl | rfl | rfl | rfl | rfl | rfl | h <;> assumption)
  have hrc : ∃ cell : Cell, H[ad (xE (10 + i))]? = some cell ∧ cell.vm.isStatics = false ∧ s.vm.findClass RX1 = some cell.cls := by
    rw [hR.2.2.2.2.2.2.2 _ (Or.inr (xE_ge _))]
    exact va_recvE (ad := fun j => ad0 (xE (10 + j))) (nm := itN) hE.1.2.1.2 (show i < 19 from hi) hR.2.2.2.1
  have hp : PreV s H RX1 (ad (xE (10 + i))) (va_Pc (([Value.ref (xE (10 + i))] : List Value).map (cv ad)) (Pz D cA ad H.size I K)) [] := ⟨Pz.blind, hrc, fun U hU hW => ⟨rfl, Pz.at hE hR hU hW⟩⟩
  have hW9 : 2 * (F0 m pc ls ((.ref (xE (10 + i)) :: rest).map (cv ad))).monitorRoom + ((rest.map (cv ad)).map fun v => v.category).sum ≤ 8 := by
    rw [List.map_map, show ((fun v : Value => v.category) ∘ cv ad) = (fun v => v.category) from funext fun v => cv_cat ad v]
    show 2 * 0 + _ ≤ 8
    omega
  refine ⟨[Value.ref (ad (xE (10 + i)))].toArray, ?_⟩
  have hw : wsM M' cc' = Cond.code M'.1 cc' M'.2.1 M'.2.2.1 :: wsG := by show wdM M' cc' :: wsG = _; unfold wdM; rw [S9]
  exact vx_runOf (va_runU (As := []) hF hM' (va_cwU 0 hC.2.2.2.2.2.1 hG hw rfl rfl S7 S8 (dep40 hdep)) hp rfl rfl (by obtain ⟨k0, lv, k1, -⟩ := hL; exact k1.1) rfl hW9 hd ⟨hc, hs⟩)
end XCa
