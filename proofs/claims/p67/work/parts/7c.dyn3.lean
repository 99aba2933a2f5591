section DYc
variable {Γ : (Nat → Nat) → (Nat → Prop) → State → Array Value → Prop} {M : MD} {cc : ByteArray} {bc bs : Nat} {I : Mem} {K : Kt} {pc : Nat} {L st : List Value} {Q : Rs → Mem → Kt → Prop}
def CsO (own : String) (ix : Nat) (C : String) (x : MethodName) (M' : MD) (cc' : ByteArray) (n : Nat) : Prop := (wdM M' cc' ∈ wsG ∧ .methodLink own ix x ∈ wsG ∧ .sameMethod x.cls x.cls x.name x.desc ∈ wsG ∧ .instanceMethod ⟨x.cls, x.name, x.desc⟩ ∈ wsG ∧ .selects C x M'.1 ∈ wsG ∧ .instanceMethod M'.1 ∈ wsG ∧ .initialized M'.1.cls ∈ wsG) ∧ (∃ (b0 : ByteArray) (m0 : Nat) (r0 : Option FieldType), Cond.code ⟨x.cls, x.name, x.desc⟩ b0 m0 r0 ∈ wsG) ∧ (x.cls ≠ "java/lang/invoke/MethodHandle" ∧ x.cls ≠ "java/lang/invoke/VarHandle" ∧ (parseMethodDescriptor x.desc).map (fun d => d.parameters.length) = some n) ∧ M'.2.2.2.1 = []
/-- an invokevirtual that another method answers, a method that never throws -/
theorem x_callU {ix n : Nat} {x : MethodName} {M' : MD} {cc' : ByteArray} {As rest : List Value} {b ci : Nat} {C : String} {T : u_T} {N bc' bs' : Nat} {Q' : Rs → Mem → Kt → Prop} (S : CsO M.1.cls ix C x M' cc' n) (hci : cls[ci]? = some (C, T, N)) (hb1 : (kS K b).1 = ci) (hb2 : b < kN K) (hn : As.length = n) (hst : st = As.reverse ++ .ref b :: rest) (hW : (rest.map fun v => v.category).sum ≤ 8) (hdep : M'.2.2.2.2 + 1 ≤ M.2.2.2.2 ∧ 8 + (M'.2.1 + 11) + 40 * M'.2.2.2.2 ≤ 40 * M.2.2.2.2) (hd : decode cc pc = .ok (.invokevirtual ix, 3))
    (hcon : Ct M' cc' bc' bs' (.ref b :: As) I K Q') (hno : ∀ E I' K', ¬ Q' (.inr E) I' K') (kk : ∀ r I' K', kN K ≤ kN K' → Q' (.inl r) I' K' → X M cc bc bs I' K' (pc + 3) L (r.toList ++ rest) Q Γ) : X M cc (bc' + bc) (bs' + bs) I K pc L st Q Γ := by
  subst hst
  refine x_run (rest := rest) (fun h v hv => h v (by simp [hv])) ?_ kk (fun E I' K' _ h => absurd h (hno E I' K'))
  intro p l e s m args below meth c mc ms D cA A ad0 n0 hC hE hΓ ad H locs cells slots ls hR hc hs hL hvS
  obtain ⟨⟨S1, S2, S3, S4, S5, S6, S7⟩, ⟨b0, m0, r0, S8⟩, S9, S10⟩ := S
  have hM := hcon hR.2.2.2.2.2.1 (fun v hv => hvS v (by simp only [List.mem_cons] at hv; rcases hv with rfl | hv <;> simp [*])) l hC.2.2.2.2.2.2.2.2.2 D cA ad H.size
  have hM' := vx_Met.met hM (fun E st t h => by obtain ⟨⟨ad1, I1, K1, h1, -⟩, -⟩ := h; exact hno _ _ _ h1)
  have hF : CallFix p m c cc M.2.1 s args wsG M.1.cls := ⟨hC.1, hC.2.1, hC.2.2.2.1, hC.2.2.2.2.1, hC.2.2.2.2.2.1⟩
  have hG : GoodIn wsG (va_wsO M.1.cls ix C x.cls x M'.1 (wsM M' cc')) := wsG_in (fun w h => h) (fun w h => by
    simp only [va_wsO, List.cons_append, List.nil_append, List.mem_cons] at h
    rcases h with rfl | rfl | rfl | rfl | rfl | rfl | rfl | h <;> assumption)
  have hp : PreV s H C (ad b) (va_Pc ((Value.ref b :: As).map (cv ad)) (Pz D cA ad H.size I K)) (As.map (cv ad)) := ⟨Pz.blind, va_recv hR.1 hR.2.1 hci ((wl_get hb2).trans (by rw [ce_obj hb1 (cls_lt hci)])), fun U hU hW => ⟨rfl, Pz.at hE hR hU hW⟩⟩
  have hst9 : (F0 m pc ls ((As.reverse ++ .ref b :: rest).map (cv ad))).stack = (As.map (cv ad)).reverse ++ .ref (ad b) :: rest.map (cv ad) := by
    show (As.reverse ++ .ref b :: rest).map (cv ad) = _
    rw [List.map_append, List.map_reverse]; rfl
  have hW9 : 2 * (F0 m pc ls ((As.reverse ++ .ref b :: rest).map (cv ad))).monitorRoom + ((rest.map (cv ad)).map fun v => v.category).sum ≤ 8 := by
    rw [List.map_map, show ((fun v : Value => v.category) ∘ cv ad) = (fun v => v.category) from funext fun v => cv_cat ad v]
    show 2 * 0 + _ ≤ 8
    omega
  refine ⟨(Value.ref (ad b) :: As.map (cv ad)).toArray, ?_⟩
  have hw : wsM M' cc' = Cond.code M'.1 cc' M'.2.1 M'.2.2.1 :: wsG := by show wdM M' cc' :: wsG = _; unfold wdM; rw [S10]
  exact vx_runOf (va_runU hF hM' (va_cwO n hC.2.2.2.2.2.1 hG hw rfl rfl S8 S9 (dep40 hdep)) hp rfl (by rw [List.length_map]; exact hn) (by obtain ⟨k0, lv, k1, -⟩ := hL; exact k1.1) hst9 hW9 hd ⟨hc, hs⟩)
/-- behind an interface's call -/
theorem x_run5 {rest : List Value} {bc' bs' : Nat} {Q' : Rs → Mem → Kt → Prop} (hrest : (∀ v ∈ st, vok (kN K) v) → ∀ v ∈ rest, vok (kN K) v)
    (hrun : ∀ (p : Program) (l : Launch) (e : Env) (s : State) (m : MethodId) (args : Array Value) (below : List Frame) (meth : Method) (c : Code) (mc ms : Nat) (D : va_G) (cA : Nat → ClassId) (A : Nat → Prop) (ad0 : Nat → Nat) (n0 : Nat), Cx M cc p l s m args meth c → Ex (fun i => ad0 (xE i)) A s s.heap → Γ ad0 A s args →
      ∀ (ad : Nat → Nat) (H : Heap) (locs : List Loc) (cells slots : Nat) (ls : Array Slot), Rp D cA A s ad0 n0 ad I K H locs → cells + bc' ≤ mc → slots + bs' ≤ ms → Rl ad ls M.2.1 L → (∀ v ∈ st, vok (kN K) v) → ∃ a9, va_Run5 p l e (Rm M.2.2.2.2 mc ms) s m args below meth c H locs cells slots bc' bs' (F0 m pc ls (st.map (cv ad))) (rest.map (cv ad)) (Qz D cA (va_A (wl cA ad I K) H.size) ad (kN K) Q' a9) (va_A (wl cA ad I K) H.size))
    (kk : ∀ r I' K', kN K ≤ kN K' → Q' (.inl r) I' K' → X M cc bc bs I' K' (pc + 5) L (r.toList ++ rest) Q Γ) : X M cc (bc' + bc) (bs' + bs) I K pc L st Q Γ := by
  intro p l e s m args below meth c mc ms D cA A ad0 n0 hC hE hΓ ad H locs cells slots ls hR hc hs hL hvL hvS
  obtain ⟨a9, hr⟩ := hrun p l e s m args below meth c mc ms D cA A ad0 n0 hC hE hΓ ad H locs cells slots ls hR (by omega) (by omega) hL hvS
  obtain ⟨r1, r2, r3, r4, r5, r6, r7, r8⟩ := hR
  have hA1 : ∀ q, va_A (wl cA ad I K) H.size q → A q := fun q hq => by
    rcases hq with ⟨k, e9, h9⟩ | h9
    · exact r3.2 k _ h9
    · exact r5 q (Nat.le_trans r4.1 h9)
  have fin : ∀ {t : State} {T' : State} {st₀ : State} {L9 : List Loc} {ad' : Nat → Nat} {I' : Mem} {K' : Kt}, st₀.heap = H → T'.heap = t.heap → (∀ z ∈ L9, va_A (wl cA ad I K) H.size z.base) → Wz D cA (va_A (wl cA ad I K) H.size) ad (kN K) t ad' I' K' → va_F (va_A (wl cA ad I K) H.size) st₀ t → Rp D cA A s ad0 n0 ad' I' K' T'.heap (locs ++ L9) := by
    intro t T' st₀ L9 ad' I' K' h0 e1 hL9 ⟨w1, w2, w3, w4, w5, w6⟩ hF
    obtain ⟨k1, k2, k3⟩ := vx_keep h0 e1 r4 (fun q _ h => hA1 q h) (fun q h => hA1 q h) hL9 hF
    exact ⟨r1, by rw [e1]; exact w2, w3.weaken (fun k q _ h => hA1 _ h), k3, r5, w4, Nat.le_trans r7 w5, fun k hk => (w6 k (hk.elim (fun h => Or.inl (Nat.lt_of_lt_of_le h r7)) Or.inr)).trans (r8 k hk)⟩
  intro T hT XX
  obtain ⟨v, st₀, t, T', L9, h0, X', hL9, e1, e2, ⟨⟨ad', r, I', K', er, hvr, hq, hw⟩, hF⟩, stp⟩ := hr T hT XX
  cases er
  have hg := kk r I' K' hw.2.2.2.2.1 hq p l e s m args below meth c mc ms D cA A ad0 n0 hC hE hΓ ad' T'.heap (locs ++ L9) (cells + bc') (slots + bs') ls (fin h0 e1 hL9 hw hF) (by omega) (by omega) (hL.ad hw.2.2.2.2.2 hvL) (fun v hv => vok_mono hw.2.2.2.2.1 (hvL v hv)) (fun v hv => by
    rcases List.mem_append.mp hv with h9 | h9
    · exact hvr v (by cases r with
        | none => cases h9
        | some w => cases h9 with
          | head => rfl
          | tail _ h => cases h)
    · exact vok_mono hw.2.2.2.2.1 (hrest hvS v h9))
  have e9 : (r.toList ++ rest).map (cv ad') = (r.map (cv ad')).toList ++ rest.map (cv ad) := by
    rw [List.map_append, cv_agreeL hw.2.2.2.2.2 (hrest hvS)]
    cases r <;> rfl
  rw [e9] at hg
  obtain ⟨t2, a1, b1⟩ := hg T' rfl X'
  exact ⟨t2, stp t2 a1, b1⟩
def CsF (own : String) (ix : Nat) (C : String) (x : MethodName) (M' : MD) (cc' : ByteArray) (n : Nat) : Prop := (wdM M' cc' ∈ wsG ∧ .methodLink own ix x ∈ wsG ∧ .selects C x M'.1 ∈ wsG ∧ .instanceMethod M'.1 ∈ wsG ∧ .initialized M'.1.cls ∈ wsG) ∧ (x.cls ≠ "java/lang/invoke/MethodHandle" ∧ x.cls ≠ "java/lang/invoke/VarHandle" ∧ (parseMethodDescriptor x.desc).map (fun d => d.parameters.length) = some n) ∧ M'.2.2.2.1 = []
/-- an interface's call, a method that never throws -/
theorem x_callFc {ix n count : Nat} {x : MethodName} {M' : MD} {cc' : ByteArray} {As rest : List Value} {b ci : Nat} {C : String} {T : u_T} {N bc' bs' : Nat} {Q' : Rs → Mem → Kt → Prop} (S : CsF M.1.cls ix C x M' cc' n) (hfw : ∀ {ex : Nat → Nat} {A : Nat → Prop} {U : State} {H : Heap}, Ex ex A U H → va_Fw C x M'.1 U) (hci : cls[ci]? = some (C, T, N)) (hb1 : (kS K b).1 = ci) (hb2 : b < kN K) (hn : As.length = n) (hst : st = As.reverse ++ .ref b :: rest) (hW : (rest.map fun v => v.category).sum ≤ 8) (hdep : M'.2.2.2.2 + 1 ≤ M.2.2.2.2 ∧ 8 + (M'.2.1 + 11) + 40 * M'.2.2.2.2 ≤ 40 * M.2.2.2.2) (hd : decode cc pc = .ok (.invokeinterface ix count, 5))
    (hcon : Ct M' cc' bc' bs' (.ref b :: As) I K Q') (hno : ∀ E I' K', ¬ Q' (.inr E) I' K') (kk : ∀ r I' K', kN K ≤ kN K' → Q' (.inl r) I' K' → X M cc bc bs I' K' (pc + 5) L (r.toList ++ rest) Q Γ) : X M cc (bc' + bc) (bs' + bs) I K pc L st Q Γ := by
  subst hst
  refine x_run5 (rest := rest) (fun h v hv => h v (by simp [hv])) ?_ kk
  intro p l e s m args below meth c mc ms D cA A ad0 n0 hC hE hΓ ad H locs cells slots ls hR hc hs hL hvS
  obtain ⟨⟨S1, S2, S3, S4, S5⟩, S6, S7⟩ := S
  have hM := hcon hR.2.2.2.2.2.1 (fun v hv => hvS v (by simp only [List.mem_cons] at hv; rcases hv with rfl | hv <;> simp [*])) l hC.2.2.2.2.2.2.2.2.2 D cA ad H.size
  have hM' := vx_Met.met hM (fun E st t h => by obtain ⟨⟨ad1, I1, K1, h1, -⟩, -⟩ := h; exact hno _ _ _ h1)
  have hF : CallFix p m c cc M.2.1 s args wsG M.1.cls := ⟨hC.1, hC.2.1, hC.2.2.2.1, hC.2.2.2.2.1, hC.2.2.2.2.2.1⟩
  have hG : GoodIn wsG (va_wsF M.1.cls ix C x M'.1 (wsM M' cc')) := wsG_in (fun w h => h) (fun w h => by
    simp only [va_wsF, List.cons_append, List.nil_append, List.mem_cons] at h
    rcases h with rfl | rfl | rfl | rfl | rfl | h <;> assumption)
  have hp : PreV s H C (ad b) (va_Pc ((Value.ref b :: As).map (cv ad)) (Pz D cA ad H.size I K)) (As.map (cv ad)) := ⟨Pz.blind, va_recv hR.1 hR.2.1 hci ((wl_get hb2).trans (by rw [ce_obj hb1 (cls_lt hci)])), fun U hU hW => ⟨rfl, Pz.at hE hR hU hW⟩⟩
  have hst9 : (F0 m pc ls ((As.reverse ++ .ref b :: rest).map (cv ad))).stack = (As.map (cv ad)).reverse ++ .ref (ad b) :: rest.map (cv ad) := by
    show (As.reverse ++ .ref b :: rest).map (cv ad) = _
    rw [List.map_append, List.map_reverse]; rfl
  have hW9 : 2 * (F0 m pc ls ((As.reverse ++ .ref b :: rest).map (cv ad))).monitorRoom + ((rest.map (cv ad)).map fun v => v.category).sum ≤ 8 := by
    rw [List.map_map, show ((fun v : Value => v.category) ∘ cv ad) = (fun v => v.category) from funext fun v => cv_cat ad v]
    show 2 * 0 + _ ≤ 8
    omega
  refine ⟨(Value.ref (ad b) :: As.map (cv ad)).toArray, ?_⟩
  have hw : wsM M' cc' = Cond.code M'.1 cc' M'.2.1 M'.2.2.1 :: wsG := by show wdM M' cc' :: wsG = _; unfold wdM; rw [S7]
  exact va_runF (hR.1.1 ci _ hci).2 hF hM' (va_cwF n hC.2.2.2.2.2.1 hG hw rfl rfl (hfw hE) S6 (dep40 hdep)) hp rfl (by rw [List.length_map]; exact hn) (by obtain ⟨k0, lv, k1, -⟩ := hL; exact k1.1) hst9 hW9 hd ⟨hc, hs⟩
/-- arguments of two words -/
def lay2 (As : List Value) : List Value := As.flatMap (fun v => if v.category = 2 then [v, .retAddr 0] else [v])
theorem Rl.entry2 {ad : Nat → Nat} {As : List Value} {n : Nat} (h : (lay2 As).length ≤ n) : ∃ ls : Array Slot, (∀ m : MethodId, entryFrame m (As.map (cv ad)).toArray n = F0 m 0 ls []) ∧ Rl ad ls n (lay2 As ++ List.replicate (n - (lay2 As).length) (.retAddr 0)) := by
  have hn : ∀ As : List Value, (lg_sl (As.map (cv ad))).length = (lay2 As).length := by
    intro As
    induction As with
    | nil => rfl
    | cons a r ih =>
      simp only [lg_sl, lay2, List.map_cons, List.flatMap_cons, List.length_append] at ih ⊢
      rw [ih, cv_cat]
      split <;> rfl
  have h2 := lv_entry (As.map (cv ad)) (n := n) (by rw [hn]; exact h)
  refine ⟨_, fun m => lg_entry_eq m _ n, by simp; omega, _, h2, fun i v hi hv => ?_⟩
  have key : ∀ (l : List Value) (k : Nat), ∀ i v, (lay2 l)[i]? = some v → (∀ q, v ≠ .retAddr q) → (k + i, cv ad v) ∈ lv_args k (l.map (cv ad)) := by
    intro l
    induction l with
    | nil => intro k i v h; simp [lay2] at h
    | cons a r ih =>
      intro k i v h hv
      simp only [List.map_cons, lv_args, cv_cat]
      unfold lay2 at h
      rw [List.flatMap_cons] at h
      by_cases ha : a.category = 2
      · rw [if_pos ha] at h ⊢
        match i, h with
        | 0, h => simp at h; subst h; simp
        | 1, h => simp at h; subst h; exact absurd rfl (hv 0)
        | i + 2, h =>
          have := ih (k + 2) i v (by simpa [lay2] using h) hv
          rw [show k + 2 + i = k + (i + 2) by omega] at this
          exact List.mem_cons_of_mem _ this
      · rw [if_neg ha] at h ⊢
        match i, h with
        | 0, h => simp at h; subst h; simp
        | i + 1, h =>
          have := ih (k + 1) i v (by simpa [lay2] using h) hv
          rw [show k + 1 + i = k + (i + 1) by omega] at this
          exact List.mem_cons_of_mem _ this
  by_cases hi2 : i < (lay2 As).length
  · rw [List.getElem?_append_left hi2] at hi
    have := key As 0 i v hi hv
    rwa [Nat.zero_add] at this
  · rw [List.getElem?_append_right (by omega), List.getElem?_replicate] at hi
    split at hi
    · cases hi; exact absurd rfl (hv 0)
    · cases hi
theorem lay2_mem {As : List Value} {v : Value} (h : v ∈ lay2 As) : v ∈ As ∨ v = .retAddr 0 := by
  obtain ⟨a, h1, h2⟩ := List.mem_flatMap.mp h
  split at h2
  · rcases List.mem_cons.mp h2 with rfl | h2
    · exact Or.inl h1
    · rcases List.mem_cons.mp h2 with rfl | h2
      · exact Or.inr rfl
      · cases h2
  · rcases List.mem_cons.mp h2 with rfl | h2
    · exact Or.inl h1
    · cases h2
theorem Ct.of2 {As : List Value} (hh : M.2.2.2.1 = []) (hy : plainName M.1.cls = true) (hlen : (lay2 As).length ≤ M.2.1) (h : X M cc bc bs I K 0 (lay2 As ++ List.replicate (M.2.1 - (lay2 As).length) (.retAddr 0)) [] Q) : Ct M cc bc bs As I K Q := by
  intro hcl hvA l htr D cA ad sz
  have hw : wsM M cc = Cond.code M.1 cc M.2.1 M.2.2.1 :: wsG := by show wdM M cc :: wsG = _; unfold wdM; rw [hh]
  refine vx_ofW (cc := cc) (maxL := M.2.1) (ret := M.2.2.1) hy hw ?_
  intro p e s m args below meth c s₁ B hml ht hv
  have htab : c.exceptionTable.toList = tableOf M.2.2.2.1 := by
    rw [hh]
    cases he : c.exceptionTable.toList with
    | nil => rfl
    | cons x r => exact (ht x (by rw [he]; exact List.mem_cons_self)).elim
  obtain ⟨rfl, hsz, hK, hP, hD0, hE⟩ := hv
  subst hsz
  obtain ⟨ls, e1, hL⟩ := Rl.entry2 (ad := ad) hlen
  rw [e1]
  refine h p l e s m _ below meth c bc bs D cA _ ad (kN K) ⟨B.exec, B.bytes, B.returns, hml, findClass_of_methodNamed B.named, fun w hw => atoms_spec (ws := wsM M cc) B.pre w (List.mem_cons_of_mem _ hw), B.notSynchronized, (name_of_methodNamed B.named B.method).1, htab, htr⟩ hE trivial ad s.heap [] 0 0 ls ⟨hK, hP, hD0.self, va_S.rf, fun q hq => Or.inr hq, hcl, Nat.le_refl _, fun k _ => rfl⟩ (by omega) (by omega) hL ?_ (fun v hv => by cases hv)
  intro v hv
  rcases List.mem_append.mp hv with h1 | h1
  · rcases lay2_mem h1 with h1 | rfl
    · exact hvA v h1
    · trivial
  · obtain ⟨-, rfl⟩ := List.mem_replicate.mp h1; trivial
end DYc
