theorem Ex.str {ex : Nat → Nat} {A : Nat → Prop} {U : State} {H : Heap} (h : Ex ex A U H) {o t : String} {k i : Nat} (hq : (o, k, t, i) ∈ strT) : vk_R o k t (ex (100 + i)) U := by
  have h1 : ExW ex U := h.2
  have h2 : ∀ q ∈ strT, vk_R q.1 q.2.1 q.2.2.1 (ex (100 + q.2.2.2)) U := h1.2.1
  exact h2 (o, k, t, i) hq
section XQa
variable {Γ : (Nat → Nat) → (Nat → Prop) → State → Array Value → Prop} {M : MD} {cc : ByteArray} {bc bs : Nat} {I : Mem} {K : Kt} {pc : Nat} {L st : List Value} {Q : Rs → Mem → Kt → Prop}
/-- a row that reads what is foreign -/
theorem X.fo {pc' : Nat} {v : Value} {rest : List Value} (k : X M cc bc bs I K pc' L (v :: rest) Q Γ) (hv : ∀ n, vok n v) (hr : ∀ n, (∀ v ∈ st, vok n v) → ∀ v ∈ rest, vok n v)
    (row : ∀ (ad ad0 : Nat → Nat) {p : Program} {l : Launch} {e : Env} {R : Room} {s : State} {m : MethodId} {args : Array Value} {below : List Frame} {meth : Method} {c : Code} {H : Heap} {locs : List Loc} {cells slots : Nat} {Q : State → Prop} {ls : Array Slot} {A : Nat → Prop}, p.tables.exec = Jvm.exec → c.code = cc → s.vm.findClass M.1.cls = some m.cls → (∀ w ∈ wsG, w.before args s = true) → Ex (fun i => ad0 (xE i)) A s s.heap → va_S A s.heap H locs → (∀ i, ad (xE i) = ad0 (xE i)) →
      W p l e R s m args below meth c H locs cells slots Q (F0 m pc' ls (cv ad v :: rest.map (cv ad))) → W p l e R s m args below meth c H locs cells slots Q (F0 m pc ls (st.map (cv ad)))) : X M cc bc bs I K pc L st Q Γ := by
  intro p l e s m args below meth c mc ms D cA A ad0 n0 hC hE hΓ ad H locs cells slots ls hR hc hs hL hvL hvS
  exact row ad ad0 hC.1 hC.2.1 hC.2.2.2.2.1 hC.2.2.2.2.2.1 hE hR.2.2.2.1 (fun i => hR.2.2.2.2.2.2.2 _ (Or.inr (xE_ge _))) (k p l e s m args below meth c mc ms D cA A ad0 n0 hC hE hΓ ad H locs cells slots ls hR hc hs hL hvL (List.forall_mem_cons.mpr ⟨hv _, hr _ hvS⟩))
theorem x_getsK {ix : Nat} (i : Nat) (hi : i < 7) (hl : Cond.fieldLink M.1.cls ix RX2 (knN.getD i "") "LWishMarket$Kind;" ∈ wsG) (hd : decode cc pc = .ok (.getstatic ix, 3)) (kk : X M cc bc bs I K (pc + 3) L (.ref (xE i) :: st) Q Γ) : X M cc bc bs I K pc L st Q Γ := by
  refine X.fo kk (fun n => Or.inr (xE_ge _)) (fun n h => h) fun ad ad0 => fun hx hb ho ht hE hS ha k9 => ?_
  refine va_gets hx hb (hE.1.2.1.1.1 i hi).1 hS ho (ht _ hl) (fun _ h => h) hd ?_
  dsimp only
  rw [← ha]
  exact k9
theorem x_acmpK_ne {i j : Nat} {off : Int} (tgt : Nat) (hi : i < 7) (hj : j < 7) (hd : decode cc pc = .ok (.if_acmp .ne off, 3)) (ht : (pc : Int) + off = (tgt : Int)) (kt : ¬ i = j → X M cc bc bs I K tgt L st Q Γ) (kf : i = j → X M cc bc bs I K (pc + 3) L st Q Γ) : X M cc bc bs I K pc L (.ref (xE j) :: .ref (xE i) :: st) Q Γ := by
  intro p l e s m args below meth c mc ms D cA A ad0 n0 hC hE hΓ ad H locs cells slots ls hR hc hs hL hvL hvS
  have ha : ∀ i, ad (xE i) = ad0 (xE i) := fun i => hR.2.2.2.2.2.2.2 _ (Or.inr (xE_ge _))
  have hvS' : ∀ v ∈ st, vok (kN K) v := fun v hv => hvS v (List.mem_cons_of_mem _ (List.mem_cons_of_mem _ hv))
  refine lv_acmp_ne (rx := some (ad (xE i))) (ry := some (ad (xE j))) hC.1 hC.2.1 hd ht (fun h => ?_) (fun h => ?_)
  · exact kt (fun z => h (by rw [z])) p l e s m args below meth c mc ms D cA A ad0 n0 hC hE hΓ ad H locs cells slots ls hR hc hs hL hvL hvS'
  · refine kf (hE.1.2.1.1.2 i j hi hj ?_) p l e s m args below meth c mc ms D cA A ad0 n0 hC hE hΓ ad H locs cells slots ls hR hc hs hL hvL hvS'
    show ad0 (xE i) = ad0 (xE j)
    rw [← ha, ← ha]
    exact Option.some.inj h
theorem x_ldcS {ix : Nat} {text : String} (i : Nat) (hq : (M.1.cls, ix, text, i) ∈ strT) (hd : decode cc pc = .ok (.ldc ix, 2)) (kk : X M cc bc bs I K (pc + 2) L (.ref (xE (100 + i)) :: st) Q Γ) : X M cc bc bs I K pc L st Q Γ := by
  refine X.fo kk (fun n => Or.inr (xE_ge _)) (fun n h => h) fun ad ad0 => fun hx hb ho ht hE hS ha k9 => ?_
  have e1 : ad (xE (100 + i)) = ad0 (xE (100 + i)) := ha (100 + i)
  refine va_ldcS (tx := text) (q := ad (xE (100 + i))) hx hb ho ?_ hd k9
  rw [e1]
  exact hE.str hq
end XQa
