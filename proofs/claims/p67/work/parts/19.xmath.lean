section XQc
variable {Γ : (Nat → Nat) → (Nat → Prop) → State → Array Value → Prop} {M : MD} {cc : ByteArray} {bc bs : Nat} {I : Mem} {K : Kt} {pc : Nat} {L st : List Value} {Q : Rs → Mem → Kt → Prop}
/-- Math.min, max, abs -/
def Ms (own : String) (ix : Nat) (y : MethodName) (b : ByteArray) (n : Nat) : Prop := Cond.methodLink own ix y ∈ wsG ∧ Cond.static y ∈ wsG ∧ Cond.initialized "java/lang/Math" ∈ wsG ∧ Cond.code y b n (some .int) ∈ wsG
theorem X.ma {v : Value} {rest : List Value} (k : X M cc bc bs I K (pc + 3) L (v :: rest) Q Γ) (hv : ∀ n, vok n v) (hr : ∀ n, (∀ v ∈ st, vok n v) → ∀ v ∈ rest, vok n v) (hsum : (rest.map fun v => v.category).sum ≤ 8) (hdep : 1 ≤ M.2.2.2.2)
    (row : ∀ (ad : Nat → Nat) {p : Program} {l : Launch} {e : Env} {R : Room} {s : State} {m : MethodId} {args : Array Value} {below : List Frame} {meth : Method} {c : Code} {H : Heap} {locs : List Loc} {cells slots : Nat} {Q : State → Prop} {ls : Array Slot}, p.tables.exec = Jvm.exec → c.code = cc → c.maxLocals = ls.size → s.vm.findClass M.1.cls = some m.cls → (∀ w ∈ wsG, w.before args s = true) → 1 ≤ R.frames → ((rest.map (cv ad)).map fun v => v.category).sum + 13 ≤ R.locals → cells ≤ R.cells → slots ≤ R.slots →
      W p l e R s m args below meth c H locs cells slots Q (F0 m (pc + 3) ls (cv ad v :: rest.map (cv ad))) → W p l e R s m args below meth c H locs cells slots Q (F0 m pc ls (st.map (cv ad)))) : X M cc bc bs I K pc L st Q Γ := by
  intro p l e s m args below meth c mc ms D cA A ad0 n0 hC hE hΓ ad H locs cells slots ls hR hc hs hL hvL hvS
  refine row ad hC.1 hC.2.1 (by obtain ⟨k0, lv, k1, -⟩ := hL; rw [hC.2.2.2.1]; exact k1.1.symm) hC.2.2.2.2.1 hC.2.2.2.2.2.1 hdep ?_ (show cells ≤ mc by omega) (show slots ≤ ms by omega) (k p l e s m args below meth c mc ms D cA A ad0 n0 hC hE hΓ ad H locs cells slots ls hR hc hs hL hvL (List.forall_mem_cons.mpr ⟨hv _, hr _ hvS⟩))
  rw [List.map_map, show ((fun v : Value => v.category) ∘ cv ad) = (fun v => v.category) from funext fun v => cv_cat ad v]
  show _ ≤ 40 * M.2.2.2.2 + 2080
  omega
theorem x_mmax {ix : Nat} {x y : Int32} (S : Ms M.1.cls ix Lib.Math.max.name Lib.Math.max.code 2) (hsum : (st.map fun v => v.category).sum ≤ 8) (hdep : 1 ≤ M.2.2.2.2) (hd : decode cc pc = .ok (.invokestatic ix, 3)) (kk : X M cc bc bs I K (pc + 3) L (.int ((if x < y then y else x)) :: st) Q Γ) : X M cc bc bs I K pc L (.int y :: .int x :: st) Q Γ :=
  X.ma kk (fun _ => trivial) (fun n h => by simp only [List.forall_mem_cons] at h; exact h.2.2) hsum hdep fun ad => fun hx hb hm ho ht h1 h2 h3 h4 k => va_mmax hx hb hm ho (ht _ S.1) (ht _ S.2.1) (ht _ S.2.2.1) (ht _ S.2.2.2) h1 h2 h3 h4 hd k
theorem x_mmin {ix : Nat} {x y : Int32} (S : Ms M.1.cls ix Lib.Math.min.name Lib.Math.min.code 2) (hsum : (st.map fun v => v.category).sum ≤ 8) (hdep : 1 ≤ M.2.2.2.2) (hd : decode cc pc = .ok (.invokestatic ix, 3)) (kk : X M cc bc bs I K (pc + 3) L (.int ((if y < x then y else x)) :: st) Q Γ) : X M cc bc bs I K pc L (.int y :: .int x :: st) Q Γ :=
  X.ma kk (fun _ => trivial) (fun n h => by simp only [List.forall_mem_cons] at h; exact h.2.2) hsum hdep fun ad => fun hx hb hm ho ht h1 h2 h3 h4 k => va_mmin hx hb hm ho (ht _ S.1) (ht _ S.2.1) (ht _ S.2.2.1) (ht _ S.2.2.2) h1 h2 h3 h4 hd k
theorem x_mabs {ix : Nat} {x : Int32} (S : Ms M.1.cls ix Lib.Math.abs.name Lib.Math.abs.code 1) (hsum : (st.map fun v => v.category).sum ≤ 8) (hdep : 1 ≤ M.2.2.2.2) (hd : decode cc pc = .ok (.invokestatic ix, 3)) (kk : X M cc bc bs I K (pc + 3) L (.int ((if 0 ≤ x then x else 0 - x)) :: st) Q Γ) : X M cc bc bs I K pc L (.int x :: st) Q Γ :=
  X.ma kk (fun _ => trivial) (fun n h => by simp only [List.forall_mem_cons] at h; exact h.2) hsum hdep fun ad => fun hx hb hm ho ht h1 h2 h3 h4 k => va_mabs hx hb hm ho (ht _ S.1) (ht _ S.2.1) (ht _ S.2.2.1) (ht _ S.2.2.2) h1 h2 h3 h4 hd k
theorem x_fret {v : UInt32} (hr : M.2.2.1 = some .float) (hd : decode cc pc = .ok (.freturn, 1)) (hQ : Q (.inl (some (.float v))) I K) : X M cc bc bs I K pc L [.float v] Q Γ := by
  intro p l e s m args below meth c mc ms D cA A ad0 n0 hC hE hΓ ad H locs cells slots ls hR hc hs hL hvL hvS
  refine W.widen (k := mc) (n := ms) (by omega) (by omega) (vx_ret ?_)
  exact W.fret (v := v) hC.1 hC.2.1 (hC.2.2.1.trans hr) (fun t ht hW => Qz.of hR (r := some (.float v)) (fun w hw => by cases hw; trivial) hQ ht hW.alike) hR.2.2.2.1.2.2 hd hC.2.2.2.2.2.2.1
theorem x_dret {v : UInt64} (hr : M.2.2.1 = some .double) (hd : decode cc pc = .ok (.dreturn, 1)) (hQ : Q (.inl (some (.double v))) I K) : X M cc bc bs I K pc L [.double v] Q Γ := by
  intro p l e s m args below meth c mc ms D cA A ad0 n0 hC hE hΓ ad H locs cells slots ls hR hc hs hL hvL hvS
  refine W.widen (k := mc) (n := ms) (by omega) (by omega) (vx_ret ?_)
  exact W.dret (v := v) hC.1 hC.2.1 (hC.2.2.1.trans hr) (fun t ht hW => Qz.of hR (r := some (.double v)) (fun w hw => by cases hw; trivial) hQ ht hW.alike) hR.2.2.2.1.2.2 hd hC.2.2.2.2.2.2.1
end XQc

