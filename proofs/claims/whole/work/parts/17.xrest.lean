section XQ
variable {M : MD} {cc : ByteArray} {bc bs : Nat} {I : Mem} {K : Kt} {pc : Nat} {L st : List Value} {Q : Rs → Mem → Kt → Prop}
/-- a row that reads what is foreign -/
theorem X.fo {pc' : Nat} {v : Value} {rest : List Value} (k : X M cc bc bs I K pc' L (v :: rest) Q) (hv : ∀ n, vok n v) (hr : ∀ n, (∀ v ∈ st, vok n v) → ∀ v ∈ rest, vok n v)
    (row : ∀ (ad ad0 : Nat → Nat) {p : Program} {l : Launch} {e : Env} {R : Room} {s : State} {m : MethodId} {args : Array Value} {below : List Frame} {meth : Method} {c : Code} {H : Heap} {locs : List Loc} {cells slots : Nat} {Q : State → Prop} {ls : Array Slot} {A : Nat → Prop}, p.tables.exec = Jvm.exec → c.code = cc → s.vm.findClass M.1.cls = some m.cls → (∀ w ∈ wsG, w.before args s = true) → Ex (fun i => ad0 (1000000 + i)) A s s.heap → va_S A s.heap H locs → (∀ i, ad (1000000 + i) = ad0 (1000000 + i)) →
      W p l e R s m args below meth c H locs cells slots Q (F0 m pc' ls (cv ad v :: rest.map (cv ad))) → W p l e R s m args below meth c H locs cells slots Q (F0 m pc ls (st.map (cv ad)))) : X M cc bc bs I K pc L st Q := by
  intro p l e s m args below meth c mc ms D cA A ad0 n0 hC hE ad H locs cells slots ls hR hc hs hL hvL hvS
  exact row ad ad0 hC.1 hC.2.1 hC.2.2.2.2.1 hC.2.2.2.2.2.1 hE hR.2.2.2.1 (fun i => hR.2.2.2.2.2.2.2 _ (Or.inr (Nat.le_add_right _ _))) (k p l e s m args below meth c mc ms D cA A ad0 n0 hC hE ad H locs cells slots ls hR hc hs hL hvL (List.forall_mem_cons.mpr ⟨hv _, hr _ hvS⟩))
theorem x_getsK {ix : Nat} (i : Nat) (hi : i < 7) (hl : Cond.fieldLink M.1.cls ix RX2 (knN.getD i "") "LWishMarket$Kind;" ∈ wsG) (hd : decode cc pc = .ok (.getstatic ix, 3)) (kk : X M cc bc bs I K (pc + 3) L (.ref (1000000 + i) :: st) Q) : X M cc bc bs I K pc L st Q := by
  refine X.fo kk (fun n => Or.inr (Nat.le_add_right _ _)) (fun n h => h) fun ad ad0 => fun hx hb ho ht hE hS ha k9 => ?_
  refine va_gets hx hb (hE.1.2.1.1.1 i hi).1 hS ho (ht _ hl) (fun _ h => h) hd ?_
  dsimp only
  rw [← ha]
  exact k9
theorem x_acmpK_ne {i j : Nat} {off : Int} (tgt : Nat) (hi : i < 7) (hj : j < 7) (hd : decode cc pc = .ok (.if_acmp .ne off, 3)) (ht : (pc : Int) + off = (tgt : Int)) (kt : ¬ i = j → X M cc bc bs I K tgt L st Q) (kf : i = j → X M cc bc bs I K (pc + 3) L st Q) : X M cc bc bs I K pc L (.ref (1000000 + j) :: .ref (1000000 + i) :: st) Q := by
  intro p l e s m args below meth c mc ms D cA A ad0 n0 hC hE ad H locs cells slots ls hR hc hs hL hvL hvS
  have ha : ∀ i, ad (1000000 + i) = ad0 (1000000 + i) := fun i => hR.2.2.2.2.2.2.2 _ (Or.inr (Nat.le_add_right _ _))
  have hvS' : ∀ v ∈ st, vok (kN K) v := fun v hv => hvS v (List.mem_cons_of_mem _ (List.mem_cons_of_mem _ hv))
  refine lv_acmp_ne (rx := some (ad (1000000 + i))) (ry := some (ad (1000000 + j))) hC.1 hC.2.1 hd ht (fun h => ?_) (fun h => ?_)
  · exact kt (fun z => h (by rw [z])) p l e s m args below meth c mc ms D cA A ad0 n0 hC hE ad H locs cells slots ls hR hc hs hL hvL hvS'
  · refine kf (hE.1.2.1.1.2 i j hi hj ?_) p l e s m args below meth c mc ms D cA A ad0 n0 hC hE ad H locs cells slots ls hR hc hs hL hvL hvS'
    show ad0 (1000000 + i) = ad0 (1000000 + j)
    rw [← ha, ← ha]
    exact Option.some.inj h
theorem x_ldcS {ix : Nat} {text : String} (i : Nat) (hq : (M.1.cls, ix, text, i) ∈ strT) (hd : decode cc pc = .ok (.ldc ix, 2)) (kk : X M cc bc bs I K (pc + 2) L (.ref (1000000 + (100 + i)) :: st) Q) : X M cc bc bs I K pc L st Q := by
  refine X.fo kk (fun n => Or.inr (Nat.le_add_right _ _)) (fun n h => h) fun ad ad0 => fun hx hb ho ht hE hS ha k9 => ?_
  refine va_ldcS hx hb ho (hE.2.2 _ hq) hd ?_
  dsimp only
  rw [← ha]
  exact k9
/-- what 'throw new E("text")' rests on -/
def Ts (own E text : String) (ik is ic i : Nat) (names : List String) : Prop := Bundle.fit E = true ∧ (∀ n ∈ names, Bundle.fit n = true) ∧ Cond.classLink own ik E ∈ wsG ∧ Cond.initialized E ∈ wsG ∧ (own, is, text, i) ∈ strT ∧ (∀ w ∈ vx_atS own ic E names, w ∈ wsG ∨ w ∈ wsN) ∧ ∀ w ∈ Cond.classLink own ik E :: Cond.initialized E :: vx_atS own ic E names, vx_ot w = true
theorem va_P.grow {D : va_G} {ws : va_W} {H H1 : Heap} (h : va_P D cls ws H) (hq : ∀ q : Nat, q < H.size → H1[q]? = H[q]?) : va_P D cls ws H1 := fun k q hk => (h k q hk).kept (hq _ (vx_lt h hk))
theorem x_throw {E text : String} {ik is ic i : Nat} {names : List String} (S : Ts M.1.cls E text ik is ic i names) (hdep : names.length + 4 ≤ M.2.2.2.2 ∧ (st.map fun v => v.category).sum + (13 * (names.length + 1) + 43) ≤ 40 * M.2.2.2.2) (hh : ∀ x ∈ tableOf M.2.2.2.1, covers x (pc + 9) = false)
    (d0 : decode cc pc = .ok (.new ik, 3)) (d3 : decode cc (pc + 3) = .ok (.dup, 1)) (d4 : decode cc (pc + 4) = .ok (.ldc is, 2)) (d6 : decode cc (pc + 6) = .ok (.invokespecial ic, 3)) (d9 : decode cc (pc + 9) = .ok (.athrow, 1)) (hQ : Q (.inr E) I K) : X M cc (1 + bc) (6 + bs) I K pc L st Q := by
  intro p l e s m args below meth c mc ms D cA A ad0 n0 hC hE ad H locs cells slots ls hR hc hs hL hvL hvS
  obtain ⟨S1, S2, S3, S4, S5, S6, S7⟩ := S
  have hts := hC.2.2.2.2.2.1
  have hls : ls.size = c.maxLocals := by obtain ⟨k0, lv, k1, -⟩ := hL; rw [hC.2.2.2.1]; exact k1.1
  have hcat : ((st.map (cv ad)).map fun v => v.category).sum = (st.map fun v => v.category).sum := by
    rw [List.map_map, show ((fun v : Value => v.category) ∘ cv ad) = (fun v => v.category) from funext fun v => cv_cat ad v]
  refine vx_throwS (A := A) hC.1 hC.2.1 hC.2.2.2.2.2.2.2.2.2 hC.2.2.2.2.1 S1 S2 (hts _ S3) (hts _ S4) (hE.2.2 _ S5) (fun w hw => ?_) S7 hE.1.1.1 hE.1.1.2 hR.2.2.2.1 hls d0 d3 d4 d6 d9 (by rw [hC.2.2.2.2.2.2.2.2.1]; exact hh) (show names.length + 3 < M.2.2.2.2 by omega) (by rw [hcat]; exact hdep.2) (show cells + 1 ≤ mc by omega) (show slots + 6 ≤ ms by omega) hC.2.2.2.2.2.2.1 (fun t hW hz hq => ?_) hR.2.2.2.1.2.2 (by omega) (by omega)
  · rcases S6 w hw with h | h
    · exact hts _ h
    · have h9 := hE.2.1 _ h
      rcases wsN_cases h with ⟨a, b, c, d, rfl⟩ | ⟨a, b, c, d, e, f, rfl⟩ | ⟨a, b, rfl⟩ | ⟨C, rfl⟩
      · exact va_Nw.use rfl h9
      · exact va_Nw.use rfl h9
      · exact va_Nw.use rfl h9
      · exact va_AO.use h9
  · obtain ⟨r1, r2, r3, r4, r5, r6, r7, r8⟩ := hR
    refine ⟨⟨ad, I, K, hQ, va_K.moved hW r1, r2.grow hq, r3, r6, r7, r8⟩, Nat.le_trans r4.1 hz, fun q h1 h2 => ?_⟩
    rw [hq q (Nat.lt_of_lt_of_le h1 r4.1), r4.2.1 q h1 h2]
/-- Math.min, max, abs -/
def Ms (own : String) (ix : Nat) (y : MethodName) (b : ByteArray) (n : Nat) : Prop := Cond.methodLink own ix y ∈ wsG ∧ Cond.static y ∈ wsG ∧ Cond.initialized "java/lang/Math" ∈ wsG ∧ Cond.code y b n (some .int) ∈ wsG
theorem X.ma {v : Value} {rest : List Value} (k : X M cc bc bs I K (pc + 3) L (v :: rest) Q) (hv : ∀ n, vok n v) (hr : ∀ n, (∀ v ∈ st, vok n v) → ∀ v ∈ rest, vok n v) (hsum : (rest.map fun v => v.category).sum ≤ 8) (hdep : 1 ≤ M.2.2.2.2)
    (row : ∀ (ad : Nat → Nat) {p : Program} {l : Launch} {e : Env} {R : Room} {s : State} {m : MethodId} {args : Array Value} {below : List Frame} {meth : Method} {c : Code} {H : Heap} {locs : List Loc} {cells slots : Nat} {Q : State → Prop} {ls : Array Slot}, p.tables.exec = Jvm.exec → c.code = cc → c.maxLocals = ls.size → s.vm.findClass M.1.cls = some m.cls → (∀ w ∈ wsG, w.before args s = true) → 1 ≤ R.frames → ((rest.map (cv ad)).map fun v => v.category).sum + 13 ≤ R.locals → cells ≤ R.cells → slots ≤ R.slots →
      W p l e R s m args below meth c H locs cells slots Q (F0 m (pc + 3) ls (cv ad v :: rest.map (cv ad))) → W p l e R s m args below meth c H locs cells slots Q (F0 m pc ls (st.map (cv ad)))) : X M cc bc bs I K pc L st Q := by
  intro p l e s m args below meth c mc ms D cA A ad0 n0 hC hE ad H locs cells slots ls hR hc hs hL hvL hvS
  refine row ad hC.1 hC.2.1 (by obtain ⟨k0, lv, k1, -⟩ := hL; rw [hC.2.2.2.1]; exact k1.1.symm) hC.2.2.2.2.1 hC.2.2.2.2.2.1 hdep ?_ (show cells ≤ mc by omega) (show slots ≤ ms by omega) (k p l e s m args below meth c mc ms D cA A ad0 n0 hC hE ad H locs cells slots ls hR hc hs hL hvL (List.forall_mem_cons.mpr ⟨hv _, hr _ hvS⟩))
  rw [List.map_map, show ((fun v : Value => v.category) ∘ cv ad) = (fun v => v.category) from funext fun v => cv_cat ad v]
  show _ ≤ 40 * M.2.2.2.2
  omega
theorem x_mmax {ix : Nat} {x y : Int32} (S : Ms M.1.cls ix Lib.Math.max.name Lib.Math.max.code 2) (hsum : (st.map fun v => v.category).sum ≤ 8) (hdep : 1 ≤ M.2.2.2.2) (hd : decode cc pc = .ok (.invokestatic ix, 3)) (kk : ∀ z : Int32, z = (if x < y then y else x) → X M cc bc bs I K (pc + 3) L (.int z :: st) Q) : X M cc bc bs I K pc L (.int y :: .int x :: st) Q :=
  X.ma (kk _ rfl) (fun _ => trivial) (fun n h => by simp only [List.forall_mem_cons] at h; exact h.2.2) hsum hdep fun ad => fun hx hb hm ho ht h1 h2 h3 h4 k => va_mmax hx hb hm ho (ht _ S.1) (ht _ S.2.1) (ht _ S.2.2.1) (ht _ S.2.2.2) h1 h2 h3 h4 hd k
theorem x_mmin {ix : Nat} {x y : Int32} (S : Ms M.1.cls ix Lib.Math.min.name Lib.Math.min.code 2) (hsum : (st.map fun v => v.category).sum ≤ 8) (hdep : 1 ≤ M.2.2.2.2) (hd : decode cc pc = .ok (.invokestatic ix, 3)) (kk : ∀ z : Int32, z = (if y < x then y else x) → X M cc bc bs I K (pc + 3) L (.int z :: st) Q) : X M cc bc bs I K pc L (.int y :: .int x :: st) Q :=
  X.ma (kk _ rfl) (fun _ => trivial) (fun n h => by simp only [List.forall_mem_cons] at h; exact h.2.2) hsum hdep fun ad => fun hx hb hm ho ht h1 h2 h3 h4 k => va_mmin hx hb hm ho (ht _ S.1) (ht _ S.2.1) (ht _ S.2.2.1) (ht _ S.2.2.2) h1 h2 h3 h4 hd k
theorem x_mabs {ix : Nat} {x : Int32} (S : Ms M.1.cls ix Lib.Math.abs.name Lib.Math.abs.code 1) (hsum : (st.map fun v => v.category).sum ≤ 8) (hdep : 1 ≤ M.2.2.2.2) (hd : decode cc pc = .ok (.invokestatic ix, 3)) (kk : ∀ z : Int32, z = (if 0 ≤ x then x else 0 - x) → X M cc bc bs I K (pc + 3) L (.int z :: st) Q) : X M cc bc bs I K pc L (.int x :: st) Q :=
  X.ma (kk _ rfl) (fun _ => trivial) (fun n h => by simp only [List.forall_mem_cons] at h; exact h.2) hsum hdep fun ad => fun hx hb hm ho ht h1 h2 h3 h4 k => va_mabs hx hb hm ho (ht _ S.1) (ht _ S.2.1) (ht _ S.2.2.1) (ht _ S.2.2.2) h1 h2 h3 h4 hd k
theorem x_fret {v : UInt32} (hr : M.2.2.1 = some .float) (hd : decode cc pc = .ok (.freturn, 1)) (hQ : Q (.inl (some (.float v))) I K) : X M cc bc bs I K pc L [.float v] Q := by
  intro p l e s m args below meth c mc ms D cA A ad0 n0 hC hE ad H locs cells slots ls hR hc hs hL hvL hvS
  refine W.widen (k := mc) (n := ms) (by omega) (by omega) (vx_ret ?_)
  exact W.fret (v := v) hC.1 hC.2.1 (hC.2.2.1.trans hr) (fun t ht hW => Qz.of hR (r := some (.float v)) (fun w hw => by cases hw; trivial) hQ ht hW.alike) hR.2.2.2.1.2.2 hd hC.2.2.2.2.2.2.1
theorem x_dret {v : UInt64} (hr : M.2.2.1 = some .double) (hd : decode cc pc = .ok (.dreturn, 1)) (hQ : Q (.inl (some (.double v))) I K) : X M cc bc bs I K pc L [.double v] Q := by
  intro p l e s m args below meth c mc ms D cA A ad0 n0 hC hE ad H locs cells slots ls hR hc hs hL hvL hvS
  refine W.widen (k := mc) (n := ms) (by omega) (by omega) (vx_ret ?_)
  exact W.dret (v := v) hC.1 hC.2.1 (hC.2.2.1.trans hr) (fun t ht hW => Qz.of hR (r := some (.double v)) (fun w hw => by cases hw; trivial) hQ ht hW.alike) hR.2.2.2.1.2.2 hd hC.2.2.2.2.2.2.1
end XQ
