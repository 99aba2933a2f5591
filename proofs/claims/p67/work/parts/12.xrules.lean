section XR2
variable {Γ : (Nat → Nat) → (Nat → Prop) → State → Array Value → Prop} {M : MD} {cc : ByteArray} {bc bs : Nat} {I : Mem} {K : Kt} {pc : Nat} {L st : List Value} {Q : Rs → Mem → Kt → Prop}
theorem x_iconst {n : Int} (v : Int32) (hd : decode cc pc = .ok (.iconst n, 1)) (hv : Int32.ofInt n = v) (k : X M cc bc bs I K (pc + 1) L (.int v :: st) Q Γ) : X M cc bc bs I K pc L st Q Γ :=
  k.sk (fun n h _ => by simp only [List.forall_mem_cons] at h ⊢; exact ⟨trivial, h⟩) fun hx hb _ _ _ k => lv_iconst hx hb hd hv k
theorem x_bipush {n : Int} (v : Int32) (hd : decode cc pc = .ok (.bipush n, 2)) (hv : (Int8.ofInt n).toInt32 = v) (k : X M cc bc bs I K (pc + 2) L (.int v :: st) Q Γ) : X M cc bc bs I K pc L st Q Γ :=
  k.sk (fun n h _ => by simp only [List.forall_mem_cons] at h ⊢; exact ⟨trivial, h⟩) fun hx hb _ _ _ k => lv_bipush hx hb hd hv k
theorem x_sipush {n : Int} (v : Int32) (hd : decode cc pc = .ok (.sipush n, 3)) (hv : (Int16.ofInt n).toInt32 = v) (k : X M cc bc bs I K (pc + 3) L (.int v :: st) Q Γ) : X M cc bc bs I K pc L st Q Γ :=
  k.sk (fun n h _ => by simp only [List.forall_mem_cons] at h ⊢; exact ⟨trivial, h⟩) fun hx hb _ _ _ k => lv_sipush hx hb hd hv k
theorem x_lconst {n : Fin 2} (v : Int64) (hd : decode cc pc = .ok (.lconst n, 1)) (hv : Int64.ofNat (n : Nat) = v) (k : X M cc bc bs I K (pc + 1) L (.long v :: st) Q Γ) : X M cc bc bs I K pc L st Q Γ :=
  k.sk (fun n h _ => by simp only [List.forall_mem_cons] at h ⊢; exact ⟨trivial, h⟩) fun hx hb _ _ _ k => lv_lconst hx hb hd hv k
theorem x_ldc {ix : Nat} (v : Int32) (hc : Cond.constant M.1.cls ix v ∈ wsG) (hd : decode cc pc = .ok (.ldc ix, 2)) (k : X M cc bc bs I K (pc + 2) L (.int v :: st) Q Γ) : X M cc bc bs I K pc L st Q Γ :=
  k.sk (fun n h _ => by simp only [List.forall_mem_cons] at h ⊢; exact ⟨trivial, h⟩) fun hx hb ho ht _ k => lv_ldc hx hb ho (ht _ hc) hd k
theorem x_iload {i : Nat} {v : Int32} (hd : decode cc pc = .ok (.iload i, 2)) (hL : L[i]? = some (.int v)) (k : X M cc bc bs I K (pc + 2) L (.int v :: st) Q Γ) : X M cc bc bs I K pc L st Q Γ :=
  k.sk (fun n h _ => by simp only [List.forall_mem_cons] at h ⊢; exact ⟨trivial, h⟩) fun hx hb _ _ hl k => lv_iload hx hb hd (hl.at hL (fun q h => by cases h)) k
theorem x_iloadn {i : Fin 4} {v : Int32} (hd : decode cc pc = .ok (.iload_n i, 1)) (hL : L[(i : Nat)]? = some (.int v)) (k : X M cc bc bs I K (pc + 1) L (.int v :: st) Q Γ) : X M cc bc bs I K pc L st Q Γ :=
  k.sk (fun n h _ => by simp only [List.forall_mem_cons] at h ⊢; exact ⟨trivial, h⟩) fun hx hb _ _ hl k => lv_iload_n hx hb hd rfl (hl.at hL (fun q h => by cases h)) k
theorem x_aload {i : Nat} {v : Nat} (hd : decode cc pc = .ok (.aload i, 2)) (hL : L[i]? = some (.ref v)) (k : X M cc bc bs I K (pc + 2) L (.ref v :: st) Q Γ) : X M cc bc bs I K pc L st Q Γ :=
  k.sk (fun n h hl => List.forall_mem_cons.mpr ⟨hl _ (List.mem_of_getElem? hL), h⟩) fun hx hb _ _ hl k => lv_aload hx hb hd (hl.at hL (fun q h => by cases h)) k
theorem x_aloadn {i : Fin 4} {v : Nat} (hd : decode cc pc = .ok (.aload_n i, 1)) (hL : L[(i : Nat)]? = some (.ref v)) (k : X M cc bc bs I K (pc + 1) L (.ref v :: st) Q Γ) : X M cc bc bs I K pc L st Q Γ :=
  k.sk (fun n h hl => List.forall_mem_cons.mpr ⟨hl _ (List.mem_of_getElem? hL), h⟩) fun hx hb _ _ hl k => lv_aload_n hx hb hd rfl (hl.at hL (fun q h => by cases h)) k
theorem x_istore {i : Nat} {v : Int32} (hd : decode cc pc = .ok (.istore i, 2)) (hi : i < L.length) (h2 : c2 L i = true) {L' : List Value} (hl : L.set i (.int v) = L') (k : X M cc bc bs I K (pc + 2) L' st Q Γ) : X M cc bc bs I K pc L (.int v :: st) Q Γ := by
  subst hl
  refine k.lo hi rfl h2 (fun n h _ => List.forall_mem_cons.mp h) fun hx hb _ e' k => ?_
  intro T hT XX
  obtain ⟨t, a, b⟩ := k T hT XX
  refine ⟨t, ?_, b⟩
  have e' : storeLocals _ _ (cv _ (.int v)) = _ := e'
  simp only [List.map_cons, cv] at e' ⊢
  jvm_step XX.here [XX.here.top, ↓top_set XX.here.top, hx, hb, hd, e']
  exact a
theorem x_istoren {i : Fin 4} {v : Int32} (hd : decode cc pc = .ok (.istore_n i, 1)) (hi : (i : Nat) < L.length) (h2 : c2 L (i : Nat) = true) {L' : List Value} (hl : L.set (i : Nat) (.int v) = L') (k : X M cc bc bs I K (pc + 1) L' st Q Γ) : X M cc bc bs I K pc L (.int v :: st) Q Γ := by
  subst hl
  refine k.lo hi rfl h2 (fun n h _ => List.forall_mem_cons.mp h) fun hx hb _ e' k => ?_
  intro T hT XX
  obtain ⟨t, a, b⟩ := k T hT XX
  refine ⟨t, ?_, b⟩
  have e' : storeLocals _ _ (cv _ (.int v)) = _ := e'
  simp only [List.map_cons, cv] at e' ⊢
  jvm_step XX.here [XX.here.top, ↓top_set XX.here.top, hx, hb, hd, e']
  exact a
theorem x_astore {i : Nat} {v : Nat} (hd : decode cc pc = .ok (.astore i, 2)) (hi : i < L.length) (h2 : c2 L i = true) {L' : List Value} (hl : L.set i (.ref v) = L') (k : X M cc bc bs I K (pc + 2) L' st Q Γ) : X M cc bc bs I K pc L (.ref v :: st) Q Γ := by
  subst hl
  refine k.lo hi rfl h2 (fun n h _ => List.forall_mem_cons.mp h) fun hx hb _ e' k => ?_
  intro T hT XX
  obtain ⟨t, a, b⟩ := k T hT XX
  refine ⟨t, ?_, b⟩
  have e' : storeLocals _ _ (cv _ (.ref v)) = _ := e'
  simp only [List.map_cons, cv] at e' ⊢
  jvm_step XX.here [XX.here.top, ↓top_set XX.here.top, hx, hb, hd, e']
  exact ⟨rfl, a⟩
theorem x_astoren {i : Fin 4} {v : Nat} (hd : decode cc pc = .ok (.astore_n i, 1)) (hi : (i : Nat) < L.length) (h2 : c2 L (i : Nat) = true) {L' : List Value} (hl : L.set (i : Nat) (.ref v) = L') (k : X M cc bc bs I K (pc + 1) L' st Q Γ) : X M cc bc bs I K pc L (.ref v :: st) Q Γ := by
  subst hl
  refine k.lo hi rfl h2 (fun n h _ => List.forall_mem_cons.mp h) fun hx hb _ e' k => ?_
  intro T hT XX
  obtain ⟨t, a, b⟩ := k T hT XX
  refine ⟨t, ?_, b⟩
  have e' : storeLocals _ _ (cv _ (.ref v)) = _ := e'
  simp only [List.map_cons, cv] at e' ⊢
  jvm_step XX.here [XX.here.top, ↓top_set XX.here.top, hx, hb, hd, e']
  exact ⟨rfl, a⟩
theorem x_fstore {i : Nat} {v : UInt32} (hd : decode cc pc = .ok (.fstore i, 2)) (hi : i < L.length) (h2 : c2 L i = true) {L' : List Value} (hl : L.set i (.float v) = L') (k : X M cc bc bs I K (pc + 2) L' st Q Γ) : X M cc bc bs I K pc L (.float v :: st) Q Γ := by
  subst hl
  refine k.lo hi rfl h2 (fun n h _ => List.forall_mem_cons.mp h) fun hx hb _ e' k => ?_
  intro T hT XX
  obtain ⟨t, a, b⟩ := k T hT XX
  refine ⟨t, ?_, b⟩
  have e' : storeLocals _ _ (cv _ (.float v)) = _ := e'
  simp only [List.map_cons, cv] at e' ⊢
  jvm_step XX.here [XX.here.top, ↓top_set XX.here.top, hx, hb, hd, e']
  exact a
theorem x_iinc {i : Nat} {d : Int} {v : Int32} (hd : decode cc pc = .ok (.iinc i d, 3)) (hL : L[i]? = some (.int v)) (h2 : c2 L i = true) {L' : List Value} (hl : L.set i (.int (v + Int32.ofInt d)) = L') (k : X M cc bc bs I K (pc + 3) L' st Q Γ) : X M cc bc bs I K pc L st Q Γ := by
  subst hl
  refine k.lo (List.getElem?_eq_some_iff.mp hL).1 rfl h2 (fun n h _ => ⟨trivial, h⟩) fun hx hb hl e' k => ?_
  have hg := hl.at hL (fun q h => by cases h)
  intro T hT XX
  obtain ⟨t, a, b⟩ := k T hT XX
  refine ⟨t, ?_, b⟩
  simp only [cv] at e' hg
  jvm_step XX.here [XX.here.top, ↓top_set XX.here.top, hx, hb, hd, hg, e']
  exact a
theorem x_pop {v : Value} (hd : decode cc pc = .ok (.pop, 1)) (hv : v.category = 1) (k : X M cc bc bs I K (pc + 1) L st Q Γ) : X M cc bc bs I K pc L (v :: st) Q Γ :=
  k.sk (fun n h _ => (List.forall_mem_cons.mp h).2) fun hx hb _ _ _ k => lv_pop hx hb hd (by rw [cv_cat]; exact hv) k
theorem x_dup {v : Value} (hd : decode cc pc = .ok (.dup, 1)) (hv : v.category = 1) (k : X M cc bc bs I K (pc + 1) L (v :: v :: st) Q Γ) : X M cc bc bs I K pc L (v :: st) Q Γ :=
  k.sk (fun n h _ => List.forall_mem_cons.mpr ⟨(List.forall_mem_cons.mp h).1, h⟩) fun hx hb _ _ _ k => lv_dup hx hb hd (by rw [cv_cat]; exact hv) k
theorem x_dup2 {v w : Value} (hd : decode cc pc = .ok (.dup2, 1)) (hv : v.category = 1) (hw : w.category = 1) (k : X M cc bc bs I K (pc + 1) L (v :: w :: v :: w :: st) Q Γ) : X M cc bc bs I K pc L (v :: w :: st) Q Γ :=
  k.sk (fun n h _ => by simp only [List.forall_mem_cons] at h ⊢; exact ⟨h.1, h.2.1, h⟩) fun hx hb _ _ _ k => lv_dup2_11 hx hb hd (by rw [cv_cat]; exact hv) (by rw [cv_cat]; exact hw) k
theorem x_dup_x1 {v w : Value} (hd : decode cc pc = .ok (.dup_x1, 1)) (hv : v.category = 1) (hw : w.category = 1) (k : X M cc bc bs I K (pc + 1) L (v :: w :: v :: st) Q Γ) : X M cc bc bs I K pc L (v :: w :: st) Q Γ :=
  k.sk (fun n h _ => by simp only [List.forall_mem_cons] at h ⊢; exact ⟨h.1, h.2.1, h.1, h.2.2⟩) fun hx hb _ _ _ k => lv_dup_x1 hx hb hd (by rw [cv_cat]; exact hv) (by rw [cv_cat]; exact hw) k
theorem x_iadd {x y : Int32} (hd : decode cc pc = .ok (.iadd, 1)) (k : X M cc bc bs I K (pc + 1) L (.int (x + y) :: st) Q Γ) : X M cc bc bs I K pc L (.int y :: .int x :: st) Q Γ :=
  k.sk (fun n h _ => by simp only [List.forall_mem_cons] at h ⊢; exact ⟨trivial, h.2.2⟩) fun hx hb _ _ _ k => lv_iadd hx hb hd k
theorem x_isub {x y : Int32} (hd : decode cc pc = .ok (.isub, 1)) (k : X M cc bc bs I K (pc + 1) L (.int (x - y) :: st) Q Γ) : X M cc bc bs I K pc L (.int y :: .int x :: st) Q Γ :=
  k.sk (fun n h _ => by simp only [List.forall_mem_cons] at h ⊢; exact ⟨trivial, h.2.2⟩) fun hx hb _ _ _ k => lv_isub hx hb hd k
theorem x_imul {x y : Int32} (hd : decode cc pc = .ok (.imul, 1)) (k : X M cc bc bs I K (pc + 1) L (.int (x * y) :: st) Q Γ) : X M cc bc bs I K pc L (.int y :: .int x :: st) Q Γ :=
  k.sk (fun n h _ => by simp only [List.forall_mem_cons] at h ⊢; exact ⟨trivial, h.2.2⟩) fun hx hb _ _ _ k => lv_imul hx hb hd k
theorem x_iand {x y : Int32} (hd : decode cc pc = .ok (.iand, 1)) (k : X M cc bc bs I K (pc + 1) L (.int (x &&& y) :: st) Q Γ) : X M cc bc bs I K pc L (.int y :: .int x :: st) Q Γ :=
  k.sk (fun n h _ => by simp only [List.forall_mem_cons] at h ⊢; exact ⟨trivial, h.2.2⟩) fun hx hb _ _ _ k => lv_iand hx hb hd k
theorem x_ior {x y : Int32} (hd : decode cc pc = .ok (.ior, 1)) (k : X M cc bc bs I K (pc + 1) L (.int (x ||| y) :: st) Q Γ) : X M cc bc bs I K pc L (.int y :: .int x :: st) Q Γ :=
  k.sk (fun n h _ => by simp only [List.forall_mem_cons] at h ⊢; exact ⟨trivial, h.2.2⟩) fun hx hb _ _ _ k => lv_ior hx hb hd k
theorem x_ishl {x y : Int32} (hd : decode cc pc = .ok (.ishl, 1)) (k : X M cc bc bs I K (pc + 1) L (.int (x <<< (y &&& 31)) :: st) Q Γ) : X M cc bc bs I K pc L (.int y :: .int x :: st) Q Γ :=
  k.sk (fun n h _ => by simp only [List.forall_mem_cons] at h ⊢; exact ⟨trivial, h.2.2⟩) fun hx hb _ _ _ k => lv_ishl hx hb hd k
theorem x_ishr {x y : Int32} (hd : decode cc pc = .ok (.ishr, 1)) (k : X M cc bc bs I K (pc + 1) L (.int (x >>> (y &&& 31)) :: st) Q Γ) : X M cc bc bs I K pc L (.int y :: .int x :: st) Q Γ :=
  k.sk (fun n h _ => by simp only [List.forall_mem_cons] at h ⊢; exact ⟨trivial, h.2.2⟩) fun hx hb _ _ _ k => lv_ishr hx hb hd k
theorem x_idiv {x y : Int32} (hd : decode cc pc = .ok (.idiv, 1)) (hne : ¬ y = 0) (k : X M cc bc bs I K (pc + 1) L (.int (x / y) :: st) Q Γ) : X M cc bc bs I K pc L (.int y :: .int x :: st) Q Γ :=
  k.sk (fun n h _ => by simp only [List.forall_mem_cons] at h ⊢; exact ⟨trivial, h.2.2⟩) fun hx hb _ _ _ k => lv_idiv hx hb hd hne k
theorem x_irem {x y : Int32} (hd : decode cc pc = .ok (.irem, 1)) (hne : ¬ y = 0) (k : X M cc bc bs I K (pc + 1) L (.int (x - x / y * y) :: st) Q Γ) : X M cc bc bs I K pc L (.int y :: .int x :: st) Q Γ :=
  k.sk (fun n h _ => by simp only [List.forall_mem_cons] at h ⊢; exact ⟨trivial, h.2.2⟩) fun hx hb _ _ _ k => lv_irem hx hb hd hne k
theorem x_ineg {x : Int32} (hd : decode cc pc = .ok (.ineg, 1)) (k : X M cc bc bs I K (pc + 1) L (.int (-x) :: st) Q Γ) : X M cc bc bs I K pc L (.int x :: st) Q Γ :=
  k.sk (fun n h _ => by simp only [List.forall_mem_cons] at h ⊢; exact ⟨trivial, h.2⟩) fun hx hb _ _ _ k => lv_ineg hx hb hd k
theorem x_i2l {x : Int32} (hd : decode cc pc = .ok (.i2l, 1)) (k : X M cc bc bs I K (pc + 1) L (.long (x.toInt64) :: st) Q Γ) : X M cc bc bs I K pc L (.int x :: st) Q Γ :=
  k.sk (fun n h _ => by simp only [List.forall_mem_cons] at h ⊢; exact ⟨trivial, h.2⟩) fun hx hb _ _ _ k => lv_i2l hx hb hd rfl k
theorem x_i2b {x : Int32} (hd : decode cc pc = .ok (.i2b, 1)) (k : X M cc bc bs I K (pc + 1) L (.int (x.toInt8.toInt32) :: st) Q Γ) : X M cc bc bs I K pc L (.int x :: st) Q Γ :=
  k.sk (fun n h _ => by simp only [List.forall_mem_cons] at h ⊢; exact ⟨trivial, h.2⟩) fun hx hb _ _ _ k => lv_i2b hx hb hd rfl k
theorem x_i2c {x : Int32} (hd : decode cc pc = .ok (.i2c, 1)) (k : X M cc bc bs I K (pc + 1) L (.int ((x.toUInt32 % 65536).toInt32) :: st) Q Γ) : X M cc bc bs I K pc L (.int x :: st) Q Γ :=
  k.sk (fun n h _ => by simp only [List.forall_mem_cons] at h ⊢; exact ⟨trivial, h.2⟩) fun hx hb _ _ _ k => lv_i2c hx hb hd rfl k
theorem x_lcmp {x y : Int64} (hd : decode cc pc = .ok (.lcmp, 1)) (k : X M cc bc bs I K (pc + 1) L (.int (lg_cmp x y) :: st) Q Γ) : X M cc bc bs I K pc L (.long y :: .long x :: st) Q Γ :=
  k.sk (fun n h _ => by simp only [List.forall_mem_cons] at h ⊢; exact ⟨trivial, h.2.2⟩) fun hx hb _ _ _ k => W.lcmp hx hb hd k
theorem x_i2f {x : Int32} (hd : decode cc pc = .ok (.i2f, 1)) (k : X M cc bc bs I K (pc + 1) L (.float (FP.i2f x) :: st) Q Γ) : X M cc bc bs I K pc L (.int x :: st) Q Γ :=
  k.sk (fun n h _ => by simp only [List.forall_mem_cons] at h ⊢; exact ⟨trivial, h.2⟩) fun hx hb _ _ _ k => lv_i2f hx hb hd k
theorem x_i2d {x : Int32} (hd : decode cc pc = .ok (.i2d, 1)) (k : X M cc bc bs I K (pc + 1) L (.double (FP.i2d x) :: st) Q Γ) : X M cc bc bs I K pc L (.int x :: st) Q Γ :=
  k.sk (fun n h _ => by simp only [List.forall_mem_cons] at h ⊢; exact ⟨trivial, h.2⟩) fun hx hb _ _ _ k => lv_i2d hx hb hd k
theorem x_f2d {x : UInt32} (hd : decode cc pc = .ok (.f2d, 1)) (hn : vf_n64 (FP.f2d x)) (k : X M cc bc bs I K (pc + 1) L (.double (FP.f2d x) :: st) Q Γ) : X M cc bc bs I K pc L (.float x :: st) Q Γ :=
  k.sk (fun n h _ => by simp only [List.forall_mem_cons] at h ⊢; exact ⟨trivial, h.2⟩) fun hx hb _ _ _ k => lv_f2d hx hb hd hn k
theorem x_fdiv {x y : UInt32} (hd : decode cc pc = .ok (.fdiv, 1)) (hn : vf_n32 (FP.fdiv x y)) (k : X M cc bc bs I K (pc + 1) L (.float (FP.fdiv x y) :: st) Q Γ) : X M cc bc bs I K pc L (.float y :: .float x :: st) Q Γ :=
  k.sk (fun n h _ => by simp only [List.forall_mem_cons] at h ⊢; exact ⟨trivial, h.2.2⟩) fun hx hb _ _ _ k => lv_fdiv hx hb hd hn k
theorem x_ddiv {x y : UInt64} (hd : decode cc pc = .ok (.ddiv, 1)) (hn : vf_n64 (FP.ddiv x y)) (k : X M cc bc bs I K (pc + 1) L (.double (FP.ddiv x y) :: st) Q Γ) : X M cc bc bs I K pc L (.double y :: .double x :: st) Q Γ :=
  k.sk (fun n h _ => by simp only [List.forall_mem_cons] at h ⊢; exact ⟨trivial, h.2.2⟩) fun hx hb _ _ _ k => lv_ddiv hx hb hd hn k
theorem x_fcmp {x y : UInt32} {op : CmpOp} (hd : decode cc pc = .ok (.fcmp op, 1)) (k : X M cc bc bs I K (pc + 1) L (.int (Op.cmpValue (FP.fcmp x y) op) :: st) Q Γ) : X M cc bc bs I K pc L (.float y :: .float x :: st) Q Γ :=
  k.sk (fun n h _ => by simp only [List.forall_mem_cons] at h ⊢; exact ⟨trivial, h.2.2⟩) fun hx hb _ _ _ k => lv_fcmp hx hb hd k
theorem x_dcmp {x y : UInt64} {op : CmpOp} (hd : decode cc pc = .ok (.dcmp op, 1)) (k : X M cc bc bs I K (pc + 1) L (.int (Op.cmpValue (FP.dcmp x y) op) :: st) Q Γ) : X M cc bc bs I K pc L (.double y :: .double x :: st) Q Γ :=
  k.sk (fun n h _ => by simp only [List.forall_mem_cons] at h ⊢; exact ⟨trivial, h.2.2⟩) fun hx hb _ _ _ k => lv_dcmp hx hb hd k
theorem x_goto {off : Int} (tgt : Nat) (hd : decode cc pc = .ok (.goto off, 3)) (ht : (pc : Int) + off = (tgt : Int)) (k : X M cc bc bs I K tgt L st Q Γ) : X M cc bc bs I K pc L st Q Γ :=
  k.sk (fun n h _ => h) fun hx hb _ _ _ k => lv_goto hx hb hd ht k
theorem x_if_eq {x : Int32} {off : Int} (tgt : Nat) (hd : decode cc pc = .ok (.ifCond .eq off, 3)) (ht : (pc : Int) + off = (tgt : Int)) (kt : x = 0 → X M cc bc bs I K tgt L st Q Γ) (kf : ¬ (x = 0) → X M cc bc bs I K (pc + 3) L st Q Γ) : X M cc bc bs I K pc L (.int x :: st) Q Γ :=
  X.br kt kf (fun n h => (List.forall_mem_cons.mp h).2) fun hx hb kt kf => lv_if_eq hx hb hd ht kt kf
theorem x_if_ne {x : Int32} {off : Int} (tgt : Nat) (hd : decode cc pc = .ok (.ifCond .ne off, 3)) (ht : (pc : Int) + off = (tgt : Int)) (kt : ¬ x = 0 → X M cc bc bs I K tgt L st Q Γ) (kf : x = 0 → X M cc bc bs I K (pc + 3) L st Q Γ) : X M cc bc bs I K pc L (.int x :: st) Q Γ :=
  X.br kt (fun h => kf (Classical.not_not.mp h)) (fun n h => (List.forall_mem_cons.mp h).2) fun hx hb kt kf => lv_if_ne hx hb hd ht kt (fun h => kf (fun g => g h))
theorem x_if_lt {x : Int32} {off : Int} (tgt : Nat) (hd : decode cc pc = .ok (.ifCond .lt off, 3)) (ht : (pc : Int) + off = (tgt : Int)) (kt : x < 0 → X M cc bc bs I K tgt L st Q Γ) (kf : ¬ (x < 0) → X M cc bc bs I K (pc + 3) L st Q Γ) : X M cc bc bs I K pc L (.int x :: st) Q Γ :=
  X.br kt kf (fun n h => (List.forall_mem_cons.mp h).2) fun hx hb kt kf => lv_if_lt hx hb hd ht kt kf
theorem x_if_ge {x : Int32} {off : Int} (tgt : Nat) (hd : decode cc pc = .ok (.ifCond .ge off, 3)) (ht : (pc : Int) + off = (tgt : Int)) (kt : 0 ≤ x → X M cc bc bs I K tgt L st Q Γ) (kf : ¬ (0 ≤ x) → X M cc bc bs I K (pc + 3) L st Q Γ) : X M cc bc bs I K pc L (.int x :: st) Q Γ :=
  X.br kt kf (fun n h => (List.forall_mem_cons.mp h).2) fun hx hb kt kf => lv_if_ge hx hb hd ht kt kf
theorem x_if_gt {x : Int32} {off : Int} (tgt : Nat) (hd : decode cc pc = .ok (.ifCond .gt off, 3)) (ht : (pc : Int) + off = (tgt : Int)) (kt : 0 < x → X M cc bc bs I K tgt L st Q Γ) (kf : ¬ (0 < x) → X M cc bc bs I K (pc + 3) L st Q Γ) : X M cc bc bs I K pc L (.int x :: st) Q Γ :=
  X.br kt kf (fun n h => (List.forall_mem_cons.mp h).2) fun hx hb kt kf => lv_if_gt hx hb hd ht kt kf
theorem x_if_le {x : Int32} {off : Int} (tgt : Nat) (hd : decode cc pc = .ok (.ifCond .le off, 3)) (ht : (pc : Int) + off = (tgt : Int)) (kt : x ≤ 0 → X M cc bc bs I K tgt L st Q Γ) (kf : ¬ (x ≤ 0) → X M cc bc bs I K (pc + 3) L st Q Γ) : X M cc bc bs I K pc L (.int x :: st) Q Γ :=
  X.br kt kf (fun n h => (List.forall_mem_cons.mp h).2) fun hx hb kt kf => lv_if_le hx hb hd ht kt kf
theorem x_icmp_eq {x y : Int32} {off : Int} (tgt : Nat) (hd : decode cc pc = .ok (.if_icmp .eq off, 3)) (ht : (pc : Int) + off = (tgt : Int)) (kt : x = y → X M cc bc bs I K tgt L st Q Γ) (kf : ¬ (x = y) → X M cc bc bs I K (pc + 3) L st Q Γ) : X M cc bc bs I K pc L (.int y :: .int x :: st) Q Γ :=
  X.br kt kf (fun n h => by simp only [List.forall_mem_cons] at h; exact h.2.2) fun hx hb kt kf => lv_icmp_eq hx hb hd ht kt kf
theorem x_icmp_ne {x y : Int32} {off : Int} (tgt : Nat) (hd : decode cc pc = .ok (.if_icmp .ne off, 3)) (ht : (pc : Int) + off = (tgt : Int)) (kt : ¬ x = y → X M cc bc bs I K tgt L st Q Γ) (kf : x = y → X M cc bc bs I K (pc + 3) L st Q Γ) : X M cc bc bs I K pc L (.int y :: .int x :: st) Q Γ :=
  X.br kt (fun h => kf (Classical.not_not.mp h)) (fun n h => by simp only [List.forall_mem_cons] at h; exact h.2.2) fun hx hb kt kf => lv_icmp_ne hx hb hd ht kt (fun h => kf (fun g => g h))
theorem x_icmp_lt {x y : Int32} {off : Int} (tgt : Nat) (hd : decode cc pc = .ok (.if_icmp .lt off, 3)) (ht : (pc : Int) + off = (tgt : Int)) (kt : x < y → X M cc bc bs I K tgt L st Q Γ) (kf : ¬ (x < y) → X M cc bc bs I K (pc + 3) L st Q Γ) : X M cc bc bs I K pc L (.int y :: .int x :: st) Q Γ :=
  X.br kt kf (fun n h => by simp only [List.forall_mem_cons] at h; exact h.2.2) fun hx hb kt kf => lv_icmp_lt hx hb hd ht kt kf
theorem x_icmp_ge {x y : Int32} {off : Int} (tgt : Nat) (hd : decode cc pc = .ok (.if_icmp .ge off, 3)) (ht : (pc : Int) + off = (tgt : Int)) (kt : y ≤ x → X M cc bc bs I K tgt L st Q Γ) (kf : ¬ (y ≤ x) → X M cc bc bs I K (pc + 3) L st Q Γ) : X M cc bc bs I K pc L (.int y :: .int x :: st) Q Γ :=
  X.br kt kf (fun n h => by simp only [List.forall_mem_cons] at h; exact h.2.2) fun hx hb kt kf => lv_icmp_ge hx hb hd ht kt kf
theorem x_icmp_gt {x y : Int32} {off : Int} (tgt : Nat) (hd : decode cc pc = .ok (.if_icmp .gt off, 3)) (ht : (pc : Int) + off = (tgt : Int)) (kt : y < x → X M cc bc bs I K tgt L st Q Γ) (kf : ¬ (y < x) → X M cc bc bs I K (pc + 3) L st Q Γ) : X M cc bc bs I K pc L (.int y :: .int x :: st) Q Γ :=
  X.br kt kf (fun n h => by simp only [List.forall_mem_cons] at h; exact h.2.2) fun hx hb kt kf => lv_icmp_gt hx hb hd ht kt kf
theorem x_icmp_le {x y : Int32} {off : Int} (tgt : Nat) (hd : decode cc pc = .ok (.if_icmp .le off, 3)) (ht : (pc : Int) + off = (tgt : Int)) (kt : x ≤ y → X M cc bc bs I K tgt L st Q Γ) (kf : ¬ (x ≤ y) → X M cc bc bs I K (pc + 3) L st Q Γ) : X M cc bc bs I K pc L (.int y :: .int x :: st) Q Γ :=
  X.br kt kf (fun n h => by simp only [List.forall_mem_cons] at h; exact h.2.2) fun hx hb kt kf => lv_icmp_le hx hb hd ht kt kf
end XR2
