/-- one place of the heap is set -/
def u2 {α : Type} (f : Nat → Nat → α) (a k : Nat) (x : α) : Nat → Nat → α := fun b j => if b = a then (if j = k then x else f b j) else f b j
theorem u2_s {α : Type} {f : Nat → Nat → α} {a k : Nat} {x : α} : u2 f a k x a k = x := by simp [u2]
theorem u2_a {α : Type} {f : Nat → Nat → α} {a b k : Nat} {x : α} (h : b ≠ a) : u2 f a k x b = f b := by funext j; simp [u2, h]
theorem u2_k {α : Type} {f : Nat → Nat → α} {a k j b : Nat} {x : α} (h : j ≠ k) : u2 f a k x b j = f b j := by simp [u2, h]
theorem u2_upd {f : Nat → Nat → Int32} {a k : Nat} {x : Int32} : u2 f a k x a = upd (f a) k x := by funext j; simp [u2, upd]
theorem u2_va {α : Type} {f : Nat → Nat → α} {a k : Nat} {x : α} : u2 f a k x a = va_up (f a) k x := by funext j; simp [u2, va_up]
/-- a row is set -/
def u1 {α : Type} (f : Nat → α) (a : Nat) (x : α) : Nat → α := fun b => if b = a then x else f b
theorem u1_s {α : Type} {f : Nat → α} {a : Nat} {x : α} : u1 f a x a = x := by simp [u1]
theorem u1_n {α : Type} {f : Nat → α} {a b : Nat} {x : α} (h : b ≠ a) : u1 f a x b = f b := by simp [u1, h]
abbrev kSetG (K : Kt) (G : Nat → Nat → Option Nat) : Kt := (K.1, K.2.1, G, K.2.2.2)
abbrev kSetJ (K : Kt) (J : Nat → Nat → Int64) : Kt := (K.1, K.2.1, K.2.2.1, J, K.2.2.2.2)
abbrev kSetD (K : Kt) (D : Nat → Nat → UInt64) : Kt := (K.1, K.2.1, K.2.2.1, K.2.2.2.1, D)
/-- what an access to a field rests on: class number, place, reference or not, final or not, its type -/
def Fs (own : String) (ix ci k : Nat) (b fin : Bool) (ty : FieldType) : Prop :=
  ∃ (C : String) (T : u_T) (N : Nat) (ty0 : Nat → FieldType), cls[ci]? = some (C, T, N) ∧ k < N ∧ (ft ci)[k]? = some b ∧ Cond.fieldLink own ix (T k).1 (T k).2.1 (T k).2.2.1 ∈ wsG ∧ (∀ w ∈ u_ws C T N, w ∈ wsG) ∧ (T k).2.2.2 = fin ∧ parseFieldDescriptor (T k).2.2.1 = some ty ∧ (∀ k, k < N → parseFieldDescriptor (T k).2.2.1 = some (ty0 k)) ∧ (∀ a, a < N → ∀ b, b < N → a ≠ b → (T a).2.1 ≠ (T b).2.1) ∧ (fin = true → (T k).1 = own) ∧ (ft ci).length = N
theorem cls_lt {ci : Nat} {r : vw_C} (h : cls[ci]? = some r) : ci < 13 := (List.getElem?_eq_some_iff.mp h).1
theorem ce_obj {cA : Nat → ClassId} {ad : Nat → Nat} {I : Mem} {K : Kt} {a ci : Nat} (hs : (kS K a).1 = ci) (h : ci < 13) : ce cA ad I K a = .inr (ci, oc ad (I a) (kG K a) 0 (ft ci)) := by
  unfold ce; rw [hs, if_pos (by omega)]
theorem ce_ints {cA : Nat → ClassId} {ad : Nat → Nat} {I : Mem} {K : Kt} {a ci n : Nat} (hs : kS K a = (ci, n)) (h : 100 ≤ ci) (h2 : ci ≤ 102) : ce cA ad I K a = .inl (cA ci, n, .inl (I a)) := by
  unfold ce; rw [hs]; rw [if_neg (by omega), if_neg (by show ¬ ci = 103; omega), if_neg (by show ¬ ci = 104; omega), if_neg (by show ¬ 104 < ci; omega)]
theorem ce_longs {cA : Nat → ClassId} {ad : Nat → Nat} {I : Mem} {K : Kt} {a n : Nat} (hs : kS K a = (103, n)) : ce cA ad I K a = .inl (cA 103, n, .inr (.inl (kJ K a))) := by
  unfold ce; rw [hs]; rfl
theorem ce_dbls {cA : Nat → ClassId} {ad : Nat → Nat} {I : Mem} {K : Kt} {a n : Nat} (hs : kS K a = (104, n)) : ce cA ad I K a = .inl (cA 104, n, .inr (.inr (.inr (.inl (kD K a))))) := by
  unfold ce; rw [hs]; rfl
theorem ce_refs {cA : Nat → ClassId} {ad : Nat → Nat} {I : Mem} {K : Kt} {a ci n : Nat} (hs : kS K a = (ci, n)) (h : 104 < ci) : ce cA ad I K a = .inl (cA ci, n, .inr (.inr (.inr (.inr (fun j => (kG K a j).map ad))))) := by
  unfold ce; rw [hs]; rw [if_neg (by omega), if_neg (by show ¬ ci = 103; omega), if_neg (by show ¬ ci = 104; omega), if_pos (by show 104 < ci; omega)]
theorem ce_congr {cA : Nat → ClassId} {ad : Nat → Nat} {I I' : Mem} {K K' : Kt} {a : Nat} (h1 : kS K' a = kS K a) (h2 : I' a = I a) (h3 : kG K' a = kG K a) (h4 : kJ K' a = kJ K a) (h5 : kD K' a = kD K a) : ce cA ad I' K' a = ce cA ad I K a := by
  unfold ce; rw [h1, h2, h3, h4, h5]
section XH
variable {Γ : (Nat → Nat) → (Nat → Prop) → State → Array Value → Prop} {M : MD} {cc : ByteArray} {bc bs : Nat} {I : Mem} {K : Kt} {pc : Nat} {L st : List Value} {Q : Rs → Mem → Kt → Prop}
/-- a row that reads the heap -/
theorem X.rd {pc' : Nat} {v : Value} {st st' : List Value} (k : X M cc bc bs I K pc' L (v :: st') Q Γ) (hv : Cl K → (∀ v ∈ st, vok (kN K) v) → vok (kN K) v ∧ ∀ v ∈ st', vok (kN K) v)
    (row : ∀ (cA : Nat → ClassId) (ad : Nat → Nat) {p : Program} {l : Launch} {e : Env} {R : Room} {s : State} {m : MethodId} {args : Array Value} {below : List Frame} {meth : Method} {c : Code} {H : Heap} {locs : List Loc} {cells slots : Nat} {Q : State → Prop} {ls : Array Slot} {D : va_G}, p.tables.exec = Jvm.exec → c.code = cc → s.vm.findClass M.1.cls = some m.cls → (∀ w ∈ wsG, w.before args s = true) → va_K D cls (tys cA) s → va_P D cls (wl cA ad I K) H → W p l e R s m args below meth c H locs cells slots Q (F0 m pc' ls (cv ad v :: st'.map (cv ad))) → W p l e R s m args below meth c H locs cells slots Q (F0 m pc ls (st.map (cv ad)))) : X M cc bc bs I K pc L st Q Γ := by
  intro p l e s m args below meth c mc ms D cA A ad0 n0 hC hE hΓ ad H locs cells slots ls hR hc hs hL hvL hvS
  obtain ⟨h1, h2⟩ := hv hR.2.2.2.2.2.1 hvS
  exact row cA ad hC.1 hC.2.1 hC.2.2.2.2.1 hC.2.2.2.2.2.1 hR.1 hR.2.1 (k p l e s m args below meth c mc ms D cA A ad0 n0 hC hE hΓ ad H locs cells slots ls hR hc hs hL hvL (List.forall_mem_cons.mpr ⟨h1, h2⟩))
/-- a row that writes the heap -/
theorem X.wr {pc' : Nat} {st st' : List Value} {I' : Mem} {K' : Kt} (k : X M cc bc bs I' K' pc' L st' Q Γ) (hn : kN K' = kN K) (hcl : Cl K → (∀ v ∈ st, vok (kN K) v) → Cl K') (hv : (∀ v ∈ st, vok (kN K) v) → ∀ v ∈ st', vok (kN K) v)
    (row : ∀ (cA : Nat → ClassId) (ad : Nat → Nat) {p : Program} {l : Launch} {e : Env} {R : Room} {s : State} {m : MethodId} {args : Array Value} {below : List Frame} {meth : Method} {c : Code} {H H0 : Heap} {locs : List Loc} {cells slots : Nat} {Q : State → Prop} {ls : Array Slot} {D : va_G} {A : Nat → Prop}, p.tables.exec = Jvm.exec → c.code = cc → s.vm.findClass M.1.cls = some m.cls → (∀ w ∈ wsG, w.before args s = true) → meth.name = M.1.name → va_K D cls (tys cA) s → va_P D cls (wl cA ad I K) H → va_D A (wl cA ad I K) → va_S A H0 H locs →
      (∀ H' locs', va_P D cls (wl cA ad I' K') H' → va_D A (wl cA ad I' K') → va_S A H0 H' locs' → W p l e R s m args below meth c H' locs' cells slots Q (F0 m pc' ls (st'.map (cv ad)))) → W p l e R s m args below meth c H locs cells slots Q (F0 m pc ls (st.map (cv ad)))) : X M cc bc bs I K pc L st Q Γ := by
  intro p l e s m args below meth c mc ms D cA A ad0 n0 hC hE hΓ ad H locs cells slots ls hR hc hs hL hvL hvS
  obtain ⟨r1, r2, r3, r4, r5, r6, r7, r8⟩ := hR
  refine row cA ad (H0 := s.heap) hC.1 hC.2.1 hC.2.2.2.2.1 hC.2.2.2.2.2.1 hC.2.2.2.2.2.2.2.1 r1 r2 r3 r4 fun H' locs' p1 p2 p3 => ?_
  exact k p l e s m args below meth c mc ms D cA A ad0 n0 hC hE hΓ ad H' locs' cells slots ls ⟨r1, p1, p2, p3, r5, hcl r6 hvS, by rw [hn]; exact r7, r8⟩ hc hs hL (by rw [hn]; exact hvL) (by rw [hn]; exact hv hvS)
theorem x_getI {ix ci k a : Nat} {fin : Bool} {ty : FieldType} (F : Fs M.1.cls ix ci k false fin ty) (hs : (kS K a).1 = ci) (ha : a < kN K) (hd : decode cc pc = .ok (.getfield ix, 3)) (kk : X M cc bc bs I K (pc + 3) L (.int (I a k) :: st) Q Γ) : X M cc bc bs I K pc L (.ref a :: st) Q Γ := by
  obtain ⟨C, T, N, ty0, h1, h2, h3, h4, h5, -⟩ := F
  refine X.rd kk (fun _ h => ⟨trivial, (List.forall_mem_cons.mp h).2⟩) fun cA ad => fun hx hb ho ht hK hP k9 => ?_
  exact va_get (v := .int (I a k)) hx hb ht h5 ho hK hP a (wl_get ha |>.trans (by rw [ce_obj hs (cls_lt h1)])) h1 k h2 (ht _ h4) (fun _ h => h) ((oc_get _ _ _ _ 0 k _ h3).trans (by rw [Nat.zero_add]; rfl)) hd k9
theorem x_getR {ix ci k a r : Nat} {fin : Bool} {ty : FieldType} (F : Fs M.1.cls ix ci k true fin ty) (hs : (kS K a).1 = ci) (ha : a < kN K) (hr : kG K a k = some r) (hd : decode cc pc = .ok (.getfield ix, 3)) (kk : X M cc bc bs I K (pc + 3) L (.ref r :: st) Q Γ) : X M cc bc bs I K pc L (.ref a :: st) Q Γ := by
  obtain ⟨C, T, N, ty0, h1, h2, h3, h4, h5, -⟩ := F
  refine X.rd kk (fun hc h => ⟨hc a k r hr, (List.forall_mem_cons.mp h).2⟩) fun cA ad => fun hx hb ho ht hK hP k9 => ?_
  exact va_get (v := .ref _) hx hb ht h5 ho hK hP a (wl_get ha |>.trans (by rw [ce_obj hs (cls_lt h1)])) h1 k h2 (ht _ h4) (fun _ h => h) ((oc_get _ _ _ _ 0 k _ h3).trans (by rw [Nat.zero_add, hr]; rfl)) hd k9
theorem x_putI {ix ci k a : Nat} {x : Int32} {ty : FieldType} (F : Fs M.1.cls ix ci k false false ty) (hs : (kS K a).1 = ci) (ha : a < kN K) (hnf : narrow ty (.int x) = .int x ∧ fits ty (.int x) = true) (hd : decode cc pc = .ok (.putfield ix, 3)) (kk : X M cc bc bs (u2 I a k x) K (pc + 3) L st Q Γ) : X M cc bc bs I K pc L (.int x :: .ref a :: st) Q Γ := by
  obtain ⟨C, T, N, ty0, h1, h2, h3, h4, h5, h6, h7, h8, h9, -, h11⟩ := F
  refine X.wr kk rfl (fun h _ => h) (fun h => by simp only [List.forall_mem_cons] at h; exact h.2.2) fun cA ad => fun hx hb ho ht _ hK hP hD hS k9 => ?_
  refine va_put (v := .int x) hx hb ht h5 ty0 h8 h9 ho hK hP hD hS a (wl_get ha |>.trans (by rw [ce_obj hs (cls_lt h1)])) h1 k h2 (ht _ h4) (fun _ h => h) h6 h7 hnf.1 hnf.2 (by rw [oc_len, h11]; exact h2) hd fun H' locs' p1 p2 p3 => ?_
  rw [oc_set _ _ _ _ 0 k x h3, Nat.zero_add, show (wl cA ad I K).set a (ad a, Sum.inr (ci, oc ad (upd (I a) k x) (kG K a) 0 (ft ci))) = wl cA ad (u2 I a k x) K from wl_set rfl (by rw [ce_obj hs (cls_lt h1), u2_upd]) (fun b hb9 => ce_congr rfl (u2_a hb9) rfl rfl rfl)] at p1 p2
  exact k9 H' locs' p1 p2 p3
theorem x_putR {ix ci k a r : Nat} {ty : FieldType} {fin : Bool} (F : Fs M.1.cls ix ci k true fin ty) (hf : fin = true → M.1.name = "<init>") (hs : (kS K a).1 = ci) (ha : a < kN K) (hnf : ∀ q, narrow ty (.ref q) = .ref q ∧ fits ty (.ref q) = true) (hd : decode cc pc = .ok (.putfield ix, 3)) (kk : X M cc bc bs I (kSetG K (u2 (kG K) a k (some r))) (pc + 3) L st Q Γ) : X M cc bc bs I K pc L (.ref r :: .ref a :: st) Q Γ := by
  obtain ⟨C, T, N, ty0, h1, h2, h3, h4, h5, h6, h7, h8, h9, h10, h11⟩ := F
  refine X.wr kk rfl (fun h hv b j q hq => ?_) (fun h => by simp only [List.forall_mem_cons] at h; exact h.2.2) fun cA ad => fun hx hb ho ht hnm hK hP hD hS k9 => ?_
  · unfold kG kSetG u2 at hq
    dsimp only at hq
    split at hq
    · split at hq
      · cases hq; exact (List.forall_mem_cons.mp hv).1
      · exact h _ _ _ hq
    · exact h _ _ _ hq
  · have e : ∀ (v : Value), v = .ref (ad r) → (oc ad (I a) (kG K a) 0 (ft ci)).set k v = oc ad (I a) (u2 (kG K) a k (some r) a) 0 (ft ci) := fun v hv => by
      rw [hv, show Value.ref (ad r) = va_rf ((some r).map ad) from rfl, oc_setR _ _ _ _ 0 k _ h3, Nat.zero_add, u2_va]
    cases fin with
    | false =>
      refine va_put (v := .ref (ad r)) hx hb ht h5 ty0 h8 h9 ho hK hP hD hS a (wl_get ha |>.trans (by rw [ce_obj hs (cls_lt h1)])) h1 k h2 (ht _ h4) (fun _ h => h) h6 h7 (hnf _).1 (hnf _).2 (by rw [oc_len, h11]; exact h2) hd fun H' locs' p1 p2 p3 => ?_
      rw [e _ rfl, show (wl cA ad I K).set a (ad a, Sum.inr (ci, oc ad (I a) (u2 (kG K) a k (some r) a) 0 (ft ci))) = wl cA ad I (kSetG K (u2 (kG K) a k (some r))) from wl_set rfl (by rw [ce_obj (K := kSetG K (u2 (kG K) a k (some r))) hs (cls_lt h1)]) (fun b hb9 => ce_congr rfl rfl (by exact u2_a hb9) rfl rfl)] at p1 p2
      exact k9 H' locs' p1 p2 p3
    | true =>
      refine va_putF (v := .ref (ad r)) hx hb ht h5 ty0 h8 h9 ho hK hP hD hS a (wl_get ha |>.trans (by rw [ce_obj hs (cls_lt h1)])) h1 k h2 (ht _ h4) (fun _ h => h) h6 (hnm.trans (hf rfl)) (h10 rfl) h7 (hnf _).1 (hnf _).2 (by rw [oc_len, h11]; exact h2) hd fun H' locs' p1 p2 p3 => ?_
      rw [e _ rfl, show (wl cA ad I K).set a (ad a, Sum.inr (ci, oc ad (I a) (u2 (kG K) a k (some r) a) 0 (ft ci))) = wl cA ad I (kSetG K (u2 (kG K) a k (some r))) from wl_set rfl (by rw [ce_obj (K := kSetG K (u2 (kG K) a k (some r))) hs (cls_lt h1)]) (fun b hb9 => ce_congr rfl rfl (by exact u2_a hb9) rfl rfl)] at p1 p2
      exact k9 H' locs' p1 p2 p3
theorem x_len {a n ci : Nat} (hs : kS K a = (ci, n)) (hci : 100 ≤ ci ∧ (ci < 104 ∨ 104 < ci ∧ ci < 110)) (ha : a < kN K) (hd : decode cc pc = .ok (.arraylength, 1)) (kk : X M cc bc bs I K (pc + 1) L (.int (nI n) :: st) Q Γ) : X M cc bc bs I K pc L (.ref a :: st) Q Γ := by
  refine X.rd kk (fun _ h => ⟨trivial, (List.forall_mem_cons.mp h).2⟩) fun cA ad => fun hx hb ho ht hK hP k9 => ?_
  have hg := wl_get (cA := cA) (ad := ad) (I := I) ha
  have ht0 : ∃ (t0 : Nat) (ty : FieldType), (tys cA)[t0]? = some (cA ci, ty) := by
    obtain ⟨h1, h2⟩ := hci
    rcases (show ci = 100 ∨ ci = 101 ∨ ci = 102 ∨ ci = 103 ∨ ci = 105 ∨ ci = 106 ∨ ci = 107 ∨ ci = 108 ∨ ci = 109 by omega) with rfl | rfl | rfl | rfl | rfl | rfl | rfl | rfl | rfl
    · exact ⟨0, _, rfl⟩
    · exact ⟨1, _, rfl⟩
    · exact ⟨2, _, rfl⟩
    · exact ⟨3, _, rfl⟩
    · exact ⟨5, _, rfl⟩
    · exact ⟨6, _, rfl⟩
    · exact ⟨7, _, rfl⟩
    · exact ⟨8, _, rfl⟩
    · exact ⟨4, _, rfl⟩
  obtain ⟨t0, ty, ht0⟩ := ht0
  unfold ce at hg
  rw [hs, if_neg (by show ¬ ci < 100; omega)] at hg
  exact va_alen hx hb hK hP a t0 hg ht0 rfl hd k9
theorem x_iald {a n j : Nat} {i : Int32} (hs : kS K a = (100, n)) (ha : a < kN K) (hi : i = nI j) (hj : j < n ∧ n < 2147483648) (hd : decode cc pc = .ok (.iaload, 1)) (kk : X M cc bc bs I K (pc + 1) L (.int (I a j) :: st) Q Γ) : X M cc bc bs I K pc L (.int i :: .ref a :: st) Q Γ := by
  subst hi
  refine X.rd kk (fun _ h => by simp only [List.forall_mem_cons] at h; exact ⟨trivial, h.2.2⟩) fun cA ad => fun hx hb ho ht hK hP k9 => ?_
  refine va_iald hx hb hK hP a 0 (wl_get ha |>.trans (by rw [ce_ints hs (by decide) (by decide)])) rfl (vp_in_nI hj.1 hj.2) hd ?_
  rw [nI_clamp (by omega)]
  exact k9
theorem x_bald {a n j : Nat} {i : Int32} (hs : kS K a = (101, n)) (ha : a < kN K) (hi : i = nI j) (hj : j < n ∧ n < 2147483648) (hd : decode cc pc = .ok (.baload, 1)) (kk : X M cc bc bs I K (pc + 1) L (.int (I a j) :: st) Q Γ) : X M cc bc bs I K pc L (.int i :: .ref a :: st) Q Γ := by
  subst hi
  refine X.rd kk (fun _ h => by simp only [List.forall_mem_cons] at h; exact ⟨trivial, h.2.2⟩) fun cA ad => fun hx hb ho ht hK hP k9 => ?_
  refine va_bald hx hb hK hP a 1 (wl_get ha |>.trans (by rw [ce_ints hs (by decide) (by decide)])) rfl (vp_in_nI hj.1 hj.2) hd ?_
  rw [nI_clamp (by omega)]
  exact k9
theorem x_zald {a n j : Nat} {i : Int32} (hs : kS K a = (102, n)) (ha : a < kN K) (hi : i = nI j) (hj : j < n ∧ n < 2147483648) (hd : decode cc pc = .ok (.baload, 1)) (kk : X M cc bc bs I K (pc + 1) L (.int (I a j) :: st) Q Γ) : X M cc bc bs I K pc L (.int i :: .ref a :: st) Q Γ := by
  subst hi
  refine X.rd kk (fun _ h => by simp only [List.forall_mem_cons] at h; exact ⟨trivial, h.2.2⟩) fun cA ad => fun hx hb ho ht hK hP k9 => ?_
  refine va_zald hx hb hK hP a 2 (wl_get ha |>.trans (by rw [ce_ints hs (by decide) (by decide)])) rfl (vp_in_nI hj.1 hj.2) hd ?_
  rw [nI_clamp (by omega)]
  exact k9
theorem x_iast {a n j : Nat} {i x : Int32} (hs : kS K a = (100, n)) (ha : a < kN K) (hi : i = nI j) (hj : j < n ∧ n < 2147483648) (hd : decode cc pc = .ok (.iastore, 1)) (kk : X M cc bc bs (u2 I a j x) K (pc + 1) L st Q Γ) : X M cc bc bs I K pc L (.int x :: .int i :: .ref a :: st) Q Γ := by
  subst hi
  refine X.wr kk rfl (fun h _ => h) (fun h => by simp only [List.forall_mem_cons] at h; exact h.2.2.2) fun cA ad => fun hx hb ho ht _ hK hP hD hS k9 => ?_
  refine va_iast hx hb hK hP hD hS a 0 (wl_get ha |>.trans (by rw [ce_ints hs (by decide) (by decide)])) rfl (vp_in_nI hj.1 hj.2) hd fun H' locs' p1 p2 p3 => ?_
  rw [nI_clamp (by omega), show (wl cA ad I K).set a (ad a, Sum.inl (cA 100, n, .inl (upd (I a) j x))) = wl cA ad (u2 I a j x) K from wl_set rfl (by rw [ce_ints hs (by decide) (by decide), u2_upd]) (fun b hb9 => ce_congr rfl (u2_a hb9) rfl rfl rfl)] at p1 p2
  exact k9 H' locs' p1 p2 p3
theorem x_bast {a n j : Nat} {i x : Int32} (hs : kS K a = (101, n)) (ha : a < kN K) (hi : i = nI j) (hj : j < n ∧ n < 2147483648) (hd : decode cc pc = .ok (.bastore, 1)) (kk : X M cc bc bs (u2 I a j (vp_nar .byte x)) K (pc + 1) L st Q Γ) : X M cc bc bs I K pc L (.int x :: .int i :: .ref a :: st) Q Γ := by
  subst hi
  refine X.wr kk rfl (fun h _ => h) (fun h => by simp only [List.forall_mem_cons] at h; exact h.2.2.2) fun cA ad => fun hx hb ho ht _ hK hP hD hS k9 => ?_
  refine va_bast hx hb hK hP hD hS a 1 (wl_get ha |>.trans (by rw [ce_ints hs (by decide) (by decide)])) rfl (vp_in_nI hj.1 hj.2) hd fun H' locs' p1 p2 p3 => ?_
  rw [nI_clamp (by omega), show (wl cA ad I K).set a (ad a, Sum.inl (cA 101, n, .inl (upd (I a) j (vp_nar .byte x)))) = wl cA ad (u2 I a j (vp_nar .byte x)) K from wl_set rfl (by rw [ce_ints hs (by decide) (by decide), u2_upd]) (fun b hb9 => ce_congr rfl (u2_a hb9) rfl rfl rfl)] at p1 p2
  exact k9 H' locs' p1 p2 p3
theorem x_zast {a n j : Nat} {i x : Int32} (hs : kS K a = (102, n)) (ha : a < kN K) (hi : i = nI j) (hj : j < n ∧ n < 2147483648) (hd : decode cc pc = .ok (.bastore, 1)) (kk : X M cc bc bs (u2 I a j (vp_nar .boolean x)) K (pc + 1) L st Q Γ) : X M cc bc bs I K pc L (.int x :: .int i :: .ref a :: st) Q Γ := by
  subst hi
  refine X.wr kk rfl (fun h _ => h) (fun h => by simp only [List.forall_mem_cons] at h; exact h.2.2.2) fun cA ad => fun hx hb ho ht _ hK hP hD hS k9 => ?_
  refine va_zast hx hb hK hP hD hS a 2 (wl_get ha |>.trans (by rw [ce_ints hs (by decide) (by decide)])) rfl (vp_in_nI hj.1 hj.2) hd fun H' locs' p1 p2 p3 => ?_
  rw [nI_clamp (by omega), show (wl cA ad I K).set a (ad a, Sum.inl (cA 102, n, .inl (upd (I a) j (vp_nar .boolean x)))) = wl cA ad (u2 I a j (vp_nar .boolean x)) K from wl_set rfl (by rw [ce_ints hs (by decide) (by decide), u2_upd]) (fun b hb9 => ce_congr rfl (u2_a hb9) rfl rfl rfl)] at p1 p2
  exact k9 H' locs' p1 p2 p3
theorem x_aald {a n j r ci : Nat} {i : Int32} (hs : kS K a = (ci, n)) (hci : 104 < ci ∧ ci < 110) (ha : a < kN K) (hi : i = nI j) (hj : j < n ∧ n < 2147483648) (hr : kG K a j = some r) (hd : decode cc pc = .ok (.aaload, 1)) (kk : X M cc bc bs I K (pc + 1) L (.ref r :: st) Q Γ) : X M cc bc bs I K pc L (.int i :: .ref a :: st) Q Γ := by
  subst hi
  refine X.rd kk (fun hc h => by simp only [List.forall_mem_cons] at h; exact ⟨hc a j r hr, h.2.2⟩) fun cA ad => fun hx hb ho ht hK hP k9 => ?_
  have ht0 : ∃ (t0 : Nat) (C : String), (tys cA)[t0]? = some (cA ci, .object C) := by
    obtain ⟨h1, h2⟩ := hci
    rcases (show ci = 105 ∨ ci = 106 ∨ ci = 107 ∨ ci = 108 ∨ ci = 109 by omega) with rfl | rfl | rfl | rfl | rfl
    · exact ⟨5, _, rfl⟩
    · exact ⟨6, _, rfl⟩
    · exact ⟨7, _, rfl⟩
    · exact ⟨8, _, rfl⟩
    · exact ⟨4, _, rfl⟩
  obtain ⟨t0, C, ht0⟩ := ht0
  refine va_aldq hx hb hK hP a t0 (wl_get ha |>.trans (by rw [ce_refs hs hci.1])) ht0 (vp_in_nI hj.1 hj.2) hd ?_
  rw [nI_clamp (by omega), hr]
  exact k9
theorem x_aast {a n j v ci co : Nat} {i : Int32} (hs : kS K a = (ci, n)) (hco : ((ci = 105 ∧ co = 1) ∨ (ci = 106 ∧ co = 2)) ∨ ((ci = 107 ∧ co = 4) ∨ (ci = 108 ∧ co = 6))) (ha : a < kN K) (hv : (kS K v).1 = co) (hv2 : v < kN K) (hi : i = nI j) (hj : j < n ∧ n < 2147483648) (hd : decode cc pc = .ok (.aastore, 1)) (kk : X M cc bc bs I (kSetG K (u2 (kG K) a j (some v))) (pc + 1) L st Q Γ) : X M cc bc bs I K pc L (.ref v :: .int i :: .ref a :: st) Q Γ := by
  subst hi
  refine X.wr kk rfl (fun h hw b j9 q hq => ?_) (fun h => by simp only [List.forall_mem_cons] at h; exact h.2.2.2) fun cA ad => fun hx hb ho ht _ hK hP hD hS k9 => ?_
  · unfold kG kSetG u2 at hq
    dsimp only at hq
    split at hq
    · split at hq
      · cases hq; exact Or.inl hv2
      · exact h _ _ _ hq
    · exact h _ _ _ hq
  · have ht0 : ∃ (t0 : Nat) (r : vw_C), (tys cA)[t0]? = some (cA ci, .object r.1) ∧ cls[co]? = some r ∧ co < 13 ∧ 104 < ci := by
      rcases hco with (⟨rfl, rfl⟩ | ⟨rfl, rfl⟩) | ⟨rfl, rfl⟩ | ⟨rfl, rfl⟩
      · exact ⟨5, _, rfl, rfl, by decide, by decide⟩
      · exact ⟨6, _, rfl, rfl, by decide, by decide⟩
      · exact ⟨7, _, rfl, rfl, by decide, by decide⟩
      · exact ⟨8, _, rfl, rfl, by decide, by decide⟩
    obtain ⟨t0, r, ht0, hr, hlt, hgt⟩ := ht0
    refine va_astq hx hb hK hP hD hS a t0 v co (wl_get ha |>.trans (by rw [ce_refs hs hgt])) ht0 (wl_get hv2 |>.trans (by rw [ce_obj hv hlt])) hr (vp_in_nI hj.1 hj.2) hd fun H' locs' p1 p2 p3 => ?_
    rw [nI_clamp (by omega), show (wl cA ad I K).set a (ad a, Sum.inl (cA ci, n, .inr (.inr (.inr (.inr (va_up (fun j => (kG K a j).map ad) j (some (ad v)))))))) = wl cA ad I (kSetG K (u2 (kG K) a j (some v))) from wl_set rfl (by
      rw [ce_refs (K := kSetG K (u2 (kG K) a j (some v))) hs hgt, show va_up (fun j => (kG K a j).map ad) j (some (ad v)) = (fun j9 => (u2 (kG K) a j (some v) a j9).map ad) from by
        funext j9
        rw [u2_va]
        unfold va_up
        split <;> rfl]) (fun b hb9 => ce_congr rfl rfl (by exact u2_a hb9) rfl rfl)] at p1 p2
    exact k9 H' locs' p1 p2 p3
theorem x_lald {a n j : Nat} {i : Int32} (hs : kS K a = (103, n)) (ha : a < kN K) (hi : i = nI j) (hj : j < n ∧ n < 2147483648) (hd : decode cc pc = .ok (.laload, 1)) (kk : X M cc bc bs I K (pc + 1) L (.long (kJ K a j) :: st) Q Γ) : X M cc bc bs I K pc L (.int i :: .ref a :: st) Q Γ := by
  subst hi
  refine X.rd kk (fun _ h => by simp only [List.forall_mem_cons] at h; exact ⟨trivial, h.2.2⟩) fun cA ad => fun hx hb ho ht hK hP k9 => ?_
  refine va_lald hx hb hK hP a 3 (wl_get ha |>.trans (by rw [ce_longs hs])) rfl (vp_in_nI hj.1 hj.2) hd ?_
  rw [nI_clamp (by omega)]
  exact k9
theorem x_last {a n j : Nat} {i : Int32} {x : Int64} (hs : kS K a = (103, n)) (ha : a < kN K) (hi : i = nI j) (hj : j < n ∧ n < 2147483648) (hd : decode cc pc = .ok (.lastore, 1)) (kk : X M cc bc bs I (kSetJ K (u2 (kJ K) a j x)) (pc + 1) L st Q Γ) : X M cc bc bs I K pc L (.long x :: .int i :: .ref a :: st) Q Γ := by
  subst hi
  refine X.wr kk rfl (fun h _ => h) (fun h => by simp only [List.forall_mem_cons] at h; exact h.2.2.2) fun cA ad => fun hx hb ho ht _ hK hP hD hS k9 => ?_
  refine va_last hx hb hK hP hD hS a 3 (wl_get ha |>.trans (by rw [ce_longs hs])) rfl (vp_in_nI hj.1 hj.2) hd fun H' locs' p1 p2 p3 => ?_
  rw [nI_clamp (by omega), show (wl cA ad I K).set a (ad a, Sum.inl (cA 103, n, .inr (.inl (vp_updL (kJ K a) j x)))) = wl cA ad I (kSetJ K (u2 (kJ K) a j x)) from wl_set rfl (by
    rw [ce_longs (K := kSetJ K (u2 (kJ K) a j x)) hs, show vp_updL (kJ K a) j x = u2 (kJ K) a j x a from by funext j9; simp [vp_updL, u2]]) (fun b hb9 => ce_congr rfl rfl rfl (by exact u2_a hb9) rfl)] at p1 p2
  exact k9 H' locs' p1 p2 p3
end XH
