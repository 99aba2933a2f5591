/-! floats, the enum of the items, the switch, calls of inherited methods -/
section XMo
variable {Γ : (Nat → Nat) → (Nat → Prop) → State → Array Value → Prop} {M : MD} {cc : ByteArray} {bc bs : Nat} {I : Mem} {K : Kt} {pc : Nat} {L st : List Value} {Q : Rs → Mem → Kt → Prop}
theorem x_dconst0 (hd : decode cc pc = .ok (.dconst 0, 1)) (k : X M cc bc bs I K (pc + 1) L (.double FP.dconst0 :: st) Q Γ) : X M cc bc bs I K pc L st Q Γ :=
  k.sk (fun n h _ => List.forall_mem_cons.mpr ⟨trivial, h⟩) fun hx hb _ _ _ k => lv_dconst0 hx hb hd k
theorem x_fconst0 (hd : decode cc pc = .ok (.fconst 0, 1)) (k : X M cc bc bs I K (pc + 1) L (.float FP.fconst0 :: st) Q Γ) : X M cc bc bs I K pc L st Q Γ :=
  k.sk (fun n h _ => List.forall_mem_cons.mpr ⟨trivial, h⟩) fun hx hb _ _ _ k => lv_fconst0 hx hb hd k
noncomputable def cN64 (x : UInt64) : Option Unit := @ite _ (vf_n64 x) (Classical.propDecidable _) (some ()) none
theorem cN64_s {x : UInt64} {u : Unit} (h : cN64 x = some u) : vf_n64 x := by
  unfold cN64 at h
  split at h
  · assumption
  · cases h
theorem cN64_so {x : UInt64} (h : vf_n64 x) : cN64 x = some () := if_pos h
noncomputable def cN32 (x : UInt32) : Option Unit := @ite _ (vf_n32 x) (Classical.propDecidable _) (some ()) none
theorem cN32_s {x : UInt32} {u : Unit} (h : cN32 x = some u) : vf_n32 x := by
  unfold cN32 at h
  split at h
  · assumption
  · cases h
theorem cN32_so {x : UInt32} (h : vf_n32 x) : cN32 x = some () := if_pos h
/-- a switch -/
theorem x_tabIn {dflt lo hi : Int} {offs : Array Int} {len : Nat} {x : Int32} (off : Int) (tgt : Nat) (hd : decode cc pc = .ok (.tableswitch dflt lo hi offs, len)) (h1 : ¬ x.toInt < lo) (h2 : ¬ hi < x.toInt) (ho : offs[(x.toInt - lo).toNat]? = some off) (ht : (pc : Int) + off = (tgt : Int)) (k : X M cc bc bs I K tgt L st Q Γ) : X M cc bc bs I K pc L (.int x :: st) Q Γ :=
  k.sk (fun n h _ => (List.forall_mem_cons.mp h).2) fun hx hb _ _ _ k => lv_tableIn hx hb hd h1 h2 ho ht k
theorem x_tabOut {dflt lo hi : Int} {offs : Array Int} {len : Nat} {x : Int32} (tgt : Nat) (hd : decode cc pc = .ok (.tableswitch dflt lo hi offs, len)) (h1 : x.toInt < lo ∨ hi < x.toInt) (ht : (pc : Int) + dflt = (tgt : Int)) (k : X M cc bc bs I K tgt L st Q Γ) : X M cc bc bs I K pc L (.int x :: st) Q Γ :=
  k.sk (fun n h _ => (List.forall_mem_cons.mp h).2) fun hx hb _ _ _ k => lv_tableOut hx hb hd h1 ht k
/-- the items: their array, each by its number, its word, its ordinal, and the switch's table -/
theorem x_gsItems {ix : Nat} {host : String} (hl : Cond.fieldLinkNest M.1.cls ix RX9 "ITEMS" "[LWishMarket$Item;" host ∈ wsN) (hd : decode cc pc = .ok (.getstatic ix, 3)) (kk : X M cc bc bs I K (pc + 3) L (.ref (xE 30) :: st) Q Γ) : X M cc bc bs I K pc L st Q Γ := by
  refine X.fo kk (fun n => Or.inr (xE_ge _)) (fun n h => h) fun ad ad0 => fun hx hb ho ht hE hS ha k9 => ?_
  refine va_getsN hx hb hE.1.2.2.1.2.1 hS ho (va_Nw.use rfl (hE.2.1 _ hl)) (fun _ h => h) hd ?_
  have e2 : ad (xE 30) = ad0 (xE 30) := ha 30
  dsimp only
  rw [← e2]
  exact k9
theorem x_itLen (hd : decode cc pc = .ok (.arraylength, 1)) (kk : X M cc bc bs I K (pc + 1) L (.int 19 :: st) Q Γ) : X M cc bc bs I K pc L (.ref (xE 30) :: st) Q Γ := by
  refine X.fo kk (fun n => trivial) (fun n h => (List.forall_mem_cons.mp h).2) fun ad ad0 => fun hx hb ho ht hE hS ha k9 => ?_
  have e2 : ad (xE 30) = ad0 (xE 30) := ha 30
  show W _ _ _ _ _ _ _ _ _ _ _ _ _ _ _ (F0 _ pc _ (.ref (ad (xE 30)) :: _))
  rw [e2]
  exact va_tlen hx hb hE.1.2.2.1.2.2 hS rfl hd k9
theorem x_itAt {j : Nat} {x : Int32} (hj : ix x 19 = some j) (hd : decode cc pc = .ok (.aaload, 1)) (kk : X M cc bc bs I K (pc + 1) L (.ref (xE (10 + j)) :: st) Q Γ) : X M cc bc bs I K pc L (.int x :: .ref (xE 30) :: st) Q Γ := by
  obtain ⟨rfl, h1, h2⟩ := ix_s hj
  refine X.fo kk (fun n => Or.inr (xE_ge _)) (fun n h => (List.forall_mem_cons.mp (List.forall_mem_cons.mp h).2).2) fun ad ad0 => fun hx hb ho ht hE hS ha k9 => ?_
  have e2 : ad (xE 30) = ad0 (xE 30) := ha 30
  have e3 : ad (xE (10 + j)) = ad0 (xE (10 + j)) := ha (10 + j)
  show W _ _ _ _ _ _ _ _ _ _ _ _ _ _ _ (F0 _ pc _ (.int (nI j) :: .ref (ad (xE 30)) :: _))
  rw [e2]
  refine vb_tq hx hb hE.1.2.2.1.2.2 hS (vp_in_nI h1 h2) (v := .ref (ad (xE (10 + j)))) ?_ hd k9
  rw [e3, nI_clamp (by omega)]
theorem x_itNo {ix : Nat} (i : Nat) (hi : i < 19) (hl : Cond.fieldLink M.1.cls ix RX1 (itN.getD i "") "LWishMarket$Item;" ∈ wsG) (hd : decode cc pc = .ok (.getstatic ix, 3)) (kk : X M cc bc bs I K (pc + 3) L (.ref (xE (10 + i)) :: st) Q Γ) : X M cc bc bs I K pc L st Q Γ := by
  refine X.fo kk (fun n => Or.inr (xE_ge _)) (fun n h => h) fun ad ad0 => fun hx hb ho ht hE hS ha k9 => ?_
  refine va_gets hx hb (hE.1.2.1.2.1 i hi).1 hS ho (ht _ hl) (fun _ h => h) hd ?_
  have e2 : ad (xE (10 + i)) = ad0 (xE (10 + i)) := ha (10 + i)
  dsimp only
  rw [← e2]
  exact k9
theorem x_itWord {ix i : Nat} (hi : i < 19) (hl : Cond.fieldLink M.1.cls ix RX1 "word" "Ljava/lang/String;" ∈ wsG) (hd : decode cc pc = .ok (.getfield ix, 3)) (kk : X M cc bc bs I K (pc + 3) L (.ref (xE (100 + i)) :: st) Q Γ) : X M cc bc bs I K pc L (.ref (xE (10 + i)) :: st) Q Γ := by
  refine X.fo kk (fun n => Or.inr (xE_ge _)) (fun n h => (List.forall_mem_cons.mp h).2) fun ad ad0 => fun hx hb ho ht hE hS ha k9 => ?_
  have e1 : ad (xE (10 + i)) = ad0 (xE (10 + i)) := ha (10 + i)
  have e2 : ad (xE (100 + i)) = ad0 (xE (100 + i)) := ha (100 + i)
  show W _ _ _ _ _ _ _ _ _ _ _ _ _ _ _ (F0 _ pc _ (.ref (ad (xE (10 + i))) :: _))
  rw [e1]
  refine vk_getf hx hb (hE.1.2.2.1.1 i hi) hS ho (ht _ hl) (fun _ h => h) hd ?_
  dsimp only
  rw [← e2]
  exact k9
theorem x_itOrd {ix i : Nat} (hi : i < 19) (hl : Cond.fieldLink M.1.cls ix "java/lang/Enum" "ordinal" "I" ∈ wsG) (hd : decode cc pc = .ok (.getfield ix, 3)) (kk : X M cc bc bs I K (pc + 3) L (.int (nI i) :: st) Q Γ) : X M cc bc bs I K pc L (.ref (xE (10 + i)) :: st) Q Γ := by
  refine X.fo kk (fun n => trivial) (fun n h => (List.forall_mem_cons.mp h).2) fun ad ad0 => fun hx hb ho ht hE hS ha k9 => ?_
  have e1 : ad (xE (10 + i)) = ad0 (xE (10 + i)) := ha (10 + i)
  show W _ _ _ _ _ _ _ _ _ _ _ _ _ _ _ (F0 _ pc _ (.ref (ad (xE (10 + i))) :: _))
  rw [e1]
  have h9 := (hE.1.2.1.2.1 i hi).2.2 _ List.mem_cons_self
  refine vk_getf hx hb h9 hS ho (ht _ hl) (fun _ h => h) hd ?_
  have e4 : ([0, 1, 2, 3, 4, 5, 6, 7, 8, 9, 10, 11, 12, 13, 14, 15, 16, 17, 18] : List Int32).getD i 0 = nI i := by
    have : ∀ i, i < 19 → ([0, 1, 2, 3, 4, 5, 6, 7, 8, 9, 10, 11, 12, 13, 14, 15, 16, 17, 18] : List Int32).getD i 0 = nI i := by decide +kernel
    exact this i hi
  rw [e4]
  exact k9
theorem x_gsSw {ix : Nat} (hl : Cond.fieldLink M.1.cls ix RX0 "$SwitchMap$WishMarket$Item" "[I" ∈ wsG) (hd : decode cc pc = .ok (.getstatic ix, 3)) (kk : X M cc bc bs I K (pc + 3) L (.ref (xE 31) :: st) Q Γ) : X M cc bc bs I K pc L st Q Γ := by
  refine X.fo kk (fun n => Or.inr (xE_ge _)) (fun n h => h) fun ad ad0 => fun hx hb ho ht hE hS ha k9 => ?_
  refine va_gets hx hb hE.1.2.2.2.1.1 hS ho (ht _ hl) (fun _ h => h) hd ?_
  have e2 : ad (xE 31) = ad0 (xE 31) := ha 31
  dsimp only
  rw [← e2]
  exact k9
theorem x_swAt {j : Nat} {x : Int32} (hj : ix x 19 = some j) (hd : decode cc pc = .ok (.iaload, 1)) (kk : X M cc bc bs I K (pc + 1) L (.int (if j < 18 then nI (j + 1) else 0) :: st) Q Γ) : X M cc bc bs I K pc L (.int x :: .ref (xE 31) :: st) Q Γ := by
  obtain ⟨rfl, h1, h2⟩ := ix_s hj
  refine X.fo kk (fun n => trivial) (fun n h => (List.forall_mem_cons.mp (List.forall_mem_cons.mp h).2).2) fun ad ad0 => fun hx hb ho ht hE hS ha k9 => ?_
  have e2 : ad (xE 31) = ad0 (xE 31) := ha 31
  show W _ _ _ _ _ _ _ _ _ _ _ _ _ _ _ (F0 _ pc _ (.int (nI j) :: .ref (ad (xE 31)) :: _))
  rw [e2]
  exact va_ti hx hb hE.1.2.2.2.1.2.1 hS (vp_in_nI h1 h2) (by show swT (nI j).toNatClampNeg = _; rw [nI_clamp (by omega)]; rfl) hd k9
/-- a contract that never throws -/
theorem vx_Met.met {l : Launch} {y : MethodName} {ws : List Cond} {rm : Room} {Pc : Array Value → State → Prop} {Qc : Array Value → State → Outcome → State → Prop} {XC : String → State → State → Prop} {mc ms : Nat} {free : Addr → Prop} (h : vx_Met l y ws rm Pc Qc XC mc ms free) (hx : ∀ E s t, ¬ XC E s t) : Met l y ws rm Pc Qc mc ms free := by
  intro p e ha hc hk s m args below hf happ hP hT
  obtain ⟨k, o, h1, h2, h3, h4⟩ := h p e ha hc hk s m args below hf happ hP hT
  refine ⟨k, o, h1, h2, h3, ?_⟩
  rcases h4 with h4 | ⟨q, -, h4⟩
  · exact h4
  · obtain ⟨E, _, _, h5, _⟩ := h4
    exact absurd h5 (hx _ _ _)
end XMo
