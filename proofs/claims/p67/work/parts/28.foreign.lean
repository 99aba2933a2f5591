section XFo
variable {Γ : (Nat → Nat) → (Nat → Prop) → State → Array Value → Prop} {M : MD} {cc : ByteArray} {bc bs : Nat} {I : Mem} {K : Kt} {pc : Nat} {L st : List Value} {Q : Rs → Mem → Kt → Prop}
theorem x_callF {ix n : Nat} {M' : MD} {cc' : ByteArray} {As rest : List Value} {i bc' bs' : Nat} {Q' : Rs → Mem → Kt → Prop} (S : CsV M.1.cls ix M' cc' n) (hcl : M'.1.cls = RJ0) (hi : i < 42) (hn : As.length = n) (hst : st = As.reverse ++ .ref (xE (100 + i)) :: rest) (hW : (rest.map fun v => v.category).sum ≤ 8) (hdep : M'.2.2.2.2 + 1 ≤ M.2.2.2.2 ∧ 8 + (M'.2.1 + 11) + 40 * M'.2.2.2.2 ≤ 40 * M.2.2.2.2) (hd : decode cc pc = .ok (.invokevirtual ix, 3))
    (hcon : Ct M' cc' bc' bs' (.ref (xE (100 + i)) :: As) I K Q') (kk : ∀ r I' K', kN K ≤ kN K' → Q' (.inl r) I' K' → X M cc bc bs I' K' (pc + 3) L (r.toList ++ rest) Q Γ) (kx : ∀ E I' K', kN K ≤ kN K' → Q' (.inr E) I' K' → XT M cc bc bs I' K' pc E L Q Γ) : X M cc (bc' + bc) (bs' + bs) I K pc L st Q Γ := by
  subst hst
  refine x_run (rest := rest) (fun h v hv => h v (by simp [hv])) ?_ kk kx
  intro p l e s m args below meth c mc ms D cA A ad0 n0 hC hE hΓ ad H locs cells slots ls hR hc hs hL hvS
  obtain ⟨S1, S2, S3, S4, S5, S6⟩ := S
  have hM := hcon hR.2.2.2.2.2.1 (fun v hv => hvS v (by simp only [List.mem_cons] at hv; rcases hv with rfl | hv <;> simp [*])) l hC.2.2.2.2.2.2.2.2.2 D cA ad H.size
  have hF : CallFix p m c cc M.2.1 s args wsG M.1.cls := ⟨hC.1, hC.2.1, hC.2.2.2.1, hC.2.2.2.2.1, hC.2.2.2.2.2.1⟩
  have hG : GoodIn wsG (wsV M.1.cls ix M'.1.cls M'.1 (wsM M' cc')) := wsG_in (fun w h => h) (fun w h => by
    simp only [wsV, List.cons_append, List.nil_append, List.mem_cons] at h
    rcases h with rfl | rfl | rfl | rfl | rfl | h <;> assumption)
  have hrc : ∃ cell : Cell, H[ad (xE (100 + i))]? = some cell ∧ cell.vm.isStatics = false ∧ s.vm.findClass M'.1.cls = some cell.cls := by
    rw [hR.2.2.2.2.2.2.2 _ (Or.inr (xE_ge _)), hcl]
    have h9 := vk_recv (i := i) hE.1.2.2.2.1.2.2 hi hR.2.2.2.1
    exact h9
  have hp : PreV s H M'.1.cls (ad (xE (100 + i))) (va_Pc ((Value.ref (xE (100 + i)) :: As).map (cv ad)) (Pz D cA ad H.size I K)) (As.map (cv ad)) := ⟨Pz.blind, hrc, fun U hU hW => ⟨rfl, Pz.at hE hR hU hW⟩⟩
  have hst9 : (F0 m pc ls ((As.reverse ++ .ref (xE (100 + i)) :: rest).map (cv ad))).stack = (As.map (cv ad)).reverse ++ .ref (ad (xE (100 + i))) :: rest.map (cv ad) := by
    show (As.reverse ++ .ref (xE (100 + i)) :: rest).map (cv ad) = _
    rw [List.map_append, List.map_reverse]; rfl
  have hW9 : 2 * (F0 m pc ls ((As.reverse ++ .ref (xE (100 + i)) :: rest).map (cv ad))).monitorRoom + ((rest.map (cv ad)).map fun v => v.category).sum ≤ 8 := by
    rw [List.map_map, show ((fun v : Value => v.category) ∘ cv ad) = (fun v => v.category) from funext fun v => cv_cat ad v]
    show 2 * 0 + _ ≤ 8
    omega
  refine ⟨(Value.ref (ad (xE (100 + i))) :: As.map (cv ad)).toArray, ?_⟩
  rcases hh : M'.2.2.2.1 with _ | ⟨h0, hr⟩
  · have hw : wsM M' cc' = Cond.code M'.1 cc' M'.2.1 M'.2.2.1 :: wsG := by show wdM M' cc' :: wsG = _; unfold wdM; rw [hh]
    exact vx_runV hF hM (cwV n hC.2.2.2.2.2.1 hG hw rfl rfl ⟨rfl, S6.1, S6.2.1, S6.2.2⟩ (dep40 hdep)) hp rfl (by rw [List.length_map]; exact hn) (by obtain ⟨k0, lv, k1, -⟩ := hL; exact k1.1) hst9 hW9 hd ⟨hc, hs⟩
  · have hw : wsM M' cc' = Cond.codeWith M'.1 cc' M'.2.1 M'.2.2.1 (h0 :: hr) :: wsG := by show wdM M' cc' :: wsG = _; unfold wdM; rw [hh]
    exact vx_runVX hF hM (vx_cwVW n hC.2.2.2.2.2.1 hG hw rfl rfl ⟨rfl, S6.1, S6.2.1, S6.2.2⟩ (dep40 hdep)) hp rfl (by rw [List.length_map]; exact hn) (by obtain ⟨k0, lv, k1, -⟩ := hL; exact k1.1) hst9 hW9 hd ⟨hc, hs⟩

theorem z_F1 {ix n : Nat} {M' : MD} {cc' : ByteArray} (As rest : List Value) {i : Nat} {w : Value} {I1 : Mem} {K1 : Kt} (S : CsV M.1.cls ix M' cc' n) (hcl : M'.1.cls = RJ0) (hi : i < 42) (hdep : M'.2.2.2.2 + 1 ≤ M.2.2.2.2 ∧ 8 + (M'.2.1 + 11) + 40 * M'.2.2.2.2 ≤ 40 * M.2.2.2.2) (hd : decode cc pc = .ok (.invokevirtual ix, 3)) (hn : As.length = n) (hst : st = As.reverse ++ .ref (xE (100 + i)) :: rest) (hW : (rest.map fun v => v.category).sum ≤ 8)
    (hcon : Ct M' cc' 0 0 (.ref (xE (100 + i)) :: As) I K (Ro (.inl (some w)) I1 K1)) (k9 : X M cc bc bs I1 K1 (pc + 3) L (w :: rest) Q Γ) : X M cc bc bs I K pc L st Q Γ :=
  (x_callF S hcl hi hn hst hW hdep hd hcon (fun r I' K' _ h => by obtain ⟨e, rfl, rfl⟩ := h; cases e; exact k9) (fun E I' K' _ h => by cases h.1)).less le0 le0
def ckS (i : Nat) : Option Unit := if i < 42 then some () else none
theorem ckS_s {i : Nat} {u : Unit} (h : ckS i = some u) : i < 42 := by
  unfold ckS at h
  split at h
  · assumption
  · cases h
theorem x_fgV {ix i : Nat} {u : Unit} (hi : ckS i = some u) (hl : Cond.fieldLink M.1.cls ix RJ0 "value" "[B" ∈ wsG) (hd : decode cc pc = .ok (.getfield ix, 3)) (kk : X M cc bc bs I K (pc + 3) L (.ref (xE (200 + i)) :: st) Q Γ) : X M cc bc bs I K pc L (.ref (xE (100 + i)) :: st) Q Γ := by
  refine X.fo kk (fun n => Or.inr (xE_ge _)) (fun n h => (List.forall_mem_cons.mp h).2) fun ad ad0 => fun hx hb ho ht hE hS ha k9 => ?_
  have h9 := (hE.1.2.2.2.1.2.2.1 i (ckS_s hi)).2.2.1
  have e1 : ad (xE (100 + i)) = ad0 (xE (100 + i)) := ha (100 + i)
  have e2 : ad (xE (200 + i)) = ad0 (xE (200 + i)) := ha (200 + i)
  show W _ _ _ _ _ _ _ _ _ _ _ _ _ _ _ (F0 _ pc _ (.ref (ad (xE (100 + i))) :: _))
  rw [e1]
  refine vk_getf hx hb h9 hS ho (ht _ hl) (fun _ h => h) hd ?_
  dsimp only
  rw [← e2]
  exact k9
theorem x_fgC {ix i : Nat} {u : Unit} (hi : ckS i = some u) (hl : Cond.fieldLink M.1.cls ix RJ0 "coder" "B" ∈ wsG) (hd : decode cc pc = .ok (.getfield ix, 3)) (kk : X M cc bc bs I K (pc + 3) L (.int 0 :: st) Q Γ) : X M cc bc bs I K pc L (.ref (xE (100 + i)) :: st) Q Γ := by
  refine X.fo kk (fun n => trivial) (fun n h => (List.forall_mem_cons.mp h).2) fun ad ad0 => fun hx hb ho ht hE hS ha k9 => ?_
  have h9 := (hE.1.2.2.2.1.2.2.1 i (ckS_s hi)).2.1
  have e1 : ad (xE (100 + i)) = ad0 (xE (100 + i)) := ha (100 + i)
  show W _ _ _ _ _ _ _ _ _ _ _ _ _ _ _ (F0 _ pc _ (.ref (ad (xE (100 + i))) :: _))
  rw [e1]
  exact vk_getf hx hb h9 hS ho (ht _ hl) (fun _ h => h) hd k9
theorem x_flen {i : Nat} {u : Unit} (hi : ckS i = some u) (hd : decode cc pc = .ok (.arraylength, 1)) (kk : X M cc bc bs I K (pc + 1) L (.int (nI (lenT.getD i 0)) :: st) Q Γ) : X M cc bc bs I K pc L (.ref (xE (200 + i)) :: st) Q Γ := by
  refine X.fo kk (fun n => trivial) (fun n h => (List.forall_mem_cons.mp h).2) fun ad ad0 => fun hx hb ho ht hE hS ha k9 => ?_
  have h9 := (hE.1.2.2.2.1.2.2.1 i (ckS_s hi)).2.2.2
  have e2 : ad (xE (200 + i)) = ad0 (xE (200 + i)) := ha (200 + i)
  show W _ _ _ _ _ _ _ _ _ _ _ _ _ _ _ (F0 _ pc _ (.ref (ad (xE (200 + i))) :: _))
  rw [e2]
  exact va_tlen hx hb h9 hS rfl hd k9
theorem x_fbald {i j : Nat} {x : Int32} {u : Unit} (hi : ckS i = some u) (hj : ix x (lenT.getD i 0) = some j) (hd : decode cc pc = .ok (.baload, 1)) (kk : X M cc bc bs I K (pc + 1) L (.int ((bytT.getD i []).getD j 0) :: st) Q Γ) : X M cc bc bs I K pc L (.int x :: .ref (xE (200 + i)) :: st) Q Γ := by
  obtain ⟨rfl, h1, h2⟩ := ix_s hj
  refine X.fo kk (fun n => trivial) (fun n h => (List.forall_mem_cons.mp (List.forall_mem_cons.mp h).2).2) fun ad ad0 => fun hx hb ho ht hE hS ha k9 => ?_
  have h9 := (hE.1.2.2.2.1.2.2.1 i (ckS_s hi)).2.2.2
  have e2 : ad (xE (200 + i)) = ad0 (xE (200 + i)) := ha (200 + i)
  show W _ _ _ _ _ _ _ _ _ _ _ _ _ _ _ (F0 _ pc _ (.int (nI j) :: .ref (ad (xE (200 + i))) :: _))
  rw [e2]
  exact va_tb hx hb h9 hS (vp_in_nI h1 h2) (by show Value.int ((bytT.getD i []).getD (nI j).toNatClampNeg 0) = _; rw [nI_clamp (by omega)]; rfl) hd k9
theorem x_gsC {ix : Nat} (hl : Cond.fieldLink M.1.cls ix RJ0 "COMPACT_STRINGS" "Z" ∈ wsG) (hd : decode cc pc = .ok (.getstatic ix, 3)) (kk : X M cc bc bs I K (pc + 3) L (.int 1 :: st) Q Γ) : X M cc bc bs I K pc L st Q Γ := by
  refine X.fo kk (fun n => trivial) (fun n h => h) fun ad ad0 => fun hx hb ho ht hE hS ha k9 => ?_
  exact va_gets hx hb hE.1.2.2.2.2.1.1 hS ho (ht _ hl) (fun _ h => h) hd k9
def oV (v : Value) : Prop := v = .null ∨ v = .ref (xE 42)
theorem catO {v : Value} (ho : oV v) {l : List Value} (h : ∀ v ∈ l, v.category = 1) : ∀ w ∈ v :: l, w.category = 1 := List.forall_mem_cons.mpr ⟨by rcases ho with rfl | rfl <;> rfl, h⟩
theorem x_gsF {ix : Nat} (hl : Cond.fieldLink M.1.cls ix "jdk/internal/util/Preconditions" "SIOOBE_FORMATTER" "Ljava/util/function/BiFunction;" ∈ wsG) (hd : decode cc pc = .ok (.getstatic ix, 3)) (kk : ∀ v, oV v → X M cc bc bs I K (pc + 3) L (v :: st) Q Γ) : X M cc bc bs I K pc L st Q Γ := by
  intro p l e s m args below meth c mc ms D cA A ad0 n0 hC hE hΓ ad H locs cells slots ls hR hc hs hL hvL hvS
  obtain ⟨v, hv, hZ⟩ := hE.1.2.2.2.2.1.2
  have e2 : ad (xE 42) = ad0 (xE 42) := hR.2.2.2.2.2.2.2 _ (Or.inr (xE_ge _))
  refine va_gets hC.1 hC.2.1 hZ hR.2.2.2.1 hC.2.2.2.2.1 (hC.2.2.2.2.2.1 _ hl) (fun _ h => h) hd ?_
  rcases hv with rfl | rfl
  · exact kk .null (Or.inl rfl) p l e s m args below meth c mc ms D cA A ad0 n0 hC hE hΓ ad H locs cells slots ls hR hc hs hL hvL (List.forall_mem_cons.mpr ⟨trivial, hvS⟩)
  · have h9 := kk (.ref (xE 42)) (Or.inr rfl) p l e s m args below meth c mc ms D cA A ad0 n0 hC hE hΓ ad H locs cells slots ls hR hc hs hL hvL (List.forall_mem_cons.mpr ⟨Or.inr (xE_ge _), hvS⟩)
    dsimp only
    rw [← e2]
    exact h9
end XFo
