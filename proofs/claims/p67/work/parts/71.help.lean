/-! rules for the rest of the decompiler: tables' words by their place, the ordinal, a throw that is caught -/
theorem inTb1 {w : Cond} (i : Nat) (h : tables_1_1[i]? = some w) : w ∈ lw_tbl := by
  have h : w ∈ tables_1_1 := List.mem_of_getElem? h
  exact List.mem_append_right _ (show w ∈ tables_1 from List.mem_append_left _ h)
theorem inTb2 {w : Cond} (i : Nat) (h : tables_1_2[i]? = some w) : w ∈ lw_tbl := by
  have h : w ∈ tables_1_2 := List.mem_of_getElem? h
  exact List.mem_append_right _ (show w ∈ tables_1 from List.mem_append_right _ (List.mem_append_left _ h))
theorem inTb3 {w : Cond} (i : Nat) (h : tables_1_3[i]? = some w) : w ∈ lw_tbl := by
  have h : w ∈ tables_1_3 := List.mem_of_getElem? h
  exact List.mem_append_right _ (show w ∈ tables_1 from List.mem_append_right _ (List.mem_append_right _ (List.mem_append_left _ h)))
theorem inTb4 {w : Cond} (i : Nat) (h : tables_1_4[i]? = some w) : w ∈ lw_tbl := by
  have h : w ∈ tables_1_4 := List.mem_of_getElem? h
  exact List.mem_append_right _ (show w ∈ tables_1 from List.mem_append_right _ (List.mem_append_right _ (List.mem_append_right _ (List.mem_append_left _ h))))
theorem inTb5 {w : Cond} (i : Nat) (h : tables_1_5[i]? = some w) : w ∈ lw_tbl := by
  have h : w ∈ tables_1_5 := List.mem_of_getElem? h
  exact List.mem_append_right _ (show w ∈ tables_1 from List.mem_append_right _ (List.mem_append_right _ (List.mem_append_right _ (List.mem_append_right _ (List.mem_append_left _ h)))))
theorem inTb6 {w : Cond} (i : Nat) (h : tables_1_6[i]? = some w) : w ∈ lw_tbl := by
  have h : w ∈ tables_1_6 := List.mem_of_getElem? h
  exact List.mem_append_right _ (show w ∈ tables_1 from List.mem_append_right _ (List.mem_append_right _ (List.mem_append_right _ (List.mem_append_right _ (List.mem_append_right _ (List.mem_append_left _ h))))))
theorem inTb7 {w : Cond} (i : Nat) (h : tables_1_7[i]? = some w) : w ∈ lw_tbl := by
  have h : w ∈ tables_1_7 := List.mem_of_getElem? h
  exact List.mem_append_right _ (show w ∈ tables_1 from List.mem_append_right _ (List.mem_append_right _ (List.mem_append_right _ (List.mem_append_right _ (List.mem_append_right _ (List.mem_append_right _ (List.mem_append_left _ h)))))))
theorem inTb8 {w : Cond} (i : Nat) (h : tables_1_8[i]? = some w) : w ∈ lw_tbl := by
  have h : w ∈ tables_1_8 := List.mem_of_getElem? h
  exact List.mem_append_right _ (show w ∈ tables_1 from List.mem_append_right _ (List.mem_append_right _ (List.mem_append_right _ (List.mem_append_right _ (List.mem_append_right _ (List.mem_append_right _ (List.mem_append_right _ (List.mem_append_left _ h))))))))
theorem inTb9 {w : Cond} (i : Nat) (h : tables_1_9[i]? = some w) : w ∈ lw_tbl := by
  have h : w ∈ tables_1_9 := List.mem_of_getElem? h
  exact List.mem_append_right _ (show w ∈ tables_1 from List.mem_append_right _ (List.mem_append_right _ (List.mem_append_right _ (List.mem_append_right _ (List.mem_append_right _ (List.mem_append_right _ (List.mem_append_right _ (List.mem_append_right _ (h)))))))))
theorem castIAE : Cond.castable "java/lang/IllegalArgumentException" "java/lang/IllegalArgumentException" ∈ lw_tbl := inTb3 91 rfl
theorem castIOB : Cond.castable "java/lang/IndexOutOfBoundsException" "java/lang/IndexOutOfBoundsException" ∈ lw_tbl := inTb2 166 rfl
theorem castISE : Cond.castable "java/lang/IllegalStateException" "java/lang/IllegalStateException" ∈ lw_tbl := inTb4 199 rfl
def ckI (k : Nat) : Option Unit := if k < 19 then some () else none
theorem ckI_s {k : Nat} {u : Unit} (h : ckI k = some u) : k < 19 := by
  unfold ckI at h
  split at h
  · assumption
  · cases h
theorem ckI_n {k : Nat} (h : k < 19) : ckI k = some () := if_pos h
def cEx {δ : Type} (E : String) (o : Option δ) : Option δ := if E = "java/lang/IllegalArgumentException" then o else none
theorem cEx_s {δ : Type} {E : String} {o : Option δ} {r : δ} (h : cEx E o = some r) : E = "java/lang/IllegalArgumentException" ∧ o = some r := by
  unfold cEx at h
  split at h
  · exact ⟨by assumption, h⟩
  · cases h
theorem LW.kk {K : Kt} {w k : Nat} (h : LW K w) : LW (kk K (w + 1 + 1) k) w :=
  ⟨⟨⟨h.o, (kk_a (by omega)).trans h.g0⟩, ⟨(kk_a (by omega)).trans h.g1, (kk_a (by omega)).trans h.g2, (kk_a (by omega)).trans h.g3⟩, (kk_a (by omega)).trans h.g4, (kk_a (by omega)).trans h.g5, (kk_a (by omega)).trans h.g6⟩, ⟨⟨h.r.kk, h.q.kk (by omega)⟩, h.f.kk (by omega), h.l3, h.l4, h.l5⟩, fun i hi => ⟨(kk_a (by omega)).trans (h.h hi), (h.hq hi).kk (by omega)⟩, fun i hi => ⟨(kk_a (by omega)).trans (h.v hi), (h.vq hi).kk (by omega)⟩⟩
abbrev mJx29ce0_ordinal_8abf5 (d : Nat) : MD := (yJx29ce0_ordinal_8abf5, 1, (some .int), [], d)
section XOr
variable {Γ : (Nat → Nat) → (Nat → Prop) → State → Array Value → Prop} {M : MD} {cc : ByteArray} {bc bs : Nat} {I : Mem} {K : Kt} {pc : Nat} {L st : List Value} {Q : Rs → Mem → Kt → Prop}
theorem z_Vx {ix n : Nat} {M' : MD} {cc' : ByteArray} (As rest : List Value) {b ci : Nat} {T : u_T} {N : Nat} {E : String} {I1 : Mem} {K1 : Kt} (S : CsV M.1.cls ix M' cc' n) (hci : cls[ci]? = some (M'.1.cls, T, N)) (H : LO K ci b) (hdep : M'.2.2.2.2 + 1 ≤ M.2.2.2.2 ∧ 8 + (M'.2.1 + 11) + 40 * M'.2.2.2.2 ≤ 40 * M.2.2.2.2) (hd : decode cc pc = .ok (.invokevirtual ix, 3)) (hn : As.length = n) (hst : st = As.reverse ++ .ref b :: rest) (hW : (rest.map fun v => v.category).sum ≤ 8)
    (hcon : Ct M' cc' 1 6 (.ref b :: As) I K (Ro (.inr E) I1 K1)) (hx : XT M cc 0 0 I1 K1 pc E L Q Γ) : X M cc 1 6 I K pc L st Q Γ := y_callVe (bc := 0) (bs := 0) S hci H.1 H.2 hn hst hW hdep hd hcon hx
/-- a call that has its price -/
theorem z_V1c {ix n : Nat} {M' : MD} {cc' : ByteArray} (As rest : List Value) {b ci : Nat} {T : u_T} {N a6 b6 : Nat} {w : Value} {I1 : Mem} {K1 : Kt} (S : CsV M.1.cls ix M' cc' n) (hci : cls[ci]? = some (M'.1.cls, T, N)) (H : LO K ci b) (hdep : M'.2.2.2.2 + 1 ≤ M.2.2.2.2 ∧ 8 + (M'.2.1 + 11) + 40 * M'.2.2.2.2 ≤ 40 * M.2.2.2.2) (hd : decode cc pc = .ok (.invokevirtual ix, 3)) (hn : As.length = n) (hst : st = As.reverse ++ .ref b :: rest) (hW : (rest.map fun v => v.category).sum ≤ 8)
    (hcon : Ct M' cc' a6 b6 (.ref b :: As) I K (Ro (.inl (some w)) I1 K1)) (k9 : X M cc bc bs I1 K1 (pc + 3) L (w :: rest) Q Γ) : X M cc (a6 + bc) (b6 + bs) I K pc L st Q Γ := y_callV1 S hci H.1 H.2 hn hst hW hdep hd hcon k9
theorem c_ord (d : Nat) {i : Nat} (hi : i < 19) : Ct (mJx29ce0_ordinal_8abf5 d) cJx29ce0_ordinal_8abf5 0 0 [.ref (xE (10 + i))] I K (Ro (.inl (some (.int (nI i)))) I K) := by
  refine Ct.of rfl (show plainName RJx29ce0 = true by decide +kernel) (catR cat0) (Nat.le_of_ble_eq_true rfl) (show X _ _ _ _ _ _ 0 [.ref (xE (10 + i))] [] _ from ?_)
  refine x_aloadn dJx29ce0_ordinal_8abf5_0 rfl ?_
  refine x_itOrd hi (show Cond.fieldLink RJx29ce0 7 "java/lang/Enum" "ordinal" "I" ∈ wsG from inT9 40 rfl rfl) dJx29ce0_ordinal_8abf5_1 ?_
  exact x_iret rfl dJx29ce0_ordinal_8abf5_4 ⟨rfl, rfl, rfl⟩
theorem cs_ord : CsU RX5 121 RX1 ⟨RX1, "ordinal", "()I"⟩ (mJx29ce0_ordinal_8abf5 0) cJx29ce0_ordinal_8abf5 0 := ⟨inT3 146 rfl rfl, inT3 141 rfl rfl, inT3 142 rfl rfl, inT3 144 rfl rfl, inT3 145 rfl rfl, inT1 4 rfl rfl, rfl, ⟨by decide +kernel, by decide +kernel, by decide +kernel⟩, rfl⟩
theorem z_ord {i : Nat} (hM : M.1.cls = RX5) (hi : i < 19) (hdep : 1 ≤ M.2.2.2.2) (hW : (st.map fun v => v.category).sum ≤ 8) (hd : decode cc pc = .ok (.invokevirtual 121, 3)) (k9 : X M cc bc bs I K (pc + 3) L (.int (nI i) :: st) Q Γ) : X M cc bc bs I K pc L (.ref (xE (10 + i)) :: st) Q Γ := by
  have S : CsU M.1.cls 121 RX1 ⟨RX1, "ordinal", "()I"⟩ (mJx29ce0_ordinal_8abf5 0) cJx29ce0_ordinal_8abf5 0 := by rw [hM]; exact cs_ord
  exact (x_callO (bc' := 0) (bs' := 0) S hi hW ⟨by show 0 + 1 ≤ _; omega, by show 8 + (1 + 11) + 40 * 0 ≤ _; omega⟩ hd (c_ord 0 hi) (fun E I' K' h => by cases h.1) (fun r I' K' _ h => by obtain ⟨e, rfl, rfl⟩ := h; cases e; exact k9)).less le0 le0
end XOr
theorem ts_X9_58_60_62 : Ts RX9 "java/lang/IndexOutOfBoundsException" "the buffer holds no such number of bytes" 58 60 62 42 tsN := ⟨by decide +kernel, by decide +kernel, (show Cond.classLink RX9 58 "java/lang/IndexOutOfBoundsException" ∈ wsG from inT2 164 rfl rfl), (show Cond.initialized "java/lang/IndexOutOfBoundsException" ∈ wsG from inT1 33 rfl rfl), by decide +kernel, tsB_of (by decide +kernel), by decide +kernel⟩
theorem ts_X9_69_71_73 : Ts RX9 "java/lang/IllegalArgumentException" "the setup is invalid" 69 71 73 44 tsN := ⟨by decide +kernel, by decide +kernel, (show Cond.classLink RX9 69 "java/lang/IllegalArgumentException" ∈ wsG from inT4 170 rfl rfl), (show Cond.initialized "java/lang/IllegalArgumentException" ∈ wsG from inT1 32 rfl rfl), by decide +kernel, tsB_of (by decide +kernel), by decide +kernel⟩
