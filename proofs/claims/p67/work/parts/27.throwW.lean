section XQc
variable {Γ : (Nat → Nat) → (Nat → Prop) → State → Array Value → Prop} {M : MD} {cc : ByteArray} {bc bs : Nat} {I : Mem} {K : Kt} {pc : Nat} {L st : List Value} {Q : Rs → Mem → Kt → Prop}
theorem x_throwW {E text : String} {ik is ic i : Nat} {names : List String} (S : Ts M.1.cls E text ik is ic i names) (hdep : names.length + 4 ≤ M.2.2.2.2 ∧ (st.map fun v => v.category).sum + (13 * (names.length + 1) + 43) ≤ 40 * M.2.2.2.2) (hh : ∀ x ∈ tableOf M.2.2.2.1, covers x (pc + 10) = false)
    (d0 : decode cc pc = .ok (.new ik, 3)) (d3 : decode cc (pc + 3) = .ok (.dup, 1)) (d4 : decode cc (pc + 4) = .ok (.ldc_w is, 3)) (d6 : decode cc (pc + 7) = .ok (.invokespecial ic, 3)) (d9 : decode cc (pc + 10) = .ok (.athrow, 1)) (hQ : Q (.inr E) I K) : X M cc (1 + bc) (6 + bs) I K pc L st Q Γ := by
  intro p l e s m args below meth c mc ms D cA A ad0 n0 hC hE hΓ ad H locs cells slots ls hR hc hs hL hvL hvS
  obtain ⟨S1, S2, S3, S4, S5, S6, S7⟩ := S
  have hts := hC.2.2.2.2.2.1
  have hls : ls.size = c.maxLocals := by obtain ⟨k0, lv, k1, -⟩ := hL; rw [hC.2.2.2.1]; exact k1.1
  have hcat : ((st.map (cv ad)).map fun v => v.category).sum = (st.map fun v => v.category).sum := by
    rw [List.map_map, show ((fun v : Value => v.category) ∘ cv ad) = (fun v => v.category) from funext fun v => cv_cat ad v]
  refine vx_throwSW (A := A) hC.1 hC.2.1 hC.2.2.2.2.2.2.2.2.2 hC.2.2.2.2.1 S1 S2 (hts _ S3) (hts _ S4) (hE.str S5) (fun w hw => ?_) S7 hE.1.1.1 hE.1.1.2 hR.2.2.2.1 hls d0 d3 d4 d6 d9 (by rw [hC.2.2.2.2.2.2.2.2.1]; exact hh) (show names.length + 3 < M.2.2.2.2 by omega) (by rw [hcat]; exact (Nat.le_trans hdep.2 (Nat.le_add_right _ _))) (show cells + 1 ≤ mc by omega) (show slots + 6 ≤ ms by omega) hC.2.2.2.2.2.2.1 (fun t hW hz hq => ?_) hR.2.2.2.1.2.2 (by omega) (by omega)
  · rcases S6 w hw with h | h
    · exact hts _ h
    · have h9 := hE.2.1 _ h
      rcases wsN_cases h with ⟨a, b, c, d, rfl⟩ | ⟨a, b, c, d, e, f, rfl⟩ | ⟨a, b, rfl⟩ | ⟨C, rfl⟩ | ⟨x, rfl⟩
      · exact va_Nw.use rfl h9
      · exact va_Nw.use rfl h9
      · exact va_Nw.use rfl h9
      · exact va_AO.use h9
      · exact va_Nw.use rfl h9
  · obtain ⟨r1, r2, r3, r4, r5, r6, r7, r8⟩ := hR
    refine ⟨⟨ad, I, K, hQ, va_K.moved hW r1, r2.grow hq, r3, r6, r7, r8⟩, Nat.le_trans r4.1 hz, fun q h1 h2 => ?_⟩
    rw [hq q (Nat.lt_of_lt_of_le h1 r4.1), r4.2.1 q h1 h2]
theorem z_throwW {E text : String} {ik is ic i : Nat} {names : List String} (S : Ts M.1.cls E text ik is ic i names) (hdep : names.length + 4 ≤ M.2.2.2.2 ∧ (st.map fun v => v.category).sum + (13 * (names.length + 1) + 43) ≤ 40 * M.2.2.2.2) (hh : tableOf M.2.2.2.1 = [])
    (d0 : decode cc pc = .ok (.new ik, 3)) (d3 : decode cc (pc + 3) = .ok (.dup, 1)) (d4 : decode cc (pc + 4) = .ok (.ldc_w is, 3)) (d6 : decode cc (pc + 7) = .ok (.invokespecial ic, 3)) (d9 : decode cc (pc + 10) = .ok (.athrow, 1)) : X M cc 1 6 I K pc L st (Ro (.inr E) I K) Γ :=
  x_throwW (bc := 0) (bs := 0) S hdep (by rw [hh]; exact fun x hx => by cases hx) d0 d3 d4 d6 d9 ⟨rfl, rfl, rfl⟩
end XQc
def tsB (l : List Cond) : Bool := l.all fun w => lw_tbl.elem w && goodWord w || decide (w ∈ wsN)
theorem tsB_of {l : List Cond} (h : tsB l = true) : ∀ w ∈ l, w ∈ wsG ∨ w ∈ wsN := by
  intro w hw
  have h1 := List.all_eq_true.mp h w hw
  rcases Bool.or_eq_true_iff.mp h1 with h2 | h2
  · have h3 := Bool.and_eq_true_iff.mp h2
    exact Or.inl (List.mem_filter.mpr ⟨List.mem_append_left _ (List.elem_iff.mp h3.1), h3.2⟩)
  · exact Or.inr (of_decide_eq_true h2)
abbrev tsN : List String := ["java/lang/RuntimeException", "java/lang/Exception"]
theorem ts_X9_69_348_73 : Ts RX9 "java/lang/IllegalArgumentException" "a number is out of range" 69 348 73 47 tsN := ⟨by decide +kernel, by decide +kernel, (show Cond.classLink RX9 69 "java/lang/IllegalArgumentException" ∈ wsG from inT4 170 rfl rfl), (show Cond.initialized "java/lang/IllegalArgumentException" ∈ wsG from inT1 32 rfl rfl), by decide +kernel, tsB_of (by decide +kernel), by decide +kernel⟩
theorem ts_X9_69_350_73 : Ts RX9 "java/lang/IllegalArgumentException" "there is an obstacle" 69 350 73 48 tsN := ⟨by decide +kernel, by decide +kernel, (show Cond.classLink RX9 69 "java/lang/IllegalArgumentException" ∈ wsG from inT4 170 rfl rfl), (show Cond.initialized "java/lang/IllegalArgumentException" ∈ wsG from inT1 32 rfl rfl), by decide +kernel, tsB_of (by decide +kernel), by decide +kernel⟩
theorem ts_X9_326_338_330 : Ts RX9 "java/lang/IllegalStateException" "no state is saved in the slot" 326 338 330 49 tsN := ⟨by decide +kernel, by decide +kernel, (show Cond.classLink RX9 326 "java/lang/IllegalStateException" ∈ wsG from inT4 197 rfl rfl), (show Cond.initialized "java/lang/IllegalStateException" ∈ wsG from inT1 36 rfl rfl), by decide +kernel, tsB_of (by decide +kernel), by decide +kernel⟩
theorem ts_X9_326_340_330 : Ts RX9 "java/lang/IllegalStateException" "no setup has been loaded" 326 340 330 45 tsN := ⟨by decide +kernel, by decide +kernel, (show Cond.classLink RX9 326 "java/lang/IllegalStateException" ∈ wsG from inT4 197 rfl rfl), (show Cond.initialized "java/lang/IllegalStateException" ∈ wsG from inT1 36 rfl rfl), by decide +kernel, tsB_of (by decide +kernel), by decide +kernel⟩
theorem ts_X9_58_342_62 : Ts RX9 "java/lang/IndexOutOfBoundsException" "there is no such index" 58 342 62 46 tsN := ⟨by decide +kernel, by decide +kernel, (show Cond.classLink RX9 58 "java/lang/IndexOutOfBoundsException" ∈ wsG from inT2 164 rfl rfl), (show Cond.initialized "java/lang/IndexOutOfBoundsException" ∈ wsG from inT1 33 rfl rfl), by decide +kernel, tsB_of (by decide +kernel), by decide +kernel⟩
theorem ts_X5_60_65_67 : Ts RX5 "java/lang/IllegalArgumentException" "an error of the setup" 60 65 67 43 tsN := ⟨by decide +kernel, by decide +kernel, (show Cond.classLink RX5 60 "java/lang/IllegalArgumentException" ∈ wsG from inT2 235 rfl rfl), (show Cond.initialized "java/lang/IllegalArgumentException" ∈ wsG from inT1 32 rfl rfl), by decide +kernel, tsB_of (by decide +kernel), by decide +kernel⟩
