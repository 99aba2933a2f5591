section XQb
variable {Γ : (Nat → Nat) → (Nat → Prop) → State → Array Value → Prop} {M : MD} {cc : ByteArray} {bc bs : Nat} {I : Mem} {K : Kt} {pc : Nat} {L st : List Value} {Q : Rs → Mem → Kt → Prop}
/-- what 'throw new E("text")' rests on -/
def Ts (own E text : String) (ik is ic i : Nat) (names : List String) : Prop := Bundle.fit E = true ∧ (∀ n ∈ names, Bundle.fit n = true) ∧ Cond.classLink own ik E ∈ wsG ∧ Cond.initialized E ∈ wsG ∧ (own, is, text, i) ∈ strT ∧ (∀ w ∈ vx_atS own ic E names, w ∈ wsG ∨ w ∈ wsN) ∧ ∀ w ∈ Cond.classLink own ik E :: Cond.initialized E :: vx_atS own ic E names, vx_ot w = true
theorem va_P.grow {D : va_G} {ws : va_W} {H H1 : Heap} (h : va_P D cls ws H) (hq : ∀ q : Nat, q < H.size → H1[q]? = H[q]?) : va_P D cls ws H1 := fun k q hk => (h k q hk).kept (hq _ (vx_lt h hk))
theorem x_throw {E text : String} {ik is ic i : Nat} {names : List String} (S : Ts M.1.cls E text ik is ic i names) (hdep : names.length + 4 ≤ M.2.2.2.2 ∧ (st.map fun v => v.category).sum + (13 * (names.length + 1) + 43) ≤ 40 * M.2.2.2.2) (hh : ∀ x ∈ tableOf M.2.2.2.1, covers x (pc + 9) = false)
    (d0 : decode cc pc = .ok (.new ik, 3)) (d3 : decode cc (pc + 3) = .ok (.dup, 1)) (d4 : decode cc (pc + 4) = .ok (.ldc is, 2)) (d6 : decode cc (pc + 6) = .ok (.invokespecial ic, 3)) (d9 : decode cc (pc + 9) = .ok (.athrow, 1)) (hQ : Q (.inr E) I K) : X M cc (1 + bc) (6 + bs) I K pc L st Q Γ := by
  intro p l e s m args below meth c mc ms D cA A ad0 n0 hC hE hΓ ad H locs cells slots ls hR hc hs hL hvL hvS
  obtain ⟨S1, S2, S3, S4, S5, S6, S7⟩ := S
  have hts := hC.2.2.2.2.2.1
  have hls : ls.size = c.maxLocals := by obtain ⟨k0, lv, k1, -⟩ := hL; rw [hC.2.2.2.1]; exact k1.1
  have hcat : ((st.map (cv ad)).map fun v => v.category).sum = (st.map fun v => v.category).sum := by
    rw [List.map_map, show ((fun v : Value => v.category) ∘ cv ad) = (fun v => v.category) from funext fun v => cv_cat ad v]
  refine vx_throwS (A := A) hC.1 hC.2.1 hC.2.2.2.2.2.2.2.2.2 hC.2.2.2.2.1 S1 S2 (hts _ S3) (hts _ S4) (hE.str S5) (fun w hw => ?_) S7 hE.1.1.1 hE.1.1.2 hR.2.2.2.1 hls d0 d3 d4 d6 d9 (by rw [hC.2.2.2.2.2.2.2.2.1]; exact hh) (show names.length + 3 < M.2.2.2.2 by omega) (by rw [hcat]; exact (Nat.le_trans hdep.2 (Nat.le_add_right _ _))) (show cells + 1 ≤ mc by omega) (show slots + 6 ≤ ms by omega) hC.2.2.2.2.2.2.1 (fun t hW hz hq => ?_) hR.2.2.2.1.2.2 (by omega) (by omega)
  · rcases S6 w hw with h | h
    · exact hts _ h
    · have h9 := hE.2.1 _ h
      rcases wsN_cases h with ⟨a, b, c, d, rfl⟩ | ⟨a, b, c, d, e, f, rfl⟩ | ⟨a, b, rfl⟩ | ⟨C, rfl⟩ | ⟨x, rfl⟩
      · exact va_Nw.use rfl h9
      · exact va_Nw.use rfl h9
      · exact va_Nw.use rfl h9
      · exact va_AO.use h9
      · exact va_Nw.use rfl h9
  · obtain ⟨r1, r2, r3, r4, r5, r6, r7, r8⟩ := hR
    refine ⟨⟨ad, I, K, hQ, va_K.moved hW r1, r2.grow hq, r3, r6, r7, r8⟩, Nat.le_trans r4.1 hz, fun q h1 h2 => ?_⟩
    rw [hq q (Nat.lt_of_lt_of_le h1 r4.1), r4.2.1 q h1 h2]
end XQb
