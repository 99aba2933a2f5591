abbrev mJ0_coder_7d493 (d : Nat) : MD := (yJ0_coder_7d493, 1, (some .byte), [], d)
theorem cs_J0_335 (d : Nat) : CsV RJ0 335 (mJ0_coder_7d493 d) cJ0_coder_7d493 0 := ⟨(show Cond.code yJ0_coder_7d493 cJ0_coder_7d493 1 (some .byte) ∈ wsG from inT3 77 rfl rfl), (show Cond.methodLink RJ0 335 yJ0_coder_7d493 ∈ wsG from inT3 74 rfl rfl), (show Cond.instanceMethod yJ0_coder_7d493 ∈ wsG from inT3 75 rfl rfl), (show Cond.selects RJ0 yJ0_coder_7d493 yJ0_coder_7d493 ∈ wsG from inT3 76 rfl rfl), (show Cond.initialized RJ0 ∈ wsG from inT1 12 rfl rfl), (show noMH yJ0_coder_7d493 0 from ⟨by decide +kernel, by decide +kernel, by decide +kernel⟩)⟩
abbrev mJ0_isLatin1_aae02 (d : Nat) : MD := (yJ0_isLatin1_aae02, 1, (some .boolean), [], d)
theorem cs_J0_492 (d : Nat) : CsV RJ0 492 (mJ0_isLatin1_aae02 d) cJ0_isLatin1_aae02 0 := ⟨(show Cond.code yJ0_isLatin1_aae02 cJ0_isLatin1_aae02 1 (some .boolean) ∈ wsG from inT3 86 rfl rfl), (show Cond.methodLink RJ0 492 yJ0_isLatin1_aae02 ∈ wsG from inT3 83 rfl rfl), (show Cond.instanceMethod yJ0_isLatin1_aae02 ∈ wsG from inT3 84 rfl rfl), (show Cond.selects RJ0 yJ0_isLatin1_aae02 yJ0_isLatin1_aae02 ∈ wsG from inT3 85 rfl rfl), (show Cond.initialized RJ0 ∈ wsG from inT1 12 rfl rfl), (show noMH yJ0_isLatin1_aae02 0 from ⟨by decide +kernel, by decide +kernel, by decide +kernel⟩)⟩
abbrev mJ1_charAt_3b067 (d : Nat) : MD := (yJ1_charAt_3b067, 2, (some .char), [], d)
theorem cs_J0_495 (d : Nat) : CsS RJ0 495 (mJ1_charAt_3b067 d) cJ1_charAt_3b067 2 := ⟨(show Cond.code yJ1_charAt_3b067 cJ1_charAt_3b067 2 (some .char) ∈ wsG from inT3 89 rfl rfl), (show Cond.methodLink RJ0 495 yJ1_charAt_3b067 ∈ wsG from inT3 87 rfl rfl), (show Cond.static yJ1_charAt_3b067 ∈ wsG from inT3 88 rfl rfl), (show Cond.initialized RJ1 ∈ wsG from inT1 20 rfl rfl), (show noMH yJ1_charAt_3b067 2 from ⟨by decide +kernel, by decide +kernel, by decide +kernel⟩)⟩
abbrev mJ2_charAt_3b067 (d : Nat) : MD := (yJ2_charAt_3b067, 2, (some .char), [], d)
theorem cs_J0_498 (d : Nat) : CsS RJ0 498 (mJ2_charAt_3b067 d) cJ2_charAt_3b067 2 := ⟨(show Cond.code yJ2_charAt_3b067 cJ2_charAt_3b067 2 (some .char) ∈ wsG from inT3 100 rfl rfl), (show Cond.methodLink RJ0 498 yJ2_charAt_3b067 ∈ wsG from inT3 98 rfl rfl), (show Cond.static yJ2_charAt_3b067 ∈ wsG from inT3 99 rfl rfl), (show Cond.initialized RJ2 ∈ wsG from inT1 13 rfl rfl), (show noMH yJ2_charAt_3b067 2 from ⟨by decide +kernel, by decide +kernel, by decide +kernel⟩)⟩
abbrev mJ0_checkIndex_df160 (d : Nat) : MD := (yJ0_checkIndex_df160, 2, none, [], d)
abbrev mJ3_checkIndex_8e157 (d : Nat) : MD := (yJ3_checkIndex_8e157, 3, (some .int), [], d)
theorem cs_J0_1059 (d : Nat) : CsS RJ0 1059 (mJ3_checkIndex_8e157 d) cJ3_checkIndex_8e157 3 := ⟨(show Cond.code yJ3_checkIndex_8e157 cJ3_checkIndex_8e157 3 (some .int) ∈ wsG from inT3 97 rfl rfl), (show Cond.methodLink RJ0 1059 yJ3_checkIndex_8e157 ∈ wsG from inT3 95 rfl rfl), (show Cond.static yJ3_checkIndex_8e157 ∈ wsG from inT3 96 rfl rfl), (show Cond.initialized RJ3 ∈ wsG from inT1 21 rfl rfl), (show noMH yJ3_checkIndex_8e157 3 from ⟨by decide +kernel, by decide +kernel, by decide +kernel⟩)⟩
theorem cs_J1_9 (d : Nat) : CsS RJ1 9 (mJ0_checkIndex_df160 d) cJ0_checkIndex_df160 2 := ⟨(show Cond.code yJ0_checkIndex_df160 cJ0_checkIndex_df160 2 none ∈ wsG from inT3 92 rfl rfl), (show Cond.methodLink RJ1 9 yJ0_checkIndex_df160 ∈ wsG from inT3 90 rfl rfl), (show Cond.static yJ0_checkIndex_df160 ∈ wsG from inT3 91 rfl rfl), (show Cond.initialized RJ0 ∈ wsG from inT1 12 rfl rfl), (show noMH yJ0_checkIndex_df160 2 from ⟨by decide +kernel, by decide +kernel, by decide +kernel⟩)⟩
theorem pn_J0 : plainName RJ0 = true := by decide +kernel
theorem pn_J1 : plainName RJ1 = true := by decide +kernel
theorem pn_J3 : plainName RJ3 = true := by decide +kernel
def cN (ty : FieldType) (v : Int32) : Option Unit := if vp_nar ty v = v then some () else none
theorem cN_s {ty : FieldType} {v : Int32} {u : Unit} (e : narrow ty (.int v) = .int (vp_nar ty v)) (h : cN ty v = some u) : narrow ty (.int v) = .int v := by
  unfold cN at h
  split at h
  · next h9 => exact e.trans (congrArg Value.int h9)
  · cases h
