abbrev mJ5_ensureCapacityInternal_d00df (d : Nat) : MD := (yJ5_ensureCapacityInternal_d00df, 3, none, [], d)
abbrev mJ5_setLength_d00df (d : Nat) : MD := (yJ5_setLength_d00df, 2, none, [], d)
abbrev mJ5_append_3fe6f (d : Nat) : MD := (yJ5_append_3fe6f, 2, (some (.object "java/lang/AbstractStringBuilder")), [], d)
abbrev mJ5_append_c97b9 (d : Nat) : MD := (yJ5_append_c97b9, 4, (some (.object "java/lang/AbstractStringBuilder")), [], d)
abbrev mJ5_length_8abf5 (d : Nat) : MD := (yJ5_length_8abf5, 1, (some .int), [], d)
abbrev mJ5_newCapacity_0f7a4 (d : Nat) : MD := (yJ5_newCapacity_0f7a4, 6, (some .int), [], d)
abbrev mJ5_charAt_5068e (d : Nat) : MD := (yJ5_charAt_5068e, 5, (some .char), [], d)
abbrev mJ5_isLatin1_aae02 (d : Nat) : MD := (yJ5_isLatin1_aae02, 1, (some .boolean), [], d)
abbrev mJ6_getChars_ba4f3 (d : Nat) : MD := (yJ6_getChars_ba4f3, 7, (some .int), [], d)
abbrev mJ6_stringSize_0f7a4 (d : Nat) : MD := (yJ6_stringSize_0f7a4, 4, (some .int), [], d)
abbrev mJ1_canEncode_fc78d (d : Nat) : MD := (yJ1_canEncode_fc78d, 1, (some .boolean), [], d)
abbrev mJ8_newLength_cabcc (d : Nat) : MD := (yJ8_newLength_cabcc, 4, (some .int), [], d)
abbrev mJ7_copyOf_9075b (d : Nat) : MD := (yJ7_copyOf_9075b, 3, (some (.array .byte)), [], d)
theorem pn_J4 : plainName RJ4 = true := by decide +kernel
theorem pn_J5 : plainName RJ5 = true := by decide +kernel
theorem pn_J6 : plainName RJ6 = true := by decide +kernel
theorem pn_J7 : plainName RJ7 = true := by decide +kernel
theorem pn_J8 : plainName RJ8 = true := by decide +kernel
theorem pn_J2 : plainName RJ2 = true := by decide +kernel
theorem icJ4 : ∀ w ∈ u_ws RJ4 TJ4 4, w ∈ wsG := show ∀ w ∈ [u_lay RJ4 TJ4 0, u_lay RJ4 TJ4 1, u_lay RJ4 TJ4 2, u_lay RJ4 TJ4 3], w ∈ wsG from List.forall_mem_cons.mpr ⟨inT2 119 rfl rfl, List.forall_mem_cons.mpr ⟨inT2 121 rfl rfl, List.forall_mem_cons.mpr ⟨inT2 123 rfl rfl, List.forall_mem_cons.mpr ⟨inT2 125 rfl rfl, fun _ h => absurd h List.not_mem_nil⟩⟩⟩⟩
theorem fs_J5_15 : Fs RJ5 15 0 0 true false (.array .byte) := ⟨_, _, _, tyJ4, rfl, by decide, rfl, (show Cond.fieldLink RJ5 15 (TJ4 0).1 (TJ4 0).2.1 (TJ4 0).2.2.1 ∈ wsG from inT2 114 rfl rfl), icJ4, rfl, by decide +kernel, tyJ4_ok, nmJ4, (fun h => by cases h), rfl⟩
theorem fs_J5_22 : Fs RJ5 22 0 1 false false .byte := ⟨_, _, _, tyJ4, rfl, by decide, rfl, (show Cond.fieldLink RJ5 22 (TJ4 1).1 (TJ4 1).2.1 (TJ4 1).2.2.1 ∈ wsG from inT2 115 rfl rfl), icJ4, rfl, by decide +kernel, tyJ4_ok, nmJ4, (fun h => by cases h), rfl⟩
theorem cs_J5_104 (d : Nat) : CsVC RJ5 104 RJ4 (mJ5_newCapacity_0f7a4 d) cJ5_newCapacity_0f7a4 1 := ⟨inT6 193 rfl rfl, inT6 190 rfl rfl, inT6 192 rfl rfl, Or.inl (inX 1 rfl rfl), inT1 10 rfl rfl, (show noMH yJ5_newCapacity_0f7a4 1 from ⟨by decide +kernel, by decide +kernel, by decide +kernel⟩), inT11 151 rfl rfl, rfl⟩
theorem cs_J5_108 (d : Nat) : CsS RJ5 108 (mJ7_copyOf_9075b d) cJ7_copyOf_9075b 2 := ⟨inT6 205 rfl rfl, inT6 203 rfl rfl, inT6 204 rfl rfl, inT1 28 rfl rfl, (show noMH yJ7_copyOf_9075b 2 from ⟨by decide +kernel, by decide +kernel, by decide +kernel⟩)⟩
theorem cs_J5_100 (d : Nat) : CsVC RJ5 100 RJ4 (mJ5_ensureCapacityInternal_d00df d) cJ5_ensureCapacityInternal_d00df 1 := ⟨inT6 189 rfl rfl, inT6 186 rfl rfl, inT6 188 rfl rfl, Or.inl (inX 0 rfl rfl), inT1 10 rfl rfl, (show noMH yJ5_ensureCapacityInternal_d00df 1 from ⟨by decide +kernel, by decide +kernel, by decide +kernel⟩), inT11 150 rfl rfl, rfl⟩
theorem fs_J5_79 : Fs RJ5 79 0 3 false false .int := ⟨_, _, _, tyJ4, rfl, by decide, rfl, (show Cond.fieldLink RJ5 79 (TJ4 3).1 (TJ4 3).2.1 (TJ4 3).2.2.1 ∈ wsG from inT2 118 rfl rfl), icJ4, rfl, by decide +kernel, tyJ4_ok, nmJ4, (fun h => by cases h), rfl⟩
theorem cs_J5_83 (d : Nat) : CsVC RJ5 83 RJ4 (mJ5_isLatin1_aae02 d) cJ5_isLatin1_aae02 0 := ⟨inT6 221 rfl rfl, inT6 217 rfl rfl, inT6 218 rfl rfl, Or.inl (inT6 220 rfl rfl), inT1 10 rfl rfl, (show noMH yJ5_isLatin1_aae02 0 from ⟨by decide +kernel, by decide +kernel, by decide +kernel⟩), inT6 219 rfl rfl, rfl⟩
theorem fs_J5_73 : Fs RJ5 73 0 2 false false .boolean := ⟨_, _, _, tyJ4, rfl, by decide, rfl, (show Cond.fieldLink RJ5 73 (TJ4 2).1 (TJ4 2).2.1 (TJ4 2).2.2.1 ∈ wsG from inT2 116 rfl rfl), icJ4, rfl, by decide +kernel, tyJ4_ok, nmJ4, (fun h => by cases h), rfl⟩
theorem cs_J5_191 (d : Nat) : CsS RJ5 191 (mJ1_canEncode_fc78d d) cJ1_canEncode_fc78d 1 := ⟨inT7 179 rfl rfl, inT7 177 rfl rfl, inT7 178 rfl rfl, inT1 20 rfl rfl, (show noMH yJ1_canEncode_fc78d 1 from ⟨by decide +kernel, by decide +kernel, by decide +kernel⟩)⟩
theorem cs_J5_245 (d : Nat) : CsS RJ5 245 (mJ6_stringSize_0f7a4 d) cJ6_stringSize_0f7a4 1 := ⟨inT7 41 rfl rfl, inT7 39 rfl rfl, inT7 40 rfl rfl, inT1 30 rfl rfl, (show noMH yJ6_stringSize_0f7a4 1 from ⟨by decide +kernel, by decide +kernel, by decide +kernel⟩)⟩
theorem cs_J5_248 (d : Nat) : CsS RJ5 248 (mJ6_getChars_ba4f3 d) cJ6_getChars_ba4f3 3 := ⟨inT7 44 rfl rfl, inT7 42 rfl rfl, inT7 43 rfl rfl, inT1 30 rfl rfl, (show noMH yJ6_getChars_ba4f3 3 from ⟨by decide +kernel, by decide +kernel, by decide +kernel⟩)⟩
theorem cs_J4_50 (d : Nat) : CsSU RJ4 50 (mJ5_append_3fe6f d) cJ5_append_3fe6f 1 := ⟨inT7 176 rfl rfl, inT7 174 rfl rfl, inT11 157 rfl rfl, inT2 127 rfl rfl, inT7 175 rfl rfl, inT1 10 rfl rfl, ⟨(show yJ5_append_3fe6f.name ≠ "<init>" from by decide +kernel), (show (parseMethodDescriptor yJ5_append_3fe6f.desc).map (fun d => d.parameters.length) = some 1 from by decide +kernel)⟩, rfl⟩
theorem cs_J4_53 (d : Nat) : CsSU RJ4 53 (mJ5_append_c97b9 d) cJ5_append_c97b9 1 := ⟨inT7 38 rfl rfl, inT7 36 rfl rfl, inT11 155 rfl rfl, inT2 127 rfl rfl, inT7 37 rfl rfl, inT1 10 rfl rfl, ⟨(show yJ5_append_c97b9.name ≠ "<init>" from by decide +kernel), (show (parseMethodDescriptor yJ5_append_c97b9.desc).map (fun d => d.parameters.length) = some 1 from by decide +kernel)⟩, rfl⟩
theorem cs_J4_333 (d : Nat) : CsSU RJ4 333 (mJ5_setLength_d00df d) cJ5_setLength_d00df 1 := ⟨inT6 166 rfl rfl, inT6 164 rfl rfl, inT11 147 rfl rfl, inT2 127 rfl rfl, inT6 165 rfl rfl, inT1 10 rfl rfl, ⟨(show yJ5_setLength_d00df.name ≠ "<init>" from by decide +kernel), (show (parseMethodDescriptor yJ5_setLength_d00df.desc).map (fun d => d.parameters.length) = some 1 from by decide +kernel)⟩, rfl⟩
theorem cs_J5_114 (d : Nat) : CsS RJ5 114 (mJ8_newLength_cabcc d) cJ8_newLength_cabcc 3 := ⟨inT6 196 rfl rfl, inT6 194 rfl rfl, inT6 195 rfl rfl, inT1 27 rfl rfl, (show noMH yJ8_newLength_cabcc 3 from ⟨by decide +kernel, by decide +kernel, by decide +kernel⟩)⟩
theorem cs_J5_144 (d : Nat) : CsS RJ5 144 (mJ0_checkIndex_df160 d) cJ0_checkIndex_df160 2 := ⟨inT3 92 rfl rfl, inT7 211 rfl rfl, inT3 91 rfl rfl, inT1 12 rfl rfl, (show noMH yJ0_checkIndex_df160 2 from ⟨by decide +kernel, by decide +kernel, by decide +kernel⟩)⟩
theorem cs_J4_329 (d : Nat) : CsSU RJ4 329 (mJ5_charAt_5068e d) cJ5_charAt_5068e 1 := ⟨inT7 209 rfl rfl, inT7 207 rfl rfl, inT11 158 rfl rfl, inT2 127 rfl rfl, inT7 208 rfl rfl, inT1 10 rfl rfl, ⟨(show yJ5_charAt_5068e.name ≠ "<init>" from by decide +kernel), (show (parseMethodDescriptor yJ5_charAt_5068e.desc).map (fun d => d.parameters.length) = some 1 from by decide +kernel)⟩, rfl⟩
theorem cs_J4_343 (d : Nat) : CsSU RJ4 343 (mJ5_length_8abf5 d) cJ5_length_8abf5 0 := ⟨inT7 82 rfl rfl, inT7 81 rfl rfl, inT7 77 rfl rfl, inT2 127 rfl rfl, inT7 76 rfl rfl, inT1 10 rfl rfl, ⟨(show yJ5_length_8abf5.name ≠ "<init>" from by decide +kernel), (show (parseMethodDescriptor yJ5_length_8abf5.desc).map (fun d => d.parameters.length) = some 0 from by decide +kernel)⟩, rfl⟩
theorem ms_J5_138 : Ms RJ5 138 Lib.Math.min.name Lib.Math.min.code 2 := ⟨inT7 210 rfl rfl, inT3 32 rfl rfl, inT1 19 rfl rfl, inT3 33 rfl rfl⟩
theorem ms_J8_194 : Ms RJ8 194 Lib.Math.max.name Lib.Math.max.code 2 := ⟨inT6 197 rfl rfl, inT4 80 rfl rfl, inT1 19 rfl rfl, inT4 81 rfl rfl⟩
theorem ms_J7_304 : Ms RJ7 304 Lib.Math.min.name Lib.Math.min.code 2 := ⟨inT6 213 rfl rfl, inT3 32 rfl rfl, inT1 19 rfl rfl, inT3 33 rfl rfl⟩
