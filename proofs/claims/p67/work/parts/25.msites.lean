theorem pn_X3 : plainName RX3 = true := by decide +kernel
theorem pn_X4 : plainName RX4 = true := by decide +kernel
theorem pn_X5 : plainName RX5 = true := by decide +kernel
theorem pn_X6 : plainName RX6 = true := by decide +kernel
theorem pn_X7 : plainName RX7 = true := by decide +kernel
theorem pn_X8 : plainName RX8 = true := by decide +kernel
theorem pn_X9 : plainName RX9 = true := by decide +kernel
theorem ms_X3_174 : Ms RX3 174 Lib.Math.min.name Lib.Math.min.code 2 := ⟨(show Cond.methodLink RX3 174 Lib.Math.min.name ∈ wsG from inT4 6 rfl rfl), (show Cond.static Lib.Math.min.name ∈ wsG from inT3 1 rfl rfl), (show Cond.initialized "java/lang/Math" ∈ wsG from inT1 19 rfl rfl), (show Cond.code Lib.Math.min.name Lib.Math.min.code 2 (some .int) ∈ wsG from inT3 2 rfl rfl)⟩
theorem ms_X3_186 : Ms RX3 186 Lib.Math.max.name Lib.Math.max.code 2 := ⟨(show Cond.methodLink RX3 186 Lib.Math.max.name ∈ wsG from inT4 48 rfl rfl), (show Cond.static Lib.Math.max.name ∈ wsG from inT4 49 rfl rfl), (show Cond.initialized "java/lang/Math" ∈ wsG from inT1 19 rfl rfl), (show Cond.code Lib.Math.max.name Lib.Math.max.code 2 (some .int) ∈ wsG from inT4 50 rfl rfl)⟩
theorem ms_X7_28 : Ms RX7 28 Lib.Math.min.name Lib.Math.min.code 2 := ⟨(show Cond.methodLink RX7 28 Lib.Math.min.name ∈ wsG from inT3 0 rfl rfl), (show Cond.static Lib.Math.min.name ∈ wsG from inT3 1 rfl rfl), (show Cond.initialized "java/lang/Math" ∈ wsG from inT1 19 rfl rfl), (show Cond.code Lib.Math.min.name Lib.Math.min.code 2 (some .int) ∈ wsG from inT3 2 rfl rfl)⟩
theorem ms_X9_123 : Ms RX9 123 Lib.Math.abs.name Lib.Math.abs.code 1 := ⟨(show Cond.methodLink RX9 123 Lib.Math.abs.name ∈ wsG from inT4 230 rfl rfl), (show Cond.static Lib.Math.abs.name ∈ wsG from inT4 231 rfl rfl), (show Cond.initialized "java/lang/Math" ∈ wsG from inT1 19 rfl rfl), (show Cond.code Lib.Math.abs.name Lib.Math.abs.code 1 (some .int) ∈ wsG from inT4 232 rfl rfl)⟩
theorem ms_X9_352 : Ms RX9 352 Lib.Math.min.name Lib.Math.min.code 2 := ⟨(show Cond.methodLink RX9 352 Lib.Math.min.name ∈ wsG from inT5 143 rfl rfl), (show Cond.static Lib.Math.min.name ∈ wsG from inT3 1 rfl rfl), (show Cond.initialized "java/lang/Math" ∈ wsG from inT1 19 rfl rfl), (show Cond.code Lib.Math.min.name Lib.Math.min.code 2 (some .int) ∈ wsG from inT3 2 rfl rfl)⟩
