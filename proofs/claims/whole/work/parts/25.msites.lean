theorem pn_X3 : plainName RX3 = true := by decide +kernel
theorem pn_X4 : plainName RX4 = true := by decide +kernel
theorem pn_X5 : plainName RX5 = true := by decide +kernel
theorem pn_X6 : plainName RX6 = true := by decide +kernel
theorem pn_X7 : plainName RX7 = true := by decide +kernel
theorem pn_X8 : plainName RX8 = true := by decide +kernel
theorem pn_X9 : plainName RX9 = true := by decide +kernel
theorem pn_X10 : plainName RX10 = true := by decide +kernel
theorem ms_X10_363 : Ms RX10 363 Lib.Math.max.name Lib.Math.max.code 2 := ⟨(show Cond.methodLink RX10 363 Lib.Math.max.name ∈ wsG from inT9 183 rfl rfl), (show Cond.static Lib.Math.max.name ∈ wsG from inT4 80 rfl rfl), (show Cond.initialized "java/lang/Math" ∈ wsG from inT1 19 rfl rfl), (show Cond.code Lib.Math.max.name Lib.Math.max.code 2 (some .int) ∈ wsG from inT4 81 rfl rfl)⟩
theorem ms_X10_389 : Ms RX10 389 Lib.Math.min.name Lib.Math.min.code 2 := ⟨(show Cond.methodLink RX10 389 Lib.Math.min.name ∈ wsG from inT9 196 rfl rfl), (show Cond.static Lib.Math.min.name ∈ wsG from inT3 32 rfl rfl), (show Cond.initialized "java/lang/Math" ∈ wsG from inT1 19 rfl rfl), (show Cond.code Lib.Math.min.name Lib.Math.min.code 2 (some .int) ∈ wsG from inT3 33 rfl rfl)⟩
theorem ms_X10_450 : Ms RX10 450 Lib.Math.abs.name Lib.Math.abs.code 1 := ⟨(show Cond.methodLink RX10 450 Lib.Math.abs.name ∈ wsG from inT10 113 rfl rfl), (show Cond.static Lib.Math.abs.name ∈ wsG from inT5 57 rfl rfl), (show Cond.initialized "java/lang/Math" ∈ wsG from inT1 19 rfl rfl), (show Cond.code Lib.Math.abs.name Lib.Math.abs.code 1 (some .int) ∈ wsG from inT5 58 rfl rfl)⟩
