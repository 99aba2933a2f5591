/-! the law, case by case -/
theorem cs_L_202 (d : Nat) : CsV RL 202 (mX9_append d) cX9_append 5 := ⟨(show Cond.code yX9_append cX9_append 7 (some .int) ∈ wsG from inT2 163 rfl rfl), (show Cond.methodLink RL 202 yX9_append ∈ wsG from inT2 160 rfl rfl), (show Cond.instanceMethod yX9_append ∈ wsG from inT2 161 rfl rfl), (show Cond.selects RX9 yX9_append yX9_append ∈ wsG from inT2 162 rfl rfl), (show Cond.initialized RX9 ∈ wsG from inT1 1 rfl rfl), (show noMH yX9_append 5 from ⟨by decide +kernel, by decide +kernel, by decide +kernel⟩)⟩
theorem cs_L_206 (d : Nat) : CsV RL 206 (mX10_append d) cX10_append 5 := ⟨(show Cond.code yX10_append cX10_append 6 (some .int) ∈ wsG from inT8 135 rfl rfl), (show Cond.methodLink RL 206 yX10_append ∈ wsG from inT8 132 rfl rfl), (show Cond.instanceMethod yX10_append ∈ wsG from inT8 133 rfl rfl), (show Cond.selects RX10 yX10_append yX10_append ∈ wsG from inT8 134 rfl rfl), (show Cond.initialized RX10 ∈ wsG from inT1 14 rfl rfl), (show noMH yX10_append 5 from ⟨by decide +kernel, by decide +kernel, by decide +kernel⟩)⟩
theorem cs_L_207 (d : Nat) : CsS RL 207 (mL_parseSetup d) cL_parseSetup 3 := ⟨(show Cond.codeWith yL_parseSetup cL_parseSetup 4 (some .int) [(0, 9, 12, 13), (0, 9, 15, 15)] ∈ wsG from inT2 186 rfl rfl), (show Cond.methodLink RL 207 yL_parseSetup ∈ wsG from inT2 184 rfl rfl), (show Cond.static yL_parseSetup ∈ wsG from inT2 185 rfl rfl), (show Cond.initialized RL ∈ wsG from inT1 0 rfl rfl), (show noMH yL_parseSetup 3 from ⟨by decide +kernel, by decide +kernel, by decide +kernel⟩)⟩
theorem cs_L_212 (d : Nat) : CsV RL 212 (mX10_parseSetup d) cX10_parseSetup 1 := ⟨(show Cond.code yX10_parseSetup cX10_parseSetup 3 (some .int) ∈ wsG from inT8 159 rfl rfl), (show Cond.methodLink RL 212 yX10_parseSetup ∈ wsG from inT8 156 rfl rfl), (show Cond.instanceMethod yX10_parseSetup ∈ wsG from inT8 157 rfl rfl), (show Cond.selects RX10 yX10_parseSetup yX10_parseSetup ∈ wsG from inT8 158 rfl rfl), (show Cond.initialized RX10 ∈ wsG from inT1 14 rfl rfl), (show noMH yX10_parseSetup 1 from ⟨by decide +kernel, by decide +kernel, by decide +kernel⟩)⟩
theorem cs_L_213 (d : Nat) : CsV RL 213 (mX10_thrown d) cX10_thrown 0 := ⟨(show Cond.code yX10_thrown cX10_thrown 1 (some .int) ∈ wsG from inT8 131 rfl rfl), (show Cond.methodLink RL 213 yX10_thrown ∈ wsG from inT8 128 rfl rfl), (show Cond.instanceMethod yX10_thrown ∈ wsG from inT8 129 rfl rfl), (show Cond.selects RX10 yX10_thrown yX10_thrown ∈ wsG from inT8 130 rfl rfl), (show Cond.initialized RX10 ∈ wsG from inT1 14 rfl rfl), (show noMH yX10_thrown 0 from ⟨by decide +kernel, by decide +kernel, by decide +kernel⟩)⟩
theorem cs_L_216 (d : Nat) : CsV RL 216 (mX9_parseErrorCode d) cX9_parseErrorCode 0 := ⟨(show Cond.code yX9_parseErrorCode cX9_parseErrorCode 1 (some .int) ∈ wsG from inT2 171 rfl rfl), (show Cond.methodLink RL 216 yX9_parseErrorCode ∈ wsG from inT2 168 rfl rfl), (show Cond.instanceMethod yX9_parseErrorCode ∈ wsG from inT2 169 rfl rfl), (show Cond.selects RX9 yX9_parseErrorCode yX9_parseErrorCode ∈ wsG from inT2 170 rfl rfl), (show Cond.initialized RX9 ∈ wsG from inT1 1 rfl rfl), (show noMH yX9_parseErrorCode 0 from ⟨by decide +kernel, by decide +kernel, by decide +kernel⟩)⟩
theorem cs_L_219 (d : Nat) : CsV RL 219 (mX10_parseErrorCode d) cX10_parseErrorCode 0 := ⟨(show Cond.code yX10_parseErrorCode cX10_parseErrorCode 1 (some .int) ∈ wsG from inT8 143 rfl rfl), (show Cond.methodLink RL 219 yX10_parseErrorCode ∈ wsG from inT8 140 rfl rfl), (show Cond.instanceMethod yX10_parseErrorCode ∈ wsG from inT8 141 rfl rfl), (show Cond.selects RX10 yX10_parseErrorCode yX10_parseErrorCode ∈ wsG from inT8 142 rfl rfl), (show Cond.initialized RX10 ∈ wsG from inT1 14 rfl rfl), (show noMH yX10_parseErrorCode 0 from ⟨by decide +kernel, by decide +kernel, by decide +kernel⟩)⟩
theorem cs_L_220 (d : Nat) : CsV RL 220 (mX9_parseErrorPosition d) cX9_parseErrorPosition 0 := ⟨(show Cond.code yX9_parseErrorPosition cX9_parseErrorPosition 1 (some .int) ∈ wsG from inT2 175 rfl rfl), (show Cond.methodLink RL 220 yX9_parseErrorPosition ∈ wsG from inT2 172 rfl rfl), (show Cond.instanceMethod yX9_parseErrorPosition ∈ wsG from inT2 173 rfl rfl), (show Cond.selects RX9 yX9_parseErrorPosition yX9_parseErrorPosition ∈ wsG from inT2 174 rfl rfl), (show Cond.initialized RX9 ∈ wsG from inT1 1 rfl rfl), (show noMH yX9_parseErrorPosition 0 from ⟨by decide +kernel, by decide +kernel, by decide +kernel⟩)⟩
theorem cs_L_223 (d : Nat) : CsV RL 223 (mX10_parseErrorPosition d) cX10_parseErrorPosition 0 := ⟨(show Cond.code yX10_parseErrorPosition cX10_parseErrorPosition 1 (some .int) ∈ wsG from inT8 151 rfl rfl), (show Cond.methodLink RL 223 yX10_parseErrorPosition ∈ wsG from inT8 148 rfl rfl), (show Cond.instanceMethod yX10_parseErrorPosition ∈ wsG from inT8 149 rfl rfl), (show Cond.selects RX10 yX10_parseErrorPosition yX10_parseErrorPosition ∈ wsG from inT8 150 rfl rfl), (show Cond.initialized RX10 ∈ wsG from inT1 14 rfl rfl), (show noMH yX10_parseErrorPosition 0 from ⟨by decide +kernel, by decide +kernel, by decide +kernel⟩)⟩
theorem cs_L_224 (d : Nat) : CsV RL 224 (mX9_bufferLength d) cX9_bufferLength 0 := ⟨(show Cond.code yX9_bufferLength cX9_bufferLength 1 (some .int) ∈ wsG from inT2 179 rfl rfl), (show Cond.methodLink RL 224 yX9_bufferLength ∈ wsG from inT2 176 rfl rfl), (show Cond.instanceMethod yX9_bufferLength ∈ wsG from inT2 177 rfl rfl), (show Cond.selects RX9 yX9_bufferLength yX9_bufferLength ∈ wsG from inT2 178 rfl rfl), (show Cond.initialized RX9 ∈ wsG from inT1 1 rfl rfl), (show noMH yX9_bufferLength 0 from ⟨by decide +kernel, by decide +kernel, by decide +kernel⟩)⟩
theorem cs_L_227 (d : Nat) : CsV RL 227 (mX10_bufferLength d) cX10_bufferLength 0 := ⟨(show Cond.code yX10_bufferLength cX10_bufferLength 1 (some .int) ∈ wsG from inT8 155 rfl rfl), (show Cond.methodLink RL 227 yX10_bufferLength ∈ wsG from inT8 152 rfl rfl), (show Cond.instanceMethod yX10_bufferLength ∈ wsG from inT8 153 rfl rfl), (show Cond.selects RX10 yX10_bufferLength yX10_bufferLength ∈ wsG from inT8 154 rfl rfl), (show Cond.initialized RX10 ∈ wsG from inT1 14 rfl rfl), (show noMH yX10_bufferLength 0 from ⟨by decide +kernel, by decide +kernel, by decide +kernel⟩)⟩
theorem cs_L_228 (d : Nat) : CsS RL 228 (mL_day d) cL_day 2 := ⟨(show Cond.codeWith yL_day cL_day 3 (some .int) [(0, 8, 11, 21)] ∈ wsG from inT4 222 rfl rfl), (show Cond.methodLink RL 228 yL_day ∈ wsG from inT4 220 rfl rfl), (show Cond.static yL_day ∈ wsG from inT4 221 rfl rfl), (show Cond.initialized RL ∈ wsG from inT1 0 rfl rfl), (show noMH yL_day 2 from ⟨by decide +kernel, by decide +kernel, by decide +kernel⟩)⟩
theorem cs_L_231 (d : Nat) : CsV RL 231 (mX10_day d) cX10_day 0 := ⟨(show Cond.code yX10_day cX10_day 1 (some .int) ∈ wsG from inT10 80 rfl rfl), (show Cond.methodLink RL 231 yX10_day ∈ wsG from inT10 77 rfl rfl), (show Cond.instanceMethod yX10_day ∈ wsG from inT10 78 rfl rfl), (show Cond.selects RX10 yX10_day yX10_day ∈ wsG from inT10 79 rfl rfl), (show Cond.initialized RX10 ∈ wsG from inT1 14 rfl rfl), (show noMH yX10_day 0 from ⟨by decide +kernel, by decide +kernel, by decide +kernel⟩)⟩
theorem cs_L_232 (d : Nat) : CsS RL 232 (mL_yearLength d) cL_yearLength 2 := ⟨(show Cond.codeWith yL_yearLength cL_yearLength 3 (some .int) [(0, 8, 11, 21)] ∈ wsG from inT5 10 rfl rfl), (show Cond.methodLink RL 232 yL_yearLength ∈ wsG from inT5 8 rfl rfl), (show Cond.static yL_yearLength ∈ wsG from inT5 9 rfl rfl), (show Cond.initialized RL ∈ wsG from inT1 0 rfl rfl), (show noMH yL_yearLength 2 from ⟨by decide +kernel, by decide +kernel, by decide +kernel⟩)⟩
theorem cs_L_234 (d : Nat) : CsV RL 234 (mX10_yearLength d) cX10_yearLength 0 := ⟨(show Cond.code yX10_yearLength cX10_yearLength 1 (some .int) ∈ wsG from inT10 92 rfl rfl), (show Cond.methodLink RL 234 yX10_yearLength ∈ wsG from inT10 89 rfl rfl), (show Cond.instanceMethod yX10_yearLength ∈ wsG from inT10 90 rfl rfl), (show Cond.selects RX10 yX10_yearLength yX10_yearLength ∈ wsG from inT10 91 rfl rfl), (show Cond.initialized RX10 ∈ wsG from inT1 14 rfl rfl), (show noMH yX10_yearLength 0 from ⟨by decide +kernel, by decide +kernel, by decide +kernel⟩)⟩
theorem cs_L_235 (d : Nat) : CsS RL 235 (mL_dayOfYear d) cL_dayOfYear 2 := ⟨(show Cond.codeWith yL_dayOfYear cL_dayOfYear 3 (some .int) [(0, 8, 11, 21)] ∈ wsG from inT5 17 rfl rfl), (show Cond.methodLink RL 235 yL_dayOfYear ∈ wsG from inT5 15 rfl rfl), (show Cond.static yL_dayOfYear ∈ wsG from inT5 16 rfl rfl), (show Cond.initialized RL ∈ wsG from inT1 0 rfl rfl), (show noMH yL_dayOfYear 2 from ⟨by decide +kernel, by decide +kernel, by decide +kernel⟩)⟩
theorem cs_L_237 (d : Nat) : CsV RL 237 (mX10_dayOfYear d) cX10_dayOfYear 0 := ⟨(show Cond.code yX10_dayOfYear cX10_dayOfYear 1 (some .int) ∈ wsG from inT10 96 rfl rfl), (show Cond.methodLink RL 237 yX10_dayOfYear ∈ wsG from inT10 93 rfl rfl), (show Cond.instanceMethod yX10_dayOfYear ∈ wsG from inT10 94 rfl rfl), (show Cond.selects RX10 yX10_dayOfYear yX10_dayOfYear ∈ wsG from inT10 95 rfl rfl), (show Cond.initialized RX10 ∈ wsG from inT1 14 rfl rfl), (show noMH yX10_dayOfYear 0 from ⟨by decide +kernel, by decide +kernel, by decide +kernel⟩)⟩
theorem cs_L_238 (d : Nat) : CsS RL 238 (mL_grantedCount d) cL_grantedCount 2 := ⟨(show Cond.codeWith yL_grantedCount cL_grantedCount 3 (some .int) [(0, 8, 11, 21)] ∈ wsG from inT5 25 rfl rfl), (show Cond.methodLink RL 238 yL_grantedCount ∈ wsG from inT5 23 rfl rfl), (show Cond.static yL_grantedCount ∈ wsG from inT5 24 rfl rfl), (show Cond.initialized RL ∈ wsG from inT1 0 rfl rfl), (show noMH yL_grantedCount 2 from ⟨by decide +kernel, by decide +kernel, by decide +kernel⟩)⟩
theorem cs_L_240 (d : Nat) : CsV RL 240 (mX10_grantedCount d) cX10_grantedCount 0 := ⟨(show Cond.code yX10_grantedCount cX10_grantedCount 1 (some .int) ∈ wsG from inT10 100 rfl rfl), (show Cond.methodLink RL 240 yX10_grantedCount ∈ wsG from inT10 97 rfl rfl), (show Cond.instanceMethod yX10_grantedCount ∈ wsG from inT10 98 rfl rfl), (show Cond.selects RX10 yX10_grantedCount yX10_grantedCount ∈ wsG from inT10 99 rfl rfl), (show Cond.initialized RX10 ∈ wsG from inT1 14 rfl rfl), (show noMH yX10_grantedCount 0 from ⟨by decide +kernel, by decide +kernel, by decide +kernel⟩)⟩
theorem cs_L_241 (d : Nat) : CsS RL 241 (mL_fadedCount d) cL_fadedCount 2 := ⟨(show Cond.codeWith yL_fadedCount cL_fadedCount 3 (some .int) [(0, 8, 11, 21)] ∈ wsG from inT5 36 rfl rfl), (show Cond.methodLink RL 241 yL_fadedCount ∈ wsG from inT5 34 rfl rfl), (show Cond.static yL_fadedCount ∈ wsG from inT5 35 rfl rfl), (show Cond.initialized RL ∈ wsG from inT1 0 rfl rfl), (show noMH yL_fadedCount 2 from ⟨by decide +kernel, by decide +kernel, by decide +kernel⟩)⟩
theorem cs_L_243 (d : Nat) : CsV RL 243 (mX10_fadedCount d) cX10_fadedCount 0 := ⟨(show Cond.code yX10_fadedCount cX10_fadedCount 1 (some .int) ∈ wsG from inT10 108 rfl rfl), (show Cond.methodLink RL 243 yX10_fadedCount ∈ wsG from inT10 105 rfl rfl), (show Cond.instanceMethod yX10_fadedCount ∈ wsG from inT10 106 rfl rfl), (show Cond.selects RX10 yX10_fadedCount yX10_fadedCount ∈ wsG from inT10 107 rfl rfl), (show Cond.initialized RX10 ∈ wsG from inT1 14 rfl rfl), (show noMH yX10_fadedCount 0 from ⟨by decide +kernel, by decide +kernel, by decide +kernel⟩)⟩
theorem cs_L_244 (d : Nat) : CsS RL 244 (mL_imbalance d) cL_imbalance 2 := ⟨(show Cond.codeWith yL_imbalance cL_imbalance 3 (some .int) [(0, 8, 11, 21)] ∈ wsG from inT5 47 rfl rfl), (show Cond.methodLink RL 244 yL_imbalance ∈ wsG from inT5 45 rfl rfl), (show Cond.static yL_imbalance ∈ wsG from inT5 46 rfl rfl), (show Cond.initialized RL ∈ wsG from inT1 0 rfl rfl), (show noMH yL_imbalance 2 from ⟨by decide +kernel, by decide +kernel, by decide +kernel⟩)⟩
theorem cs_L_246 (d : Nat) : CsV RL 246 (mX10_imbalance d) cX10_imbalance 0 := ⟨(show Cond.code yX10_imbalance cX10_imbalance 3 (some .int) ∈ wsG from inT10 112 rfl rfl), (show Cond.methodLink RL 246 yX10_imbalance ∈ wsG from inT10 109 rfl rfl), (show Cond.instanceMethod yX10_imbalance ∈ wsG from inT10 110 rfl rfl), (show Cond.selects RX10 yX10_imbalance yX10_imbalance ∈ wsG from inT10 111 rfl rfl), (show Cond.initialized RX10 ∈ wsG from inT1 14 rfl rfl), (show noMH yX10_imbalance 0 from ⟨by decide +kernel, by decide +kernel, by decide +kernel⟩)⟩
theorem cs_L_247 (d : Nat) : CsS RL 247 (mL_averageWear d) cL_averageWear 2 := ⟨(show Cond.codeWith yL_averageWear cL_averageWear 3 (some .int) [(0, 7, 10, 21)] ∈ wsG from inT5 65 rfl rfl), (show Cond.methodLink RL 247 yL_averageWear ∈ wsG from inT5 63 rfl rfl), (show Cond.static yL_averageWear ∈ wsG from inT5 64 rfl rfl), (show Cond.initialized RL ∈ wsG from inT1 0 rfl rfl), (show noMH yL_averageWear 2 from ⟨by decide +kernel, by decide +kernel, by decide +kernel⟩)⟩
theorem cs_L_250 (d : Nat) : CsV RL 250 (mX10_averageWear d) cX10_averageWear 0 := ⟨(show Cond.code yX10_averageWear cX10_averageWear 4 (some .double) ∈ wsG from inT10 117 rfl rfl), (show Cond.methodLink RL 250 yX10_averageWear ∈ wsG from inT10 114 rfl rfl), (show Cond.instanceMethod yX10_averageWear ∈ wsG from inT10 115 rfl rfl), (show Cond.selects RX10 yX10_averageWear yX10_averageWear ∈ wsG from inT10 116 rfl rfl), (show Cond.initialized RX10 ∈ wsG from inT1 14 rfl rfl), (show noMH yX10_averageWear 0 from ⟨by decide +kernel, by decide +kernel, by decide +kernel⟩)⟩
theorem cs_L_251 (d : Nat) : CsS RL 251 (mL_averageStars d) cL_averageStars 2 := ⟨(show Cond.codeWith yL_averageStars cL_averageStars 3 (some .int) [(0, 8, 11, 21)] ∈ wsG from inT5 76 rfl rfl), (show Cond.methodLink RL 251 yL_averageStars ∈ wsG from inT5 74 rfl rfl), (show Cond.static yL_averageStars ∈ wsG from inT5 75 rfl rfl), (show Cond.initialized RL ∈ wsG from inT1 0 rfl rfl), (show noMH yL_averageStars 2 from ⟨by decide +kernel, by decide +kernel, by decide +kernel⟩)⟩
theorem cs_L_253 (d : Nat) : CsV RL 253 (mX10_averageStars d) cX10_averageStars 0 := ⟨(show Cond.code yX10_averageStars cX10_averageStars 3 (some .float) ∈ wsG from inT10 121 rfl rfl), (show Cond.methodLink RL 253 yX10_averageStars ∈ wsG from inT10 118 rfl rfl), (show Cond.instanceMethod yX10_averageStars ∈ wsG from inT10 119 rfl rfl), (show Cond.selects RX10 yX10_averageStars yX10_averageStars ∈ wsG from inT10 120 rfl rfl), (show Cond.initialized RX10 ∈ wsG from inT1 14 rfl rfl), (show noMH yX10_averageStars 0 from ⟨by decide +kernel, by decide +kernel, by decide +kernel⟩)⟩
theorem cs_L_254 (d : Nat) : CsS RL 254 (mL_personCount d) cL_personCount 2 := ⟨(show Cond.codeWith yL_personCount cL_personCount 3 (some .int) [(0, 8, 11, 21)] ∈ wsG from inT5 87 rfl rfl), (show Cond.methodLink RL 254 yL_personCount ∈ wsG from inT5 85 rfl rfl), (show Cond.static yL_personCount ∈ wsG from inT5 86 rfl rfl), (show Cond.initialized RL ∈ wsG from inT1 0 rfl rfl), (show noMH yL_personCount 2 from ⟨by decide +kernel, by decide +kernel, by decide +kernel⟩)⟩
theorem cs_L_256 (d : Nat) : CsV RL 256 (mX10_personCount d) cX10_personCount 0 := ⟨(show Cond.code yX10_personCount cX10_personCount 1 (some .int) ∈ wsG from inT10 125 rfl rfl), (show Cond.methodLink RL 256 yX10_personCount ∈ wsG from inT10 122 rfl rfl), (show Cond.instanceMethod yX10_personCount ∈ wsG from inT10 123 rfl rfl), (show Cond.selects RX10 yX10_personCount yX10_personCount ∈ wsG from inT10 124 rfl rfl), (show Cond.initialized RX10 ∈ wsG from inT1 14 rfl rfl), (show noMH yX10_personCount 0 from ⟨by decide +kernel, by decide +kernel, by decide +kernel⟩)⟩
theorem cs_L_257 (d : Nat) : CsS RL 257 (mL_personLetter d) cL_personLetter 4 := ⟨(show Cond.codeWith yL_personLetter cL_personLetter 5 (some .int) [(0, 10, 13, 21), (0, 10, 17, 13)] ∈ wsG from inT5 94 rfl rfl), (show Cond.methodLink RL 257 yL_personLetter ∈ wsG from inT5 92 rfl rfl), (show Cond.static yL_personLetter ∈ wsG from inT5 93 rfl rfl), (show Cond.initialized RL ∈ wsG from inT1 0 rfl rfl), (show noMH yL_personLetter 4 from ⟨by decide +kernel, by decide +kernel, by decide +kernel⟩)⟩
theorem cs_L_260 (d : Nat) : CsV RL 260 (mX10_personLetter d) cX10_personLetter 2 := ⟨(show Cond.code yX10_personLetter cX10_personLetter 3 (some .int) ∈ wsG from inT10 129 rfl rfl), (show Cond.methodLink RL 260 yX10_personLetter ∈ wsG from inT10 126 rfl rfl), (show Cond.instanceMethod yX10_personLetter ∈ wsG from inT10 127 rfl rfl), (show Cond.selects RX10 yX10_personLetter yX10_personLetter ∈ wsG from inT10 128 rfl rfl), (show Cond.initialized RX10 ∈ wsG from inT1 14 rfl rfl), (show noMH yX10_personLetter 2 from ⟨by decide +kernel, by decide +kernel, by decide +kernel⟩)⟩
theorem cs_L_261 (d : Nat) : CsS RL 261 (mL_coins d) cL_coins 3 := ⟨(show Cond.codeWith yL_coins cL_coins 4 (some .int) [(0, 9, 12, 21), (0, 9, 15, 13)] ∈ wsG from inT5 116 rfl rfl), (show Cond.methodLink RL 261 yL_coins ∈ wsG from inT5 114 rfl rfl), (show Cond.static yL_coins ∈ wsG from inT5 115 rfl rfl), (show Cond.initialized RL ∈ wsG from inT1 0 rfl rfl), (show noMH yL_coins 3 from ⟨by decide +kernel, by decide +kernel, by decide +kernel⟩)⟩
theorem cs_L_263 (d : Nat) : CsV RL 263 (mX10_coins d) cX10_coins 1 := ⟨(show Cond.code yX10_coins cX10_coins 2 (some .int) ∈ wsG from inT10 149 rfl rfl), (show Cond.methodLink RL 263 yX10_coins ∈ wsG from inT10 146 rfl rfl), (show Cond.instanceMethod yX10_coins ∈ wsG from inT10 147 rfl rfl), (show Cond.selects RX10 yX10_coins yX10_coins ∈ wsG from inT10 148 rfl rfl), (show Cond.initialized RX10 ∈ wsG from inT1 14 rfl rfl), (show noMH yX10_coins 1 from ⟨by decide +kernel, by decide +kernel, by decide +kernel⟩)⟩
theorem cs_L_264 (d : Nat) : CsS RL 264 (mL_birthday d) cL_birthday 3 := ⟨(show Cond.codeWith yL_birthday cL_birthday 4 (some .int) [(0, 9, 12, 21), (0, 9, 15, 13)] ∈ wsG from inT5 123 rfl rfl), (show Cond.methodLink RL 264 yL_birthday ∈ wsG from inT5 121 rfl rfl), (show Cond.static yL_birthday ∈ wsG from inT5 122 rfl rfl), (show Cond.initialized RL ∈ wsG from inT1 0 rfl rfl), (show noMH yL_birthday 3 from ⟨by decide +kernel, by decide +kernel, by decide +kernel⟩)⟩
theorem cs_L_266 (d : Nat) : CsV RL 266 (mX10_birthday d) cX10_birthday 1 := ⟨(show Cond.code yX10_birthday cX10_birthday 2 (some .int) ∈ wsG from inT10 153 rfl rfl), (show Cond.methodLink RL 266 yX10_birthday ∈ wsG from inT10 150 rfl rfl), (show Cond.instanceMethod yX10_birthday ∈ wsG from inT10 151 rfl rfl), (show Cond.selects RX10 yX10_birthday yX10_birthday ∈ wsG from inT10 152 rfl rfl), (show Cond.initialized RX10 ∈ wsG from inT1 14 rfl rfl), (show noMH yX10_birthday 1 from ⟨by decide +kernel, by decide +kernel, by decide +kernel⟩)⟩
theorem cs_L_267 (d : Nat) : CsS RL 267 (mL_candles d) cL_candles 3 := ⟨(show Cond.codeWith yL_candles cL_candles 4 (some .int) [(0, 9, 12, 21), (0, 9, 15, 13)] ∈ wsG from inT5 130 rfl rfl), (show Cond.methodLink RL 267 yL_candles ∈ wsG from inT5 128 rfl rfl), (show Cond.static yL_candles ∈ wsG from inT5 129 rfl rfl), (show Cond.initialized RL ∈ wsG from inT1 0 rfl rfl), (show noMH yL_candles 3 from ⟨by decide +kernel, by decide +kernel, by decide +kernel⟩)⟩
theorem cs_L_269 (d : Nat) : CsV RL 269 (mX10_candles d) cX10_candles 1 := ⟨(show Cond.code yX10_candles cX10_candles 2 (some .int) ∈ wsG from inT10 157 rfl rfl), (show Cond.methodLink RL 269 yX10_candles ∈ wsG from inT10 154 rfl rfl), (show Cond.instanceMethod yX10_candles ∈ wsG from inT10 155 rfl rfl), (show Cond.selects RX10 yX10_candles yX10_candles ∈ wsG from inT10 156 rfl rfl), (show Cond.initialized RX10 ∈ wsG from inT1 14 rfl rfl), (show noMH yX10_candles 1 from ⟨by decide +kernel, by decide +kernel, by decide +kernel⟩)⟩
theorem cs_L_270 (d : Nat) : CsS RL 270 (mL_happiness d) cL_happiness 3 := ⟨(show Cond.codeWith yL_happiness cL_happiness 4 (some .int) [(0, 9, 12, 21), (0, 9, 15, 13)] ∈ wsG from inT5 137 rfl rfl), (show Cond.methodLink RL 270 yL_happiness ∈ wsG from inT5 135 rfl rfl), (show Cond.static yL_happiness ∈ wsG from inT5 136 rfl rfl), (show Cond.initialized RL ∈ wsG from inT1 0 rfl rfl), (show noMH yL_happiness 3 from ⟨by decide +kernel, by decide +kernel, by decide +kernel⟩)⟩
theorem cs_L_272 (d : Nat) : CsV RL 272 (mX10_happiness d) cX10_happiness 1 := ⟨(show Cond.code yX10_happiness cX10_happiness 2 (some .int) ∈ wsG from inT10 161 rfl rfl), (show Cond.methodLink RL 272 yX10_happiness ∈ wsG from inT10 158 rfl rfl), (show Cond.instanceMethod yX10_happiness ∈ wsG from inT10 159 rfl rfl), (show Cond.selects RX10 yX10_happiness yX10_happiness ∈ wsG from inT10 160 rfl rfl), (show Cond.initialized RX10 ∈ wsG from inT1 14 rfl rfl), (show noMH yX10_happiness 1 from ⟨by decide +kernel, by decide +kernel, by decide +kernel⟩)⟩
theorem cs_L_273 (d : Nat) : CsS RL 273 (mL_ownedCount d) cL_ownedCount 3 := ⟨(show Cond.codeWith yL_ownedCount cL_ownedCount 4 (some .int) [(0, 9, 12, 21), (0, 9, 15, 13)] ∈ wsG from inT5 144 rfl rfl), (show Cond.methodLink RL 273 yL_ownedCount ∈ wsG from inT5 142 rfl rfl), (show Cond.static yL_ownedCount ∈ wsG from inT5 143 rfl rfl), (show Cond.initialized RL ∈ wsG from inT1 0 rfl rfl), (show noMH yL_ownedCount 3 from ⟨by decide +kernel, by decide +kernel, by decide +kernel⟩)⟩
theorem cs_L_275 (d : Nat) : CsV RL 275 (mX10_ownedCount d) cX10_ownedCount 1 := ⟨(show Cond.code yX10_ownedCount cX10_ownedCount 2 (some .int) ∈ wsG from inT10 165 rfl rfl), (show Cond.methodLink RL 275 yX10_ownedCount ∈ wsG from inT10 162 rfl rfl), (show Cond.instanceMethod yX10_ownedCount ∈ wsG from inT10 163 rfl rfl), (show Cond.selects RX10 yX10_ownedCount yX10_ownedCount ∈ wsG from inT10 164 rfl rfl), (show Cond.initialized RX10 ∈ wsG from inT1 14 rfl rfl), (show noMH yX10_ownedCount 1 from ⟨by decide +kernel, by decide +kernel, by decide +kernel⟩)⟩
theorem cs_L_276 (d : Nat) : CsS RL 276 (mL_shoppingLimit d) cL_shoppingLimit 3 := ⟨(show Cond.codeWith yL_shoppingLimit cL_shoppingLimit 4 (some .int) [(0, 9, 12, 21), (0, 9, 15, 13)] ∈ wsG from inT5 152 rfl rfl), (show Cond.methodLink RL 276 yL_shoppingLimit ∈ wsG from inT5 150 rfl rfl), (show Cond.static yL_shoppingLimit ∈ wsG from inT5 151 rfl rfl), (show Cond.initialized RL ∈ wsG from inT1 0 rfl rfl), (show noMH yL_shoppingLimit 3 from ⟨by decide +kernel, by decide +kernel, by decide +kernel⟩)⟩
theorem cs_L_278 (d : Nat) : CsV RL 278 (mX10_shoppingLimit d) cX10_shoppingLimit 1 := ⟨(show Cond.code yX10_shoppingLimit cX10_shoppingLimit 2 (some .int) ∈ wsG from inT10 169 rfl rfl), (show Cond.methodLink RL 278 yX10_shoppingLimit ∈ wsG from inT10 166 rfl rfl), (show Cond.instanceMethod yX10_shoppingLimit ∈ wsG from inT10 167 rfl rfl), (show Cond.selects RX10 yX10_shoppingLimit yX10_shoppingLimit ∈ wsG from inT10 168 rfl rfl), (show Cond.initialized RX10 ∈ wsG from inT1 14 rfl rfl), (show noMH yX10_shoppingLimit 1 from ⟨by decide +kernel, by decide +kernel, by decide +kernel⟩)⟩
theorem cs_L_279 (d : Nat) : CsS RL 279 (mL_daysUntilBirthday d) cL_daysUntilBirthday 3 := ⟨(show Cond.codeWith yL_daysUntilBirthday cL_daysUntilBirthday 4 (some .int) [(0, 9, 12, 21), (0, 9, 15, 13)] ∈ wsG from inT5 159 rfl rfl), (show Cond.methodLink RL 279 yL_daysUntilBirthday ∈ wsG from inT5 157 rfl rfl), (show Cond.static yL_daysUntilBirthday ∈ wsG from inT5 158 rfl rfl), (show Cond.initialized RL ∈ wsG from inT1 0 rfl rfl), (show noMH yL_daysUntilBirthday 3 from ⟨by decide +kernel, by decide +kernel, by decide +kernel⟩)⟩
theorem cs_L_281 (d : Nat) : CsV RL 281 (mX10_daysUntilBirthday d) cX10_daysUntilBirthday 1 := ⟨(show Cond.code yX10_daysUntilBirthday cX10_daysUntilBirthday 2 (some .int) ∈ wsG from inT10 173 rfl rfl), (show Cond.methodLink RL 281 yX10_daysUntilBirthday ∈ wsG from inT10 170 rfl rfl), (show Cond.instanceMethod yX10_daysUntilBirthday ∈ wsG from inT10 171 rfl rfl), (show Cond.selects RX10 yX10_daysUntilBirthday yX10_daysUntilBirthday ∈ wsG from inT10 172 rfl rfl), (show Cond.initialized RX10 ∈ wsG from inT1 14 rfl rfl), (show noMH yX10_daysUntilBirthday 1 from ⟨by decide +kernel, by decide +kernel, by decide +kernel⟩)⟩
theorem cs_L_282 (d : Nat) : CsS RL 282 (mL_stallCount d) cL_stallCount 2 := ⟨(show Cond.codeWith yL_stallCount cL_stallCount 3 (some .int) [(0, 8, 11, 21)] ∈ wsG from inT5 166 rfl rfl), (show Cond.methodLink RL 282 yL_stallCount ∈ wsG from inT5 164 rfl rfl), (show Cond.static yL_stallCount ∈ wsG from inT5 165 rfl rfl), (show Cond.initialized RL ∈ wsG from inT1 0 rfl rfl), (show noMH yL_stallCount 2 from ⟨by decide +kernel, by decide +kernel, by decide +kernel⟩)⟩
theorem cs_L_284 (d : Nat) : CsV RL 284 (mX10_stallCount d) cX10_stallCount 0 := ⟨(show Cond.code yX10_stallCount cX10_stallCount 1 (some .int) ∈ wsG from inT10 177 rfl rfl), (show Cond.methodLink RL 284 yX10_stallCount ∈ wsG from inT10 174 rfl rfl), (show Cond.instanceMethod yX10_stallCount ∈ wsG from inT10 175 rfl rfl), (show Cond.selects RX10 yX10_stallCount yX10_stallCount ∈ wsG from inT10 176 rfl rfl), (show Cond.initialized RX10 ∈ wsG from inT1 14 rfl rfl), (show noMH yX10_stallCount 0 from ⟨by decide +kernel, by decide +kernel, by decide +kernel⟩)⟩
theorem cs_L_285 (d : Nat) : CsS RL 285 (mL_cash d) cL_cash 3 := ⟨(show Cond.codeWith yL_cash cL_cash 4 (some .int) [(0, 9, 12, 21), (0, 9, 15, 13)] ∈ wsG from inT5 173 rfl rfl), (show Cond.methodLink RL 285 yL_cash ∈ wsG from inT5 171 rfl rfl), (show Cond.static yL_cash ∈ wsG from inT5 172 rfl rfl), (show Cond.initialized RL ∈ wsG from inT1 0 rfl rfl), (show noMH yL_cash 3 from ⟨by decide +kernel, by decide +kernel, by decide +kernel⟩)⟩
theorem cs_L_287 (d : Nat) : CsV RL 287 (mX10_cash d) cX10_cash 1 := ⟨(show Cond.code yX10_cash cX10_cash 2 (some .int) ∈ wsG from inT10 181 rfl rfl), (show Cond.methodLink RL 287 yX10_cash ∈ wsG from inT10 178 rfl rfl), (show Cond.instanceMethod yX10_cash ∈ wsG from inT10 179 rfl rfl), (show Cond.selects RX10 yX10_cash yX10_cash ∈ wsG from inT10 180 rfl rfl), (show Cond.initialized RX10 ∈ wsG from inT1 14 rfl rfl), (show noMH yX10_cash 1 from ⟨by decide +kernel, by decide +kernel, by decide +kernel⟩)⟩
theorem cs_L_288 (d : Nat) : CsS RL 288 (mL_stars d) cL_stars 3 := ⟨(show Cond.codeWith yL_stars cL_stars 4 (some .int) [(0, 9, 12, 21), (0, 9, 15, 13)] ∈ wsG from inT5 188 rfl rfl), (show Cond.methodLink RL 288 yL_stars ∈ wsG from inT5 186 rfl rfl), (show Cond.static yL_stars ∈ wsG from inT5 187 rfl rfl), (show Cond.initialized RL ∈ wsG from inT1 0 rfl rfl), (show noMH yL_stars 3 from ⟨by decide +kernel, by decide +kernel, by decide +kernel⟩)⟩
theorem cs_L_290 (d : Nat) : CsV RL 290 (mX10_stars d) cX10_stars 1 := ⟨(show Cond.code yX10_stars cX10_stars 2 (some .int) ∈ wsG from inT10 193 rfl rfl), (show Cond.methodLink RL 290 yX10_stars ∈ wsG from inT10 190 rfl rfl), (show Cond.instanceMethod yX10_stars ∈ wsG from inT10 191 rfl rfl), (show Cond.selects RX10 yX10_stars yX10_stars ∈ wsG from inT10 192 rfl rfl), (show Cond.initialized RX10 ∈ wsG from inT1 14 rfl rfl), (show noMH yX10_stars 1 from ⟨by decide +kernel, by decide +kernel, by decide +kernel⟩)⟩
theorem cs_L_291 (d : Nat) : CsS RL 291 (mL_margin d) cL_margin 3 := ⟨(show Cond.codeWith yL_margin cL_margin 4 (some .int) [(0, 9, 12, 21), (0, 9, 15, 13)] ∈ wsG from inT5 195 rfl rfl), (show Cond.methodLink RL 291 yL_margin ∈ wsG from inT5 193 rfl rfl), (show Cond.static yL_margin ∈ wsG from inT5 194 rfl rfl), (show Cond.initialized RL ∈ wsG from inT1 0 rfl rfl), (show noMH yL_margin 3 from ⟨by decide +kernel, by decide +kernel, by decide +kernel⟩)⟩
theorem cs_L_293 (d : Nat) : CsV RL 293 (mX10_margin d) cX10_margin 1 := ⟨(show Cond.code yX10_margin cX10_margin 2 (some .int) ∈ wsG from inT10 197 rfl rfl), (show Cond.methodLink RL 293 yX10_margin ∈ wsG from inT10 194 rfl rfl), (show Cond.instanceMethod yX10_margin ∈ wsG from inT10 195 rfl rfl), (show Cond.selects RX10 yX10_margin yX10_margin ∈ wsG from inT10 196 rfl rfl), (show Cond.initialized RX10 ∈ wsG from inT1 14 rfl rfl), (show noMH yX10_margin 1 from ⟨by decide +kernel, by decide +kernel, by decide +kernel⟩)⟩
theorem cs_L_294 (d : Nat) : CsS RL 294 (mL_stockCount d) cL_stockCount 3 := ⟨(show Cond.codeWith yL_stockCount cL_stockCount 4 (some .int) [(0, 9, 12, 21), (0, 9, 15, 13)] ∈ wsG from inT5 202 rfl rfl), (show Cond.methodLink RL 294 yL_stockCount ∈ wsG from inT5 200 rfl rfl), (show Cond.static yL_stockCount ∈ wsG from inT5 201 rfl rfl), (show Cond.initialized RL ∈ wsG from inT1 0 rfl rfl), (show noMH yL_stockCount 3 from ⟨by decide +kernel, by decide +kernel, by decide +kernel⟩)⟩
theorem cs_L_296 (d : Nat) : CsV RL 296 (mX10_stockCount d) cX10_stockCount 1 := ⟨(show Cond.code yX10_stockCount cX10_stockCount 2 (some .int) ∈ wsG from inT10 201 rfl rfl), (show Cond.methodLink RL 296 yX10_stockCount ∈ wsG from inT10 198 rfl rfl), (show Cond.instanceMethod yX10_stockCount ∈ wsG from inT10 199 rfl rfl), (show Cond.selects RX10 yX10_stockCount yX10_stockCount ∈ wsG from inT10 200 rfl rfl), (show Cond.initialized RX10 ∈ wsG from inT1 14 rfl rfl), (show noMH yX10_stockCount 1 from ⟨by decide +kernel, by decide +kernel, by decide +kernel⟩)⟩
theorem cs_L_297 (d : Nat) : CsS RL 297 (mL_wishLetter d) cL_wishLetter 4 := ⟨(show Cond.codeWith yL_wishLetter cL_wishLetter 5 (some .int) [(0, 10, 13, 21), (0, 10, 17, 13)] ∈ wsG from inT5 210 rfl rfl), (show Cond.methodLink RL 297 yL_wishLetter ∈ wsG from inT5 208 rfl rfl), (show Cond.static yL_wishLetter ∈ wsG from inT5 209 rfl rfl), (show Cond.initialized RL ∈ wsG from inT1 0 rfl rfl), (show noMH yL_wishLetter 4 from ⟨by decide +kernel, by decide +kernel, by decide +kernel⟩)⟩
theorem cs_L_299 (d : Nat) : CsV RL 299 (mX10_wishLetter d) cX10_wishLetter 2 := ⟨(show Cond.code yX10_wishLetter cX10_wishLetter 3 (some .int) ∈ wsG from inT10 205 rfl rfl), (show Cond.methodLink RL 299 yX10_wishLetter ∈ wsG from inT10 202 rfl rfl), (show Cond.instanceMethod yX10_wishLetter ∈ wsG from inT10 203 rfl rfl), (show Cond.selects RX10 yX10_wishLetter yX10_wishLetter ∈ wsG from inT10 204 rfl rfl), (show Cond.initialized RX10 ∈ wsG from inT1 14 rfl rfl), (show noMH yX10_wishLetter 2 from ⟨by decide +kernel, by decide +kernel, by decide +kernel⟩)⟩
theorem cs_L_300 (d : Nat) : CsS RL 300 (mL_baseValue d) cL_baseValue 3 := ⟨(show Cond.codeWith yL_baseValue cL_baseValue 4 (some .int) [(0, 9, 12, 21), (0, 9, 15, 13)] ∈ wsG from inT5 225 rfl rfl), (show Cond.methodLink RL 300 yL_baseValue ∈ wsG from inT5 223 rfl rfl), (show Cond.static yL_baseValue ∈ wsG from inT5 224 rfl rfl), (show Cond.initialized RL ∈ wsG from inT1 0 rfl rfl), (show noMH yL_baseValue 3 from ⟨by decide +kernel, by decide +kernel, by decide +kernel⟩)⟩
theorem cs_L_302 (d : Nat) : CsV RL 302 (mX10_baseValue d) cX10_baseValue 1 := ⟨(show Cond.code yX10_baseValue cX10_baseValue 2 (some .int) ∈ wsG from inT10 217 rfl rfl), (show Cond.methodLink RL 302 yX10_baseValue ∈ wsG from inT10 214 rfl rfl), (show Cond.instanceMethod yX10_baseValue ∈ wsG from inT10 215 rfl rfl), (show Cond.selects RX10 yX10_baseValue yX10_baseValue ∈ wsG from inT10 216 rfl rfl), (show Cond.initialized RX10 ∈ wsG from inT1 14 rfl rfl), (show noMH yX10_baseValue 1 from ⟨by decide +kernel, by decide +kernel, by decide +kernel⟩)⟩
theorem cs_L_303 (d : Nat) : CsS RL 303 (mL_strength d) cL_strength 3 := ⟨(show Cond.codeWith yL_strength cL_strength 4 (some .int) [(0, 9, 12, 21), (0, 9, 15, 13)] ∈ wsG from inT5 232 rfl rfl), (show Cond.methodLink RL 303 yL_strength ∈ wsG from inT5 230 rfl rfl), (show Cond.static yL_strength ∈ wsG from inT5 231 rfl rfl), (show Cond.initialized RL ∈ wsG from inT1 0 rfl rfl), (show noMH yL_strength 3 from ⟨by decide +kernel, by decide +kernel, by decide +kernel⟩)⟩
theorem cs_L_305 (d : Nat) : CsV RL 305 (mX10_strength d) cX10_strength 1 := ⟨(show Cond.code yX10_strength cX10_strength 2 (some .int) ∈ wsG from inT10 221 rfl rfl), (show Cond.methodLink RL 305 yX10_strength ∈ wsG from inT10 218 rfl rfl), (show Cond.instanceMethod yX10_strength ∈ wsG from inT10 219 rfl rfl), (show Cond.selects RX10 yX10_strength yX10_strength ∈ wsG from inT10 220 rfl rfl), (show Cond.initialized RX10 ∈ wsG from inT1 14 rfl rfl), (show noMH yX10_strength 1 from ⟨by decide +kernel, by decide +kernel, by decide +kernel⟩)⟩
theorem cs_L_306 (d : Nat) : CsS RL 306 (mL_wear d) cL_wear 3 := ⟨(show Cond.codeWith yL_wear cL_wear 4 (some .int) [(0, 9, 12, 21), (0, 9, 15, 13)] ∈ wsG from inT5 239 rfl rfl), (show Cond.methodLink RL 306 yL_wear ∈ wsG from inT5 237 rfl rfl), (show Cond.static yL_wear ∈ wsG from inT5 238 rfl rfl), (show Cond.initialized RL ∈ wsG from inT1 0 rfl rfl), (show noMH yL_wear 3 from ⟨by decide +kernel, by decide +kernel, by decide +kernel⟩)⟩
theorem cs_L_308 (d : Nat) : CsV RL 308 (mX10_wear d) cX10_wear 1 := ⟨(show Cond.code yX10_wear cX10_wear 2 (some .int) ∈ wsG from inT10 225 rfl rfl), (show Cond.methodLink RL 308 yX10_wear ∈ wsG from inT10 222 rfl rfl), (show Cond.instanceMethod yX10_wear ∈ wsG from inT10 223 rfl rfl), (show Cond.selects RX10 yX10_wear yX10_wear ∈ wsG from inT10 224 rfl rfl), (show Cond.initialized RX10 ∈ wsG from inT1 14 rfl rfl), (show noMH yX10_wear 1 from ⟨by decide +kernel, by decide +kernel, by decide +kernel⟩)⟩
theorem cs_L_309 (d : Nat) : CsS RL 309 (mL_value d) cL_value 3 := ⟨(show Cond.codeWith yL_value cL_value 4 (some .int) [(0, 9, 12, 21), (0, 9, 15, 13)] ∈ wsG from inT6 6 rfl rfl), (show Cond.methodLink RL 309 yL_value ∈ wsG from inT6 4 rfl rfl), (show Cond.static yL_value ∈ wsG from inT6 5 rfl rfl), (show Cond.initialized RL ∈ wsG from inT1 0 rfl rfl), (show noMH yL_value 3 from ⟨by decide +kernel, by decide +kernel, by decide +kernel⟩)⟩
theorem cs_L_311 (d : Nat) : CsV RL 311 (mX10_value d) cX10_value 1 := ⟨(show Cond.code yX10_value cX10_value 2 (some .int) ∈ wsG from inT10 229 rfl rfl), (show Cond.methodLink RL 311 yX10_value ∈ wsG from inT10 226 rfl rfl), (show Cond.instanceMethod yX10_value ∈ wsG from inT10 227 rfl rfl), (show Cond.selects RX10 yX10_value yX10_value ∈ wsG from inT10 228 rfl rfl), (show Cond.initialized RX10 ∈ wsG from inT1 14 rfl rfl), (show noMH yX10_value 1 from ⟨by decide +kernel, by decide +kernel, by decide +kernel⟩)⟩
theorem cs_L_312 (d : Nat) : CsS RL 312 (mL_owner d) cL_owner 3 := ⟨(show Cond.codeWith yL_owner cL_owner 4 (some .int) [(0, 9, 12, 21), (0, 9, 15, 13)] ∈ wsG from inT6 14 rfl rfl), (show Cond.methodLink RL 312 yL_owner ∈ wsG from inT6 12 rfl rfl), (show Cond.static yL_owner ∈ wsG from inT6 13 rfl rfl), (show Cond.initialized RL ∈ wsG from inT1 0 rfl rfl), (show noMH yL_owner 3 from ⟨by decide +kernel, by decide +kernel, by decide +kernel⟩)⟩
theorem cs_L_314 (d : Nat) : CsV RL 314 (mX10_owner d) cX10_owner 1 := ⟨(show Cond.code yX10_owner cX10_owner 2 (some .int) ∈ wsG from inT10 233 rfl rfl), (show Cond.methodLink RL 314 yX10_owner ∈ wsG from inT10 230 rfl rfl), (show Cond.instanceMethod yX10_owner ∈ wsG from inT10 231 rfl rfl), (show Cond.selects RX10 yX10_owner yX10_owner ∈ wsG from inT10 232 rfl rfl), (show Cond.initialized RX10 ∈ wsG from inT1 14 rfl rfl), (show noMH yX10_owner 1 from ⟨by decide +kernel, by decide +kernel, by decide +kernel⟩)⟩
theorem cs_L_315 (d : Nat) : CsS RL 315 (mL_stallOf d) cL_stallOf 3 := ⟨(show Cond.codeWith yL_stallOf cL_stallOf 4 (some .int) [(0, 9, 12, 21), (0, 9, 15, 13)] ∈ wsG from inT6 21 rfl rfl), (show Cond.methodLink RL 315 yL_stallOf ∈ wsG from inT6 19 rfl rfl), (show Cond.static yL_stallOf ∈ wsG from inT6 20 rfl rfl), (show Cond.initialized RL ∈ wsG from inT1 0 rfl rfl), (show noMH yL_stallOf 3 from ⟨by decide +kernel, by decide +kernel, by decide +kernel⟩)⟩
theorem cs_L_317 (d : Nat) : CsV RL 317 (mX10_stallOf d) cX10_stallOf 1 := ⟨(show Cond.code yX10_stallOf cX10_stallOf 2 (some .int) ∈ wsG from inT10 237 rfl rfl), (show Cond.methodLink RL 317 yX10_stallOf ∈ wsG from inT10 234 rfl rfl), (show Cond.instanceMethod yX10_stallOf ∈ wsG from inT10 235 rfl rfl), (show Cond.selects RX10 yX10_stallOf yX10_stallOf ∈ wsG from inT10 236 rfl rfl), (show Cond.initialized RX10 ∈ wsG from inT1 14 rfl rfl), (show noMH yX10_stallOf 1 from ⟨by decide +kernel, by decide +kernel, by decide +kernel⟩)⟩
theorem cs_L_318 (d : Nat) : CsS RL 318 (mL_isGranted d) cL_isGranted 3 := ⟨(show Cond.codeWith yL_isGranted cL_isGranted 4 (some .int) [(0, 16, 19, 21), (0, 16, 22, 13)] ∈ wsG from inT6 28 rfl rfl), (show Cond.methodLink RL 318 yL_isGranted ∈ wsG from inT6 26 rfl rfl), (show Cond.static yL_isGranted ∈ wsG from inT6 27 rfl rfl), (show Cond.initialized RL ∈ wsG from inT1 0 rfl rfl), (show noMH yL_isGranted 3 from ⟨by decide +kernel, by decide +kernel, by decide +kernel⟩)⟩
theorem cs_L_320 (d : Nat) : CsV RL 320 (mX10_isGranted d) cX10_isGranted 1 := ⟨(show Cond.code yX10_isGranted cX10_isGranted 2 (some .boolean) ∈ wsG from inT11 1 rfl rfl), (show Cond.methodLink RL 320 yX10_isGranted ∈ wsG from inT10 238 rfl rfl), (show Cond.instanceMethod yX10_isGranted ∈ wsG from inT10 239 rfl rfl), (show Cond.selects RX10 yX10_isGranted yX10_isGranted ∈ wsG from inT11 0 rfl rfl), (show Cond.initialized RX10 ∈ wsG from inT1 14 rfl rfl), (show noMH yX10_isGranted 1 from ⟨by decide +kernel, by decide +kernel, by decide +kernel⟩)⟩
theorem cs_L_321 (d : Nat) : CsS RL 321 (mL_purchaseDay d) cL_purchaseDay 3 := ⟨(show Cond.codeWith yL_purchaseDay cL_purchaseDay 4 (some .int) [(0, 9, 12, 21), (0, 9, 15, 13)] ∈ wsG from inT6 35 rfl rfl), (show Cond.methodLink RL 321 yL_purchaseDay ∈ wsG from inT6 33 rfl rfl), (show Cond.static yL_purchaseDay ∈ wsG from inT6 34 rfl rfl), (show Cond.initialized RL ∈ wsG from inT1 0 rfl rfl), (show noMH yL_purchaseDay 3 from ⟨by decide +kernel, by decide +kernel, by decide +kernel⟩)⟩
theorem cs_L_323 (d : Nat) : CsV RL 323 (mX10_purchaseDay d) cX10_purchaseDay 1 := ⟨(show Cond.code yX10_purchaseDay cX10_purchaseDay 2 (some .int) ∈ wsG from inT11 5 rfl rfl), (show Cond.methodLink RL 323 yX10_purchaseDay ∈ wsG from inT11 2 rfl rfl), (show Cond.instanceMethod yX10_purchaseDay ∈ wsG from inT11 3 rfl rfl), (show Cond.selects RX10 yX10_purchaseDay yX10_purchaseDay ∈ wsG from inT11 4 rfl rfl), (show Cond.initialized RX10 ∈ wsG from inT1 14 rfl rfl), (show noMH yX10_purchaseDay 1 from ⟨by decide +kernel, by decide +kernel, by decide +kernel⟩)⟩
theorem cs_L_324 (d : Nat) : CsS RL 324 (mL_purchasePrice d) cL_purchasePrice 3 := ⟨(show Cond.codeWith yL_purchasePrice cL_purchasePrice 4 (some .int) [(0, 9, 12, 21), (0, 9, 15, 13)] ∈ wsG from inT6 42 rfl rfl), (show Cond.methodLink RL 324 yL_purchasePrice ∈ wsG from inT6 40 rfl rfl), (show Cond.static yL_purchasePrice ∈ wsG from inT6 41 rfl rfl), (show Cond.initialized RL ∈ wsG from inT1 0 rfl rfl), (show noMH yL_purchasePrice 3 from ⟨by decide +kernel, by decide +kernel, by decide +kernel⟩)⟩
theorem cs_L_326 (d : Nat) : CsV RL 326 (mX10_purchasePrice d) cX10_purchasePrice 1 := ⟨(show Cond.code yX10_purchasePrice cX10_purchasePrice 2 (some .int) ∈ wsG from inT11 9 rfl rfl), (show Cond.methodLink RL 326 yX10_purchasePrice ∈ wsG from inT11 6 rfl rfl), (show Cond.instanceMethod yX10_purchasePrice ∈ wsG from inT11 7 rfl rfl), (show Cond.selects RX10 yX10_purchasePrice yX10_purchasePrice ∈ wsG from inT11 8 rfl rfl), (show Cond.initialized RX10 ∈ wsG from inT1 14 rfl rfl), (show noMH yX10_purchasePrice 1 from ⟨by decide +kernel, by decide +kernel, by decide +kernel⟩)⟩
theorem cs_L_327 (d : Nat) : CsS RL 327 (mL_price d) cL_price 3 := ⟨(show Cond.codeWith yL_price cL_price 4 (some .int) [(0, 9, 12, 21), (0, 9, 15, 13)] ∈ wsG from inT6 49 rfl rfl), (show Cond.methodLink RL 327 yL_price ∈ wsG from inT6 47 rfl rfl), (show Cond.static yL_price ∈ wsG from inT6 48 rfl rfl), (show Cond.initialized RL ∈ wsG from inT1 0 rfl rfl), (show noMH yL_price 3 from ⟨by decide +kernel, by decide +kernel, by decide +kernel⟩)⟩
theorem cs_L_329 (d : Nat) : CsV RL 329 (mX10_price d) cX10_price 1 := ⟨(show Cond.code yX10_price cX10_price 2 (some .int) ∈ wsG from inT11 13 rfl rfl), (show Cond.methodLink RL 329 yX10_price ∈ wsG from inT11 10 rfl rfl), (show Cond.instanceMethod yX10_price ∈ wsG from inT11 11 rfl rfl), (show Cond.selects RX10 yX10_price yX10_price ∈ wsG from inT11 12 rfl rfl), (show Cond.initialized RX10 ∈ wsG from inT1 14 rfl rfl), (show noMH yX10_price 1 from ⟨by decide +kernel, by decide +kernel, by decide +kernel⟩)⟩
theorem cs_L_330 (d : Nat) : CsS RL 330 (mL_offer d) cL_offer 4 := ⟨(show Cond.codeWith yL_offer cL_offer 5 (some .int) [(0, 10, 13, 21), (0, 10, 17, 13)] ∈ wsG from inT6 57 rfl rfl), (show Cond.methodLink RL 330 yL_offer ∈ wsG from inT6 55 rfl rfl), (show Cond.static yL_offer ∈ wsG from inT6 56 rfl rfl), (show Cond.initialized RL ∈ wsG from inT1 0 rfl rfl), (show noMH yL_offer 4 from ⟨by decide +kernel, by decide +kernel, by decide +kernel⟩)⟩
theorem cs_L_332 (d : Nat) : CsV RL 332 (mX10_offer d) cX10_offer 2 := ⟨(show Cond.code yX10_offer cX10_offer 3 (some .int) ∈ wsG from inT11 17 rfl rfl), (show Cond.methodLink RL 332 yX10_offer ∈ wsG from inT11 14 rfl rfl), (show Cond.instanceMethod yX10_offer ∈ wsG from inT11 15 rfl rfl), (show Cond.selects RX10 yX10_offer yX10_offer ∈ wsG from inT11 16 rfl rfl), (show Cond.initialized RX10 ∈ wsG from inT1 14 rfl rfl), (show noMH yX10_offer 2 from ⟨by decide +kernel, by decide +kernel, by decide +kernel⟩)⟩
theorem cs_L_333 (d : Nat) : CsS RL 333 (mL_refund d) cL_refund 3 := ⟨(show Cond.codeWith yL_refund cL_refund 4 (some .int) [(0, 9, 12, 21), (0, 9, 15, 13)] ∈ wsG from inT6 65 rfl rfl), (show Cond.methodLink RL 333 yL_refund ∈ wsG from inT6 63 rfl rfl), (show Cond.static yL_refund ∈ wsG from inT6 64 rfl rfl), (show Cond.initialized RL ∈ wsG from inT1 0 rfl rfl), (show noMH yL_refund 3 from ⟨by decide +kernel, by decide +kernel, by decide +kernel⟩)⟩
theorem cs_L_335 (d : Nat) : CsV RL 335 (mX10_refund d) cX10_refund 1 := ⟨(show Cond.code yX10_refund cX10_refund 2 (some .int) ∈ wsG from inT11 21 rfl rfl), (show Cond.methodLink RL 335 yX10_refund ∈ wsG from inT11 18 rfl rfl), (show Cond.instanceMethod yX10_refund ∈ wsG from inT11 19 rfl rfl), (show Cond.selects RX10 yX10_refund yX10_refund ∈ wsG from inT11 20 rfl rfl), (show Cond.initialized RX10 ∈ wsG from inT1 14 rfl rfl), (show noMH yX10_refund 1 from ⟨by decide +kernel, by decide +kernel, by decide +kernel⟩)⟩
theorem cs_L_336 (d : Nat) : CsS RL 336 (mL_buyObstacle d) cL_buyObstacle 4 := ⟨(show Cond.codeWith yL_buyObstacle cL_buyObstacle 5 (some .int) [(0, 10, 13, 21), (0, 10, 17, 13)] ∈ wsG from inT6 73 rfl rfl), (show Cond.methodLink RL 336 yL_buyObstacle ∈ wsG from inT6 71 rfl rfl), (show Cond.static yL_buyObstacle ∈ wsG from inT6 72 rfl rfl), (show Cond.initialized RL ∈ wsG from inT1 0 rfl rfl), (show noMH yL_buyObstacle 4 from ⟨by decide +kernel, by decide +kernel, by decide +kernel⟩)⟩
theorem cs_L_338 (d : Nat) : CsV RL 338 (mX10_buyObstacle d) cX10_buyObstacle 2 := ⟨(show Cond.code yX10_buyObstacle cX10_buyObstacle 3 (some .int) ∈ wsG from inT11 25 rfl rfl), (show Cond.methodLink RL 338 yX10_buyObstacle ∈ wsG from inT11 22 rfl rfl), (show Cond.instanceMethod yX10_buyObstacle ∈ wsG from inT11 23 rfl rfl), (show Cond.selects RX10 yX10_buyObstacle yX10_buyObstacle ∈ wsG from inT11 24 rfl rfl), (show Cond.initialized RX10 ∈ wsG from inT1 14 rfl rfl), (show noMH yX10_buyObstacle 2 from ⟨by decide +kernel, by decide +kernel, by decide +kernel⟩)⟩
theorem cs_L_339 (d : Nat) : CsS RL 339 (mL_sellObstacle d) cL_sellObstacle 4 := ⟨(show Cond.codeWith yL_sellObstacle cL_sellObstacle 5 (some .int) [(0, 10, 13, 21), (0, 10, 17, 13)] ∈ wsG from inT6 81 rfl rfl), (show Cond.methodLink RL 339 yL_sellObstacle ∈ wsG from inT6 79 rfl rfl), (show Cond.static yL_sellObstacle ∈ wsG from inT6 80 rfl rfl), (show Cond.initialized RL ∈ wsG from inT1 0 rfl rfl), (show noMH yL_sellObstacle 4 from ⟨by decide +kernel, by decide +kernel, by decide +kernel⟩)⟩
theorem cs_L_341 (d : Nat) : CsV RL 341 (mX10_sellObstacle d) cX10_sellObstacle 2 := ⟨(show Cond.code yX10_sellObstacle cX10_sellObstacle 3 (some .int) ∈ wsG from inT11 29 rfl rfl), (show Cond.methodLink RL 341 yX10_sellObstacle ∈ wsG from inT11 26 rfl rfl), (show Cond.instanceMethod yX10_sellObstacle ∈ wsG from inT11 27 rfl rfl), (show Cond.selects RX10 yX10_sellObstacle yX10_sellObstacle ∈ wsG from inT11 28 rfl rfl), (show Cond.initialized RX10 ∈ wsG from inT1 14 rfl rfl), (show noMH yX10_sellObstacle 2 from ⟨by decide +kernel, by decide +kernel, by decide +kernel⟩)⟩
theorem cs_L_342 (d : Nat) : CsS RL 342 (mL_returnObstacle d) cL_returnObstacle 3 := ⟨(show Cond.codeWith yL_returnObstacle cL_returnObstacle 4 (some .int) [(0, 9, 12, 21), (0, 9, 15, 13)] ∈ wsG from inT6 89 rfl rfl), (show Cond.methodLink RL 342 yL_returnObstacle ∈ wsG from inT6 87 rfl rfl), (show Cond.static yL_returnObstacle ∈ wsG from inT6 88 rfl rfl), (show Cond.initialized RL ∈ wsG from inT1 0 rfl rfl), (show noMH yL_returnObstacle 3 from ⟨by decide +kernel, by decide +kernel, by decide +kernel⟩)⟩
theorem cs_L_344 (d : Nat) : CsV RL 344 (mX10_returnObstacle d) cX10_returnObstacle 1 := ⟨(show Cond.code yX10_returnObstacle cX10_returnObstacle 2 (some .int) ∈ wsG from inT11 33 rfl rfl), (show Cond.methodLink RL 344 yX10_returnObstacle ∈ wsG from inT11 30 rfl rfl), (show Cond.instanceMethod yX10_returnObstacle ∈ wsG from inT11 31 rfl rfl), (show Cond.selects RX10 yX10_returnObstacle yX10_returnObstacle ∈ wsG from inT11 32 rfl rfl), (show Cond.initialized RX10 ∈ wsG from inT1 14 rfl rfl), (show noMH yX10_returnObstacle 1 from ⟨by decide +kernel, by decide +kernel, by decide +kernel⟩)⟩
theorem cs_L_345 (d : Nat) : CsS RL 345 (mL_grantObstacle d) cL_grantObstacle 3 := ⟨(show Cond.codeWith yL_grantObstacle cL_grantObstacle 4 (some .int) [(0, 9, 12, 21), (0, 9, 15, 13)] ∈ wsG from inT6 97 rfl rfl), (show Cond.methodLink RL 345 yL_grantObstacle ∈ wsG from inT6 95 rfl rfl), (show Cond.static yL_grantObstacle ∈ wsG from inT6 96 rfl rfl), (show Cond.initialized RL ∈ wsG from inT1 0 rfl rfl), (show noMH yL_grantObstacle 3 from ⟨by decide +kernel, by decide +kernel, by decide +kernel⟩)⟩
theorem cs_L_347 (d : Nat) : CsV RL 347 (mX10_grantObstacle d) cX10_grantObstacle 1 := ⟨(show Cond.code yX10_grantObstacle cX10_grantObstacle 2 (some .int) ∈ wsG from inT11 37 rfl rfl), (show Cond.methodLink RL 347 yX10_grantObstacle ∈ wsG from inT11 34 rfl rfl), (show Cond.instanceMethod yX10_grantObstacle ∈ wsG from inT11 35 rfl rfl), (show Cond.selects RX10 yX10_grantObstacle yX10_grantObstacle ∈ wsG from inT11 36 rfl rfl), (show Cond.initialized RX10 ∈ wsG from inT1 14 rfl rfl), (show noMH yX10_grantObstacle 1 from ⟨by decide +kernel, by decide +kernel, by decide +kernel⟩)⟩
theorem cs_L_348 (d : Nat) : CsS RL 348 (mL_cheapestWish d) cL_cheapestWish 3 := ⟨(show Cond.codeWith yL_cheapestWish cL_cheapestWish 4 (some .int) [(0, 9, 12, 21), (0, 9, 15, 13)] ∈ wsG from inT6 105 rfl rfl), (show Cond.methodLink RL 348 yL_cheapestWish ∈ wsG from inT6 103 rfl rfl), (show Cond.static yL_cheapestWish ∈ wsG from inT6 104 rfl rfl), (show Cond.initialized RL ∈ wsG from inT1 0 rfl rfl), (show noMH yL_cheapestWish 3 from ⟨by decide +kernel, by decide +kernel, by decide +kernel⟩)⟩
theorem cs_L_350 (d : Nat) : CsV RL 350 (mX10_cheapestWish d) cX10_cheapestWish 1 := ⟨(show Cond.code yX10_cheapestWish cX10_cheapestWish 2 (some .int) ∈ wsG from inT11 41 rfl rfl), (show Cond.methodLink RL 350 yX10_cheapestWish ∈ wsG from inT11 38 rfl rfl), (show Cond.instanceMethod yX10_cheapestWish ∈ wsG from inT11 39 rfl rfl), (show Cond.selects RX10 yX10_cheapestWish yX10_cheapestWish ∈ wsG from inT11 40 rfl rfl), (show Cond.initialized RX10 ∈ wsG from inT1 14 rfl rfl), (show noMH yX10_cheapestWish 1 from ⟨by decide +kernel, by decide +kernel, by decide +kernel⟩)⟩
theorem cs_L_351 (d : Nat) : CsS RL 351 (mL_bestGrant d) cL_bestGrant 3 := ⟨(show Cond.codeWith yL_bestGrant cL_bestGrant 4 (some .int) [(0, 9, 12, 21), (0, 9, 15, 13)] ∈ wsG from inT6 113 rfl rfl), (show Cond.methodLink RL 351 yL_bestGrant ∈ wsG from inT6 111 rfl rfl), (show Cond.static yL_bestGrant ∈ wsG from inT6 112 rfl rfl), (show Cond.initialized RL ∈ wsG from inT1 0 rfl rfl), (show noMH yL_bestGrant 3 from ⟨by decide +kernel, by decide +kernel, by decide +kernel⟩)⟩
theorem cs_L_353 (d : Nat) : CsV RL 353 (mX10_bestGrant d) cX10_bestGrant 1 := ⟨(show Cond.code yX10_bestGrant cX10_bestGrant 2 (some .int) ∈ wsG from inT11 45 rfl rfl), (show Cond.methodLink RL 353 yX10_bestGrant ∈ wsG from inT11 42 rfl rfl), (show Cond.instanceMethod yX10_bestGrant ∈ wsG from inT11 43 rfl rfl), (show Cond.selects RX10 yX10_bestGrant yX10_bestGrant ∈ wsG from inT11 44 rfl rfl), (show Cond.initialized RX10 ∈ wsG from inT1 14 rfl rfl), (show noMH yX10_bestGrant 1 from ⟨by decide +kernel, by decide +kernel, by decide +kernel⟩)⟩
theorem cs_L_354 (d : Nat) : CsS RL 354 (mL_bestOffer d) cL_bestOffer 3 := ⟨(show Cond.codeWith yL_bestOffer cL_bestOffer 4 (some .int) [(0, 9, 12, 21), (0, 9, 15, 13)] ∈ wsG from inT6 121 rfl rfl), (show Cond.methodLink RL 354 yL_bestOffer ∈ wsG from inT6 119 rfl rfl), (show Cond.static yL_bestOffer ∈ wsG from inT6 120 rfl rfl), (show Cond.initialized RL ∈ wsG from inT1 0 rfl rfl), (show noMH yL_bestOffer 3 from ⟨by decide +kernel, by decide +kernel, by decide +kernel⟩)⟩
theorem cs_L_356 (d : Nat) : CsV RL 356 (mX10_bestOffer d) cX10_bestOffer 1 := ⟨(show Cond.code yX10_bestOffer cX10_bestOffer 2 (some .int) ∈ wsG from inT11 49 rfl rfl), (show Cond.methodLink RL 356 yX10_bestOffer ∈ wsG from inT11 46 rfl rfl), (show Cond.instanceMethod yX10_bestOffer ∈ wsG from inT11 47 rfl rfl), (show Cond.selects RX10 yX10_bestOffer yX10_bestOffer ∈ wsG from inT11 48 rfl rfl), (show Cond.initialized RX10 ∈ wsG from inT1 14 rfl rfl), (show noMH yX10_bestOffer 1 from ⟨by decide +kernel, by decide +kernel, by decide +kernel⟩)⟩
theorem cs_L_357 (d : Nat) : CsS RL 357 (mL_coinsAfter d) cL_coinsAfter 4 := ⟨(show Cond.codeWith yL_coinsAfter cL_coinsAfter 5 (some .int) [(0, 10, 13, 21), (0, 10, 17, 13), (0, 10, 21, 15)] ∈ wsG from inT6 129 rfl rfl), (show Cond.methodLink RL 357 yL_coinsAfter ∈ wsG from inT6 127 rfl rfl), (show Cond.static yL_coinsAfter ∈ wsG from inT6 128 rfl rfl), (show Cond.initialized RL ∈ wsG from inT1 0 rfl rfl), (show noMH yL_coinsAfter 4 from ⟨by decide +kernel, by decide +kernel, by decide +kernel⟩)⟩
theorem cs_L_359 (d : Nat) : CsV RL 359 (mX10_coinsAfter d) cX10_coinsAfter 2 := ⟨(show Cond.code yX10_coinsAfter cX10_coinsAfter 3 (some .int) ∈ wsG from inT11 53 rfl rfl), (show Cond.methodLink RL 359 yX10_coinsAfter ∈ wsG from inT11 50 rfl rfl), (show Cond.instanceMethod yX10_coinsAfter ∈ wsG from inT11 51 rfl rfl), (show Cond.selects RX10 yX10_coinsAfter yX10_coinsAfter ∈ wsG from inT11 52 rfl rfl), (show Cond.initialized RX10 ∈ wsG from inT1 14 rfl rfl), (show noMH yX10_coinsAfter 2 from ⟨by decide +kernel, by decide +kernel, by decide +kernel⟩)⟩
theorem cs_L_360 (d : Nat) : CsS RL 360 (mL_valueAfter d) cL_valueAfter 4 := ⟨(show Cond.codeWith yL_valueAfter cL_valueAfter 5 (some .int) [(0, 10, 13, 21), (0, 10, 17, 13), (0, 10, 21, 15)] ∈ wsG from inT6 141 rfl rfl), (show Cond.methodLink RL 360 yL_valueAfter ∈ wsG from inT6 139 rfl rfl), (show Cond.static yL_valueAfter ∈ wsG from inT6 140 rfl rfl), (show Cond.initialized RL ∈ wsG from inT1 0 rfl rfl), (show noMH yL_valueAfter 4 from ⟨by decide +kernel, by decide +kernel, by decide +kernel⟩)⟩
theorem cs_L_362 (d : Nat) : CsV RL 362 (mX10_valueAfter d) cX10_valueAfter 2 := ⟨(show Cond.code yX10_valueAfter cX10_valueAfter 3 (some .int) ∈ wsG from inT11 60 rfl rfl), (show Cond.methodLink RL 362 yX10_valueAfter ∈ wsG from inT11 57 rfl rfl), (show Cond.instanceMethod yX10_valueAfter ∈ wsG from inT11 58 rfl rfl), (show Cond.selects RX10 yX10_valueAfter yX10_valueAfter ∈ wsG from inT11 59 rfl rfl), (show Cond.initialized RX10 ∈ wsG from inT1 14 rfl rfl), (show noMH yX10_valueAfter 2 from ⟨by decide +kernel, by decide +kernel, by decide +kernel⟩)⟩
theorem cs_L_363 (d : Nat) : CsS RL 363 (mL_daysUntilFaded d) cL_daysUntilFaded 3 := ⟨(show Cond.codeWith yL_daysUntilFaded cL_daysUntilFaded 4 (some .int) [(0, 9, 12, 21), (0, 9, 15, 13)] ∈ wsG from inT6 148 rfl rfl), (show Cond.methodLink RL 363 yL_daysUntilFaded ∈ wsG from inT6 146 rfl rfl), (show Cond.static yL_daysUntilFaded ∈ wsG from inT6 147 rfl rfl), (show Cond.initialized RL ∈ wsG from inT1 0 rfl rfl), (show noMH yL_daysUntilFaded 3 from ⟨by decide +kernel, by decide +kernel, by decide +kernel⟩)⟩
theorem cs_L_365 (d : Nat) : CsV RL 365 (mX10_daysUntilFaded d) cX10_daysUntilFaded 1 := ⟨(show Cond.code yX10_daysUntilFaded cX10_daysUntilFaded 2 (some .int) ∈ wsG from inT11 64 rfl rfl), (show Cond.methodLink RL 365 yX10_daysUntilFaded ∈ wsG from inT11 61 rfl rfl), (show Cond.instanceMethod yX10_daysUntilFaded ∈ wsG from inT11 62 rfl rfl), (show Cond.selects RX10 yX10_daysUntilFaded yX10_daysUntilFaded ∈ wsG from inT11 63 rfl rfl), (show Cond.initialized RX10 ∈ wsG from inT1 14 rfl rfl), (show noMH yX10_daysUntilFaded 1 from ⟨by decide +kernel, by decide +kernel, by decide +kernel⟩)⟩
theorem cs_L_366 (d : Nat) : CsS RL 366 (mL_writeStall d) cL_writeStall 3 := ⟨(show Cond.codeWith yL_writeStall cL_writeStall 4 (some .int) [(0, 9, 12, 21), (0, 9, 15, 13)] ∈ wsG from inT6 155 rfl rfl), (show Cond.methodLink RL 366 yL_writeStall ∈ wsG from inT6 153 rfl rfl), (show Cond.static yL_writeStall ∈ wsG from inT6 154 rfl rfl), (show Cond.initialized RL ∈ wsG from inT1 0 rfl rfl), (show noMH yL_writeStall 3 from ⟨by decide +kernel, by decide +kernel, by decide +kernel⟩)⟩
theorem cs_L_368 (d : Nat) : CsV RL 368 (mX10_writeStall d) cX10_writeStall 1 := ⟨(show Cond.code yX10_writeStall cX10_writeStall 3 (some .int) ∈ wsG from inT11 68 rfl rfl), (show Cond.methodLink RL 368 yX10_writeStall ∈ wsG from inT11 65 rfl rfl), (show Cond.instanceMethod yX10_writeStall ∈ wsG from inT11 66 rfl rfl), (show Cond.selects RX10 yX10_writeStall yX10_writeStall ∈ wsG from inT11 67 rfl rfl), (show Cond.initialized RX10 ∈ wsG from inT1 14 rfl rfl), (show noMH yX10_writeStall 1 from ⟨by decide +kernel, by decide +kernel, by decide +kernel⟩)⟩
theorem cs_L_369 (d : Nat) : CsS RL 369 (mL_writePerson d) cL_writePerson 3 := ⟨(show Cond.codeWith yL_writePerson cL_writePerson 4 (some .int) [(0, 9, 12, 21), (0, 9, 15, 13)] ∈ wsG from inT7 190 rfl rfl), (show Cond.methodLink RL 369 yL_writePerson ∈ wsG from inT7 188 rfl rfl), (show Cond.static yL_writePerson ∈ wsG from inT7 189 rfl rfl), (show Cond.initialized RL ∈ wsG from inT1 0 rfl rfl), (show noMH yL_writePerson 3 from ⟨by decide +kernel, by decide +kernel, by decide +kernel⟩)⟩
theorem cs_L_371 (d : Nat) : CsV RL 371 (mX10_writePerson d) cX10_writePerson 1 := ⟨(show Cond.code yX10_writePerson cX10_writePerson 3 (some .int) ∈ wsG from inT11 88 rfl rfl), (show Cond.methodLink RL 371 yX10_writePerson ∈ wsG from inT11 85 rfl rfl), (show Cond.instanceMethod yX10_writePerson ∈ wsG from inT11 86 rfl rfl), (show Cond.selects RX10 yX10_writePerson yX10_writePerson ∈ wsG from inT11 87 rfl rfl), (show Cond.initialized RX10 ∈ wsG from inT1 14 rfl rfl), (show noMH yX10_writePerson 1 from ⟨by decide +kernel, by decide +kernel, by decide +kernel⟩)⟩
theorem cs_L_372 (d : Nat) : CsS RL 372 (mL_outputByte d) cL_outputByte 3 := ⟨(show Cond.codeWith yL_outputByte cL_outputByte 4 (some .int) [(0, 9, 12, 13)] ∈ wsG from inT7 197 rfl rfl), (show Cond.methodLink RL 372 yL_outputByte ∈ wsG from inT7 195 rfl rfl), (show Cond.static yL_outputByte ∈ wsG from inT7 196 rfl rfl), (show Cond.initialized RL ∈ wsG from inT1 0 rfl rfl), (show noMH yL_outputByte 3 from ⟨by decide +kernel, by decide +kernel, by decide +kernel⟩)⟩
theorem cs_L_374 (d : Nat) : CsV RL 374 (mX10_outputByte d) cX10_outputByte 1 := ⟨(show Cond.code yX10_outputByte cX10_outputByte 2 (some .int) ∈ wsG from inT11 92 rfl rfl), (show Cond.methodLink RL 374 yX10_outputByte ∈ wsG from inT11 89 rfl rfl), (show Cond.instanceMethod yX10_outputByte ∈ wsG from inT11 90 rfl rfl), (show Cond.selects RX10 yX10_outputByte yX10_outputByte ∈ wsG from inT11 91 rfl rfl), (show Cond.initialized RX10 ∈ wsG from inT1 14 rfl rfl), (show noMH yX10_outputByte 1 from ⟨by decide +kernel, by decide +kernel, by decide +kernel⟩)⟩
theorem cs_L_375 (d : Nat) : CsS RL 375 (mL_advance d) cL_advance 3 := ⟨(show Cond.codeWith yL_advance cL_advance 4 (some .int) [(0, 9, 12, 21), (0, 9, 15, 15)] ∈ wsG from inT7 215 rfl rfl), (show Cond.methodLink RL 375 yL_advance ∈ wsG from inT7 213 rfl rfl), (show Cond.static yL_advance ∈ wsG from inT7 214 rfl rfl), (show Cond.initialized RL ∈ wsG from inT1 0 rfl rfl), (show noMH yL_advance 3 from ⟨by decide +kernel, by decide +kernel, by decide +kernel⟩)⟩
theorem cs_L_377 (d : Nat) : CsV RL 377 (mX10_advance d) cX10_advance 1 := ⟨(show Cond.code yX10_advance cX10_advance 3 (some .int) ∈ wsG from inT11 96 rfl rfl), (show Cond.methodLink RL 377 yX10_advance ∈ wsG from inT11 93 rfl rfl), (show Cond.instanceMethod yX10_advance ∈ wsG from inT11 94 rfl rfl), (show Cond.selects RX10 yX10_advance yX10_advance ∈ wsG from inT11 95 rfl rfl), (show Cond.initialized RX10 ∈ wsG from inT1 14 rfl rfl), (show noMH yX10_advance 1 from ⟨by decide +kernel, by decide +kernel, by decide +kernel⟩)⟩
theorem cs_L_378 (d : Nat) : CsS RL 378 (mL_buy d) cL_buy 4 := ⟨(show Cond.codeWith yL_buy cL_buy 5 (some .int) [(0, 10, 13, 21), (0, 10, 17, 13), (0, 10, 21, 15)] ∈ wsG from inT7 227 rfl rfl), (show Cond.methodLink RL 378 yL_buy ∈ wsG from inT7 225 rfl rfl), (show Cond.static yL_buy ∈ wsG from inT7 226 rfl rfl), (show Cond.initialized RL ∈ wsG from inT1 0 rfl rfl), (show noMH yL_buy 4 from ⟨by decide +kernel, by decide +kernel, by decide +kernel⟩)⟩
theorem cs_L_380 (d : Nat) : CsV RL 380 (mX10_buy d) cX10_buy 2 := ⟨(show Cond.code yX10_buy cX10_buy 4 (some .int) ∈ wsG from inT11 104 rfl rfl), (show Cond.methodLink RL 380 yX10_buy ∈ wsG from inT11 101 rfl rfl), (show Cond.instanceMethod yX10_buy ∈ wsG from inT11 102 rfl rfl), (show Cond.selects RX10 yX10_buy yX10_buy ∈ wsG from inT11 103 rfl rfl), (show Cond.initialized RX10 ∈ wsG from inT1 14 rfl rfl), (show noMH yX10_buy 2 from ⟨by decide +kernel, by decide +kernel, by decide +kernel⟩)⟩
theorem cs_L_381 (d : Nat) : CsS RL 381 (mL_sell d) cL_sell 4 := ⟨(show Cond.codeWith yL_sell cL_sell 5 (some .int) [(0, 10, 13, 21), (0, 10, 17, 13), (0, 10, 21, 15)] ∈ wsG from inT7 239 rfl rfl), (show Cond.methodLink RL 381 yL_sell ∈ wsG from inT7 237 rfl rfl), (show Cond.static yL_sell ∈ wsG from inT7 238 rfl rfl), (show Cond.initialized RL ∈ wsG from inT1 0 rfl rfl), (show noMH yL_sell 4 from ⟨by decide +kernel, by decide +kernel, by decide +kernel⟩)⟩
theorem cs_L_383 (d : Nat) : CsV RL 383 (mX10_sell d) cX10_sell 2 := ⟨(show Cond.code yX10_sell cX10_sell 4 (some .int) ∈ wsG from inT11 108 rfl rfl), (show Cond.methodLink RL 383 yX10_sell ∈ wsG from inT11 105 rfl rfl), (show Cond.instanceMethod yX10_sell ∈ wsG from inT11 106 rfl rfl), (show Cond.selects RX10 yX10_sell yX10_sell ∈ wsG from inT11 107 rfl rfl), (show Cond.initialized RX10 ∈ wsG from inT1 14 rfl rfl), (show noMH yX10_sell 2 from ⟨by decide +kernel, by decide +kernel, by decide +kernel⟩)⟩
theorem cs_L_384 (d : Nat) : CsS RL 384 (mL_returnWish d) cL_returnWish 3 := ⟨(show Cond.codeWith yL_returnWish cL_returnWish 4 (some .int) [(0, 9, 12, 21), (0, 9, 15, 13), (0, 9, 18, 15)] ∈ wsG from inT8 7 rfl rfl), (show Cond.methodLink RL 384 yL_returnWish ∈ wsG from inT8 5 rfl rfl), (show Cond.static yL_returnWish ∈ wsG from inT8 6 rfl rfl), (show Cond.initialized RL ∈ wsG from inT1 0 rfl rfl), (show noMH yL_returnWish 3 from ⟨by decide +kernel, by decide +kernel, by decide +kernel⟩)⟩
theorem cs_L_386 (d : Nat) : CsV RL 386 (mX10_returnWish d) cX10_returnWish 1 := ⟨(show Cond.code yX10_returnWish cX10_returnWish 3 (some .int) ∈ wsG from inT11 112 rfl rfl), (show Cond.methodLink RL 386 yX10_returnWish ∈ wsG from inT11 109 rfl rfl), (show Cond.instanceMethod yX10_returnWish ∈ wsG from inT11 110 rfl rfl), (show Cond.selects RX10 yX10_returnWish yX10_returnWish ∈ wsG from inT11 111 rfl rfl), (show Cond.initialized RX10 ∈ wsG from inT1 14 rfl rfl), (show noMH yX10_returnWish 1 from ⟨by decide +kernel, by decide +kernel, by decide +kernel⟩)⟩
theorem cs_L_387 (d : Nat) : CsS RL 387 (mL_grant d) cL_grant 3 := ⟨(show Cond.codeWith yL_grant cL_grant 4 (some .int) [(0, 9, 12, 21), (0, 9, 15, 13), (0, 9, 18, 15)] ∈ wsG from inT8 15 rfl rfl), (show Cond.methodLink RL 387 yL_grant ∈ wsG from inT8 13 rfl rfl), (show Cond.static yL_grant ∈ wsG from inT8 14 rfl rfl), (show Cond.initialized RL ∈ wsG from inT1 0 rfl rfl), (show noMH yL_grant 3 from ⟨by decide +kernel, by decide +kernel, by decide +kernel⟩)⟩
theorem cs_L_389 (d : Nat) : CsV RL 389 (mX10_grant d) cX10_grant 1 := ⟨(show Cond.code yX10_grant cX10_grant 3 (some .int) ∈ wsG from inT11 116 rfl rfl), (show Cond.methodLink RL 389 yX10_grant ∈ wsG from inT11 113 rfl rfl), (show Cond.instanceMethod yX10_grant ∈ wsG from inT11 114 rfl rfl), (show Cond.selects RX10 yX10_grant yX10_grant ∈ wsG from inT11 115 rfl rfl), (show Cond.initialized RX10 ∈ wsG from inT1 14 rfl rfl), (show noMH yX10_grant 1 from ⟨by decide +kernel, by decide +kernel, by decide +kernel⟩)⟩
theorem cs_L_390 (d : Nat) : CsS RL 390 (mL_setLimit d) cL_setLimit 4 := ⟨(show Cond.codeWith yL_setLimit cL_setLimit 5 (some .int) [(0, 10, 13, 21), (0, 10, 17, 13), (0, 10, 21, 15)] ∈ wsG from inT8 23 rfl rfl), (show Cond.methodLink RL 390 yL_setLimit ∈ wsG from inT8 21 rfl rfl), (show Cond.static yL_setLimit ∈ wsG from inT8 22 rfl rfl), (show Cond.initialized RL ∈ wsG from inT1 0 rfl rfl), (show noMH yL_setLimit 4 from ⟨by decide +kernel, by decide +kernel, by decide +kernel⟩)⟩
theorem cs_L_392 (d : Nat) : CsV RL 392 (mX10_setLimit d) cX10_setLimit 2 := ⟨(show Cond.code yX10_setLimit cX10_setLimit 4 (some .int) ∈ wsG from inT11 120 rfl rfl), (show Cond.methodLink RL 392 yX10_setLimit ∈ wsG from inT11 117 rfl rfl), (show Cond.instanceMethod yX10_setLimit ∈ wsG from inT11 118 rfl rfl), (show Cond.selects RX10 yX10_setLimit yX10_setLimit ∈ wsG from inT11 119 rfl rfl), (show Cond.initialized RX10 ∈ wsG from inT1 14 rfl rfl), (show noMH yX10_setLimit 2 from ⟨by decide +kernel, by decide +kernel, by decide +kernel⟩)⟩
theorem cs_L_393 (d : Nat) : CsS RL 393 (mL_setMargin d) cL_setMargin 4 := ⟨(show Cond.codeWith yL_setMargin cL_setMargin 5 (some .int) [(0, 10, 13, 21), (0, 10, 17, 13), (0, 10, 21, 15)] ∈ wsG from inT8 30 rfl rfl), (show Cond.methodLink RL 393 yL_setMargin ∈ wsG from inT8 28 rfl rfl), (show Cond.static yL_setMargin ∈ wsG from inT8 29 rfl rfl), (show Cond.initialized RL ∈ wsG from inT1 0 rfl rfl), (show noMH yL_setMargin 4 from ⟨by decide +kernel, by decide +kernel, by decide +kernel⟩)⟩
theorem cs_L_395 (d : Nat) : CsV RL 395 (mX10_setMargin d) cX10_setMargin 2 := ⟨(show Cond.code yX10_setMargin cX10_setMargin 4 (some .int) ∈ wsG from inT11 124 rfl rfl), (show Cond.methodLink RL 395 yX10_setMargin ∈ wsG from inT11 121 rfl rfl), (show Cond.instanceMethod yX10_setMargin ∈ wsG from inT11 122 rfl rfl), (show Cond.selects RX10 yX10_setMargin yX10_setMargin ∈ wsG from inT11 123 rfl rfl), (show Cond.initialized RX10 ∈ wsG from inT1 14 rfl rfl), (show noMH yX10_setMargin 2 from ⟨by decide +kernel, by decide +kernel, by decide +kernel⟩)⟩
theorem cs_L_396 (d : Nat) : CsS RL 396 (mL_undo d) cL_undo 2 := ⟨(show Cond.codeWith yL_undo cL_undo 3 (some .int) [(0, 8, 11, 21)] ∈ wsG from inT8 37 rfl rfl), (show Cond.methodLink RL 396 yL_undo ∈ wsG from inT8 35 rfl rfl), (show Cond.static yL_undo ∈ wsG from inT8 36 rfl rfl), (show Cond.initialized RL ∈ wsG from inT1 0 rfl rfl), (show noMH yL_undo 2 from ⟨by decide +kernel, by decide +kernel, by decide +kernel⟩)⟩
theorem cs_L_398 (d : Nat) : CsV RL 398 (mX10_undo d) cX10_undo 0 := ⟨(show Cond.code yX10_undo cX10_undo 1 (some .int) ∈ wsG from inT11 128 rfl rfl), (show Cond.methodLink RL 398 yX10_undo ∈ wsG from inT11 125 rfl rfl), (show Cond.instanceMethod yX10_undo ∈ wsG from inT11 126 rfl rfl), (show Cond.selects RX10 yX10_undo yX10_undo ∈ wsG from inT11 127 rfl rfl), (show Cond.initialized RX10 ∈ wsG from inT1 14 rfl rfl), (show noMH yX10_undo 0 from ⟨by decide +kernel, by decide +kernel, by decide +kernel⟩)⟩
theorem cs_L_399 (d : Nat) : CsV RL 399 (mX9_undoCount d) cX9_undoCount 0 := ⟨(show Cond.code yX9_undoCount cX9_undoCount 1 (some .int) ∈ wsG from inT2 183 rfl rfl), (show Cond.methodLink RL 399 yX9_undoCount ∈ wsG from inT2 180 rfl rfl), (show Cond.instanceMethod yX9_undoCount ∈ wsG from inT2 181 rfl rfl), (show Cond.selects RX9 yX9_undoCount yX9_undoCount ∈ wsG from inT2 182 rfl rfl), (show Cond.initialized RX9 ∈ wsG from inT1 1 rfl rfl), (show noMH yX9_undoCount 0 from ⟨by decide +kernel, by decide +kernel, by decide +kernel⟩)⟩
theorem cs_L_402 (d : Nat) : CsV RL 402 (mX10_undoCount d) cX10_undoCount 0 := ⟨(show Cond.code yX10_undoCount cX10_undoCount 1 (some .int) ∈ wsG from inT11 132 rfl rfl), (show Cond.methodLink RL 402 yX10_undoCount ∈ wsG from inT11 129 rfl rfl), (show Cond.instanceMethod yX10_undoCount ∈ wsG from inT11 130 rfl rfl), (show Cond.selects RX10 yX10_undoCount yX10_undoCount ∈ wsG from inT11 131 rfl rfl), (show Cond.initialized RX10 ∈ wsG from inT1 14 rfl rfl), (show noMH yX10_undoCount 0 from ⟨by decide +kernel, by decide +kernel, by decide +kernel⟩)⟩
theorem cs_L_403 (d : Nat) : CsS RL 403 (mL_saveState d) cL_saveState 3 := ⟨(show Cond.codeWith yL_saveState cL_saveState 4 (some .int) [(0, 9, 12, 21), (0, 9, 15, 13)] ∈ wsG from inT8 45 rfl rfl), (show Cond.methodLink RL 403 yL_saveState ∈ wsG from inT8 43 rfl rfl), (show Cond.static yL_saveState ∈ wsG from inT8 44 rfl rfl), (show Cond.initialized RL ∈ wsG from inT1 0 rfl rfl), (show noMH yL_saveState 3 from ⟨by decide +kernel, by decide +kernel, by decide +kernel⟩)⟩
theorem cs_L_405 (d : Nat) : CsV RL 405 (mX10_saveState d) cX10_saveState 1 := ⟨(show Cond.code yX10_saveState cX10_saveState 2 (some .int) ∈ wsG from inT11 136 rfl rfl), (show Cond.methodLink RL 405 yX10_saveState ∈ wsG from inT11 133 rfl rfl), (show Cond.instanceMethod yX10_saveState ∈ wsG from inT11 134 rfl rfl), (show Cond.selects RX10 yX10_saveState yX10_saveState ∈ wsG from inT11 135 rfl rfl), (show Cond.initialized RX10 ∈ wsG from inT1 14 rfl rfl), (show noMH yX10_saveState 1 from ⟨by decide +kernel, by decide +kernel, by decide +kernel⟩)⟩
theorem cs_L_406 (d : Nat) : CsS RL 406 (mL_restoreState d) cL_restoreState 3 := ⟨(show Cond.codeWith yL_restoreState cL_restoreState 4 (some .int) [(0, 9, 12, 13), (0, 9, 15, 21)] ∈ wsG from inT8 52 rfl rfl), (show Cond.methodLink RL 406 yL_restoreState ∈ wsG from inT8 50 rfl rfl), (show Cond.static yL_restoreState ∈ wsG from inT8 51 rfl rfl), (show Cond.initialized RL ∈ wsG from inT1 0 rfl rfl), (show noMH yL_restoreState 3 from ⟨by decide +kernel, by decide +kernel, by decide +kernel⟩)⟩
theorem cs_L_408 (d : Nat) : CsV RL 408 (mX10_restoreState d) cX10_restoreState 1 := ⟨(show Cond.code yX10_restoreState cX10_restoreState 3 (some .int) ∈ wsG from inT11 143 rfl rfl), (show Cond.methodLink RL 408 yX10_restoreState ∈ wsG from inT11 140 rfl rfl), (show Cond.instanceMethod yX10_restoreState ∈ wsG from inT11 141 rfl rfl), (show Cond.selects RX10 yX10_restoreState yX10_restoreState ∈ wsG from inT11 142 rfl rfl), (show Cond.initialized RX10 ∈ wsG from inT1 14 rfl rfl), (show noMH yX10_restoreState 1 from ⟨by decide +kernel, by decide +kernel, by decide +kernel⟩)⟩
theorem lgc {x : Int64} : lg_cmp x x = 0 := by simp [lg_cmp]
theorem law_0 {n w m o o2 i kb gb D D' bb sb : Nat} {xs : Nat → Int32} {I : Mem} {K : Kt} (hi : i + 6 ≤ n) (hn : n ≤ 3072) (S : ST I K w m kb gb D) (Ho : LA K 103 1 o) (Ho2 : LA K 104 1 o2) (hc : LN (mX9_append 1) cX9_append (mX10_append 1) cX10_append [.int (xs (i + 1)), .int (xs (i + 2)), .int (xs (i + 3)), .int (xs (i + 4)), .int (xs (i + 5))] I K w m kb gb D') (hk : Tail n xs w m o o2 i kb gb D' bb sb) : X mLaw code (2 + bb + (kb + 3 - kN K)) (12 + sb + (gb + 246 - gz K)) I K 316 (lawL w m o o2 i) [] lawQ (GsL n xs) := by
  obtain ⟨v, I1, I2, c1, c2, S1⟩ := hc
  refine X.less (bc' := bb + (kb + 3 - kN K)) (bs' := sb + (gb + 246 - gz K)) ?_ (by omega) (by omega)
  refine x_aloadn dL_law_316 rfl ?_
  refine x_arg (i := i) (j := 1) rfl dL_law_317 dL_law_318 dL_law_320 dL_law_321 dL_law_322 rfl rfl (by omega) (by omega) ?_
  refine x_arg (i := i) (j := 2) rfl dL_law_323 dL_law_324 dL_law_326 dL_law_327 dL_law_328 rfl rfl (by omega) (by omega) ?_
  refine x_arg (i := i) (j := 3) rfl dL_law_329 dL_law_330 dL_law_332 dL_law_333 dL_law_334 rfl rfl (by omega) (by omega) ?_
  refine x_arg (i := i) (j := 4) rfl dL_law_335 dL_law_336 dL_law_338 dL_law_339 dL_law_340 rfl rfl (by omega) (by omega) ?_
  refine x_arg (i := i) (j := 5) rfl dL_law_341 dL_law_342 dL_law_344 dL_law_345 dL_law_346 rfl rfl (by omega) (by omega) ?_
  refine z_V1 [.int (xs (i + 1)), .int (xs (i + 2)), .int (xs (i + 3)), .int (xs (i + 4)), .int (xs (i + 5))] [] (cs_L_202 _) (ci := 7) rfl S.lw.o ⟨Nat.le_of_ble_eq_true rfl, Nat.le_of_ble_eq_true rfl⟩ dL_law_347 rfl rfl (Nat.le_of_ble_eq_true rfl) c1 ?_
  refine x_aloadn dL_law_350 rfl ?_
  refine x_arg (i := i) (j := 1) rfl dL_law_351 dL_law_352 dL_law_354 dL_law_355 dL_law_356 rfl rfl (by omega) (by omega) ?_
  refine x_arg (i := i) (j := 2) rfl dL_law_357 dL_law_358 dL_law_360 dL_law_361 dL_law_362 rfl rfl (by omega) (by omega) ?_
  refine x_arg (i := i) (j := 3) rfl dL_law_363 dL_law_364 dL_law_366 dL_law_367 dL_law_368 rfl rfl (by omega) (by omega) ?_
  refine x_arg (i := i) (j := 4) rfl dL_law_369 dL_law_370 dL_law_372 dL_law_373 dL_law_374 rfl rfl (by omega) (by omega) ?_
  refine x_arg (i := i) (j := 5) rfl dL_law_375 dL_law_376 dL_law_378 dL_law_379 dL_law_380 rfl rfl (by omega) (by omega) ?_
  refine z_V1 [.int (xs (i + 1)), .int (xs (i + 2)), .int (xs (i + 3)), .int (xs (i + 4)), .int (xs (i + 5))] [.int v] (cs_L_206 _) (ci := 8) rfl S.mk.o ⟨Nat.le_of_ble_eq_true rfl, Nat.le_of_ble_eq_true rfl⟩ dL_law_381 rfl rfl (Nat.le_of_ble_eq_true rfl) c2 ?_
  refine x_icmp_eq 3795 dL_law_384 rfl (fun _ => ?_) (fun hn => absurd rfl hn)
  exact hk _ _ S1 Ho Ho2
theorem law_1 {n w m o o2 i kb gb D D' bb sb : Nat} {xs : Nat → Int32} {I : Mem} {K : Kt} (hi : i + 6 ≤ n) (hn : n ≤ 3072) (S : ST I K w m kb gb D) (Ho : LA K 103 1 o) (Ho2 : LA K 104 1 o2) (hc : LC (mX9_parseSetup 12) cX9_parseSetup (mX10_parseSetup 23) cX10_parseSetup [eIX, eIA] [.int (xs (i + 1))] I K w m kb gb D') (hk : Tail n xs w m o o2 i kb gb D' bb sb) : X mLaw code (2 + bb + (kb + 3 - kN K)) (12 + sb + (gb + 246 - gz K)) I K 389 (lawL w m o o2 i) [] lawQ (GsL n xs) := by
  obtain ⟨r, t, b, I1, I2, K1, a6, b6, ⟨c1, c2, c3⟩, ⟨e1, e2⟩, S1, ⟨g1, g2⟩, l1, l2⟩ := hc
  have z1 := S1.size
  refine X.less (bc' := a6 + (bb + (kb + 3 - kN K1))) (bs' := b6 + (sb + (gb + 246 - gz K1))) ?_ (by have := g1.1; omega) (by have := g1.2; omega)
  have hM : MK (KJ K1 o r) m := (S1.kj).mk
  refine x_aloadn dL_law_389 rfl ?_
  refine x_arg (i := i) (j := 1) rfl dL_law_390 dL_law_391 dL_law_393 dL_law_394 dL_law_395 rfl rfl (by omega) (by omega) ?_
  refine x_aloadn dL_law_396 rfl ?_
  refine y_callS1 (As := [.ref w, .int (xs (i + 1)), .ref o]) (rest := []) (cs_L_207 _) rfl rfl (Nat.le_of_ble_eq_true rfl) ⟨Nat.le_of_ble_eq_true rfl, Nat.le_of_ble_eq_true rfl⟩ dL_law_397 (wL_parseSetup 12 S.lw.o (Ho.ka g2) c1 c2) ?_
  refine x_istore dL_law_400 (Nat.le_of_ble_eq_true rfl) rfl rfl ?_
  refine x_aloadn dL_law_402 rfl ?_
  refine x_arg (i := i) (j := 1) rfl dL_law_403 dL_law_404 dL_law_406 dL_law_407 dL_law_408 rfl rfl (by omega) (by omega) ?_
  refine z_V1 [.int (xs (i + 1))] [] (cs_L_212 _) (ci := 8) rfl hM.o ⟨Nat.le_of_ble_eq_true rfl, Nat.le_of_ble_eq_true rfl⟩ dL_law_409 rfl rfl (Nat.le_of_ble_eq_true rfl) (c3 _ hM) ?_
  refine x_istore dL_law_412 (Nat.le_of_ble_eq_true rfl) rfl rfl ?_
  refine x_aloadn dL_law_414 rfl ?_
  refine z_V1 [] [] (cs_L_213 _) (ci := 8) rfl hM.o ⟨Nat.le_of_ble_eq_true rfl, Nat.le_of_ble_eq_true rfl⟩ dL_law_415 rfl rfl (Nat.le_of_ble_eq_true rfl) (c_X10_thrown 0 hM rfl) ?_
  refine X.e2 (congrArg Value.int e1) ?_
  refine x_iload dL_law_418 rfl ?_
  refine x_icmp_eq 425 dL_law_420 rfl (fun _ => ?_) (fun hn => absurd rfl hn)
  refine x_iload dL_law_425 rfl ?_
  cases r with
  | error E =>
    obtain ⟨i9, -, h9, rfl⟩ := c2
    refine x_if_ne 442 dL_law_427 rfl (fun _ => ?_) (fun hn => absurd hn (by rcases (show i9 = 0 ∨ i9 = 1 ∨ i9 = 2 by omega) with rfl | rfl | rfl <;> decide))
    refine x_goto 3795 dL_law_442 rfl ?_
    exact X.forget (L' := lawL w m o o2 i) ⟨Or.inl rfl, Or.inl rfl, Or.inl rfl, Or.inl rfl, Or.inl rfl, Or.inl rfl, Or.inr rfl, Or.inr rfl, Or.inl rfl, trivial⟩ (hk _ _ (ST.kj (o := o) (r := .error E) S1) (LA.kj (o := o) (r := .error E) (Ho.ka g2)) (LA.kj (o := o) (r := .error E) (Ho2.ka g2)))
  | ok v =>
    obtain rfl : t = 0 := c2
    refine x_if_ne 442 dL_law_427 rfl (fun hn => absurd rfl hn) (fun _ => ?_)
    obtain rfl := e2 v rfl
    refine x_aloadn dL_law_430 rfl ?_
    refine x_iconst 0 dL_law_431 rfl ?_
    refine x_lald (((Ho.ka g2).kj (r := .ok b) (o := o)).1) (((Ho.ka g2).kj (r := .ok b) (o := o)).2) (j := 0) rfl ⟨by decide, by decide⟩ dL_law_432 ?_
    refine X.e2 (w := .long b.toInt64) (congrArg Value.long u2_s) ?_
    refine x_iload dL_law_433 rfl ?_
    refine x_i2l dL_law_435 ?_
    refine x_lcmp dL_law_436 ?_
    refine X.e2 (congrArg Value.int lgc) ?_
    refine x_if_eq 442 dL_law_437 rfl (fun _ => ?_) (fun hn => absurd rfl hn)
    refine x_goto 3795 dL_law_442 rfl ?_
    exact X.forget (L' := lawL w m o o2 i) ⟨Or.inl rfl, Or.inl rfl, Or.inl rfl, Or.inl rfl, Or.inl rfl, Or.inl rfl, Or.inr rfl, Or.inr rfl, Or.inl rfl, trivial⟩ (hk _ _ (ST.kj (o := o) (r := .ok b) S1) (LA.kj (o := o) (r := .ok b) (Ho.ka g2)) (LA.kj (o := o) (r := .ok b) (Ho2.ka g2)))
theorem law_2 {n w m o o2 i kb gb D D' bb sb : Nat} {xs : Nat → Int32} {I : Mem} {K : Kt} (hi : i + 6 ≤ n) (hn : n ≤ 3072) (S : ST I K w m kb gb D) (Ho : LA K 103 1 o) (Ho2 : LA K 104 1 o2) (hc : LN (mX9_parseErrorCode 0) cX9_parseErrorCode (mX10_parseErrorCode 1) cX10_parseErrorCode [] I K w m kb gb D') (hk : Tail n xs w m o o2 i kb gb D' bb sb) : X mLaw code (2 + bb + (kb + 3 - kN K)) (12 + sb + (gb + 246 - gz K)) I K 445 (lawL w m o o2 i) [] lawQ (GsL n xs) := by
  obtain ⟨v, I1, I2, c1, c2, S1⟩ := hc
  refine X.less (bc' := bb + (kb + 3 - kN K)) (bs' := sb + (gb + 246 - gz K)) ?_ (by omega) (by omega)
  refine x_aloadn dL_law_445 rfl ?_
  refine z_V1 [] [] (cs_L_216 _) (ci := 7) rfl S.lw.o ⟨Nat.le_of_ble_eq_true rfl, Nat.le_of_ble_eq_true rfl⟩ dL_law_446 rfl rfl (Nat.le_of_ble_eq_true rfl) c1 ?_
  refine x_aloadn dL_law_449 rfl ?_
  refine z_V1 [] [.int v] (cs_L_219 _) (ci := 8) rfl S.mk.o ⟨Nat.le_of_ble_eq_true rfl, Nat.le_of_ble_eq_true rfl⟩ dL_law_450 rfl rfl (Nat.le_of_ble_eq_true rfl) c2 ?_
  refine x_icmp_eq 3795 dL_law_453 rfl (fun _ => ?_) (fun hn => absurd rfl hn)
  exact hk _ _ S1 Ho Ho2
theorem law_3 {n w m o o2 i kb gb D D' bb sb : Nat} {xs : Nat → Int32} {I : Mem} {K : Kt} (hi : i + 6 ≤ n) (hn : n ≤ 3072) (S : ST I K w m kb gb D) (Ho : LA K 103 1 o) (Ho2 : LA K 104 1 o2) (hc : LN (mX9_parseErrorPosition 0) cX9_parseErrorPosition (mX10_parseErrorPosition 1) cX10_parseErrorPosition [] I K w m kb gb D') (hk : Tail n xs w m o o2 i kb gb D' bb sb) : X mLaw code (2 + bb + (kb + 3 - kN K)) (12 + sb + (gb + 246 - gz K)) I K 458 (lawL w m o o2 i) [] lawQ (GsL n xs) := by
  obtain ⟨v, I1, I2, c1, c2, S1⟩ := hc
  refine X.less (bc' := bb + (kb + 3 - kN K)) (bs' := sb + (gb + 246 - gz K)) ?_ (by omega) (by omega)
  refine x_aloadn dL_law_458 rfl ?_
  refine z_V1 [] [] (cs_L_220 _) (ci := 7) rfl S.lw.o ⟨Nat.le_of_ble_eq_true rfl, Nat.le_of_ble_eq_true rfl⟩ dL_law_459 rfl rfl (Nat.le_of_ble_eq_true rfl) c1 ?_
  refine x_aloadn dL_law_462 rfl ?_
  refine z_V1 [] [.int v] (cs_L_223 _) (ci := 8) rfl S.mk.o ⟨Nat.le_of_ble_eq_true rfl, Nat.le_of_ble_eq_true rfl⟩ dL_law_463 rfl rfl (Nat.le_of_ble_eq_true rfl) c2 ?_
  refine x_icmp_eq 3795 dL_law_466 rfl (fun _ => ?_) (fun hn => absurd rfl hn)
  exact hk _ _ S1 Ho Ho2
theorem law_4 {n w m o o2 i kb gb D D' bb sb : Nat} {xs : Nat → Int32} {I : Mem} {K : Kt} (hi : i + 6 ≤ n) (hn : n ≤ 3072) (S : ST I K w m kb gb D) (Ho : LA K 103 1 o) (Ho2 : LA K 104 1 o2) (hc : LN (mX9_bufferLength 0) cX9_bufferLength (mX10_bufferLength 1) cX10_bufferLength [] I K w m kb gb D') (hk : Tail n xs w m o o2 i kb gb D' bb sb) : X mLaw code (2 + bb + (kb + 3 - kN K)) (12 + sb + (gb + 246 - gz K)) I K 471 (lawL w m o o2 i) [] lawQ (GsL n xs) := by
  obtain ⟨v, I1, I2, c1, c2, S1⟩ := hc
  refine X.less (bc' := bb + (kb + 3 - kN K)) (bs' := sb + (gb + 246 - gz K)) ?_ (by omega) (by omega)
  refine x_aloadn dL_law_471 rfl ?_
  refine z_V1 [] [] (cs_L_224 _) (ci := 7) rfl S.lw.o ⟨Nat.le_of_ble_eq_true rfl, Nat.le_of_ble_eq_true rfl⟩ dL_law_472 rfl rfl (Nat.le_of_ble_eq_true rfl) c1 ?_
  refine x_aloadn dL_law_475 rfl ?_
  refine z_V1 [] [.int v] (cs_L_227 _) (ci := 8) rfl S.mk.o ⟨Nat.le_of_ble_eq_true rfl, Nat.le_of_ble_eq_true rfl⟩ dL_law_476 rfl rfl (Nat.le_of_ble_eq_true rfl) c2 ?_
  refine x_icmp_eq 3795 dL_law_479 rfl (fun _ => ?_) (fun hn => absurd rfl hn)
  exact hk _ _ S1 Ho Ho2
theorem law_5 {n w m o o2 i kb gb D D' bb sb : Nat} {xs : Nat → Int32} {I : Mem} {K : Kt} (hi : i + 6 ≤ n) (hn : n ≤ 3072) (S : ST I K w m kb gb D) (Ho : LA K 103 1 o) (Ho2 : LA K 104 1 o2) (hc : LC (mX9_day 7) cX9_day (mX10_day 3) cX10_day [eIS] [] I K w m kb gb D') (hk : Tail n xs w m o o2 i kb gb D' bb sb) : X mLaw code (2 + bb + (kb + 3 - kN K)) (12 + sb + (gb + 246 - gz K)) I K 484 (lawL w m o o2 i) [] lawQ (GsL n xs) := by
  obtain ⟨r, t, b, I1, I2, K1, a6, b6, ⟨c1, c2, c3⟩, ⟨e1, e2⟩, S1, ⟨g1, g2⟩, l1, l2⟩ := hc
  have z1 := S1.size
  refine X.less (bc' := a6 + (bb + (kb + 3 - kN K1))) (bs' := b6 + (sb + (gb + 246 - gz K1))) ?_ (by have := g1.1; omega) (by have := g1.2; omega)
  have hM : MK (KJ K1 o r) m := (S1.kj).mk
  refine x_aloadn dL_law_484 rfl ?_
  refine x_aloadn dL_law_485 rfl ?_
  refine y_callS1 (As := [.ref w, .ref o]) (rest := []) (cs_L_228 _) rfl rfl (Nat.le_of_ble_eq_true rfl) ⟨Nat.le_of_ble_eq_true rfl, Nat.le_of_ble_eq_true rfl⟩ dL_law_486 (wL_day 7 S.lw.o (Ho.ka g2) c1 c2) ?_
  refine x_istore dL_law_489 (Nat.le_of_ble_eq_true rfl) rfl rfl ?_
  refine x_aloadn dL_law_491 rfl ?_
  refine z_V1 [] [] (cs_L_231 _) (ci := 8) rfl hM.o ⟨Nat.le_of_ble_eq_true rfl, Nat.le_of_ble_eq_true rfl⟩ dL_law_492 rfl rfl (Nat.le_of_ble_eq_true rfl) (c3 _ hM) ?_
  refine x_istore dL_law_495 (Nat.le_of_ble_eq_true rfl) rfl rfl ?_
  refine x_aloadn dL_law_497 rfl ?_
  refine z_V1 [] [] (cs_L_213 _) (ci := 8) rfl hM.o ⟨Nat.le_of_ble_eq_true rfl, Nat.le_of_ble_eq_true rfl⟩ dL_law_498 rfl rfl (Nat.le_of_ble_eq_true rfl) (c_X10_thrown 0 hM rfl) ?_
  refine X.e2 (congrArg Value.int e1) ?_
  refine x_iload dL_law_501 rfl ?_
  refine x_icmp_eq 508 dL_law_503 rfl (fun _ => ?_) (fun hn => absurd rfl hn)
  refine x_iload dL_law_508 rfl ?_
  cases r with
  | error E =>
    obtain ⟨i9, -, h9, rfl⟩ := c2
    refine x_if_ne 525 dL_law_510 rfl (fun _ => ?_) (fun hn => absurd hn (by rcases (show i9 = 0 ∨ i9 = 1 ∨ i9 = 2 by omega) with rfl | rfl | rfl <;> decide))
    refine x_goto 3795 dL_law_525 rfl ?_
    exact X.forget (L' := lawL w m o o2 i) ⟨Or.inl rfl, Or.inl rfl, Or.inl rfl, Or.inl rfl, Or.inl rfl, Or.inl rfl, Or.inr rfl, Or.inr rfl, Or.inl rfl, trivial⟩ (hk _ _ (ST.kj (o := o) (r := .error E) S1) (LA.kj (o := o) (r := .error E) (Ho.ka g2)) (LA.kj (o := o) (r := .error E) (Ho2.ka g2)))
  | ok v =>
    obtain rfl : t = 0 := c2
    refine x_if_ne 525 dL_law_510 rfl (fun hn => absurd rfl hn) (fun _ => ?_)
    obtain rfl := e2 v rfl
    refine x_aloadn dL_law_513 rfl ?_
    refine x_iconst 0 dL_law_514 rfl ?_
    refine x_lald (((Ho.ka g2).kj (r := .ok b) (o := o)).1) (((Ho.ka g2).kj (r := .ok b) (o := o)).2) (j := 0) rfl ⟨by decide, by decide⟩ dL_law_515 ?_
    refine X.e2 (w := .long b.toInt64) (congrArg Value.long u2_s) ?_
    refine x_iload dL_law_516 rfl ?_
    refine x_i2l dL_law_518 ?_
    refine x_lcmp dL_law_519 ?_
    refine X.e2 (congrArg Value.int lgc) ?_
    refine x_if_eq 525 dL_law_520 rfl (fun _ => ?_) (fun hn => absurd rfl hn)
    refine x_goto 3795 dL_law_525 rfl ?_
    exact X.forget (L' := lawL w m o o2 i) ⟨Or.inl rfl, Or.inl rfl, Or.inl rfl, Or.inl rfl, Or.inl rfl, Or.inl rfl, Or.inr rfl, Or.inr rfl, Or.inl rfl, trivial⟩ (hk _ _ (ST.kj (o := o) (r := .ok b) S1) (LA.kj (o := o) (r := .ok b) (Ho.ka g2)) (LA.kj (o := o) (r := .ok b) (Ho2.ka g2)))
theorem law_6 {n w m o o2 i kb gb D D' bb sb : Nat} {xs : Nat → Int32} {I : Mem} {K : Kt} (hi : i + 6 ≤ n) (hn : n ≤ 3072) (S : ST I K w m kb gb D) (Ho : LA K 103 1 o) (Ho2 : LA K 104 1 o2) (hc : LC (mX9_yearLength 7) cX9_yearLength (mX10_yearLength 3) cX10_yearLength [eIS] [] I K w m kb gb D') (hk : Tail n xs w m o o2 i kb gb D' bb sb) : X mLaw code (2 + bb + (kb + 3 - kN K)) (12 + sb + (gb + 246 - gz K)) I K 528 (lawL w m o o2 i) [] lawQ (GsL n xs) := by
  obtain ⟨r, t, b, I1, I2, K1, a6, b6, ⟨c1, c2, c3⟩, ⟨e1, e2⟩, S1, ⟨g1, g2⟩, l1, l2⟩ := hc
  have z1 := S1.size
  refine X.less (bc' := a6 + (bb + (kb + 3 - kN K1))) (bs' := b6 + (sb + (gb + 246 - gz K1))) ?_ (by have := g1.1; omega) (by have := g1.2; omega)
  have hM : MK (KJ K1 o r) m := (S1.kj).mk
  refine x_aloadn dL_law_528 rfl ?_
  refine x_aloadn dL_law_529 rfl ?_
  refine y_callS1 (As := [.ref w, .ref o]) (rest := []) (cs_L_232 _) rfl rfl (Nat.le_of_ble_eq_true rfl) ⟨Nat.le_of_ble_eq_true rfl, Nat.le_of_ble_eq_true rfl⟩ dL_law_530 (wL_yearLength 7 S.lw.o (Ho.ka g2) c1 c2) ?_
  refine x_istore dL_law_533 (Nat.le_of_ble_eq_true rfl) rfl rfl ?_
  refine x_aloadn dL_law_535 rfl ?_
  refine z_V1 [] [] (cs_L_234 _) (ci := 8) rfl hM.o ⟨Nat.le_of_ble_eq_true rfl, Nat.le_of_ble_eq_true rfl⟩ dL_law_536 rfl rfl (Nat.le_of_ble_eq_true rfl) (c3 _ hM) ?_
  refine x_istore dL_law_539 (Nat.le_of_ble_eq_true rfl) rfl rfl ?_
  refine x_aloadn dL_law_541 rfl ?_
  refine z_V1 [] [] (cs_L_213 _) (ci := 8) rfl hM.o ⟨Nat.le_of_ble_eq_true rfl, Nat.le_of_ble_eq_true rfl⟩ dL_law_542 rfl rfl (Nat.le_of_ble_eq_true rfl) (c_X10_thrown 0 hM rfl) ?_
  refine X.e2 (congrArg Value.int e1) ?_
  refine x_iload dL_law_545 rfl ?_
  refine x_icmp_eq 552 dL_law_547 rfl (fun _ => ?_) (fun hn => absurd rfl hn)
  refine x_iload dL_law_552 rfl ?_
  cases r with
  | error E =>
    obtain ⟨i9, -, h9, rfl⟩ := c2
    refine x_if_ne 569 dL_law_554 rfl (fun _ => ?_) (fun hn => absurd hn (by rcases (show i9 = 0 ∨ i9 = 1 ∨ i9 = 2 by omega) with rfl | rfl | rfl <;> decide))
    refine x_goto 3795 dL_law_569 rfl ?_
    exact X.forget (L' := lawL w m o o2 i) ⟨Or.inl rfl, Or.inl rfl, Or.inl rfl, Or.inl rfl, Or.inl rfl, Or.inl rfl, Or.inr rfl, Or.inr rfl, Or.inl rfl, trivial⟩ (hk _ _ (ST.kj (o := o) (r := .error E) S1) (LA.kj (o := o) (r := .error E) (Ho.ka g2)) (LA.kj (o := o) (r := .error E) (Ho2.ka g2)))
  | ok v =>
    obtain rfl : t = 0 := c2
    refine x_if_ne 569 dL_law_554 rfl (fun hn => absurd rfl hn) (fun _ => ?_)
    obtain rfl := e2 v rfl
    refine x_aloadn dL_law_557 rfl ?_
    refine x_iconst 0 dL_law_558 rfl ?_
    refine x_lald (((Ho.ka g2).kj (r := .ok b) (o := o)).1) (((Ho.ka g2).kj (r := .ok b) (o := o)).2) (j := 0) rfl ⟨by decide, by decide⟩ dL_law_559 ?_
    refine X.e2 (w := .long b.toInt64) (congrArg Value.long u2_s) ?_
    refine x_iload dL_law_560 rfl ?_
    refine x_i2l dL_law_562 ?_
    refine x_lcmp dL_law_563 ?_
    refine X.e2 (congrArg Value.int lgc) ?_
    refine x_if_eq 569 dL_law_564 rfl (fun _ => ?_) (fun hn => absurd rfl hn)
    refine x_goto 3795 dL_law_569 rfl ?_
    exact X.forget (L' := lawL w m o o2 i) ⟨Or.inl rfl, Or.inl rfl, Or.inl rfl, Or.inl rfl, Or.inl rfl, Or.inl rfl, Or.inr rfl, Or.inr rfl, Or.inl rfl, trivial⟩ (hk _ _ (ST.kj (o := o) (r := .ok b) S1) (LA.kj (o := o) (r := .ok b) (Ho.ka g2)) (LA.kj (o := o) (r := .ok b) (Ho2.ka g2)))
theorem law_7 {n w m o o2 i kb gb D D' bb sb : Nat} {xs : Nat → Int32} {I : Mem} {K : Kt} (hi : i + 6 ≤ n) (hn : n ≤ 3072) (S : ST I K w m kb gb D) (Ho : LA K 103 1 o) (Ho2 : LA K 104 1 o2) (hc : LC (mX9_dayOfYear 7) cX9_dayOfYear (mX10_dayOfYear 2) cX10_dayOfYear [eIS] [] I K w m kb gb D') (hk : Tail n xs w m o o2 i kb gb D' bb sb) : X mLaw code (2 + bb + (kb + 3 - kN K)) (12 + sb + (gb + 246 - gz K)) I K 572 (lawL w m o o2 i) [] lawQ (GsL n xs) := by
  obtain ⟨r, t, b, I1, I2, K1, a6, b6, ⟨c1, c2, c3⟩, ⟨e1, e2⟩, S1, ⟨g1, g2⟩, l1, l2⟩ := hc
  have z1 := S1.size
  refine X.less (bc' := a6 + (bb + (kb + 3 - kN K1))) (bs' := b6 + (sb + (gb + 246 - gz K1))) ?_ (by have := g1.1; omega) (by have := g1.2; omega)
  have hM : MK (KJ K1 o r) m := (S1.kj).mk
  refine x_aloadn dL_law_572 rfl ?_
  refine x_aloadn dL_law_573 rfl ?_
  refine y_callS1 (As := [.ref w, .ref o]) (rest := []) (cs_L_235 _) rfl rfl (Nat.le_of_ble_eq_true rfl) ⟨Nat.le_of_ble_eq_true rfl, Nat.le_of_ble_eq_true rfl⟩ dL_law_574 (wL_dayOfYear 7 S.lw.o (Ho.ka g2) c1 c2) ?_
  refine x_istore dL_law_577 (Nat.le_of_ble_eq_true rfl) rfl rfl ?_
  refine x_aloadn dL_law_579 rfl ?_
  refine z_V1 [] [] (cs_L_237 _) (ci := 8) rfl hM.o ⟨Nat.le_of_ble_eq_true rfl, Nat.le_of_ble_eq_true rfl⟩ dL_law_580 rfl rfl (Nat.le_of_ble_eq_true rfl) (c3 _ hM) ?_
  refine x_istore dL_law_583 (Nat.le_of_ble_eq_true rfl) rfl rfl ?_
  refine x_aloadn dL_law_585 rfl ?_
  refine z_V1 [] [] (cs_L_213 _) (ci := 8) rfl hM.o ⟨Nat.le_of_ble_eq_true rfl, Nat.le_of_ble_eq_true rfl⟩ dL_law_586 rfl rfl (Nat.le_of_ble_eq_true rfl) (c_X10_thrown 0 hM rfl) ?_
  refine X.e2 (congrArg Value.int e1) ?_
  refine x_iload dL_law_589 rfl ?_
  refine x_icmp_eq 596 dL_law_591 rfl (fun _ => ?_) (fun hn => absurd rfl hn)
  refine x_iload dL_law_596 rfl ?_
  cases r with
  | error E =>
    obtain ⟨i9, -, h9, rfl⟩ := c2
    refine x_if_ne 613 dL_law_598 rfl (fun _ => ?_) (fun hn => absurd hn (by rcases (show i9 = 0 ∨ i9 = 1 ∨ i9 = 2 by omega) with rfl | rfl | rfl <;> decide))
    refine x_goto 3795 dL_law_613 rfl ?_
    exact X.forget (L' := lawL w m o o2 i) ⟨Or.inl rfl, Or.inl rfl, Or.inl rfl, Or.inl rfl, Or.inl rfl, Or.inl rfl, Or.inr rfl, Or.inr rfl, Or.inl rfl, trivial⟩ (hk _ _ (ST.kj (o := o) (r := .error E) S1) (LA.kj (o := o) (r := .error E) (Ho.ka g2)) (LA.kj (o := o) (r := .error E) (Ho2.ka g2)))
  | ok v =>
    obtain rfl : t = 0 := c2
    refine x_if_ne 613 dL_law_598 rfl (fun hn => absurd rfl hn) (fun _ => ?_)
    obtain rfl := e2 v rfl
    refine x_aloadn dL_law_601 rfl ?_
    refine x_iconst 0 dL_law_602 rfl ?_
    refine x_lald (((Ho.ka g2).kj (r := .ok b) (o := o)).1) (((Ho.ka g2).kj (r := .ok b) (o := o)).2) (j := 0) rfl ⟨by decide, by decide⟩ dL_law_603 ?_
    refine X.e2 (w := .long b.toInt64) (congrArg Value.long u2_s) ?_
    refine x_iload dL_law_604 rfl ?_
    refine x_i2l dL_law_606 ?_
    refine x_lcmp dL_law_607 ?_
    refine X.e2 (congrArg Value.int lgc) ?_
    refine x_if_eq 613 dL_law_608 rfl (fun _ => ?_) (fun hn => absurd rfl hn)
    refine x_goto 3795 dL_law_613 rfl ?_
    exact X.forget (L' := lawL w m o o2 i) ⟨Or.inl rfl, Or.inl rfl, Or.inl rfl, Or.inl rfl, Or.inl rfl, Or.inl rfl, Or.inr rfl, Or.inr rfl, Or.inl rfl, trivial⟩ (hk _ _ (ST.kj (o := o) (r := .ok b) S1) (LA.kj (o := o) (r := .ok b) (Ho.ka g2)) (LA.kj (o := o) (r := .ok b) (Ho2.ka g2)))
theorem law_8 {n w m o o2 i kb gb D D' bb sb : Nat} {xs : Nat → Int32} {I : Mem} {K : Kt} (hi : i + 6 ≤ n) (hn : n ≤ 3072) (S : ST I K w m kb gb D) (Ho : LA K 103 1 o) (Ho2 : LA K 104 1 o2) (hc : LC (mX9_grantedCount 7) cX9_grantedCount (mX10_grantedCount 2) cX10_grantedCount [eIS] [] I K w m kb gb D') (hk : Tail n xs w m o o2 i kb gb D' bb sb) : X mLaw code (2 + bb + (kb + 3 - kN K)) (12 + sb + (gb + 246 - gz K)) I K 616 (lawL w m o o2 i) [] lawQ (GsL n xs) := by
  obtain ⟨r, t, b, I1, I2, K1, a6, b6, ⟨c1, c2, c3⟩, ⟨e1, e2⟩, S1, ⟨g1, g2⟩, l1, l2⟩ := hc
  have z1 := S1.size
  refine X.less (bc' := a6 + (bb + (kb + 3 - kN K1))) (bs' := b6 + (sb + (gb + 246 - gz K1))) ?_ (by have := g1.1; omega) (by have := g1.2; omega)
  have hM : MK (KJ K1 o r) m := (S1.kj).mk
  refine x_aloadn dL_law_616 rfl ?_
  refine x_aloadn dL_law_617 rfl ?_
  refine y_callS1 (As := [.ref w, .ref o]) (rest := []) (cs_L_238 _) rfl rfl (Nat.le_of_ble_eq_true rfl) ⟨Nat.le_of_ble_eq_true rfl, Nat.le_of_ble_eq_true rfl⟩ dL_law_618 (wL_grantedCount 7 S.lw.o (Ho.ka g2) c1 c2) ?_
  refine x_istore dL_law_621 (Nat.le_of_ble_eq_true rfl) rfl rfl ?_
  refine x_aloadn dL_law_623 rfl ?_
  refine z_V1 [] [] (cs_L_240 _) (ci := 8) rfl hM.o ⟨Nat.le_of_ble_eq_true rfl, Nat.le_of_ble_eq_true rfl⟩ dL_law_624 rfl rfl (Nat.le_of_ble_eq_true rfl) (c3 _ hM) ?_
  refine x_istore dL_law_627 (Nat.le_of_ble_eq_true rfl) rfl rfl ?_
  refine x_aloadn dL_law_629 rfl ?_
  refine z_V1 [] [] (cs_L_213 _) (ci := 8) rfl hM.o ⟨Nat.le_of_ble_eq_true rfl, Nat.le_of_ble_eq_true rfl⟩ dL_law_630 rfl rfl (Nat.le_of_ble_eq_true rfl) (c_X10_thrown 0 hM rfl) ?_
  refine X.e2 (congrArg Value.int e1) ?_
  refine x_iload dL_law_633 rfl ?_
  refine x_icmp_eq 640 dL_law_635 rfl (fun _ => ?_) (fun hn => absurd rfl hn)
  refine x_iload dL_law_640 rfl ?_
  cases r with
  | error E =>
    obtain ⟨i9, -, h9, rfl⟩ := c2
    refine x_if_ne 657 dL_law_642 rfl (fun _ => ?_) (fun hn => absurd hn (by rcases (show i9 = 0 ∨ i9 = 1 ∨ i9 = 2 by omega) with rfl | rfl | rfl <;> decide))
    refine x_goto 3795 dL_law_657 rfl ?_
    exact X.forget (L' := lawL w m o o2 i) ⟨Or.inl rfl, Or.inl rfl, Or.inl rfl, Or.inl rfl, Or.inl rfl, Or.inl rfl, Or.inr rfl, Or.inr rfl, Or.inl rfl, trivial⟩ (hk _ _ (ST.kj (o := o) (r := .error E) S1) (LA.kj (o := o) (r := .error E) (Ho.ka g2)) (LA.kj (o := o) (r := .error E) (Ho2.ka g2)))
  | ok v =>
    obtain rfl : t = 0 := c2
    refine x_if_ne 657 dL_law_642 rfl (fun hn => absurd rfl hn) (fun _ => ?_)
    obtain rfl := e2 v rfl
    refine x_aloadn dL_law_645 rfl ?_
    refine x_iconst 0 dL_law_646 rfl ?_
    refine x_lald (((Ho.ka g2).kj (r := .ok b) (o := o)).1) (((Ho.ka g2).kj (r := .ok b) (o := o)).2) (j := 0) rfl ⟨by decide, by decide⟩ dL_law_647 ?_
    refine X.e2 (w := .long b.toInt64) (congrArg Value.long u2_s) ?_
    refine x_iload dL_law_648 rfl ?_
    refine x_i2l dL_law_650 ?_
    refine x_lcmp dL_law_651 ?_
    refine X.e2 (congrArg Value.int lgc) ?_
    refine x_if_eq 657 dL_law_652 rfl (fun _ => ?_) (fun hn => absurd rfl hn)
    refine x_goto 3795 dL_law_657 rfl ?_
    exact X.forget (L' := lawL w m o o2 i) ⟨Or.inl rfl, Or.inl rfl, Or.inl rfl, Or.inl rfl, Or.inl rfl, Or.inl rfl, Or.inr rfl, Or.inr rfl, Or.inl rfl, trivial⟩ (hk _ _ (ST.kj (o := o) (r := .ok b) S1) (LA.kj (o := o) (r := .ok b) (Ho.ka g2)) (LA.kj (o := o) (r := .ok b) (Ho2.ka g2)))
theorem law_9 {n w m o o2 i kb gb D D' bb sb : Nat} {xs : Nat → Int32} {I : Mem} {K : Kt} (hi : i + 6 ≤ n) (hn : n ≤ 3072) (S : ST I K w m kb gb D) (Ho : LA K 103 1 o) (Ho2 : LA K 104 1 o2) (hc : LC (mX9_fadedCount 7) cX9_fadedCount (mX10_fadedCount 2) cX10_fadedCount [eIS] [] I K w m kb gb D') (hk : Tail n xs w m o o2 i kb gb D' bb sb) : X mLaw code (2 + bb + (kb + 3 - kN K)) (12 + sb + (gb + 246 - gz K)) I K 660 (lawL w m o o2 i) [] lawQ (GsL n xs) := by
  obtain ⟨r, t, b, I1, I2, K1, a6, b6, ⟨c1, c2, c3⟩, ⟨e1, e2⟩, S1, ⟨g1, g2⟩, l1, l2⟩ := hc
  have z1 := S1.size
  refine X.less (bc' := a6 + (bb + (kb + 3 - kN K1))) (bs' := b6 + (sb + (gb + 246 - gz K1))) ?_ (by have := g1.1; omega) (by have := g1.2; omega)
  have hM : MK (KJ K1 o r) m := (S1.kj).mk
  refine x_aloadn dL_law_660 rfl ?_
  refine x_aloadn dL_law_661 rfl ?_
  refine y_callS1 (As := [.ref w, .ref o]) (rest := []) (cs_L_241 _) rfl rfl (Nat.le_of_ble_eq_true rfl) ⟨Nat.le_of_ble_eq_true rfl, Nat.le_of_ble_eq_true rfl⟩ dL_law_662 (wL_fadedCount 7 S.lw.o (Ho.ka g2) c1 c2) ?_
  refine x_istore dL_law_665 (Nat.le_of_ble_eq_true rfl) rfl rfl ?_
  refine x_aloadn dL_law_667 rfl ?_
  refine z_V1 [] [] (cs_L_243 _) (ci := 8) rfl hM.o ⟨Nat.le_of_ble_eq_true rfl, Nat.le_of_ble_eq_true rfl⟩ dL_law_668 rfl rfl (Nat.le_of_ble_eq_true rfl) (c3 _ hM) ?_
  refine x_istore dL_law_671 (Nat.le_of_ble_eq_true rfl) rfl rfl ?_
  refine x_aloadn dL_law_673 rfl ?_
  refine z_V1 [] [] (cs_L_213 _) (ci := 8) rfl hM.o ⟨Nat.le_of_ble_eq_true rfl, Nat.le_of_ble_eq_true rfl⟩ dL_law_674 rfl rfl (Nat.le_of_ble_eq_true rfl) (c_X10_thrown 0 hM rfl) ?_
  refine X.e2 (congrArg Value.int e1) ?_
  refine x_iload dL_law_677 rfl ?_
  refine x_icmp_eq 684 dL_law_679 rfl (fun _ => ?_) (fun hn => absurd rfl hn)
  refine x_iload dL_law_684 rfl ?_
  cases r with
  | error E =>
    obtain ⟨i9, -, h9, rfl⟩ := c2
    refine x_if_ne 701 dL_law_686 rfl (fun _ => ?_) (fun hn => absurd hn (by rcases (show i9 = 0 ∨ i9 = 1 ∨ i9 = 2 by omega) with rfl | rfl | rfl <;> decide))
    refine x_goto 3795 dL_law_701 rfl ?_
    exact X.forget (L' := lawL w m o o2 i) ⟨Or.inl rfl, Or.inl rfl, Or.inl rfl, Or.inl rfl, Or.inl rfl, Or.inl rfl, Or.inr rfl, Or.inr rfl, Or.inl rfl, trivial⟩ (hk _ _ (ST.kj (o := o) (r := .error E) S1) (LA.kj (o := o) (r := .error E) (Ho.ka g2)) (LA.kj (o := o) (r := .error E) (Ho2.ka g2)))
  | ok v =>
    obtain rfl : t = 0 := c2
    refine x_if_ne 701 dL_law_686 rfl (fun hn => absurd rfl hn) (fun _ => ?_)
    obtain rfl := e2 v rfl
    refine x_aloadn dL_law_689 rfl ?_
    refine x_iconst 0 dL_law_690 rfl ?_
    refine x_lald (((Ho.ka g2).kj (r := .ok b) (o := o)).1) (((Ho.ka g2).kj (r := .ok b) (o := o)).2) (j := 0) rfl ⟨by decide, by decide⟩ dL_law_691 ?_
    refine X.e2 (w := .long b.toInt64) (congrArg Value.long u2_s) ?_
    refine x_iload dL_law_692 rfl ?_
    refine x_i2l dL_law_694 ?_
    refine x_lcmp dL_law_695 ?_
    refine X.e2 (congrArg Value.int lgc) ?_
    refine x_if_eq 701 dL_law_696 rfl (fun _ => ?_) (fun hn => absurd rfl hn)
    refine x_goto 3795 dL_law_701 rfl ?_
    exact X.forget (L' := lawL w m o o2 i) ⟨Or.inl rfl, Or.inl rfl, Or.inl rfl, Or.inl rfl, Or.inl rfl, Or.inl rfl, Or.inr rfl, Or.inr rfl, Or.inl rfl, trivial⟩ (hk _ _ (ST.kj (o := o) (r := .ok b) S1) (LA.kj (o := o) (r := .ok b) (Ho.ka g2)) (LA.kj (o := o) (r := .ok b) (Ho2.ka g2)))
theorem law_10 {n w m o o2 i kb gb D D' bb sb : Nat} {xs : Nat → Int32} {I : Mem} {K : Kt} (hi : i + 6 ≤ n) (hn : n ≤ 3072) (S : ST I K w m kb gb D) (Ho : LA K 103 1 o) (Ho2 : LA K 104 1 o2) (hc : LC (mX9_imbalance 7) cX9_imbalance (mX10_imbalance 2) cX10_imbalance [eIS] [] I K w m kb gb D') (hk : Tail n xs w m o o2 i kb gb D' bb sb) : X mLaw code (2 + bb + (kb + 3 - kN K)) (12 + sb + (gb + 246 - gz K)) I K 704 (lawL w m o o2 i) [] lawQ (GsL n xs) := by
  obtain ⟨r, t, b, I1, I2, K1, a6, b6, ⟨c1, c2, c3⟩, ⟨e1, e2⟩, S1, ⟨g1, g2⟩, l1, l2⟩ := hc
  have z1 := S1.size
  refine X.less (bc' := a6 + (bb + (kb + 3 - kN K1))) (bs' := b6 + (sb + (gb + 246 - gz K1))) ?_ (by have := g1.1; omega) (by have := g1.2; omega)
  have hM : MK (KJ K1 o r) m := (S1.kj).mk
  refine x_aloadn dL_law_704 rfl ?_
  refine x_aloadn dL_law_705 rfl ?_
  refine y_callS1 (As := [.ref w, .ref o]) (rest := []) (cs_L_244 _) rfl rfl (Nat.le_of_ble_eq_true rfl) ⟨Nat.le_of_ble_eq_true rfl, Nat.le_of_ble_eq_true rfl⟩ dL_law_706 (wL_imbalance 7 S.lw.o (Ho.ka g2) c1 c2) ?_
  refine x_istore dL_law_709 (Nat.le_of_ble_eq_true rfl) rfl rfl ?_
  refine x_aloadn dL_law_711 rfl ?_
  refine z_V1 [] [] (cs_L_246 _) (ci := 8) rfl hM.o ⟨Nat.le_of_ble_eq_true rfl, Nat.le_of_ble_eq_true rfl⟩ dL_law_712 rfl rfl (Nat.le_of_ble_eq_true rfl) (c3 _ hM) ?_
  refine x_istore dL_law_715 (Nat.le_of_ble_eq_true rfl) rfl rfl ?_
  refine x_aloadn dL_law_717 rfl ?_
  refine z_V1 [] [] (cs_L_213 _) (ci := 8) rfl hM.o ⟨Nat.le_of_ble_eq_true rfl, Nat.le_of_ble_eq_true rfl⟩ dL_law_718 rfl rfl (Nat.le_of_ble_eq_true rfl) (c_X10_thrown 0 hM rfl) ?_
  refine X.e2 (congrArg Value.int e1) ?_
  refine x_iload dL_law_721 rfl ?_
  refine x_icmp_eq 728 dL_law_723 rfl (fun _ => ?_) (fun hn => absurd rfl hn)
  refine x_iload dL_law_728 rfl ?_
  cases r with
  | error E =>
    obtain ⟨i9, -, h9, rfl⟩ := c2
    refine x_if_ne 745 dL_law_730 rfl (fun _ => ?_) (fun hn => absurd hn (by rcases (show i9 = 0 ∨ i9 = 1 ∨ i9 = 2 by omega) with rfl | rfl | rfl <;> decide))
    refine x_goto 3795 dL_law_745 rfl ?_
    exact X.forget (L' := lawL w m o o2 i) ⟨Or.inl rfl, Or.inl rfl, Or.inl rfl, Or.inl rfl, Or.inl rfl, Or.inl rfl, Or.inr rfl, Or.inr rfl, Or.inl rfl, trivial⟩ (hk _ _ (ST.kj (o := o) (r := .error E) S1) (LA.kj (o := o) (r := .error E) (Ho.ka g2)) (LA.kj (o := o) (r := .error E) (Ho2.ka g2)))
  | ok v =>
    obtain rfl : t = 0 := c2
    refine x_if_ne 745 dL_law_730 rfl (fun hn => absurd rfl hn) (fun _ => ?_)
    obtain rfl := e2 v rfl
    refine x_aloadn dL_law_733 rfl ?_
    refine x_iconst 0 dL_law_734 rfl ?_
    refine x_lald (((Ho.ka g2).kj (r := .ok b) (o := o)).1) (((Ho.ka g2).kj (r := .ok b) (o := o)).2) (j := 0) rfl ⟨by decide, by decide⟩ dL_law_735 ?_
    refine X.e2 (w := .long b.toInt64) (congrArg Value.long u2_s) ?_
    refine x_iload dL_law_736 rfl ?_
    refine x_i2l dL_law_738 ?_
    refine x_lcmp dL_law_739 ?_
    refine X.e2 (congrArg Value.int lgc) ?_
    refine x_if_eq 745 dL_law_740 rfl (fun _ => ?_) (fun hn => absurd rfl hn)
    refine x_goto 3795 dL_law_745 rfl ?_
    exact X.forget (L' := lawL w m o o2 i) ⟨Or.inl rfl, Or.inl rfl, Or.inl rfl, Or.inl rfl, Or.inl rfl, Or.inl rfl, Or.inr rfl, Or.inr rfl, Or.inl rfl, trivial⟩ (hk _ _ (ST.kj (o := o) (r := .ok b) S1) (LA.kj (o := o) (r := .ok b) (Ho.ka g2)) (LA.kj (o := o) (r := .ok b) (Ho2.ka g2)))
theorem law_11 {n w m o o2 i kb gb D D' bb sb : Nat} {xs : Nat → Int32} {I : Mem} {K : Kt} (hi : i + 6 ≤ n) (hn : n ≤ 3072) (S : ST I K w m kb gb D) (Ho : LA K 103 1 o) (Ho2 : LA K 104 1 o2) (hc : LD64 I K w m kb gb D') (hk : Tail n xs w m o o2 i kb gb D' bb sb) : X mLaw code (2 + bb + (kb + 3 - kN K)) (12 + sb + (gb + 246 - gz K)) I K 748 (lawL w m o o2 i) [] lawQ (GsL n xs) := by
  obtain ⟨r, t, b, I2, ⟨c1, c2, c3⟩, ⟨e1, e2⟩, S1⟩ := hc
  have hcs : cst r ≤ 1 ∧ cs6 r ≤ 6 := by cases r <;> exact ⟨Nat.le_of_ble_eq_true rfl, Nat.le_of_ble_eq_true rfl⟩
  refine X.less (bc' := cst r + (bb + (kb + 3 - kN K))) (bs' := cs6 r + (sb + (gb + 246 - gz K))) ?_ (by omega) (by omega)
  have hM : MK (KD K o2 r) m := (S1.kd).mk
  refine x_aloadn dL_law_748 rfl ?_
  refine x_aload dL_law_749 rfl ?_
  refine y_callS1 (As := [.ref w, .ref o2]) (rest := []) (cs_L_247 _) rfl rfl (Nat.le_of_ble_eq_true rfl) ⟨Nat.le_of_ble_eq_true rfl, Nat.le_of_ble_eq_true rfl⟩ dL_law_751 (wL_averageWear 7 S.lw.o Ho2 c1 c2) ?_
  refine x_istore dL_law_754 (Nat.le_of_ble_eq_true rfl) rfl rfl ?_
  refine x_aloadn dL_law_756 rfl ?_
  refine z_V1 [] [] (cs_L_250 _) (ci := 8) rfl hM.o ⟨Nat.le_of_ble_eq_true rfl, Nat.le_of_ble_eq_true rfl⟩ dL_law_757 rfl rfl (Nat.le_of_ble_eq_true rfl) (c3 _ hM) ?_
  refine x_dstore dL_law_760 (Nat.le_of_ble_eq_true rfl) rfl rfl ?_
  refine x_aloadn dL_law_762 rfl ?_
  refine z_V1 [] [] (cs_L_213 _) (ci := 8) rfl hM.o ⟨Nat.le_of_ble_eq_true rfl, Nat.le_of_ble_eq_true rfl⟩ dL_law_763 rfl rfl (Nat.le_of_ble_eq_true rfl) (c_X10_thrown 0 hM rfl) ?_
  refine X.e2 (congrArg Value.int e1) ?_
  refine x_iload dL_law_766 rfl ?_
  refine x_icmp_eq 773 dL_law_768 rfl (fun _ => ?_) (fun hn => absurd rfl hn)
  refine x_iload dL_law_773 rfl ?_
  cases r with
  | error E =>
    obtain ⟨i9, -, h9, rfl⟩ := c2
    refine x_if_ne 810 dL_law_775 rfl (fun _ => ?_) (fun hn => absurd hn (by rcases (show i9 = 0 ∨ i9 = 1 ∨ i9 = 2 by omega) with rfl | rfl | rfl <;> decide))
    refine x_goto 3795 dL_law_810 rfl ?_
    exact X.forget (L' := lawL w m o o2 i) ⟨Or.inl rfl, Or.inl rfl, Or.inl rfl, Or.inl rfl, Or.inl rfl, Or.inl rfl, Or.inr rfl, Or.inr rfl, Or.inl rfl, trivial⟩ (hk _ _ (ST.kd (o := o2) (r := .error E) S1) (LA.kd (o := o2) (r := .error E) Ho) (LA.kd (o := o2) (r := .error E) Ho2))
  | ok v =>
    obtain rfl : t = 0 := c2
    refine x_if_ne 810 dL_law_775 rfl (fun hn => absurd rfl hn) (fun _ => ?_)
    obtain ⟨rfl, e3⟩ := e2 v rfl
    refine x_aload dL_law_778 rfl ?_
    refine x_iconst 0 dL_law_780 rfl ?_
    refine x_dald ((Ho2.kd (r := .ok b) (o := o2)).1) ((Ho2.kd (r := .ok b) (o := o2)).2) (j := 0) rfl ⟨by decide, by decide⟩ dL_law_781 ?_
    refine X.e2 (w := .double b) (congrArg Value.double u2_s) ?_
    refine x_dload dL_law_782 rfl ?_
    refine x_dcmp dL_law_784 ?_
    refine X.e2 (congrArg Value.int e3) ?_
    refine x_if_eq 810 dL_law_785 rfl (fun _ => ?_) (fun hn => absurd rfl hn)
    refine x_goto 3795 dL_law_810 rfl ?_
    exact X.forget (L' := lawL w m o o2 i) ⟨Or.inl rfl, Or.inl rfl, Or.inl rfl, Or.inl rfl, Or.inl rfl, Or.inl rfl, Or.inr rfl, Or.inr rfl, Or.inl rfl, trivial⟩ (hk _ _ (ST.kd (o := o2) (r := .ok b) S1) (LA.kd (o := o2) (r := .ok b) Ho) (LA.kd (o := o2) (r := .ok b) Ho2))
theorem law_12 {n w m o o2 i kb gb D D' bb sb : Nat} {xs : Nat → Int32} {I : Mem} {K : Kt} (hi : i + 6 ≤ n) (hn : n ≤ 3072) (S : ST I K w m kb gb D) (Ho : LA K 103 1 o) (Ho2 : LA K 104 1 o2) (hc : LD32 I K w m kb gb D') (hk : Tail n xs w m o o2 i kb gb D' bb sb) : X mLaw code (2 + bb + (kb + 3 - kN K)) (12 + sb + (gb + 246 - gz K)) I K 813 (lawL w m o o2 i) [] lawQ (GsL n xs) := by
  obtain ⟨r, t, b, I2, ⟨c1, c2, c3⟩, ⟨e1, e2⟩, S1⟩ := hc
  have hcs : cst r ≤ 1 ∧ cs6 r ≤ 6 := by cases r <;> exact ⟨Nat.le_of_ble_eq_true rfl, Nat.le_of_ble_eq_true rfl⟩
  refine X.less (bc' := cst r + (bb + (kb + 3 - kN K))) (bs' := cs6 r + (sb + (gb + 246 - gz K))) ?_ (by omega) (by omega)
  have hM : MK (KF K o2 r) m := (S1.kf).mk
  refine x_aloadn dL_law_813 rfl ?_
  refine x_aload dL_law_814 rfl ?_
  refine y_callS1 (As := [.ref w, .ref o2]) (rest := []) (cs_L_251 _) rfl rfl (Nat.le_of_ble_eq_true rfl) ⟨Nat.le_of_ble_eq_true rfl, Nat.le_of_ble_eq_true rfl⟩ dL_law_816 (wL_averageStars 7 S.lw.o Ho2 c1 c2 (fun v h => (e2 v h).2.1)) ?_
  refine x_istore dL_law_819 (Nat.le_of_ble_eq_true rfl) rfl rfl ?_
  refine x_aloadn dL_law_821 rfl ?_
  refine z_V1 [] [] (cs_L_253 _) (ci := 8) rfl hM.o ⟨Nat.le_of_ble_eq_true rfl, Nat.le_of_ble_eq_true rfl⟩ dL_law_822 rfl rfl (Nat.le_of_ble_eq_true rfl) (c3 _ hM) ?_
  refine x_fstore dL_law_825 (Nat.le_of_ble_eq_true rfl) rfl rfl ?_
  refine x_aloadn dL_law_827 rfl ?_
  refine z_V1 [] [] (cs_L_213 _) (ci := 8) rfl hM.o ⟨Nat.le_of_ble_eq_true rfl, Nat.le_of_ble_eq_true rfl⟩ dL_law_828 rfl rfl (Nat.le_of_ble_eq_true rfl) (c_X10_thrown 0 hM rfl) ?_
  refine X.e2 (congrArg Value.int e1) ?_
  refine x_iload dL_law_831 rfl ?_
  refine x_icmp_eq 838 dL_law_833 rfl (fun _ => ?_) (fun hn => absurd rfl hn)
  refine x_iload dL_law_838 rfl ?_
  cases r with
  | error E =>
    obtain ⟨i9, -, h9, rfl⟩ := c2
    refine x_if_ne 876 dL_law_840 rfl (fun _ => ?_) (fun hn => absurd hn (by rcases (show i9 = 0 ∨ i9 = 1 ∨ i9 = 2 by omega) with rfl | rfl | rfl <;> decide))
    refine x_goto 3795 dL_law_876 rfl ?_
    exact X.forget (L' := lawL w m o o2 i) ⟨Or.inl rfl, Or.inl rfl, Or.inl rfl, Or.inl rfl, Or.inl rfl, Or.inl rfl, Or.inr rfl, Or.inr rfl, Or.inl rfl, trivial⟩ (hk _ _ (ST.kf (o := o2) (r := .error E) S1) (LA.kf (o := o2) (r := .error E) Ho) (LA.kf (o := o2) (r := .error E) Ho2))
  | ok v =>
    obtain rfl : t = 0 := c2
    refine x_if_ne 876 dL_law_840 rfl (fun hn => absurd rfl hn) (fun _ => ?_)
    obtain ⟨rfl, e3⟩ := e2 v rfl
    refine x_aload dL_law_843 rfl ?_
    refine x_iconst 0 dL_law_845 rfl ?_
    refine x_dald ((Ho2.kf (r := .ok b) (o := o2)).1) ((Ho2.kf (r := .ok b) (o := o2)).2) (j := 0) rfl ⟨by decide, by decide⟩ dL_law_846 ?_
    refine X.e2 (w := .double (FP.f2d b)) (congrArg Value.double u2_s) ?_
    refine x_fload dL_law_847 rfl ?_
    refine x_f2d dL_law_849 e3.1 ?_
    refine x_dcmp dL_law_850 ?_
    refine X.e2 (congrArg Value.int e3.2) ?_
    refine x_if_eq 876 dL_law_851 rfl (fun _ => ?_) (fun hn => absurd rfl hn)
    refine x_goto 3795 dL_law_876 rfl ?_
    exact X.forget (L' := lawL w m o o2 i) ⟨Or.inl rfl, Or.inl rfl, Or.inl rfl, Or.inl rfl, Or.inl rfl, Or.inl rfl, Or.inr rfl, Or.inr rfl, Or.inl rfl, trivial⟩ (hk _ _ (ST.kf (o := o2) (r := .ok b) S1) (LA.kf (o := o2) (r := .ok b) Ho) (LA.kf (o := o2) (r := .ok b) Ho2))
theorem law_13 {n w m o o2 i kb gb D D' bb sb : Nat} {xs : Nat → Int32} {I : Mem} {K : Kt} (hi : i + 6 ≤ n) (hn : n ≤ 3072) (S : ST I K w m kb gb D) (Ho : LA K 103 1 o) (Ho2 : LA K 104 1 o2) (hc : LC (mX9_personCount 7) cX9_personCount (mX10_personCount 3) cX10_personCount [eIS] [] I K w m kb gb D') (hk : Tail n xs w m o o2 i kb gb D' bb sb) : X mLaw code (2 + bb + (kb + 3 - kN K)) (12 + sb + (gb + 246 - gz K)) I K 879 (lawL w m o o2 i) [] lawQ (GsL n xs) := by
  obtain ⟨r, t, b, I1, I2, K1, a6, b6, ⟨c1, c2, c3⟩, ⟨e1, e2⟩, S1, ⟨g1, g2⟩, l1, l2⟩ := hc
  have z1 := S1.size
  refine X.less (bc' := a6 + (bb + (kb + 3 - kN K1))) (bs' := b6 + (sb + (gb + 246 - gz K1))) ?_ (by have := g1.1; omega) (by have := g1.2; omega)
  have hM : MK (KJ K1 o r) m := (S1.kj).mk
  refine x_aloadn dL_law_879 rfl ?_
  refine x_aloadn dL_law_880 rfl ?_
  refine y_callS1 (As := [.ref w, .ref o]) (rest := []) (cs_L_254 _) rfl rfl (Nat.le_of_ble_eq_true rfl) ⟨Nat.le_of_ble_eq_true rfl, Nat.le_of_ble_eq_true rfl⟩ dL_law_881 (wL_personCount 7 S.lw.o (Ho.ka g2) c1 c2) ?_
  refine x_istore dL_law_884 (Nat.le_of_ble_eq_true rfl) rfl rfl ?_
  refine x_aloadn dL_law_886 rfl ?_
  refine z_V1 [] [] (cs_L_256 _) (ci := 8) rfl hM.o ⟨Nat.le_of_ble_eq_true rfl, Nat.le_of_ble_eq_true rfl⟩ dL_law_887 rfl rfl (Nat.le_of_ble_eq_true rfl) (c3 _ hM) ?_
  refine x_istore dL_law_890 (Nat.le_of_ble_eq_true rfl) rfl rfl ?_
  refine x_aloadn dL_law_892 rfl ?_
  refine z_V1 [] [] (cs_L_213 _) (ci := 8) rfl hM.o ⟨Nat.le_of_ble_eq_true rfl, Nat.le_of_ble_eq_true rfl⟩ dL_law_893 rfl rfl (Nat.le_of_ble_eq_true rfl) (c_X10_thrown 0 hM rfl) ?_
  refine X.e2 (congrArg Value.int e1) ?_
  refine x_iload dL_law_896 rfl ?_
  refine x_icmp_eq 903 dL_law_898 rfl (fun _ => ?_) (fun hn => absurd rfl hn)
  refine x_iload dL_law_903 rfl ?_
  cases r with
  | error E =>
    obtain ⟨i9, -, h9, rfl⟩ := c2
    refine x_if_ne 920 dL_law_905 rfl (fun _ => ?_) (fun hn => absurd hn (by rcases (show i9 = 0 ∨ i9 = 1 ∨ i9 = 2 by omega) with rfl | rfl | rfl <;> decide))
    refine x_goto 3795 dL_law_920 rfl ?_
    exact X.forget (L' := lawL w m o o2 i) ⟨Or.inl rfl, Or.inl rfl, Or.inl rfl, Or.inl rfl, Or.inl rfl, Or.inl rfl, Or.inr rfl, Or.inr rfl, Or.inl rfl, trivial⟩ (hk _ _ (ST.kj (o := o) (r := .error E) S1) (LA.kj (o := o) (r := .error E) (Ho.ka g2)) (LA.kj (o := o) (r := .error E) (Ho2.ka g2)))
  | ok v =>
    obtain rfl : t = 0 := c2
    refine x_if_ne 920 dL_law_905 rfl (fun hn => absurd rfl hn) (fun _ => ?_)
    obtain rfl := e2 v rfl
    refine x_aloadn dL_law_908 rfl ?_
    refine x_iconst 0 dL_law_909 rfl ?_
    refine x_lald (((Ho.ka g2).kj (r := .ok b) (o := o)).1) (((Ho.ka g2).kj (r := .ok b) (o := o)).2) (j := 0) rfl ⟨by decide, by decide⟩ dL_law_910 ?_
    refine X.e2 (w := .long b.toInt64) (congrArg Value.long u2_s) ?_
    refine x_iload dL_law_911 rfl ?_
    refine x_i2l dL_law_913 ?_
    refine x_lcmp dL_law_914 ?_
    refine X.e2 (congrArg Value.int lgc) ?_
    refine x_if_eq 920 dL_law_915 rfl (fun _ => ?_) (fun hn => absurd rfl hn)
    refine x_goto 3795 dL_law_920 rfl ?_
    exact X.forget (L' := lawL w m o o2 i) ⟨Or.inl rfl, Or.inl rfl, Or.inl rfl, Or.inl rfl, Or.inl rfl, Or.inl rfl, Or.inr rfl, Or.inr rfl, Or.inl rfl, trivial⟩ (hk _ _ (ST.kj (o := o) (r := .ok b) S1) (LA.kj (o := o) (r := .ok b) (Ho.ka g2)) (LA.kj (o := o) (r := .ok b) (Ho2.ka g2)))
theorem law_14 {n w m o o2 i kb gb D D' bb sb : Nat} {xs : Nat → Int32} {I : Mem} {K : Kt} (hi : i + 6 ≤ n) (hn : n ≤ 3072) (S : ST I K w m kb gb D) (Ho : LA K 103 1 o) (Ho2 : LA K 104 1 o2) (hc : LC (mX9_personLetter 9) cX9_personLetter (mX10_personLetter 3) cX10_personLetter [eIS, eIX] [.int (xs (i + 1)), .int (xs (i + 2))] I K w m kb gb D') (hk : Tail n xs w m o o2 i kb gb D' bb sb) : X mLaw code (2 + bb + (kb + 3 - kN K)) (12 + sb + (gb + 246 - gz K)) I K 923 (lawL w m o o2 i) [] lawQ (GsL n xs) := by
  obtain ⟨r, t, b, I1, I2, K1, a6, b6, ⟨c1, c2, c3⟩, ⟨e1, e2⟩, S1, ⟨g1, g2⟩, l1, l2⟩ := hc
  have z1 := S1.size
  refine X.less (bc' := a6 + (bb + (kb + 3 - kN K1))) (bs' := b6 + (sb + (gb + 246 - gz K1))) ?_ (by have := g1.1; omega) (by have := g1.2; omega)
  have hM : MK (KJ K1 o r) m := (S1.kj).mk
  refine x_aloadn dL_law_923 rfl ?_
  refine x_arg (i := i) (j := 1) rfl dL_law_924 dL_law_925 dL_law_927 dL_law_928 dL_law_929 rfl rfl (by omega) (by omega) ?_
  refine x_arg (i := i) (j := 2) rfl dL_law_930 dL_law_931 dL_law_933 dL_law_934 dL_law_935 rfl rfl (by omega) (by omega) ?_
  refine x_aloadn dL_law_936 rfl ?_
  refine y_callS1 (As := [.ref w, .int (xs (i + 1)), .int (xs (i + 2)), .ref o]) (rest := []) (cs_L_257 _) rfl rfl (Nat.le_of_ble_eq_true rfl) ⟨Nat.le_of_ble_eq_true rfl, Nat.le_of_ble_eq_true rfl⟩ dL_law_937 (wL_personLetter 9 S.lw.o (Ho.ka g2) c1 c2) ?_
  refine x_istore dL_law_940 (Nat.le_of_ble_eq_true rfl) rfl rfl ?_
  refine x_aloadn dL_law_942 rfl ?_
  refine x_arg (i := i) (j := 1) rfl dL_law_943 dL_law_944 dL_law_946 dL_law_947 dL_law_948 rfl rfl (by omega) (by omega) ?_
  refine x_arg (i := i) (j := 2) rfl dL_law_949 dL_law_950 dL_law_952 dL_law_953 dL_law_954 rfl rfl (by omega) (by omega) ?_
  refine z_V1 [.int (xs (i + 1)), .int (xs (i + 2))] [] (cs_L_260 _) (ci := 8) rfl hM.o ⟨Nat.le_of_ble_eq_true rfl, Nat.le_of_ble_eq_true rfl⟩ dL_law_955 rfl rfl (Nat.le_of_ble_eq_true rfl) (c3 _ hM) ?_
  refine x_istore dL_law_958 (Nat.le_of_ble_eq_true rfl) rfl rfl ?_
  refine x_aloadn dL_law_960 rfl ?_
  refine z_V1 [] [] (cs_L_213 _) (ci := 8) rfl hM.o ⟨Nat.le_of_ble_eq_true rfl, Nat.le_of_ble_eq_true rfl⟩ dL_law_961 rfl rfl (Nat.le_of_ble_eq_true rfl) (c_X10_thrown 0 hM rfl) ?_
  refine X.e2 (congrArg Value.int e1) ?_
  refine x_iload dL_law_964 rfl ?_
  refine x_icmp_eq 971 dL_law_966 rfl (fun _ => ?_) (fun hn => absurd rfl hn)
  refine x_iload dL_law_971 rfl ?_
  cases r with
  | error E =>
    obtain ⟨i9, -, h9, rfl⟩ := c2
    refine x_if_ne 988 dL_law_973 rfl (fun _ => ?_) (fun hn => absurd hn (by rcases (show i9 = 0 ∨ i9 = 1 ∨ i9 = 2 by omega) with rfl | rfl | rfl <;> decide))
    refine x_goto 3795 dL_law_988 rfl ?_
    exact X.forget (L' := lawL w m o o2 i) ⟨Or.inl rfl, Or.inl rfl, Or.inl rfl, Or.inl rfl, Or.inl rfl, Or.inl rfl, Or.inr rfl, Or.inr rfl, Or.inl rfl, trivial⟩ (hk _ _ (ST.kj (o := o) (r := .error E) S1) (LA.kj (o := o) (r := .error E) (Ho.ka g2)) (LA.kj (o := o) (r := .error E) (Ho2.ka g2)))
  | ok v =>
    obtain rfl : t = 0 := c2
    refine x_if_ne 988 dL_law_973 rfl (fun hn => absurd rfl hn) (fun _ => ?_)
    obtain rfl := e2 v rfl
    refine x_aloadn dL_law_976 rfl ?_
    refine x_iconst 0 dL_law_977 rfl ?_
    refine x_lald (((Ho.ka g2).kj (r := .ok b) (o := o)).1) (((Ho.ka g2).kj (r := .ok b) (o := o)).2) (j := 0) rfl ⟨by decide, by decide⟩ dL_law_978 ?_
    refine X.e2 (w := .long b.toInt64) (congrArg Value.long u2_s) ?_
    refine x_iload dL_law_979 rfl ?_
    refine x_i2l dL_law_981 ?_
    refine x_lcmp dL_law_982 ?_
    refine X.e2 (congrArg Value.int lgc) ?_
    refine x_if_eq 988 dL_law_983 rfl (fun _ => ?_) (fun hn => absurd rfl hn)
    refine x_goto 3795 dL_law_988 rfl ?_
    exact X.forget (L' := lawL w m o o2 i) ⟨Or.inl rfl, Or.inl rfl, Or.inl rfl, Or.inl rfl, Or.inl rfl, Or.inl rfl, Or.inr rfl, Or.inr rfl, Or.inl rfl, trivial⟩ (hk _ _ (ST.kj (o := o) (r := .ok b) S1) (LA.kj (o := o) (r := .ok b) (Ho.ka g2)) (LA.kj (o := o) (r := .ok b) (Ho2.ka g2)))
theorem law_15 {n w m o o2 i kb gb D D' bb sb : Nat} {xs : Nat → Int32} {I : Mem} {K : Kt} (hi : i + 6 ≤ n) (hn : n ≤ 3072) (S : ST I K w m kb gb D) (Ho : LA K 103 1 o) (Ho2 : LA K 104 1 o2) (hc : LC (mX9_coins 9) cX9_coins (mX10_coins 3) cX10_coins [eIS, eIX] [.int (xs (i + 1))] I K w m kb gb D') (hk : Tail n xs w m o o2 i kb gb D' bb sb) : X mLaw code (2 + bb + (kb + 3 - kN K)) (12 + sb + (gb + 246 - gz K)) I K 991 (lawL w m o o2 i) [] lawQ (GsL n xs) := by
  obtain ⟨r, t, b, I1, I2, K1, a6, b6, ⟨c1, c2, c3⟩, ⟨e1, e2⟩, S1, ⟨g1, g2⟩, l1, l2⟩ := hc
  have z1 := S1.size
  refine X.less (bc' := a6 + (bb + (kb + 3 - kN K1))) (bs' := b6 + (sb + (gb + 246 - gz K1))) ?_ (by have := g1.1; omega) (by have := g1.2; omega)
  have hM : MK (KJ K1 o r) m := (S1.kj).mk
  refine x_aloadn dL_law_991 rfl ?_
  refine x_arg (i := i) (j := 1) rfl dL_law_992 dL_law_993 dL_law_995 dL_law_996 dL_law_997 rfl rfl (by omega) (by omega) ?_
  refine x_aloadn dL_law_998 rfl ?_
  refine y_callS1 (As := [.ref w, .int (xs (i + 1)), .ref o]) (rest := []) (cs_L_261 _) rfl rfl (Nat.le_of_ble_eq_true rfl) ⟨Nat.le_of_ble_eq_true rfl, Nat.le_of_ble_eq_true rfl⟩ dL_law_999 (wL_coins 9 S.lw.o (Ho.ka g2) c1 c2) ?_
  refine x_istore dL_law_1002 (Nat.le_of_ble_eq_true rfl) rfl rfl ?_
  refine x_aloadn dL_law_1004 rfl ?_
  refine x_arg (i := i) (j := 1) rfl dL_law_1005 dL_law_1006 dL_law_1008 dL_law_1009 dL_law_1010 rfl rfl (by omega) (by omega) ?_
  refine z_V1 [.int (xs (i + 1))] [] (cs_L_263 _) (ci := 8) rfl hM.o ⟨Nat.le_of_ble_eq_true rfl, Nat.le_of_ble_eq_true rfl⟩ dL_law_1011 rfl rfl (Nat.le_of_ble_eq_true rfl) (c3 _ hM) ?_
  refine x_istore dL_law_1014 (Nat.le_of_ble_eq_true rfl) rfl rfl ?_
  refine x_aloadn dL_law_1016 rfl ?_
  refine z_V1 [] [] (cs_L_213 _) (ci := 8) rfl hM.o ⟨Nat.le_of_ble_eq_true rfl, Nat.le_of_ble_eq_true rfl⟩ dL_law_1017 rfl rfl (Nat.le_of_ble_eq_true rfl) (c_X10_thrown 0 hM rfl) ?_
  refine X.e2 (congrArg Value.int e1) ?_
  refine x_iload dL_law_1020 rfl ?_
  refine x_icmp_eq 1027 dL_law_1022 rfl (fun _ => ?_) (fun hn => absurd rfl hn)
  refine x_iload dL_law_1027 rfl ?_
  cases r with
  | error E =>
    obtain ⟨i9, -, h9, rfl⟩ := c2
    refine x_if_ne 1044 dL_law_1029 rfl (fun _ => ?_) (fun hn => absurd hn (by rcases (show i9 = 0 ∨ i9 = 1 ∨ i9 = 2 by omega) with rfl | rfl | rfl <;> decide))
    refine x_goto 3795 dL_law_1044 rfl ?_
    exact X.forget (L' := lawL w m o o2 i) ⟨Or.inl rfl, Or.inl rfl, Or.inl rfl, Or.inl rfl, Or.inl rfl, Or.inl rfl, Or.inr rfl, Or.inr rfl, Or.inl rfl, trivial⟩ (hk _ _ (ST.kj (o := o) (r := .error E) S1) (LA.kj (o := o) (r := .error E) (Ho.ka g2)) (LA.kj (o := o) (r := .error E) (Ho2.ka g2)))
  | ok v =>
    obtain rfl : t = 0 := c2
    refine x_if_ne 1044 dL_law_1029 rfl (fun hn => absurd rfl hn) (fun _ => ?_)
    obtain rfl := e2 v rfl
    refine x_aloadn dL_law_1032 rfl ?_
    refine x_iconst 0 dL_law_1033 rfl ?_
    refine x_lald (((Ho.ka g2).kj (r := .ok b) (o := o)).1) (((Ho.ka g2).kj (r := .ok b) (o := o)).2) (j := 0) rfl ⟨by decide, by decide⟩ dL_law_1034 ?_
    refine X.e2 (w := .long b.toInt64) (congrArg Value.long u2_s) ?_
    refine x_iload dL_law_1035 rfl ?_
    refine x_i2l dL_law_1037 ?_
    refine x_lcmp dL_law_1038 ?_
    refine X.e2 (congrArg Value.int lgc) ?_
    refine x_if_eq 1044 dL_law_1039 rfl (fun _ => ?_) (fun hn => absurd rfl hn)
    refine x_goto 3795 dL_law_1044 rfl ?_
    exact X.forget (L' := lawL w m o o2 i) ⟨Or.inl rfl, Or.inl rfl, Or.inl rfl, Or.inl rfl, Or.inl rfl, Or.inl rfl, Or.inr rfl, Or.inr rfl, Or.inl rfl, trivial⟩ (hk _ _ (ST.kj (o := o) (r := .ok b) S1) (LA.kj (o := o) (r := .ok b) (Ho.ka g2)) (LA.kj (o := o) (r := .ok b) (Ho2.ka g2)))
theorem law_16 {n w m o o2 i kb gb D D' bb sb : Nat} {xs : Nat → Int32} {I : Mem} {K : Kt} (hi : i + 6 ≤ n) (hn : n ≤ 3072) (S : ST I K w m kb gb D) (Ho : LA K 103 1 o) (Ho2 : LA K 104 1 o2) (hc : LC (mX9_birthday 9) cX9_birthday (mX10_birthday 3) cX10_birthday [eIS, eIX] [.int (xs (i + 1))] I K w m kb gb D') (hk : Tail n xs w m o o2 i kb gb D' bb sb) : X mLaw code (2 + bb + (kb + 3 - kN K)) (12 + sb + (gb + 246 - gz K)) I K 1047 (lawL w m o o2 i) [] lawQ (GsL n xs) := by
  obtain ⟨r, t, b, I1, I2, K1, a6, b6, ⟨c1, c2, c3⟩, ⟨e1, e2⟩, S1, ⟨g1, g2⟩, l1, l2⟩ := hc
  have z1 := S1.size
  refine X.less (bc' := a6 + (bb + (kb + 3 - kN K1))) (bs' := b6 + (sb + (gb + 246 - gz K1))) ?_ (by have := g1.1; omega) (by have := g1.2; omega)
  have hM : MK (KJ K1 o r) m := (S1.kj).mk
  refine x_aloadn dL_law_1047 rfl ?_
  refine x_arg (i := i) (j := 1) rfl dL_law_1048 dL_law_1049 dL_law_1051 dL_law_1052 dL_law_1053 rfl rfl (by omega) (by omega) ?_
  refine x_aloadn dL_law_1054 rfl ?_
  refine y_callS1 (As := [.ref w, .int (xs (i + 1)), .ref o]) (rest := []) (cs_L_264 _) rfl rfl (Nat.le_of_ble_eq_true rfl) ⟨Nat.le_of_ble_eq_true rfl, Nat.le_of_ble_eq_true rfl⟩ dL_law_1055 (wL_birthday 9 S.lw.o (Ho.ka g2) c1 c2) ?_
  refine x_istore dL_law_1058 (Nat.le_of_ble_eq_true rfl) rfl rfl ?_
  refine x_aloadn dL_law_1060 rfl ?_
  refine x_arg (i := i) (j := 1) rfl dL_law_1061 dL_law_1062 dL_law_1064 dL_law_1065 dL_law_1066 rfl rfl (by omega) (by omega) ?_
  refine z_V1 [.int (xs (i + 1))] [] (cs_L_266 _) (ci := 8) rfl hM.o ⟨Nat.le_of_ble_eq_true rfl, Nat.le_of_ble_eq_true rfl⟩ dL_law_1067 rfl rfl (Nat.le_of_ble_eq_true rfl) (c3 _ hM) ?_
  refine x_istore dL_law_1070 (Nat.le_of_ble_eq_true rfl) rfl rfl ?_
  refine x_aloadn dL_law_1072 rfl ?_
  refine z_V1 [] [] (cs_L_213 _) (ci := 8) rfl hM.o ⟨Nat.le_of_ble_eq_true rfl, Nat.le_of_ble_eq_true rfl⟩ dL_law_1073 rfl rfl (Nat.le_of_ble_eq_true rfl) (c_X10_thrown 0 hM rfl) ?_
  refine X.e2 (congrArg Value.int e1) ?_
  refine x_iload dL_law_1076 rfl ?_
  refine x_icmp_eq 1083 dL_law_1078 rfl (fun _ => ?_) (fun hn => absurd rfl hn)
  refine x_iload dL_law_1083 rfl ?_
  cases r with
  | error E =>
    obtain ⟨i9, -, h9, rfl⟩ := c2
    refine x_if_ne 1100 dL_law_1085 rfl (fun _ => ?_) (fun hn => absurd hn (by rcases (show i9 = 0 ∨ i9 = 1 ∨ i9 = 2 by omega) with rfl | rfl | rfl <;> decide))
    refine x_goto 3795 dL_law_1100 rfl ?_
    exact X.forget (L' := lawL w m o o2 i) ⟨Or.inl rfl, Or.inl rfl, Or.inl rfl, Or.inl rfl, Or.inl rfl, Or.inl rfl, Or.inr rfl, Or.inr rfl, Or.inl rfl, trivial⟩ (hk _ _ (ST.kj (o := o) (r := .error E) S1) (LA.kj (o := o) (r := .error E) (Ho.ka g2)) (LA.kj (o := o) (r := .error E) (Ho2.ka g2)))
  | ok v =>
    obtain rfl : t = 0 := c2
    refine x_if_ne 1100 dL_law_1085 rfl (fun hn => absurd rfl hn) (fun _ => ?_)
    obtain rfl := e2 v rfl
    refine x_aloadn dL_law_1088 rfl ?_
    refine x_iconst 0 dL_law_1089 rfl ?_
    refine x_lald (((Ho.ka g2).kj (r := .ok b) (o := o)).1) (((Ho.ka g2).kj (r := .ok b) (o := o)).2) (j := 0) rfl ⟨by decide, by decide⟩ dL_law_1090 ?_
    refine X.e2 (w := .long b.toInt64) (congrArg Value.long u2_s) ?_
    refine x_iload dL_law_1091 rfl ?_
    refine x_i2l dL_law_1093 ?_
    refine x_lcmp dL_law_1094 ?_
    refine X.e2 (congrArg Value.int lgc) ?_
    refine x_if_eq 1100 dL_law_1095 rfl (fun _ => ?_) (fun hn => absurd rfl hn)
    refine x_goto 3795 dL_law_1100 rfl ?_
    exact X.forget (L' := lawL w m o o2 i) ⟨Or.inl rfl, Or.inl rfl, Or.inl rfl, Or.inl rfl, Or.inl rfl, Or.inl rfl, Or.inr rfl, Or.inr rfl, Or.inl rfl, trivial⟩ (hk _ _ (ST.kj (o := o) (r := .ok b) S1) (LA.kj (o := o) (r := .ok b) (Ho.ka g2)) (LA.kj (o := o) (r := .ok b) (Ho2.ka g2)))
theorem law_17 {n w m o o2 i kb gb D D' bb sb : Nat} {xs : Nat → Int32} {I : Mem} {K : Kt} (hi : i + 6 ≤ n) (hn : n ≤ 3072) (S : ST I K w m kb gb D) (Ho : LA K 103 1 o) (Ho2 : LA K 104 1 o2) (hc : LC (mX9_candles 9) cX9_candles (mX10_candles 3) cX10_candles [eIS, eIX] [.int (xs (i + 1))] I K w m kb gb D') (hk : Tail n xs w m o o2 i kb gb D' bb sb) : X mLaw code (2 + bb + (kb + 3 - kN K)) (12 + sb + (gb + 246 - gz K)) I K 1103 (lawL w m o o2 i) [] lawQ (GsL n xs) := by
  obtain ⟨r, t, b, I1, I2, K1, a6, b6, ⟨c1, c2, c3⟩, ⟨e1, e2⟩, S1, ⟨g1, g2⟩, l1, l2⟩ := hc
  have z1 := S1.size
  refine X.less (bc' := a6 + (bb + (kb + 3 - kN K1))) (bs' := b6 + (sb + (gb + 246 - gz K1))) ?_ (by have := g1.1; omega) (by have := g1.2; omega)
  have hM : MK (KJ K1 o r) m := (S1.kj).mk
  refine x_aloadn dL_law_1103 rfl ?_
  refine x_arg (i := i) (j := 1) rfl dL_law_1104 dL_law_1105 dL_law_1107 dL_law_1108 dL_law_1109 rfl rfl (by omega) (by omega) ?_
  refine x_aloadn dL_law_1110 rfl ?_
  refine y_callS1 (As := [.ref w, .int (xs (i + 1)), .ref o]) (rest := []) (cs_L_267 _) rfl rfl (Nat.le_of_ble_eq_true rfl) ⟨Nat.le_of_ble_eq_true rfl, Nat.le_of_ble_eq_true rfl⟩ dL_law_1111 (wL_candles 9 S.lw.o (Ho.ka g2) c1 c2) ?_
  refine x_istore dL_law_1114 (Nat.le_of_ble_eq_true rfl) rfl rfl ?_
  refine x_aloadn dL_law_1116 rfl ?_
  refine x_arg (i := i) (j := 1) rfl dL_law_1117 dL_law_1118 dL_law_1120 dL_law_1121 dL_law_1122 rfl rfl (by omega) (by omega) ?_
  refine z_V1 [.int (xs (i + 1))] [] (cs_L_269 _) (ci := 8) rfl hM.o ⟨Nat.le_of_ble_eq_true rfl, Nat.le_of_ble_eq_true rfl⟩ dL_law_1123 rfl rfl (Nat.le_of_ble_eq_true rfl) (c3 _ hM) ?_
  refine x_istore dL_law_1126 (Nat.le_of_ble_eq_true rfl) rfl rfl ?_
  refine x_aloadn dL_law_1128 rfl ?_
  refine z_V1 [] [] (cs_L_213 _) (ci := 8) rfl hM.o ⟨Nat.le_of_ble_eq_true rfl, Nat.le_of_ble_eq_true rfl⟩ dL_law_1129 rfl rfl (Nat.le_of_ble_eq_true rfl) (c_X10_thrown 0 hM rfl) ?_
  refine X.e2 (congrArg Value.int e1) ?_
  refine x_iload dL_law_1132 rfl ?_
  refine x_icmp_eq 1139 dL_law_1134 rfl (fun _ => ?_) (fun hn => absurd rfl hn)
  refine x_iload dL_law_1139 rfl ?_
  cases r with
  | error E =>
    obtain ⟨i9, -, h9, rfl⟩ := c2
    refine x_if_ne 1156 dL_law_1141 rfl (fun _ => ?_) (fun hn => absurd hn (by rcases (show i9 = 0 ∨ i9 = 1 ∨ i9 = 2 by omega) with rfl | rfl | rfl <;> decide))
    refine x_goto 3795 dL_law_1156 rfl ?_
    exact X.forget (L' := lawL w m o o2 i) ⟨Or.inl rfl, Or.inl rfl, Or.inl rfl, Or.inl rfl, Or.inl rfl, Or.inl rfl, Or.inr rfl, Or.inr rfl, Or.inl rfl, trivial⟩ (hk _ _ (ST.kj (o := o) (r := .error E) S1) (LA.kj (o := o) (r := .error E) (Ho.ka g2)) (LA.kj (o := o) (r := .error E) (Ho2.ka g2)))
  | ok v =>
    obtain rfl : t = 0 := c2
    refine x_if_ne 1156 dL_law_1141 rfl (fun hn => absurd rfl hn) (fun _ => ?_)
    obtain rfl := e2 v rfl
    refine x_aloadn dL_law_1144 rfl ?_
    refine x_iconst 0 dL_law_1145 rfl ?_
    refine x_lald (((Ho.ka g2).kj (r := .ok b) (o := o)).1) (((Ho.ka g2).kj (r := .ok b) (o := o)).2) (j := 0) rfl ⟨by decide, by decide⟩ dL_law_1146 ?_
    refine X.e2 (w := .long b.toInt64) (congrArg Value.long u2_s) ?_
    refine x_iload dL_law_1147 rfl ?_
    refine x_i2l dL_law_1149 ?_
    refine x_lcmp dL_law_1150 ?_
    refine X.e2 (congrArg Value.int lgc) ?_
    refine x_if_eq 1156 dL_law_1151 rfl (fun _ => ?_) (fun hn => absurd rfl hn)
    refine x_goto 3795 dL_law_1156 rfl ?_
    exact X.forget (L' := lawL w m o o2 i) ⟨Or.inl rfl, Or.inl rfl, Or.inl rfl, Or.inl rfl, Or.inl rfl, Or.inl rfl, Or.inr rfl, Or.inr rfl, Or.inl rfl, trivial⟩ (hk _ _ (ST.kj (o := o) (r := .ok b) S1) (LA.kj (o := o) (r := .ok b) (Ho.ka g2)) (LA.kj (o := o) (r := .ok b) (Ho2.ka g2)))
theorem law_18 {n w m o o2 i kb gb D D' bb sb : Nat} {xs : Nat → Int32} {I : Mem} {K : Kt} (hi : i + 6 ≤ n) (hn : n ≤ 3072) (S : ST I K w m kb gb D) (Ho : LA K 103 1 o) (Ho2 : LA K 104 1 o2) (hc : LC (mX9_happiness 9) cX9_happiness (mX10_happiness 3) cX10_happiness [eIS, eIX] [.int (xs (i + 1))] I K w m kb gb D') (hk : Tail n xs w m o o2 i kb gb D' bb sb) : X mLaw code (2 + bb + (kb + 3 - kN K)) (12 + sb + (gb + 246 - gz K)) I K 1159 (lawL w m o o2 i) [] lawQ (GsL n xs) := by
  obtain ⟨r, t, b, I1, I2, K1, a6, b6, ⟨c1, c2, c3⟩, ⟨e1, e2⟩, S1, ⟨g1, g2⟩, l1, l2⟩ := hc
  have z1 := S1.size
  refine X.less (bc' := a6 + (bb + (kb + 3 - kN K1))) (bs' := b6 + (sb + (gb + 246 - gz K1))) ?_ (by have := g1.1; omega) (by have := g1.2; omega)
  have hM : MK (KJ K1 o r) m := (S1.kj).mk
  refine x_aloadn dL_law_1159 rfl ?_
  refine x_arg (i := i) (j := 1) rfl dL_law_1160 dL_law_1161 dL_law_1163 dL_law_1164 dL_law_1165 rfl rfl (by omega) (by omega) ?_
  refine x_aloadn dL_law_1166 rfl ?_
  refine y_callS1 (As := [.ref w, .int (xs (i + 1)), .ref o]) (rest := []) (cs_L_270 _) rfl rfl (Nat.le_of_ble_eq_true rfl) ⟨Nat.le_of_ble_eq_true rfl, Nat.le_of_ble_eq_true rfl⟩ dL_law_1167 (wL_happiness 9 S.lw.o (Ho.ka g2) c1 c2) ?_
  refine x_istore dL_law_1170 (Nat.le_of_ble_eq_true rfl) rfl rfl ?_
  refine x_aloadn dL_law_1172 rfl ?_
  refine x_arg (i := i) (j := 1) rfl dL_law_1173 dL_law_1174 dL_law_1176 dL_law_1177 dL_law_1178 rfl rfl (by omega) (by omega) ?_
  refine z_V1 [.int (xs (i + 1))] [] (cs_L_272 _) (ci := 8) rfl hM.o ⟨Nat.le_of_ble_eq_true rfl, Nat.le_of_ble_eq_true rfl⟩ dL_law_1179 rfl rfl (Nat.le_of_ble_eq_true rfl) (c3 _ hM) ?_
  refine x_istore dL_law_1182 (Nat.le_of_ble_eq_true rfl) rfl rfl ?_
  refine x_aloadn dL_law_1184 rfl ?_
  refine z_V1 [] [] (cs_L_213 _) (ci := 8) rfl hM.o ⟨Nat.le_of_ble_eq_true rfl, Nat.le_of_ble_eq_true rfl⟩ dL_law_1185 rfl rfl (Nat.le_of_ble_eq_true rfl) (c_X10_thrown 0 hM rfl) ?_
  refine X.e2 (congrArg Value.int e1) ?_
  refine x_iload dL_law_1188 rfl ?_
  refine x_icmp_eq 1195 dL_law_1190 rfl (fun _ => ?_) (fun hn => absurd rfl hn)
  refine x_iload dL_law_1195 rfl ?_
  cases r with
  | error E =>
    obtain ⟨i9, -, h9, rfl⟩ := c2
    refine x_if_ne 1212 dL_law_1197 rfl (fun _ => ?_) (fun hn => absurd hn (by rcases (show i9 = 0 ∨ i9 = 1 ∨ i9 = 2 by omega) with rfl | rfl | rfl <;> decide))
    refine x_goto 3795 dL_law_1212 rfl ?_
    exact X.forget (L' := lawL w m o o2 i) ⟨Or.inl rfl, Or.inl rfl, Or.inl rfl, Or.inl rfl, Or.inl rfl, Or.inl rfl, Or.inr rfl, Or.inr rfl, Or.inl rfl, trivial⟩ (hk _ _ (ST.kj (o := o) (r := .error E) S1) (LA.kj (o := o) (r := .error E) (Ho.ka g2)) (LA.kj (o := o) (r := .error E) (Ho2.ka g2)))
  | ok v =>
    obtain rfl : t = 0 := c2
    refine x_if_ne 1212 dL_law_1197 rfl (fun hn => absurd rfl hn) (fun _ => ?_)
    obtain rfl := e2 v rfl
    refine x_aloadn dL_law_1200 rfl ?_
    refine x_iconst 0 dL_law_1201 rfl ?_
    refine x_lald (((Ho.ka g2).kj (r := .ok b) (o := o)).1) (((Ho.ka g2).kj (r := .ok b) (o := o)).2) (j := 0) rfl ⟨by decide, by decide⟩ dL_law_1202 ?_
    refine X.e2 (w := .long b.toInt64) (congrArg Value.long u2_s) ?_
    refine x_iload dL_law_1203 rfl ?_
    refine x_i2l dL_law_1205 ?_
    refine x_lcmp dL_law_1206 ?_
    refine X.e2 (congrArg Value.int lgc) ?_
    refine x_if_eq 1212 dL_law_1207 rfl (fun _ => ?_) (fun hn => absurd rfl hn)
    refine x_goto 3795 dL_law_1212 rfl ?_
    exact X.forget (L' := lawL w m o o2 i) ⟨Or.inl rfl, Or.inl rfl, Or.inl rfl, Or.inl rfl, Or.inl rfl, Or.inl rfl, Or.inr rfl, Or.inr rfl, Or.inl rfl, trivial⟩ (hk _ _ (ST.kj (o := o) (r := .ok b) S1) (LA.kj (o := o) (r := .ok b) (Ho.ka g2)) (LA.kj (o := o) (r := .ok b) (Ho2.ka g2)))
theorem law_19 {n w m o o2 i kb gb D D' bb sb : Nat} {xs : Nat → Int32} {I : Mem} {K : Kt} (hi : i + 6 ≤ n) (hn : n ≤ 3072) (S : ST I K w m kb gb D) (Ho : LA K 103 1 o) (Ho2 : LA K 104 1 o2) (hc : LC (mX9_ownedCount 8) cX9_ownedCount (mX10_ownedCount 4) cX10_ownedCount [eIS, eIX] [.int (xs (i + 1))] I K w m kb gb D') (hk : Tail n xs w m o o2 i kb gb D' bb sb) : X mLaw code (2 + bb + (kb + 3 - kN K)) (12 + sb + (gb + 246 - gz K)) I K 1215 (lawL w m o o2 i) [] lawQ (GsL n xs) := by
  obtain ⟨r, t, b, I1, I2, K1, a6, b6, ⟨c1, c2, c3⟩, ⟨e1, e2⟩, S1, ⟨g1, g2⟩, l1, l2⟩ := hc
  have z1 := S1.size
  refine X.less (bc' := a6 + (bb + (kb + 3 - kN K1))) (bs' := b6 + (sb + (gb + 246 - gz K1))) ?_ (by have := g1.1; omega) (by have := g1.2; omega)
  have hM : MK (KJ K1 o r) m := (S1.kj).mk
  refine x_aloadn dL_law_1215 rfl ?_
  refine x_arg (i := i) (j := 1) rfl dL_law_1216 dL_law_1217 dL_law_1219 dL_law_1220 dL_law_1221 rfl rfl (by omega) (by omega) ?_
  refine x_aloadn dL_law_1222 rfl ?_
  refine y_callS1 (As := [.ref w, .int (xs (i + 1)), .ref o]) (rest := []) (cs_L_273 _) rfl rfl (Nat.le_of_ble_eq_true rfl) ⟨Nat.le_of_ble_eq_true rfl, Nat.le_of_ble_eq_true rfl⟩ dL_law_1223 (wL_ownedCount 8 S.lw.o (Ho.ka g2) c1 c2) ?_
  refine x_istore dL_law_1226 (Nat.le_of_ble_eq_true rfl) rfl rfl ?_
  refine x_aloadn dL_law_1228 rfl ?_
  refine x_arg (i := i) (j := 1) rfl dL_law_1229 dL_law_1230 dL_law_1232 dL_law_1233 dL_law_1234 rfl rfl (by omega) (by omega) ?_
  refine z_V1 [.int (xs (i + 1))] [] (cs_L_275 _) (ci := 8) rfl hM.o ⟨Nat.le_of_ble_eq_true rfl, Nat.le_of_ble_eq_true rfl⟩ dL_law_1235 rfl rfl (Nat.le_of_ble_eq_true rfl) (c3 _ hM) ?_
  refine x_istore dL_law_1238 (Nat.le_of_ble_eq_true rfl) rfl rfl ?_
  refine x_aloadn dL_law_1240 rfl ?_
  refine z_V1 [] [] (cs_L_213 _) (ci := 8) rfl hM.o ⟨Nat.le_of_ble_eq_true rfl, Nat.le_of_ble_eq_true rfl⟩ dL_law_1241 rfl rfl (Nat.le_of_ble_eq_true rfl) (c_X10_thrown 0 hM rfl) ?_
  refine X.e2 (congrArg Value.int e1) ?_
  refine x_iload dL_law_1244 rfl ?_
  refine x_icmp_eq 1251 dL_law_1246 rfl (fun _ => ?_) (fun hn => absurd rfl hn)
  refine x_iload dL_law_1251 rfl ?_
  cases r with
  | error E =>
    obtain ⟨i9, -, h9, rfl⟩ := c2
    refine x_if_ne 1268 dL_law_1253 rfl (fun _ => ?_) (fun hn => absurd hn (by rcases (show i9 = 0 ∨ i9 = 1 ∨ i9 = 2 by omega) with rfl | rfl | rfl <;> decide))
    refine x_goto 3795 dL_law_1268 rfl ?_
    exact X.forget (L' := lawL w m o o2 i) ⟨Or.inl rfl, Or.inl rfl, Or.inl rfl, Or.inl rfl, Or.inl rfl, Or.inl rfl, Or.inr rfl, Or.inr rfl, Or.inl rfl, trivial⟩ (hk _ _ (ST.kj (o := o) (r := .error E) S1) (LA.kj (o := o) (r := .error E) (Ho.ka g2)) (LA.kj (o := o) (r := .error E) (Ho2.ka g2)))
  | ok v =>
    obtain rfl : t = 0 := c2
    refine x_if_ne 1268 dL_law_1253 rfl (fun hn => absurd rfl hn) (fun _ => ?_)
    obtain rfl := e2 v rfl
    refine x_aloadn dL_law_1256 rfl ?_
    refine x_iconst 0 dL_law_1257 rfl ?_
    refine x_lald (((Ho.ka g2).kj (r := .ok b) (o := o)).1) (((Ho.ka g2).kj (r := .ok b) (o := o)).2) (j := 0) rfl ⟨by decide, by decide⟩ dL_law_1258 ?_
    refine X.e2 (w := .long b.toInt64) (congrArg Value.long u2_s) ?_
    refine x_iload dL_law_1259 rfl ?_
    refine x_i2l dL_law_1261 ?_
    refine x_lcmp dL_law_1262 ?_
    refine X.e2 (congrArg Value.int lgc) ?_
    refine x_if_eq 1268 dL_law_1263 rfl (fun _ => ?_) (fun hn => absurd rfl hn)
    refine x_goto 3795 dL_law_1268 rfl ?_
    exact X.forget (L' := lawL w m o o2 i) ⟨Or.inl rfl, Or.inl rfl, Or.inl rfl, Or.inl rfl, Or.inl rfl, Or.inl rfl, Or.inr rfl, Or.inr rfl, Or.inl rfl, trivial⟩ (hk _ _ (ST.kj (o := o) (r := .ok b) S1) (LA.kj (o := o) (r := .ok b) (Ho.ka g2)) (LA.kj (o := o) (r := .ok b) (Ho2.ka g2)))
theorem law_20 {n w m o o2 i kb gb D D' bb sb : Nat} {xs : Nat → Int32} {I : Mem} {K : Kt} (hi : i + 6 ≤ n) (hn : n ≤ 3072) (S : ST I K w m kb gb D) (Ho : LA K 103 1 o) (Ho2 : LA K 104 1 o2) (hc : LC (mX9_shoppingLimit 9) cX9_shoppingLimit (mX10_shoppingLimit 3) cX10_shoppingLimit [eIS, eIX] [.int (xs (i + 1))] I K w m kb gb D') (hk : Tail n xs w m o o2 i kb gb D' bb sb) : X mLaw code (2 + bb + (kb + 3 - kN K)) (12 + sb + (gb + 246 - gz K)) I K 1271 (lawL w m o o2 i) [] lawQ (GsL n xs) := by
  obtain ⟨r, t, b, I1, I2, K1, a6, b6, ⟨c1, c2, c3⟩, ⟨e1, e2⟩, S1, ⟨g1, g2⟩, l1, l2⟩ := hc
  have z1 := S1.size
  refine X.less (bc' := a6 + (bb + (kb + 3 - kN K1))) (bs' := b6 + (sb + (gb + 246 - gz K1))) ?_ (by have := g1.1; omega) (by have := g1.2; omega)
  have hM : MK (KJ K1 o r) m := (S1.kj).mk
  refine x_aloadn dL_law_1271 rfl ?_
  refine x_arg (i := i) (j := 1) rfl dL_law_1272 dL_law_1273 dL_law_1275 dL_law_1276 dL_law_1277 rfl rfl (by omega) (by omega) ?_
  refine x_aloadn dL_law_1278 rfl ?_
  refine y_callS1 (As := [.ref w, .int (xs (i + 1)), .ref o]) (rest := []) (cs_L_276 _) rfl rfl (Nat.le_of_ble_eq_true rfl) ⟨Nat.le_of_ble_eq_true rfl, Nat.le_of_ble_eq_true rfl⟩ dL_law_1279 (wL_shoppingLimit 9 S.lw.o (Ho.ka g2) c1 c2) ?_
  refine x_istore dL_law_1282 (Nat.le_of_ble_eq_true rfl) rfl rfl ?_
  refine x_aloadn dL_law_1284 rfl ?_
  refine x_arg (i := i) (j := 1) rfl dL_law_1285 dL_law_1286 dL_law_1288 dL_law_1289 dL_law_1290 rfl rfl (by omega) (by omega) ?_
  refine z_V1 [.int (xs (i + 1))] [] (cs_L_278 _) (ci := 8) rfl hM.o ⟨Nat.le_of_ble_eq_true rfl, Nat.le_of_ble_eq_true rfl⟩ dL_law_1291 rfl rfl (Nat.le_of_ble_eq_true rfl) (c3 _ hM) ?_
  refine x_istore dL_law_1294 (Nat.le_of_ble_eq_true rfl) rfl rfl ?_
  refine x_aloadn dL_law_1296 rfl ?_
  refine z_V1 [] [] (cs_L_213 _) (ci := 8) rfl hM.o ⟨Nat.le_of_ble_eq_true rfl, Nat.le_of_ble_eq_true rfl⟩ dL_law_1297 rfl rfl (Nat.le_of_ble_eq_true rfl) (c_X10_thrown 0 hM rfl) ?_
  refine X.e2 (congrArg Value.int e1) ?_
  refine x_iload dL_law_1300 rfl ?_
  refine x_icmp_eq 1307 dL_law_1302 rfl (fun _ => ?_) (fun hn => absurd rfl hn)
  refine x_iload dL_law_1307 rfl ?_
  cases r with
  | error E =>
    obtain ⟨i9, -, h9, rfl⟩ := c2
    refine x_if_ne 1324 dL_law_1309 rfl (fun _ => ?_) (fun hn => absurd hn (by rcases (show i9 = 0 ∨ i9 = 1 ∨ i9 = 2 by omega) with rfl | rfl | rfl <;> decide))
    refine x_goto 3795 dL_law_1324 rfl ?_
    exact X.forget (L' := lawL w m o o2 i) ⟨Or.inl rfl, Or.inl rfl, Or.inl rfl, Or.inl rfl, Or.inl rfl, Or.inl rfl, Or.inr rfl, Or.inr rfl, Or.inl rfl, trivial⟩ (hk _ _ (ST.kj (o := o) (r := .error E) S1) (LA.kj (o := o) (r := .error E) (Ho.ka g2)) (LA.kj (o := o) (r := .error E) (Ho2.ka g2)))
  | ok v =>
    obtain rfl : t = 0 := c2
    refine x_if_ne 1324 dL_law_1309 rfl (fun hn => absurd rfl hn) (fun _ => ?_)
    obtain rfl := e2 v rfl
    refine x_aloadn dL_law_1312 rfl ?_
    refine x_iconst 0 dL_law_1313 rfl ?_
    refine x_lald (((Ho.ka g2).kj (r := .ok b) (o := o)).1) (((Ho.ka g2).kj (r := .ok b) (o := o)).2) (j := 0) rfl ⟨by decide, by decide⟩ dL_law_1314 ?_
    refine X.e2 (w := .long b.toInt64) (congrArg Value.long u2_s) ?_
    refine x_iload dL_law_1315 rfl ?_
    refine x_i2l dL_law_1317 ?_
    refine x_lcmp dL_law_1318 ?_
    refine X.e2 (congrArg Value.int lgc) ?_
    refine x_if_eq 1324 dL_law_1319 rfl (fun _ => ?_) (fun hn => absurd rfl hn)
    refine x_goto 3795 dL_law_1324 rfl ?_
    exact X.forget (L' := lawL w m o o2 i) ⟨Or.inl rfl, Or.inl rfl, Or.inl rfl, Or.inl rfl, Or.inl rfl, Or.inl rfl, Or.inr rfl, Or.inr rfl, Or.inl rfl, trivial⟩ (hk _ _ (ST.kj (o := o) (r := .ok b) S1) (LA.kj (o := o) (r := .ok b) (Ho.ka g2)) (LA.kj (o := o) (r := .ok b) (Ho2.ka g2)))
theorem law_21 {n w m o o2 i kb gb D D' bb sb : Nat} {xs : Nat → Int32} {I : Mem} {K : Kt} (hi : i + 6 ≤ n) (hn : n ≤ 3072) (S : ST I K w m kb gb D) (Ho : LA K 103 1 o) (Ho2 : LA K 104 1 o2) (hc : LC (mX9_daysUntilBirthday 9) cX9_daysUntilBirthday (mX10_daysUntilBirthday 3) cX10_daysUntilBirthday [eIS, eIX] [.int (xs (i + 1))] I K w m kb gb D') (hk : Tail n xs w m o o2 i kb gb D' bb sb) : X mLaw code (2 + bb + (kb + 3 - kN K)) (12 + sb + (gb + 246 - gz K)) I K 1327 (lawL w m o o2 i) [] lawQ (GsL n xs) := by
  obtain ⟨r, t, b, I1, I2, K1, a6, b6, ⟨c1, c2, c3⟩, ⟨e1, e2⟩, S1, ⟨g1, g2⟩, l1, l2⟩ := hc
  have z1 := S1.size
  refine X.less (bc' := a6 + (bb + (kb + 3 - kN K1))) (bs' := b6 + (sb + (gb + 246 - gz K1))) ?_ (by have := g1.1; omega) (by have := g1.2; omega)
  have hM : MK (KJ K1 o r) m := (S1.kj).mk
  refine x_aloadn dL_law_1327 rfl ?_
  refine x_arg (i := i) (j := 1) rfl dL_law_1328 dL_law_1329 dL_law_1331 dL_law_1332 dL_law_1333 rfl rfl (by omega) (by omega) ?_
  refine x_aloadn dL_law_1334 rfl ?_
  refine y_callS1 (As := [.ref w, .int (xs (i + 1)), .ref o]) (rest := []) (cs_L_279 _) rfl rfl (Nat.le_of_ble_eq_true rfl) ⟨Nat.le_of_ble_eq_true rfl, Nat.le_of_ble_eq_true rfl⟩ dL_law_1335 (wL_daysUntilBirthday 9 S.lw.o (Ho.ka g2) c1 c2) ?_
  refine x_istore dL_law_1338 (Nat.le_of_ble_eq_true rfl) rfl rfl ?_
  refine x_aloadn dL_law_1340 rfl ?_
  refine x_arg (i := i) (j := 1) rfl dL_law_1341 dL_law_1342 dL_law_1344 dL_law_1345 dL_law_1346 rfl rfl (by omega) (by omega) ?_
  refine z_V1 [.int (xs (i + 1))] [] (cs_L_281 _) (ci := 8) rfl hM.o ⟨Nat.le_of_ble_eq_true rfl, Nat.le_of_ble_eq_true rfl⟩ dL_law_1347 rfl rfl (Nat.le_of_ble_eq_true rfl) (c3 _ hM) ?_
  refine x_istore dL_law_1350 (Nat.le_of_ble_eq_true rfl) rfl rfl ?_
  refine x_aloadn dL_law_1352 rfl ?_
  refine z_V1 [] [] (cs_L_213 _) (ci := 8) rfl hM.o ⟨Nat.le_of_ble_eq_true rfl, Nat.le_of_ble_eq_true rfl⟩ dL_law_1353 rfl rfl (Nat.le_of_ble_eq_true rfl) (c_X10_thrown 0 hM rfl) ?_
  refine X.e2 (congrArg Value.int e1) ?_
  refine x_iload dL_law_1356 rfl ?_
  refine x_icmp_eq 1363 dL_law_1358 rfl (fun _ => ?_) (fun hn => absurd rfl hn)
  refine x_iload dL_law_1363 rfl ?_
  cases r with
  | error E =>
    obtain ⟨i9, -, h9, rfl⟩ := c2
    refine x_if_ne 1380 dL_law_1365 rfl (fun _ => ?_) (fun hn => absurd hn (by rcases (show i9 = 0 ∨ i9 = 1 ∨ i9 = 2 by omega) with rfl | rfl | rfl <;> decide))
    refine x_goto 3795 dL_law_1380 rfl ?_
    exact X.forget (L' := lawL w m o o2 i) ⟨Or.inl rfl, Or.inl rfl, Or.inl rfl, Or.inl rfl, Or.inl rfl, Or.inl rfl, Or.inr rfl, Or.inr rfl, Or.inl rfl, trivial⟩ (hk _ _ (ST.kj (o := o) (r := .error E) S1) (LA.kj (o := o) (r := .error E) (Ho.ka g2)) (LA.kj (o := o) (r := .error E) (Ho2.ka g2)))
  | ok v =>
    obtain rfl : t = 0 := c2
    refine x_if_ne 1380 dL_law_1365 rfl (fun hn => absurd rfl hn) (fun _ => ?_)
    obtain rfl := e2 v rfl
    refine x_aloadn dL_law_1368 rfl ?_
    refine x_iconst 0 dL_law_1369 rfl ?_
    refine x_lald (((Ho.ka g2).kj (r := .ok b) (o := o)).1) (((Ho.ka g2).kj (r := .ok b) (o := o)).2) (j := 0) rfl ⟨by decide, by decide⟩ dL_law_1370 ?_
    refine X.e2 (w := .long b.toInt64) (congrArg Value.long u2_s) ?_
    refine x_iload dL_law_1371 rfl ?_
    refine x_i2l dL_law_1373 ?_
    refine x_lcmp dL_law_1374 ?_
    refine X.e2 (congrArg Value.int lgc) ?_
    refine x_if_eq 1380 dL_law_1375 rfl (fun _ => ?_) (fun hn => absurd rfl hn)
    refine x_goto 3795 dL_law_1380 rfl ?_
    exact X.forget (L' := lawL w m o o2 i) ⟨Or.inl rfl, Or.inl rfl, Or.inl rfl, Or.inl rfl, Or.inl rfl, Or.inl rfl, Or.inr rfl, Or.inr rfl, Or.inl rfl, trivial⟩ (hk _ _ (ST.kj (o := o) (r := .ok b) S1) (LA.kj (o := o) (r := .ok b) (Ho.ka g2)) (LA.kj (o := o) (r := .ok b) (Ho2.ka g2)))
theorem law_22 {n w m o o2 i kb gb D D' bb sb : Nat} {xs : Nat → Int32} {I : Mem} {K : Kt} (hi : i + 6 ≤ n) (hn : n ≤ 3072) (S : ST I K w m kb gb D) (Ho : LA K 103 1 o) (Ho2 : LA K 104 1 o2) (hc : LC (mX9_stallCount 7) cX9_stallCount (mX10_stallCount 3) cX10_stallCount [eIS] [] I K w m kb gb D') (hk : Tail n xs w m o o2 i kb gb D' bb sb) : X mLaw code (2 + bb + (kb + 3 - kN K)) (12 + sb + (gb + 246 - gz K)) I K 1383 (lawL w m o o2 i) [] lawQ (GsL n xs) := by
  obtain ⟨r, t, b, I1, I2, K1, a6, b6, ⟨c1, c2, c3⟩, ⟨e1, e2⟩, S1, ⟨g1, g2⟩, l1, l2⟩ := hc
  have z1 := S1.size
  refine X.less (bc' := a6 + (bb + (kb + 3 - kN K1))) (bs' := b6 + (sb + (gb + 246 - gz K1))) ?_ (by have := g1.1; omega) (by have := g1.2; omega)
  have hM : MK (KJ K1 o r) m := (S1.kj).mk
  refine x_aloadn dL_law_1383 rfl ?_
  refine x_aloadn dL_law_1384 rfl ?_
  refine y_callS1 (As := [.ref w, .ref o]) (rest := []) (cs_L_282 _) rfl rfl (Nat.le_of_ble_eq_true rfl) ⟨Nat.le_of_ble_eq_true rfl, Nat.le_of_ble_eq_true rfl⟩ dL_law_1385 (wL_stallCount 7 S.lw.o (Ho.ka g2) c1 c2) ?_
  refine x_istore dL_law_1388 (Nat.le_of_ble_eq_true rfl) rfl rfl ?_
  refine x_aloadn dL_law_1390 rfl ?_
  refine z_V1 [] [] (cs_L_284 _) (ci := 8) rfl hM.o ⟨Nat.le_of_ble_eq_true rfl, Nat.le_of_ble_eq_true rfl⟩ dL_law_1391 rfl rfl (Nat.le_of_ble_eq_true rfl) (c3 _ hM) ?_
  refine x_istore dL_law_1394 (Nat.le_of_ble_eq_true rfl) rfl rfl ?_
  refine x_aloadn dL_law_1396 rfl ?_
  refine z_V1 [] [] (cs_L_213 _) (ci := 8) rfl hM.o ⟨Nat.le_of_ble_eq_true rfl, Nat.le_of_ble_eq_true rfl⟩ dL_law_1397 rfl rfl (Nat.le_of_ble_eq_true rfl) (c_X10_thrown 0 hM rfl) ?_
  refine X.e2 (congrArg Value.int e1) ?_
  refine x_iload dL_law_1400 rfl ?_
  refine x_icmp_eq 1407 dL_law_1402 rfl (fun _ => ?_) (fun hn => absurd rfl hn)
  refine x_iload dL_law_1407 rfl ?_
  cases r with
  | error E =>
    obtain ⟨i9, -, h9, rfl⟩ := c2
    refine x_if_ne 1424 dL_law_1409 rfl (fun _ => ?_) (fun hn => absurd hn (by rcases (show i9 = 0 ∨ i9 = 1 ∨ i9 = 2 by omega) with rfl | rfl | rfl <;> decide))
    refine x_goto 3795 dL_law_1424 rfl ?_
    exact X.forget (L' := lawL w m o o2 i) ⟨Or.inl rfl, Or.inl rfl, Or.inl rfl, Or.inl rfl, Or.inl rfl, Or.inl rfl, Or.inr rfl, Or.inr rfl, Or.inl rfl, trivial⟩ (hk _ _ (ST.kj (o := o) (r := .error E) S1) (LA.kj (o := o) (r := .error E) (Ho.ka g2)) (LA.kj (o := o) (r := .error E) (Ho2.ka g2)))
  | ok v =>
    obtain rfl : t = 0 := c2
    refine x_if_ne 1424 dL_law_1409 rfl (fun hn => absurd rfl hn) (fun _ => ?_)
    obtain rfl := e2 v rfl
    refine x_aloadn dL_law_1412 rfl ?_
    refine x_iconst 0 dL_law_1413 rfl ?_
    refine x_lald (((Ho.ka g2).kj (r := .ok b) (o := o)).1) (((Ho.ka g2).kj (r := .ok b) (o := o)).2) (j := 0) rfl ⟨by decide, by decide⟩ dL_law_1414 ?_
    refine X.e2 (w := .long b.toInt64) (congrArg Value.long u2_s) ?_
    refine x_iload dL_law_1415 rfl ?_
    refine x_i2l dL_law_1417 ?_
    refine x_lcmp dL_law_1418 ?_
    refine X.e2 (congrArg Value.int lgc) ?_
    refine x_if_eq 1424 dL_law_1419 rfl (fun _ => ?_) (fun hn => absurd rfl hn)
    refine x_goto 3795 dL_law_1424 rfl ?_
    exact X.forget (L' := lawL w m o o2 i) ⟨Or.inl rfl, Or.inl rfl, Or.inl rfl, Or.inl rfl, Or.inl rfl, Or.inl rfl, Or.inr rfl, Or.inr rfl, Or.inl rfl, trivial⟩ (hk _ _ (ST.kj (o := o) (r := .ok b) S1) (LA.kj (o := o) (r := .ok b) (Ho.ka g2)) (LA.kj (o := o) (r := .ok b) (Ho2.ka g2)))
theorem law_23 {n w m o o2 i kb gb D D' bb sb : Nat} {xs : Nat → Int32} {I : Mem} {K : Kt} (hi : i + 6 ≤ n) (hn : n ≤ 3072) (S : ST I K w m kb gb D) (Ho : LA K 103 1 o) (Ho2 : LA K 104 1 o2) (hc : LC (mX9_cash 9) cX9_cash (mX10_cash 3) cX10_cash [eIS, eIX] [.int (xs (i + 1))] I K w m kb gb D') (hk : Tail n xs w m o o2 i kb gb D' bb sb) : X mLaw code (2 + bb + (kb + 3 - kN K)) (12 + sb + (gb + 246 - gz K)) I K 1427 (lawL w m o o2 i) [] lawQ (GsL n xs) := by
  obtain ⟨r, t, b, I1, I2, K1, a6, b6, ⟨c1, c2, c3⟩, ⟨e1, e2⟩, S1, ⟨g1, g2⟩, l1, l2⟩ := hc
  have z1 := S1.size
  refine X.less (bc' := a6 + (bb + (kb + 3 - kN K1))) (bs' := b6 + (sb + (gb + 246 - gz K1))) ?_ (by have := g1.1; omega) (by have := g1.2; omega)
  have hM : MK (KJ K1 o r) m := (S1.kj).mk
  refine x_aloadn dL_law_1427 rfl ?_
  refine x_arg (i := i) (j := 1) rfl dL_law_1428 dL_law_1429 dL_law_1431 dL_law_1432 dL_law_1433 rfl rfl (by omega) (by omega) ?_
  refine x_aloadn dL_law_1434 rfl ?_
  refine y_callS1 (As := [.ref w, .int (xs (i + 1)), .ref o]) (rest := []) (cs_L_285 _) rfl rfl (Nat.le_of_ble_eq_true rfl) ⟨Nat.le_of_ble_eq_true rfl, Nat.le_of_ble_eq_true rfl⟩ dL_law_1435 (wL_cash 9 S.lw.o (Ho.ka g2) c1 c2) ?_
  refine x_istore dL_law_1438 (Nat.le_of_ble_eq_true rfl) rfl rfl ?_
  refine x_aloadn dL_law_1440 rfl ?_
  refine x_arg (i := i) (j := 1) rfl dL_law_1441 dL_law_1442 dL_law_1444 dL_law_1445 dL_law_1446 rfl rfl (by omega) (by omega) ?_
  refine z_V1 [.int (xs (i + 1))] [] (cs_L_287 _) (ci := 8) rfl hM.o ⟨Nat.le_of_ble_eq_true rfl, Nat.le_of_ble_eq_true rfl⟩ dL_law_1447 rfl rfl (Nat.le_of_ble_eq_true rfl) (c3 _ hM) ?_
  refine x_istore dL_law_1450 (Nat.le_of_ble_eq_true rfl) rfl rfl ?_
  refine x_aloadn dL_law_1452 rfl ?_
  refine z_V1 [] [] (cs_L_213 _) (ci := 8) rfl hM.o ⟨Nat.le_of_ble_eq_true rfl, Nat.le_of_ble_eq_true rfl⟩ dL_law_1453 rfl rfl (Nat.le_of_ble_eq_true rfl) (c_X10_thrown 0 hM rfl) ?_
  refine X.e2 (congrArg Value.int e1) ?_
  refine x_iload dL_law_1456 rfl ?_
  refine x_icmp_eq 1463 dL_law_1458 rfl (fun _ => ?_) (fun hn => absurd rfl hn)
  refine x_iload dL_law_1463 rfl ?_
  cases r with
  | error E =>
    obtain ⟨i9, -, h9, rfl⟩ := c2
    refine x_if_ne 1480 dL_law_1465 rfl (fun _ => ?_) (fun hn => absurd hn (by rcases (show i9 = 0 ∨ i9 = 1 ∨ i9 = 2 by omega) with rfl | rfl | rfl <;> decide))
    refine x_goto 3795 dL_law_1480 rfl ?_
    exact X.forget (L' := lawL w m o o2 i) ⟨Or.inl rfl, Or.inl rfl, Or.inl rfl, Or.inl rfl, Or.inl rfl, Or.inl rfl, Or.inr rfl, Or.inr rfl, Or.inl rfl, trivial⟩ (hk _ _ (ST.kj (o := o) (r := .error E) S1) (LA.kj (o := o) (r := .error E) (Ho.ka g2)) (LA.kj (o := o) (r := .error E) (Ho2.ka g2)))
  | ok v =>
    obtain rfl : t = 0 := c2
    refine x_if_ne 1480 dL_law_1465 rfl (fun hn => absurd rfl hn) (fun _ => ?_)
    obtain rfl := e2 v rfl
    refine x_aloadn dL_law_1468 rfl ?_
    refine x_iconst 0 dL_law_1469 rfl ?_
    refine x_lald (((Ho.ka g2).kj (r := .ok b) (o := o)).1) (((Ho.ka g2).kj (r := .ok b) (o := o)).2) (j := 0) rfl ⟨by decide, by decide⟩ dL_law_1470 ?_
    refine X.e2 (w := .long b.toInt64) (congrArg Value.long u2_s) ?_
    refine x_iload dL_law_1471 rfl ?_
    refine x_i2l dL_law_1473 ?_
    refine x_lcmp dL_law_1474 ?_
    refine X.e2 (congrArg Value.int lgc) ?_
    refine x_if_eq 1480 dL_law_1475 rfl (fun _ => ?_) (fun hn => absurd rfl hn)
    refine x_goto 3795 dL_law_1480 rfl ?_
    exact X.forget (L' := lawL w m o o2 i) ⟨Or.inl rfl, Or.inl rfl, Or.inl rfl, Or.inl rfl, Or.inl rfl, Or.inl rfl, Or.inr rfl, Or.inr rfl, Or.inl rfl, trivial⟩ (hk _ _ (ST.kj (o := o) (r := .ok b) S1) (LA.kj (o := o) (r := .ok b) (Ho.ka g2)) (LA.kj (o := o) (r := .ok b) (Ho2.ka g2)))
theorem law_24 {n w m o o2 i kb gb D D' bb sb : Nat} {xs : Nat → Int32} {I : Mem} {K : Kt} (hi : i + 6 ≤ n) (hn : n ≤ 3072) (S : ST I K w m kb gb D) (Ho : LA K 103 1 o) (Ho2 : LA K 104 1 o2) (hc : LC (mX9_stars 9) cX9_stars (mX10_stars 3) cX10_stars [eIS, eIX] [.int (xs (i + 1))] I K w m kb gb D') (hk : Tail n xs w m o o2 i kb gb D' bb sb) : X mLaw code (2 + bb + (kb + 3 - kN K)) (12 + sb + (gb + 246 - gz K)) I K 1483 (lawL w m o o2 i) [] lawQ (GsL n xs) := by
  obtain ⟨r, t, b, I1, I2, K1, a6, b6, ⟨c1, c2, c3⟩, ⟨e1, e2⟩, S1, ⟨g1, g2⟩, l1, l2⟩ := hc
  have z1 := S1.size
  refine X.less (bc' := a6 + (bb + (kb + 3 - kN K1))) (bs' := b6 + (sb + (gb + 246 - gz K1))) ?_ (by have := g1.1; omega) (by have := g1.2; omega)
  have hM : MK (KJ K1 o r) m := (S1.kj).mk
  refine x_aloadn dL_law_1483 rfl ?_
  refine x_arg (i := i) (j := 1) rfl dL_law_1484 dL_law_1485 dL_law_1487 dL_law_1488 dL_law_1489 rfl rfl (by omega) (by omega) ?_
  refine x_aloadn dL_law_1490 rfl ?_
  refine y_callS1 (As := [.ref w, .int (xs (i + 1)), .ref o]) (rest := []) (cs_L_288 _) rfl rfl (Nat.le_of_ble_eq_true rfl) ⟨Nat.le_of_ble_eq_true rfl, Nat.le_of_ble_eq_true rfl⟩ dL_law_1491 (wL_stars 9 S.lw.o (Ho.ka g2) c1 c2) ?_
  refine x_istore dL_law_1494 (Nat.le_of_ble_eq_true rfl) rfl rfl ?_
  refine x_aloadn dL_law_1496 rfl ?_
  refine x_arg (i := i) (j := 1) rfl dL_law_1497 dL_law_1498 dL_law_1500 dL_law_1501 dL_law_1502 rfl rfl (by omega) (by omega) ?_
  refine z_V1 [.int (xs (i + 1))] [] (cs_L_290 _) (ci := 8) rfl hM.o ⟨Nat.le_of_ble_eq_true rfl, Nat.le_of_ble_eq_true rfl⟩ dL_law_1503 rfl rfl (Nat.le_of_ble_eq_true rfl) (c3 _ hM) ?_
  refine x_istore dL_law_1506 (Nat.le_of_ble_eq_true rfl) rfl rfl ?_
  refine x_aloadn dL_law_1508 rfl ?_
  refine z_V1 [] [] (cs_L_213 _) (ci := 8) rfl hM.o ⟨Nat.le_of_ble_eq_true rfl, Nat.le_of_ble_eq_true rfl⟩ dL_law_1509 rfl rfl (Nat.le_of_ble_eq_true rfl) (c_X10_thrown 0 hM rfl) ?_
  refine X.e2 (congrArg Value.int e1) ?_
  refine x_iload dL_law_1512 rfl ?_
  refine x_icmp_eq 1519 dL_law_1514 rfl (fun _ => ?_) (fun hn => absurd rfl hn)
  refine x_iload dL_law_1519 rfl ?_
  cases r with
  | error E =>
    obtain ⟨i9, -, h9, rfl⟩ := c2
    refine x_if_ne 1536 dL_law_1521 rfl (fun _ => ?_) (fun hn => absurd hn (by rcases (show i9 = 0 ∨ i9 = 1 ∨ i9 = 2 by omega) with rfl | rfl | rfl <;> decide))
    refine x_goto 3795 dL_law_1536 rfl ?_
    exact X.forget (L' := lawL w m o o2 i) ⟨Or.inl rfl, Or.inl rfl, Or.inl rfl, Or.inl rfl, Or.inl rfl, Or.inl rfl, Or.inr rfl, Or.inr rfl, Or.inl rfl, trivial⟩ (hk _ _ (ST.kj (o := o) (r := .error E) S1) (LA.kj (o := o) (r := .error E) (Ho.ka g2)) (LA.kj (o := o) (r := .error E) (Ho2.ka g2)))
  | ok v =>
    obtain rfl : t = 0 := c2
    refine x_if_ne 1536 dL_law_1521 rfl (fun hn => absurd rfl hn) (fun _ => ?_)
    obtain rfl := e2 v rfl
    refine x_aloadn dL_law_1524 rfl ?_
    refine x_iconst 0 dL_law_1525 rfl ?_
    refine x_lald (((Ho.ka g2).kj (r := .ok b) (o := o)).1) (((Ho.ka g2).kj (r := .ok b) (o := o)).2) (j := 0) rfl ⟨by decide, by decide⟩ dL_law_1526 ?_
    refine X.e2 (w := .long b.toInt64) (congrArg Value.long u2_s) ?_
    refine x_iload dL_law_1527 rfl ?_
    refine x_i2l dL_law_1529 ?_
    refine x_lcmp dL_law_1530 ?_
    refine X.e2 (congrArg Value.int lgc) ?_
    refine x_if_eq 1536 dL_law_1531 rfl (fun _ => ?_) (fun hn => absurd rfl hn)
    refine x_goto 3795 dL_law_1536 rfl ?_
    exact X.forget (L' := lawL w m o o2 i) ⟨Or.inl rfl, Or.inl rfl, Or.inl rfl, Or.inl rfl, Or.inl rfl, Or.inl rfl, Or.inr rfl, Or.inr rfl, Or.inl rfl, trivial⟩ (hk _ _ (ST.kj (o := o) (r := .ok b) S1) (LA.kj (o := o) (r := .ok b) (Ho.ka g2)) (LA.kj (o := o) (r := .ok b) (Ho2.ka g2)))
theorem law_25 {n w m o o2 i kb gb D D' bb sb : Nat} {xs : Nat → Int32} {I : Mem} {K : Kt} (hi : i + 6 ≤ n) (hn : n ≤ 3072) (S : ST I K w m kb gb D) (Ho : LA K 103 1 o) (Ho2 : LA K 104 1 o2) (hc : LC (mX9_margin 9) cX9_margin (mX10_margin 3) cX10_margin [eIS, eIX] [.int (xs (i + 1))] I K w m kb gb D') (hk : Tail n xs w m o o2 i kb gb D' bb sb) : X mLaw code (2 + bb + (kb + 3 - kN K)) (12 + sb + (gb + 246 - gz K)) I K 1539 (lawL w m o o2 i) [] lawQ (GsL n xs) := by
  obtain ⟨r, t, b, I1, I2, K1, a6, b6, ⟨c1, c2, c3⟩, ⟨e1, e2⟩, S1, ⟨g1, g2⟩, l1, l2⟩ := hc
  have z1 := S1.size
  refine X.less (bc' := a6 + (bb + (kb + 3 - kN K1))) (bs' := b6 + (sb + (gb + 246 - gz K1))) ?_ (by have := g1.1; omega) (by have := g1.2; omega)
  have hM : MK (KJ K1 o r) m := (S1.kj).mk
  refine x_aloadn dL_law_1539 rfl ?_
  refine x_arg (i := i) (j := 1) rfl dL_law_1540 dL_law_1541 dL_law_1543 dL_law_1544 dL_law_1545 rfl rfl (by omega) (by omega) ?_
  refine x_aloadn dL_law_1546 rfl ?_
  refine y_callS1 (As := [.ref w, .int (xs (i + 1)), .ref o]) (rest := []) (cs_L_291 _) rfl rfl (Nat.le_of_ble_eq_true rfl) ⟨Nat.le_of_ble_eq_true rfl, Nat.le_of_ble_eq_true rfl⟩ dL_law_1547 (wL_margin 9 S.lw.o (Ho.ka g2) c1 c2) ?_
  refine x_istore dL_law_1550 (Nat.le_of_ble_eq_true rfl) rfl rfl ?_
  refine x_aloadn dL_law_1552 rfl ?_
  refine x_arg (i := i) (j := 1) rfl dL_law_1553 dL_law_1554 dL_law_1556 dL_law_1557 dL_law_1558 rfl rfl (by omega) (by omega) ?_
  refine z_V1 [.int (xs (i + 1))] [] (cs_L_293 _) (ci := 8) rfl hM.o ⟨Nat.le_of_ble_eq_true rfl, Nat.le_of_ble_eq_true rfl⟩ dL_law_1559 rfl rfl (Nat.le_of_ble_eq_true rfl) (c3 _ hM) ?_
  refine x_istore dL_law_1562 (Nat.le_of_ble_eq_true rfl) rfl rfl ?_
  refine x_aloadn dL_law_1564 rfl ?_
  refine z_V1 [] [] (cs_L_213 _) (ci := 8) rfl hM.o ⟨Nat.le_of_ble_eq_true rfl, Nat.le_of_ble_eq_true rfl⟩ dL_law_1565 rfl rfl (Nat.le_of_ble_eq_true rfl) (c_X10_thrown 0 hM rfl) ?_
  refine X.e2 (congrArg Value.int e1) ?_
  refine x_iload dL_law_1568 rfl ?_
  refine x_icmp_eq 1575 dL_law_1570 rfl (fun _ => ?_) (fun hn => absurd rfl hn)
  refine x_iload dL_law_1575 rfl ?_
  cases r with
  | error E =>
    obtain ⟨i9, -, h9, rfl⟩ := c2
    refine x_if_ne 1592 dL_law_1577 rfl (fun _ => ?_) (fun hn => absurd hn (by rcases (show i9 = 0 ∨ i9 = 1 ∨ i9 = 2 by omega) with rfl | rfl | rfl <;> decide))
    refine x_goto 3795 dL_law_1592 rfl ?_
    exact X.forget (L' := lawL w m o o2 i) ⟨Or.inl rfl, Or.inl rfl, Or.inl rfl, Or.inl rfl, Or.inl rfl, Or.inl rfl, Or.inr rfl, Or.inr rfl, Or.inl rfl, trivial⟩ (hk _ _ (ST.kj (o := o) (r := .error E) S1) (LA.kj (o := o) (r := .error E) (Ho.ka g2)) (LA.kj (o := o) (r := .error E) (Ho2.ka g2)))
  | ok v =>
    obtain rfl : t = 0 := c2
    refine x_if_ne 1592 dL_law_1577 rfl (fun hn => absurd rfl hn) (fun _ => ?_)
    obtain rfl := e2 v rfl
    refine x_aloadn dL_law_1580 rfl ?_
    refine x_iconst 0 dL_law_1581 rfl ?_
    refine x_lald (((Ho.ka g2).kj (r := .ok b) (o := o)).1) (((Ho.ka g2).kj (r := .ok b) (o := o)).2) (j := 0) rfl ⟨by decide, by decide⟩ dL_law_1582 ?_
    refine X.e2 (w := .long b.toInt64) (congrArg Value.long u2_s) ?_
    refine x_iload dL_law_1583 rfl ?_
    refine x_i2l dL_law_1585 ?_
    refine x_lcmp dL_law_1586 ?_
    refine X.e2 (congrArg Value.int lgc) ?_
    refine x_if_eq 1592 dL_law_1587 rfl (fun _ => ?_) (fun hn => absurd rfl hn)
    refine x_goto 3795 dL_law_1592 rfl ?_
    exact X.forget (L' := lawL w m o o2 i) ⟨Or.inl rfl, Or.inl rfl, Or.inl rfl, Or.inl rfl, Or.inl rfl, Or.inl rfl, Or.inr rfl, Or.inr rfl, Or.inl rfl, trivial⟩ (hk _ _ (ST.kj (o := o) (r := .ok b) S1) (LA.kj (o := o) (r := .ok b) (Ho.ka g2)) (LA.kj (o := o) (r := .ok b) (Ho2.ka g2)))
theorem law_26 {n w m o o2 i kb gb D D' bb sb : Nat} {xs : Nat → Int32} {I : Mem} {K : Kt} (hi : i + 6 ≤ n) (hn : n ≤ 3072) (S : ST I K w m kb gb D) (Ho : LA K 103 1 o) (Ho2 : LA K 104 1 o2) (hc : LC (mX9_stockCount 8) cX9_stockCount (mX10_stockCount 3) cX10_stockCount [eIS, eIX] [.int (xs (i + 1))] I K w m kb gb D') (hk : Tail n xs w m o o2 i kb gb D' bb sb) : X mLaw code (2 + bb + (kb + 3 - kN K)) (12 + sb + (gb + 246 - gz K)) I K 1595 (lawL w m o o2 i) [] lawQ (GsL n xs) := by
  obtain ⟨r, t, b, I1, I2, K1, a6, b6, ⟨c1, c2, c3⟩, ⟨e1, e2⟩, S1, ⟨g1, g2⟩, l1, l2⟩ := hc
  have z1 := S1.size
  refine X.less (bc' := a6 + (bb + (kb + 3 - kN K1))) (bs' := b6 + (sb + (gb + 246 - gz K1))) ?_ (by have := g1.1; omega) (by have := g1.2; omega)
  have hM : MK (KJ K1 o r) m := (S1.kj).mk
  refine x_aloadn dL_law_1595 rfl ?_
  refine x_arg (i := i) (j := 1) rfl dL_law_1596 dL_law_1597 dL_law_1599 dL_law_1600 dL_law_1601 rfl rfl (by omega) (by omega) ?_
  refine x_aloadn dL_law_1602 rfl ?_
  refine y_callS1 (As := [.ref w, .int (xs (i + 1)), .ref o]) (rest := []) (cs_L_294 _) rfl rfl (Nat.le_of_ble_eq_true rfl) ⟨Nat.le_of_ble_eq_true rfl, Nat.le_of_ble_eq_true rfl⟩ dL_law_1603 (wL_stockCount 8 S.lw.o (Ho.ka g2) c1 c2) ?_
  refine x_istore dL_law_1606 (Nat.le_of_ble_eq_true rfl) rfl rfl ?_
  refine x_aloadn dL_law_1608 rfl ?_
  refine x_arg (i := i) (j := 1) rfl dL_law_1609 dL_law_1610 dL_law_1612 dL_law_1613 dL_law_1614 rfl rfl (by omega) (by omega) ?_
  refine z_V1 [.int (xs (i + 1))] [] (cs_L_296 _) (ci := 8) rfl hM.o ⟨Nat.le_of_ble_eq_true rfl, Nat.le_of_ble_eq_true rfl⟩ dL_law_1615 rfl rfl (Nat.le_of_ble_eq_true rfl) (c3 _ hM) ?_
  refine x_istore dL_law_1618 (Nat.le_of_ble_eq_true rfl) rfl rfl ?_
  refine x_aloadn dL_law_1620 rfl ?_
  refine z_V1 [] [] (cs_L_213 _) (ci := 8) rfl hM.o ⟨Nat.le_of_ble_eq_true rfl, Nat.le_of_ble_eq_true rfl⟩ dL_law_1621 rfl rfl (Nat.le_of_ble_eq_true rfl) (c_X10_thrown 0 hM rfl) ?_
  refine X.e2 (congrArg Value.int e1) ?_
  refine x_iload dL_law_1624 rfl ?_
  refine x_icmp_eq 1631 dL_law_1626 rfl (fun _ => ?_) (fun hn => absurd rfl hn)
  refine x_iload dL_law_1631 rfl ?_
  cases r with
  | error E =>
    obtain ⟨i9, -, h9, rfl⟩ := c2
    refine x_if_ne 1648 dL_law_1633 rfl (fun _ => ?_) (fun hn => absurd hn (by rcases (show i9 = 0 ∨ i9 = 1 ∨ i9 = 2 by omega) with rfl | rfl | rfl <;> decide))
    refine x_goto 3795 dL_law_1648 rfl ?_
    exact X.forget (L' := lawL w m o o2 i) ⟨Or.inl rfl, Or.inl rfl, Or.inl rfl, Or.inl rfl, Or.inl rfl, Or.inl rfl, Or.inr rfl, Or.inr rfl, Or.inl rfl, trivial⟩ (hk _ _ (ST.kj (o := o) (r := .error E) S1) (LA.kj (o := o) (r := .error E) (Ho.ka g2)) (LA.kj (o := o) (r := .error E) (Ho2.ka g2)))
  | ok v =>
    obtain rfl : t = 0 := c2
    refine x_if_ne 1648 dL_law_1633 rfl (fun hn => absurd rfl hn) (fun _ => ?_)
    obtain rfl := e2 v rfl
    refine x_aloadn dL_law_1636 rfl ?_
    refine x_iconst 0 dL_law_1637 rfl ?_
    refine x_lald (((Ho.ka g2).kj (r := .ok b) (o := o)).1) (((Ho.ka g2).kj (r := .ok b) (o := o)).2) (j := 0) rfl ⟨by decide, by decide⟩ dL_law_1638 ?_
    refine X.e2 (w := .long b.toInt64) (congrArg Value.long u2_s) ?_
    refine x_iload dL_law_1639 rfl ?_
    refine x_i2l dL_law_1641 ?_
    refine x_lcmp dL_law_1642 ?_
    refine X.e2 (congrArg Value.int lgc) ?_
    refine x_if_eq 1648 dL_law_1643 rfl (fun _ => ?_) (fun hn => absurd rfl hn)
    refine x_goto 3795 dL_law_1648 rfl ?_
    exact X.forget (L' := lawL w m o o2 i) ⟨Or.inl rfl, Or.inl rfl, Or.inl rfl, Or.inl rfl, Or.inl rfl, Or.inl rfl, Or.inr rfl, Or.inr rfl, Or.inl rfl, trivial⟩ (hk _ _ (ST.kj (o := o) (r := .ok b) S1) (LA.kj (o := o) (r := .ok b) (Ho.ka g2)) (LA.kj (o := o) (r := .ok b) (Ho2.ka g2)))
theorem law_27 {n w m o o2 i kb gb D D' bb sb : Nat} {xs : Nat → Int32} {I : Mem} {K : Kt} (hi : i + 6 ≤ n) (hn : n ≤ 3072) (S : ST I K w m kb gb D) (Ho : LA K 103 1 o) (Ho2 : LA K 104 1 o2) (hc : LC (mX9_wishLetter 9) cX9_wishLetter (mX10_wishLetter 3) cX10_wishLetter [eIS, eIX] [.int (xs (i + 1)), .int (xs (i + 2))] I K w m kb gb D') (hk : Tail n xs w m o o2 i kb gb D' bb sb) : X mLaw code (2 + bb + (kb + 3 - kN K)) (12 + sb + (gb + 246 - gz K)) I K 1651 (lawL w m o o2 i) [] lawQ (GsL n xs) := by
  obtain ⟨r, t, b, I1, I2, K1, a6, b6, ⟨c1, c2, c3⟩, ⟨e1, e2⟩, S1, ⟨g1, g2⟩, l1, l2⟩ := hc
  have z1 := S1.size
  refine X.less (bc' := a6 + (bb + (kb + 3 - kN K1))) (bs' := b6 + (sb + (gb + 246 - gz K1))) ?_ (by have := g1.1; omega) (by have := g1.2; omega)
  have hM : MK (KJ K1 o r) m := (S1.kj).mk
  refine x_aloadn dL_law_1651 rfl ?_
  refine x_arg (i := i) (j := 1) rfl dL_law_1652 dL_law_1653 dL_law_1655 dL_law_1656 dL_law_1657 rfl rfl (by omega) (by omega) ?_
  refine x_arg (i := i) (j := 2) rfl dL_law_1658 dL_law_1659 dL_law_1661 dL_law_1662 dL_law_1663 rfl rfl (by omega) (by omega) ?_
  refine x_aloadn dL_law_1664 rfl ?_
  refine y_callS1 (As := [.ref w, .int (xs (i + 1)), .int (xs (i + 2)), .ref o]) (rest := []) (cs_L_297 _) rfl rfl (Nat.le_of_ble_eq_true rfl) ⟨Nat.le_of_ble_eq_true rfl, Nat.le_of_ble_eq_true rfl⟩ dL_law_1665 (wL_wishLetter 9 S.lw.o (Ho.ka g2) c1 c2) ?_
  refine x_istore dL_law_1668 (Nat.le_of_ble_eq_true rfl) rfl rfl ?_
  refine x_aloadn dL_law_1670 rfl ?_
  refine x_arg (i := i) (j := 1) rfl dL_law_1671 dL_law_1672 dL_law_1674 dL_law_1675 dL_law_1676 rfl rfl (by omega) (by omega) ?_
  refine x_arg (i := i) (j := 2) rfl dL_law_1677 dL_law_1678 dL_law_1680 dL_law_1681 dL_law_1682 rfl rfl (by omega) (by omega) ?_
  refine z_V1 [.int (xs (i + 1)), .int (xs (i + 2))] [] (cs_L_299 _) (ci := 8) rfl hM.o ⟨Nat.le_of_ble_eq_true rfl, Nat.le_of_ble_eq_true rfl⟩ dL_law_1683 rfl rfl (Nat.le_of_ble_eq_true rfl) (c3 _ hM) ?_
  refine x_istore dL_law_1686 (Nat.le_of_ble_eq_true rfl) rfl rfl ?_
  refine x_aloadn dL_law_1688 rfl ?_
  refine z_V1 [] [] (cs_L_213 _) (ci := 8) rfl hM.o ⟨Nat.le_of_ble_eq_true rfl, Nat.le_of_ble_eq_true rfl⟩ dL_law_1689 rfl rfl (Nat.le_of_ble_eq_true rfl) (c_X10_thrown 0 hM rfl) ?_
  refine X.e2 (congrArg Value.int e1) ?_
  refine x_iload dL_law_1692 rfl ?_
  refine x_icmp_eq 1699 dL_law_1694 rfl (fun _ => ?_) (fun hn => absurd rfl hn)
  refine x_iload dL_law_1699 rfl ?_
  cases r with
  | error E =>
    obtain ⟨i9, -, h9, rfl⟩ := c2
    refine x_if_ne 1716 dL_law_1701 rfl (fun _ => ?_) (fun hn => absurd hn (by rcases (show i9 = 0 ∨ i9 = 1 ∨ i9 = 2 by omega) with rfl | rfl | rfl <;> decide))
    refine x_goto 3795 dL_law_1716 rfl ?_
    exact X.forget (L' := lawL w m o o2 i) ⟨Or.inl rfl, Or.inl rfl, Or.inl rfl, Or.inl rfl, Or.inl rfl, Or.inl rfl, Or.inr rfl, Or.inr rfl, Or.inl rfl, trivial⟩ (hk _ _ (ST.kj (o := o) (r := .error E) S1) (LA.kj (o := o) (r := .error E) (Ho.ka g2)) (LA.kj (o := o) (r := .error E) (Ho2.ka g2)))
  | ok v =>
    obtain rfl : t = 0 := c2
    refine x_if_ne 1716 dL_law_1701 rfl (fun hn => absurd rfl hn) (fun _ => ?_)
    obtain rfl := e2 v rfl
    refine x_aloadn dL_law_1704 rfl ?_
    refine x_iconst 0 dL_law_1705 rfl ?_
    refine x_lald (((Ho.ka g2).kj (r := .ok b) (o := o)).1) (((Ho.ka g2).kj (r := .ok b) (o := o)).2) (j := 0) rfl ⟨by decide, by decide⟩ dL_law_1706 ?_
    refine X.e2 (w := .long b.toInt64) (congrArg Value.long u2_s) ?_
    refine x_iload dL_law_1707 rfl ?_
    refine x_i2l dL_law_1709 ?_
    refine x_lcmp dL_law_1710 ?_
    refine X.e2 (congrArg Value.int lgc) ?_
    refine x_if_eq 1716 dL_law_1711 rfl (fun _ => ?_) (fun hn => absurd rfl hn)
    refine x_goto 3795 dL_law_1716 rfl ?_
    exact X.forget (L' := lawL w m o o2 i) ⟨Or.inl rfl, Or.inl rfl, Or.inl rfl, Or.inl rfl, Or.inl rfl, Or.inl rfl, Or.inr rfl, Or.inr rfl, Or.inl rfl, trivial⟩ (hk _ _ (ST.kj (o := o) (r := .ok b) S1) (LA.kj (o := o) (r := .ok b) (Ho.ka g2)) (LA.kj (o := o) (r := .ok b) (Ho2.ka g2)))
theorem law_28 {n w m o o2 i kb gb D D' bb sb : Nat} {xs : Nat → Int32} {I : Mem} {K : Kt} (hi : i + 6 ≤ n) (hn : n ≤ 3072) (S : ST I K w m kb gb D) (Ho : LA K 103 1 o) (Ho2 : LA K 104 1 o2) (hc : LC (mX9_baseValue 9) cX9_baseValue (mX10_baseValue 3) cX10_baseValue [eIS, eIX] [.int (xs (i + 1))] I K w m kb gb D') (hk : Tail n xs w m o o2 i kb gb D' bb sb) : X mLaw code (2 + bb + (kb + 3 - kN K)) (12 + sb + (gb + 246 - gz K)) I K 1719 (lawL w m o o2 i) [] lawQ (GsL n xs) := by
  obtain ⟨r, t, b, I1, I2, K1, a6, b6, ⟨c1, c2, c3⟩, ⟨e1, e2⟩, S1, ⟨g1, g2⟩, l1, l2⟩ := hc
  have z1 := S1.size
  refine X.less (bc' := a6 + (bb + (kb + 3 - kN K1))) (bs' := b6 + (sb + (gb + 246 - gz K1))) ?_ (by have := g1.1; omega) (by have := g1.2; omega)
  have hM : MK (KJ K1 o r) m := (S1.kj).mk
  refine x_aloadn dL_law_1719 rfl ?_
  refine x_arg (i := i) (j := 1) rfl dL_law_1720 dL_law_1721 dL_law_1723 dL_law_1724 dL_law_1725 rfl rfl (by omega) (by omega) ?_
  refine x_aloadn dL_law_1726 rfl ?_
  refine y_callS1 (As := [.ref w, .int (xs (i + 1)), .ref o]) (rest := []) (cs_L_300 _) rfl rfl (Nat.le_of_ble_eq_true rfl) ⟨Nat.le_of_ble_eq_true rfl, Nat.le_of_ble_eq_true rfl⟩ dL_law_1727 (wL_baseValue 9 S.lw.o (Ho.ka g2) c1 c2) ?_
  refine x_istore dL_law_1730 (Nat.le_of_ble_eq_true rfl) rfl rfl ?_
  refine x_aloadn dL_law_1732 rfl ?_
  refine x_arg (i := i) (j := 1) rfl dL_law_1733 dL_law_1734 dL_law_1736 dL_law_1737 dL_law_1738 rfl rfl (by omega) (by omega) ?_
  refine z_V1 [.int (xs (i + 1))] [] (cs_L_302 _) (ci := 8) rfl hM.o ⟨Nat.le_of_ble_eq_true rfl, Nat.le_of_ble_eq_true rfl⟩ dL_law_1739 rfl rfl (Nat.le_of_ble_eq_true rfl) (c3 _ hM) ?_
  refine x_istore dL_law_1742 (Nat.le_of_ble_eq_true rfl) rfl rfl ?_
  refine x_aloadn dL_law_1744 rfl ?_
  refine z_V1 [] [] (cs_L_213 _) (ci := 8) rfl hM.o ⟨Nat.le_of_ble_eq_true rfl, Nat.le_of_ble_eq_true rfl⟩ dL_law_1745 rfl rfl (Nat.le_of_ble_eq_true rfl) (c_X10_thrown 0 hM rfl) ?_
  refine X.e2 (congrArg Value.int e1) ?_
  refine x_iload dL_law_1748 rfl ?_
  refine x_icmp_eq 1755 dL_law_1750 rfl (fun _ => ?_) (fun hn => absurd rfl hn)
  refine x_iload dL_law_1755 rfl ?_
  cases r with
  | error E =>
    obtain ⟨i9, -, h9, rfl⟩ := c2
    refine x_if_ne 1772 dL_law_1757 rfl (fun _ => ?_) (fun hn => absurd hn (by rcases (show i9 = 0 ∨ i9 = 1 ∨ i9 = 2 by omega) with rfl | rfl | rfl <;> decide))
    refine x_goto 3795 dL_law_1772 rfl ?_
    exact X.forget (L' := lawL w m o o2 i) ⟨Or.inl rfl, Or.inl rfl, Or.inl rfl, Or.inl rfl, Or.inl rfl, Or.inl rfl, Or.inr rfl, Or.inr rfl, Or.inl rfl, trivial⟩ (hk _ _ (ST.kj (o := o) (r := .error E) S1) (LA.kj (o := o) (r := .error E) (Ho.ka g2)) (LA.kj (o := o) (r := .error E) (Ho2.ka g2)))
  | ok v =>
    obtain rfl : t = 0 := c2
    refine x_if_ne 1772 dL_law_1757 rfl (fun hn => absurd rfl hn) (fun _ => ?_)
    obtain rfl := e2 v rfl
    refine x_aloadn dL_law_1760 rfl ?_
    refine x_iconst 0 dL_law_1761 rfl ?_
    refine x_lald (((Ho.ka g2).kj (r := .ok b) (o := o)).1) (((Ho.ka g2).kj (r := .ok b) (o := o)).2) (j := 0) rfl ⟨by decide, by decide⟩ dL_law_1762 ?_
    refine X.e2 (w := .long b.toInt64) (congrArg Value.long u2_s) ?_
    refine x_iload dL_law_1763 rfl ?_
    refine x_i2l dL_law_1765 ?_
    refine x_lcmp dL_law_1766 ?_
    refine X.e2 (congrArg Value.int lgc) ?_
    refine x_if_eq 1772 dL_law_1767 rfl (fun _ => ?_) (fun hn => absurd rfl hn)
    refine x_goto 3795 dL_law_1772 rfl ?_
    exact X.forget (L' := lawL w m o o2 i) ⟨Or.inl rfl, Or.inl rfl, Or.inl rfl, Or.inl rfl, Or.inl rfl, Or.inl rfl, Or.inr rfl, Or.inr rfl, Or.inl rfl, trivial⟩ (hk _ _ (ST.kj (o := o) (r := .ok b) S1) (LA.kj (o := o) (r := .ok b) (Ho.ka g2)) (LA.kj (o := o) (r := .ok b) (Ho2.ka g2)))
theorem law_29 {n w m o o2 i kb gb D D' bb sb : Nat} {xs : Nat → Int32} {I : Mem} {K : Kt} (hi : i + 6 ≤ n) (hn : n ≤ 3072) (S : ST I K w m kb gb D) (Ho : LA K 103 1 o) (Ho2 : LA K 104 1 o2) (hc : LC (mX9_strength 9) cX9_strength (mX10_strength 3) cX10_strength [eIS, eIX] [.int (xs (i + 1))] I K w m kb gb D') (hk : Tail n xs w m o o2 i kb gb D' bb sb) : X mLaw code (2 + bb + (kb + 3 - kN K)) (12 + sb + (gb + 246 - gz K)) I K 1775 (lawL w m o o2 i) [] lawQ (GsL n xs) := by
  obtain ⟨r, t, b, I1, I2, K1, a6, b6, ⟨c1, c2, c3⟩, ⟨e1, e2⟩, S1, ⟨g1, g2⟩, l1, l2⟩ := hc
  have z1 := S1.size
  refine X.less (bc' := a6 + (bb + (kb + 3 - kN K1))) (bs' := b6 + (sb + (gb + 246 - gz K1))) ?_ (by have := g1.1; omega) (by have := g1.2; omega)
  have hM : MK (KJ K1 o r) m := (S1.kj).mk
  refine x_aloadn dL_law_1775 rfl ?_
  refine x_arg (i := i) (j := 1) rfl dL_law_1776 dL_law_1777 dL_law_1779 dL_law_1780 dL_law_1781 rfl rfl (by omega) (by omega) ?_
  refine x_aloadn dL_law_1782 rfl ?_
  refine y_callS1 (As := [.ref w, .int (xs (i + 1)), .ref o]) (rest := []) (cs_L_303 _) rfl rfl (Nat.le_of_ble_eq_true rfl) ⟨Nat.le_of_ble_eq_true rfl, Nat.le_of_ble_eq_true rfl⟩ dL_law_1783 (wL_strength 9 S.lw.o (Ho.ka g2) c1 c2) ?_
  refine x_istore dL_law_1786 (Nat.le_of_ble_eq_true rfl) rfl rfl ?_
  refine x_aloadn dL_law_1788 rfl ?_
  refine x_arg (i := i) (j := 1) rfl dL_law_1789 dL_law_1790 dL_law_1792 dL_law_1793 dL_law_1794 rfl rfl (by omega) (by omega) ?_
  refine z_V1 [.int (xs (i + 1))] [] (cs_L_305 _) (ci := 8) rfl hM.o ⟨Nat.le_of_ble_eq_true rfl, Nat.le_of_ble_eq_true rfl⟩ dL_law_1795 rfl rfl (Nat.le_of_ble_eq_true rfl) (c3 _ hM) ?_
  refine x_istore dL_law_1798 (Nat.le_of_ble_eq_true rfl) rfl rfl ?_
  refine x_aloadn dL_law_1800 rfl ?_
  refine z_V1 [] [] (cs_L_213 _) (ci := 8) rfl hM.o ⟨Nat.le_of_ble_eq_true rfl, Nat.le_of_ble_eq_true rfl⟩ dL_law_1801 rfl rfl (Nat.le_of_ble_eq_true rfl) (c_X10_thrown 0 hM rfl) ?_
  refine X.e2 (congrArg Value.int e1) ?_
  refine x_iload dL_law_1804 rfl ?_
  refine x_icmp_eq 1811 dL_law_1806 rfl (fun _ => ?_) (fun hn => absurd rfl hn)
  refine x_iload dL_law_1811 rfl ?_
  cases r with
  | error E =>
    obtain ⟨i9, -, h9, rfl⟩ := c2
    refine x_if_ne 1828 dL_law_1813 rfl (fun _ => ?_) (fun hn => absurd hn (by rcases (show i9 = 0 ∨ i9 = 1 ∨ i9 = 2 by omega) with rfl | rfl | rfl <;> decide))
    refine x_goto 3795 dL_law_1828 rfl ?_
    exact X.forget (L' := lawL w m o o2 i) ⟨Or.inl rfl, Or.inl rfl, Or.inl rfl, Or.inl rfl, Or.inl rfl, Or.inl rfl, Or.inr rfl, Or.inr rfl, Or.inl rfl, trivial⟩ (hk _ _ (ST.kj (o := o) (r := .error E) S1) (LA.kj (o := o) (r := .error E) (Ho.ka g2)) (LA.kj (o := o) (r := .error E) (Ho2.ka g2)))
  | ok v =>
    obtain rfl : t = 0 := c2
    refine x_if_ne 1828 dL_law_1813 rfl (fun hn => absurd rfl hn) (fun _ => ?_)
    obtain rfl := e2 v rfl
    refine x_aloadn dL_law_1816 rfl ?_
    refine x_iconst 0 dL_law_1817 rfl ?_
    refine x_lald (((Ho.ka g2).kj (r := .ok b) (o := o)).1) (((Ho.ka g2).kj (r := .ok b) (o := o)).2) (j := 0) rfl ⟨by decide, by decide⟩ dL_law_1818 ?_
    refine X.e2 (w := .long b.toInt64) (congrArg Value.long u2_s) ?_
    refine x_iload dL_law_1819 rfl ?_
    refine x_i2l dL_law_1821 ?_
    refine x_lcmp dL_law_1822 ?_
    refine X.e2 (congrArg Value.int lgc) ?_
    refine x_if_eq 1828 dL_law_1823 rfl (fun _ => ?_) (fun hn => absurd rfl hn)
    refine x_goto 3795 dL_law_1828 rfl ?_
    exact X.forget (L' := lawL w m o o2 i) ⟨Or.inl rfl, Or.inl rfl, Or.inl rfl, Or.inl rfl, Or.inl rfl, Or.inl rfl, Or.inr rfl, Or.inr rfl, Or.inl rfl, trivial⟩ (hk _ _ (ST.kj (o := o) (r := .ok b) S1) (LA.kj (o := o) (r := .ok b) (Ho.ka g2)) (LA.kj (o := o) (r := .ok b) (Ho2.ka g2)))
theorem law_30 {n w m o o2 i kb gb D D' bb sb : Nat} {xs : Nat → Int32} {I : Mem} {K : Kt} (hi : i + 6 ≤ n) (hn : n ≤ 3072) (S : ST I K w m kb gb D) (Ho : LA K 103 1 o) (Ho2 : LA K 104 1 o2) (hc : LC (mX9_wear 9) cX9_wear (mX10_wear 3) cX10_wear [eIS, eIX] [.int (xs (i + 1))] I K w m kb gb D') (hk : Tail n xs w m o o2 i kb gb D' bb sb) : X mLaw code (2 + bb + (kb + 3 - kN K)) (12 + sb + (gb + 246 - gz K)) I K 1831 (lawL w m o o2 i) [] lawQ (GsL n xs) := by
  obtain ⟨r, t, b, I1, I2, K1, a6, b6, ⟨c1, c2, c3⟩, ⟨e1, e2⟩, S1, ⟨g1, g2⟩, l1, l2⟩ := hc
  have z1 := S1.size
  refine X.less (bc' := a6 + (bb + (kb + 3 - kN K1))) (bs' := b6 + (sb + (gb + 246 - gz K1))) ?_ (by have := g1.1; omega) (by have := g1.2; omega)
  have hM : MK (KJ K1 o r) m := (S1.kj).mk
  refine x_aloadn dL_law_1831 rfl ?_
  refine x_arg (i := i) (j := 1) rfl dL_law_1832 dL_law_1833 dL_law_1835 dL_law_1836 dL_law_1837 rfl rfl (by omega) (by omega) ?_
  refine x_aloadn dL_law_1838 rfl ?_
  refine y_callS1 (As := [.ref w, .int (xs (i + 1)), .ref o]) (rest := []) (cs_L_306 _) rfl rfl (Nat.le_of_ble_eq_true rfl) ⟨Nat.le_of_ble_eq_true rfl, Nat.le_of_ble_eq_true rfl⟩ dL_law_1839 (wL_wear 9 S.lw.o (Ho.ka g2) c1 c2) ?_
  refine x_istore dL_law_1842 (Nat.le_of_ble_eq_true rfl) rfl rfl ?_
  refine x_aloadn dL_law_1844 rfl ?_
  refine x_arg (i := i) (j := 1) rfl dL_law_1845 dL_law_1846 dL_law_1848 dL_law_1849 dL_law_1850 rfl rfl (by omega) (by omega) ?_
  refine z_V1 [.int (xs (i + 1))] [] (cs_L_308 _) (ci := 8) rfl hM.o ⟨Nat.le_of_ble_eq_true rfl, Nat.le_of_ble_eq_true rfl⟩ dL_law_1851 rfl rfl (Nat.le_of_ble_eq_true rfl) (c3 _ hM) ?_
  refine x_istore dL_law_1854 (Nat.le_of_ble_eq_true rfl) rfl rfl ?_
  refine x_aloadn dL_law_1856 rfl ?_
  refine z_V1 [] [] (cs_L_213 _) (ci := 8) rfl hM.o ⟨Nat.le_of_ble_eq_true rfl, Nat.le_of_ble_eq_true rfl⟩ dL_law_1857 rfl rfl (Nat.le_of_ble_eq_true rfl) (c_X10_thrown 0 hM rfl) ?_
  refine X.e2 (congrArg Value.int e1) ?_
  refine x_iload dL_law_1860 rfl ?_
  refine x_icmp_eq 1867 dL_law_1862 rfl (fun _ => ?_) (fun hn => absurd rfl hn)
  refine x_iload dL_law_1867 rfl ?_
  cases r with
  | error E =>
    obtain ⟨i9, -, h9, rfl⟩ := c2
    refine x_if_ne 1884 dL_law_1869 rfl (fun _ => ?_) (fun hn => absurd hn (by rcases (show i9 = 0 ∨ i9 = 1 ∨ i9 = 2 by omega) with rfl | rfl | rfl <;> decide))
    refine x_goto 3795 dL_law_1884 rfl ?_
    exact X.forget (L' := lawL w m o o2 i) ⟨Or.inl rfl, Or.inl rfl, Or.inl rfl, Or.inl rfl, Or.inl rfl, Or.inl rfl, Or.inr rfl, Or.inr rfl, Or.inl rfl, trivial⟩ (hk _ _ (ST.kj (o := o) (r := .error E) S1) (LA.kj (o := o) (r := .error E) (Ho.ka g2)) (LA.kj (o := o) (r := .error E) (Ho2.ka g2)))
  | ok v =>
    obtain rfl : t = 0 := c2
    refine x_if_ne 1884 dL_law_1869 rfl (fun hn => absurd rfl hn) (fun _ => ?_)
    obtain rfl := e2 v rfl
    refine x_aloadn dL_law_1872 rfl ?_
    refine x_iconst 0 dL_law_1873 rfl ?_
    refine x_lald (((Ho.ka g2).kj (r := .ok b) (o := o)).1) (((Ho.ka g2).kj (r := .ok b) (o := o)).2) (j := 0) rfl ⟨by decide, by decide⟩ dL_law_1874 ?_
    refine X.e2 (w := .long b.toInt64) (congrArg Value.long u2_s) ?_
    refine x_iload dL_law_1875 rfl ?_
    refine x_i2l dL_law_1877 ?_
    refine x_lcmp dL_law_1878 ?_
    refine X.e2 (congrArg Value.int lgc) ?_
    refine x_if_eq 1884 dL_law_1879 rfl (fun _ => ?_) (fun hn => absurd rfl hn)
    refine x_goto 3795 dL_law_1884 rfl ?_
    exact X.forget (L' := lawL w m o o2 i) ⟨Or.inl rfl, Or.inl rfl, Or.inl rfl, Or.inl rfl, Or.inl rfl, Or.inl rfl, Or.inr rfl, Or.inr rfl, Or.inl rfl, trivial⟩ (hk _ _ (ST.kj (o := o) (r := .ok b) S1) (LA.kj (o := o) (r := .ok b) (Ho.ka g2)) (LA.kj (o := o) (r := .ok b) (Ho2.ka g2)))
theorem law_31 {n w m o o2 i kb gb D D' bb sb : Nat} {xs : Nat → Int32} {I : Mem} {K : Kt} (hi : i + 6 ≤ n) (hn : n ≤ 3072) (S : ST I K w m kb gb D) (Ho : LA K 103 1 o) (Ho2 : LA K 104 1 o2) (hc : LC (mX9_value 9) cX9_value (mX10_value 3) cX10_value [eIS, eIX] [.int (xs (i + 1))] I K w m kb gb D') (hk : Tail n xs w m o o2 i kb gb D' bb sb) : X mLaw code (2 + bb + (kb + 3 - kN K)) (12 + sb + (gb + 246 - gz K)) I K 1887 (lawL w m o o2 i) [] lawQ (GsL n xs) := by
  obtain ⟨r, t, b, I1, I2, K1, a6, b6, ⟨c1, c2, c3⟩, ⟨e1, e2⟩, S1, ⟨g1, g2⟩, l1, l2⟩ := hc
  have z1 := S1.size
  refine X.less (bc' := a6 + (bb + (kb + 3 - kN K1))) (bs' := b6 + (sb + (gb + 246 - gz K1))) ?_ (by have := g1.1; omega) (by have := g1.2; omega)
  have hM : MK (KJ K1 o r) m := (S1.kj).mk
  refine x_aloadn dL_law_1887 rfl ?_
  refine x_arg (i := i) (j := 1) rfl dL_law_1888 dL_law_1889 dL_law_1891 dL_law_1892 dL_law_1893 rfl rfl (by omega) (by omega) ?_
  refine x_aloadn dL_law_1894 rfl ?_
  refine y_callS1 (As := [.ref w, .int (xs (i + 1)), .ref o]) (rest := []) (cs_L_309 _) rfl rfl (Nat.le_of_ble_eq_true rfl) ⟨Nat.le_of_ble_eq_true rfl, Nat.le_of_ble_eq_true rfl⟩ dL_law_1895 (wL_value 9 S.lw.o (Ho.ka g2) c1 c2) ?_
  refine x_istore dL_law_1898 (Nat.le_of_ble_eq_true rfl) rfl rfl ?_
  refine x_aloadn dL_law_1900 rfl ?_
  refine x_arg (i := i) (j := 1) rfl dL_law_1901 dL_law_1902 dL_law_1904 dL_law_1905 dL_law_1906 rfl rfl (by omega) (by omega) ?_
  refine z_V1 [.int (xs (i + 1))] [] (cs_L_311 _) (ci := 8) rfl hM.o ⟨Nat.le_of_ble_eq_true rfl, Nat.le_of_ble_eq_true rfl⟩ dL_law_1907 rfl rfl (Nat.le_of_ble_eq_true rfl) (c3 _ hM) ?_
  refine x_istore dL_law_1910 (Nat.le_of_ble_eq_true rfl) rfl rfl ?_
  refine x_aloadn dL_law_1912 rfl ?_
  refine z_V1 [] [] (cs_L_213 _) (ci := 8) rfl hM.o ⟨Nat.le_of_ble_eq_true rfl, Nat.le_of_ble_eq_true rfl⟩ dL_law_1913 rfl rfl (Nat.le_of_ble_eq_true rfl) (c_X10_thrown 0 hM rfl) ?_
  refine X.e2 (congrArg Value.int e1) ?_
  refine x_iload dL_law_1916 rfl ?_
  refine x_icmp_eq 1923 dL_law_1918 rfl (fun _ => ?_) (fun hn => absurd rfl hn)
  refine x_iload dL_law_1923 rfl ?_
  cases r with
  | error E =>
    obtain ⟨i9, -, h9, rfl⟩ := c2
    refine x_if_ne 1940 dL_law_1925 rfl (fun _ => ?_) (fun hn => absurd hn (by rcases (show i9 = 0 ∨ i9 = 1 ∨ i9 = 2 by omega) with rfl | rfl | rfl <;> decide))
    refine x_goto 3795 dL_law_1940 rfl ?_
    exact X.forget (L' := lawL w m o o2 i) ⟨Or.inl rfl, Or.inl rfl, Or.inl rfl, Or.inl rfl, Or.inl rfl, Or.inl rfl, Or.inr rfl, Or.inr rfl, Or.inl rfl, trivial⟩ (hk _ _ (ST.kj (o := o) (r := .error E) S1) (LA.kj (o := o) (r := .error E) (Ho.ka g2)) (LA.kj (o := o) (r := .error E) (Ho2.ka g2)))
  | ok v =>
    obtain rfl : t = 0 := c2
    refine x_if_ne 1940 dL_law_1925 rfl (fun hn => absurd rfl hn) (fun _ => ?_)
    obtain rfl := e2 v rfl
    refine x_aloadn dL_law_1928 rfl ?_
    refine x_iconst 0 dL_law_1929 rfl ?_
    refine x_lald (((Ho.ka g2).kj (r := .ok b) (o := o)).1) (((Ho.ka g2).kj (r := .ok b) (o := o)).2) (j := 0) rfl ⟨by decide, by decide⟩ dL_law_1930 ?_
    refine X.e2 (w := .long b.toInt64) (congrArg Value.long u2_s) ?_
    refine x_iload dL_law_1931 rfl ?_
    refine x_i2l dL_law_1933 ?_
    refine x_lcmp dL_law_1934 ?_
    refine X.e2 (congrArg Value.int lgc) ?_
    refine x_if_eq 1940 dL_law_1935 rfl (fun _ => ?_) (fun hn => absurd rfl hn)
    refine x_goto 3795 dL_law_1940 rfl ?_
    exact X.forget (L' := lawL w m o o2 i) ⟨Or.inl rfl, Or.inl rfl, Or.inl rfl, Or.inl rfl, Or.inl rfl, Or.inl rfl, Or.inr rfl, Or.inr rfl, Or.inl rfl, trivial⟩ (hk _ _ (ST.kj (o := o) (r := .ok b) S1) (LA.kj (o := o) (r := .ok b) (Ho.ka g2)) (LA.kj (o := o) (r := .ok b) (Ho2.ka g2)))
