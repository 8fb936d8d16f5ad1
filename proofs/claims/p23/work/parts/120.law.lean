/-! THE LAW'S OWN METHODS: names, instructions, words; worlds with new cells behind -/
def RL : String := "ScopeRowLaw"
abbrev cL_below : ByteArray := method_2_code
def yL_below : MethodName := ⟨RL, "below", "(II)I"⟩
abbrev cL_cell : ByteArray := method_3_code
def yL_cell : MethodName := ⟨RL, "cell", "([II)I"⟩
abbrev cL_law : ByteArray := code
def yL_law : MethodName := ⟨RL, "law", "([I)Z"⟩
abbrev cL_over : ByteArray := method_5_code
def yL_over : MethodName := ⟨RL, "over", "(LScopeRow;)I"⟩
abbrev cL_act : ByteArray := method_6_code
def yL_act : MethodName := ⟨RL, "act", "(LScopeRow;I)Z"⟩
abbrev cL_areTasksRight : ByteArray := method_7_code
def yL_areTasksRight : MethodName := ⟨RL, "areTasksRight", "(LScopeRow;LScopeRowLaw$Own;)Z"⟩
abbrev cL_areScopesRight : ByteArray := method_8_code
def yL_areScopesRight : MethodName := ⟨RL, "areScopesRight", "(LScopeRow;)Z"⟩
abbrev cL_areOthersRight : ByteArray := method_9_code
def yL_areOthersRight : MethodName := ⟨RL, "areOthersRight", "(LScopeRow;)Z"⟩
theorem dX9_isTold_0 : decode cX9_isTold 0 = .ok (.aload_n 0, 1) := by decide +kernel
theorem dX9_isTold_1 : decode cX9_isTold 1 = .ok (.dup, 1) := by decide +kernel
theorem dX9_isTold_2 : decode cX9_isTold 2 = .ok (.getfield 18, 3) := by decide +kernel
theorem dX9_isTold_5 : decode cX9_isTold 5 = .ok (.iconst 1, 1) := by decide +kernel
theorem dX9_isTold_6 : decode cX9_isTold 6 = .ok (.iadd, 1) := by decide +kernel
theorem dX9_isTold_7 : decode cX9_isTold 7 = .ok (.putfield 18, 3) := by decide +kernel
theorem dX9_isTold_10 : decode cX9_isTold 10 = .ok (.aload_n 1, 1) := by decide +kernel
theorem dX9_isTold_11 : decode cX9_isTold 11 = .ok (.invokevirtual 22, 3) := by decide +kernel
theorem dX9_isTold_14 : decode cX9_isTold 14 = .ok (.aload_n 0, 1) := by decide +kernel
theorem dX9_isTold_15 : decode cX9_isTold 15 = .ok (.getfield 18, 3) := by decide +kernel
theorem dX9_isTold_18 : decode cX9_isTold 18 = .ok (.iconst 1, 1) := by decide +kernel
theorem dX9_isTold_19 : decode cX9_isTold 19 = .ok (.isub, 1) := by decide +kernel
theorem dX9_isTold_20 : decode cX9_isTold 20 = .ok (.if_icmp .ne 7, 3) := by decide +kernel
theorem dX9_isTold_23 : decode cX9_isTold 23 = .ok (.iconst 1, 1) := by decide +kernel
theorem dX9_isTold_24 : decode cX9_isTold 24 = .ok (.goto 4, 3) := by decide +kernel
theorem dX9_isTold_27 : decode cX9_isTold 27 = .ok (.iconst 0, 1) := by decide +kernel
theorem dX9_isTold_28 : decode cX9_isTold 28 = .ok (.ireturn, 1) := by decide +kernel
theorem dX9_isLine_0 : decode cX9_isLine 0 = .ok (.aload_n 0, 1) := by decide +kernel
theorem dX9_isLine_1 : decode cX9_isLine 1 = .ok (.getfield 14, 3) := by decide +kernel
theorem dX9_isLine_4 : decode cX9_isLine 4 = .ok (.iload_n 2, 1) := by decide +kernel
theorem dX9_isLine_5 : decode cX9_isLine 5 = .ok (.iaload, 1) := by decide +kernel
theorem dX9_isLine_6 : decode cX9_isLine 6 = .ok (.bipush 12, 2) := by decide +kernel
theorem dX9_isLine_8 : decode cX9_isLine 8 = .ok (.if_icmp .ne 5, 3) := by decide +kernel
theorem dX9_isLine_11 : decode cX9_isLine 11 = .ok (.iconst 1, 1) := by decide +kernel
theorem dX9_isLine_12 : decode cX9_isLine 12 = .ok (.ireturn, 1) := by decide +kernel
theorem dX9_isLine_13 : decode cX9_isLine 13 = .ok (.iconst 3, 1) := by decide +kernel
theorem dX9_isLine_14 : decode cX9_isLine 14 = .ok (.newarray .int, 2) := by decide +kernel
theorem dX9_isLine_16 : decode cX9_isLine 16 = .ok (.dup, 1) := by decide +kernel
theorem dX9_isLine_17 : decode cX9_isLine 17 = .ok (.iconst 0, 1) := by decide +kernel
theorem dX9_isLine_18 : decode cX9_isLine 18 = .ok (.iload_n 3, 1) := by decide +kernel
theorem dX9_isLine_19 : decode cX9_isLine 19 = .ok (.iastore, 1) := by decide +kernel
theorem dX9_isLine_20 : decode cX9_isLine 20 = .ok (.dup, 1) := by decide +kernel
theorem dX9_isLine_21 : decode cX9_isLine 21 = .ok (.iconst 1, 1) := by decide +kernel
theorem dX9_isLine_22 : decode cX9_isLine 22 = .ok (.iload 4, 2) := by decide +kernel
theorem dX9_isLine_24 : decode cX9_isLine 24 = .ok (.iastore, 1) := by decide +kernel
theorem dX9_isLine_25 : decode cX9_isLine 25 = .ok (.dup, 1) := by decide +kernel
theorem dX9_isLine_26 : decode cX9_isLine 26 = .ok (.iconst 2, 1) := by decide +kernel
theorem dX9_isLine_27 : decode cX9_isLine 27 = .ok (.iload 5, 2) := by decide +kernel
theorem dX9_isLine_29 : decode cX9_isLine 29 = .ok (.iastore, 1) := by decide +kernel
theorem dX9_isLine_30 : decode cX9_isLine 30 = .ok (.astore 6, 2) := by decide +kernel
theorem dX9_isLine_32 : decode cX9_isLine 32 = .ok (.aload_n 0, 1) := by decide +kernel
theorem dX9_isLine_33 : decode cX9_isLine 33 = .ok (.getfield 9, 3) := by decide +kernel
theorem dX9_isLine_36 : decode cX9_isLine 36 = .ok (.iload_n 2, 1) := by decide +kernel
theorem dX9_isLine_37 : decode cX9_isLine 37 = .ok (.aaload, 1) := by decide +kernel
theorem dX9_isLine_38 : decode cX9_isLine 38 = .ok (.aload_n 0, 1) := by decide +kernel
theorem dX9_isLine_39 : decode cX9_isLine 39 = .ok (.getfield 14, 3) := by decide +kernel
theorem dX9_isLine_42 : decode cX9_isLine 42 = .ok (.iload_n 2, 1) := by decide +kernel
theorem dX9_isLine_43 : decode cX9_isLine 43 = .ok (.iaload, 1) := by decide +kernel
theorem dX9_isLine_44 : decode cX9_isLine 44 = .ok (.aload 6, 2) := by decide +kernel
theorem dX9_isLine_46 : decode cX9_isLine 46 = .ok (.aastore, 1) := by decide +kernel
theorem dX9_isLine_47 : decode cX9_isLine 47 = .ok (.aload_n 0, 1) := by decide +kernel
theorem dX9_isLine_48 : decode cX9_isLine 48 = .ok (.getfield 14, 3) := by decide +kernel
theorem dX9_isLine_51 : decode cX9_isLine 51 = .ok (.iload_n 2, 1) := by decide +kernel
theorem dX9_isLine_52 : decode cX9_isLine 52 = .ok (.dup2, 1) := by decide +kernel
theorem dX9_isLine_53 : decode cX9_isLine 53 = .ok (.iaload, 1) := by decide +kernel
theorem dX9_isLine_54 : decode cX9_isLine 54 = .ok (.iconst 1, 1) := by decide +kernel
theorem dX9_isLine_55 : decode cX9_isLine 55 = .ok (.iadd, 1) := by decide +kernel
theorem dX9_isLine_56 : decode cX9_isLine 56 = .ok (.iastore, 1) := by decide +kernel
theorem dX9_isLine_57 : decode cX9_isLine 57 = .ok (.aload_n 1, 1) := by decide +kernel
theorem dX9_isLine_58 : decode cX9_isLine 58 = .ok (.iload_n 2, 1) := by decide +kernel
theorem dX9_isLine_59 : decode cX9_isLine 59 = .ok (.iload_n 3, 1) := by decide +kernel
theorem dX9_isLine_60 : decode cX9_isLine 60 = .ok (.iload 4, 2) := by decide +kernel
theorem dX9_isLine_62 : decode cX9_isLine 62 = .ok (.iload 5, 2) := by decide +kernel
theorem dX9_isLine_64 : decode cX9_isLine 64 = .ok (.invokevirtual 28, 3) := by decide +kernel
theorem dX9_isLine_67 : decode cX9_isLine 67 = .ok (.aload_n 0, 1) := by decide +kernel
theorem dX9_isLine_68 : decode cX9_isLine 68 = .ok (.getfield 14, 3) := by decide +kernel
theorem dX9_isLine_71 : decode cX9_isLine 71 = .ok (.iload_n 2, 1) := by decide +kernel
theorem dX9_isLine_72 : decode cX9_isLine 72 = .ok (.iaload, 1) := by decide +kernel
theorem dX9_isLine_73 : decode cX9_isLine 73 = .ok (.iconst 1, 1) := by decide +kernel
theorem dX9_isLine_74 : decode cX9_isLine 74 = .ok (.isub, 1) := by decide +kernel
theorem dX9_isLine_75 : decode cX9_isLine 75 = .ok (.if_icmp .ne 7, 3) := by decide +kernel
theorem dX9_isLine_78 : decode cX9_isLine 78 = .ok (.iconst 1, 1) := by decide +kernel
theorem dX9_isLine_79 : decode cX9_isLine 79 = .ok (.goto 4, 3) := by decide +kernel
theorem dX9_isLine_82 : decode cX9_isLine 82 = .ok (.iconst 0, 1) := by decide +kernel
theorem dX9_isLine_83 : decode cX9_isLine 83 = .ok (.ireturn, 1) := by decide +kernel
theorem dX9_isDrawn_0 : decode cX9_isDrawn 0 = .ok (.aload 4, 2) := by decide +kernel
theorem dX9_isDrawn_2 : decode cX9_isDrawn 2 = .ok (.iload_n 3, 1) := by decide +kernel
theorem dX9_isDrawn_3 : decode cX9_isDrawn 3 = .ok (.aload 4, 2) := by decide +kernel
theorem dX9_isDrawn_5 : decode cX9_isDrawn 5 = .ok (.arraylength, 1) := by decide +kernel
theorem dX9_isDrawn_6 : decode cX9_isDrawn 6 = .ok (.invokestatic 32, 3) := by decide +kernel
theorem dX9_isDrawn_9 : decode cX9_isDrawn 9 = .ok (.iaload, 1) := by decide +kernel
theorem dX9_isDrawn_10 : decode cX9_isDrawn 10 = .ok (.istore 5, 2) := by decide +kernel
theorem dX9_isDrawn_12 : decode cX9_isDrawn 12 = .ok (.aload_n 0, 1) := by decide +kernel
theorem dX9_isDrawn_13 : decode cX9_isDrawn 13 = .ok (.getfield 14, 3) := by decide +kernel
theorem dX9_isDrawn_16 : decode cX9_isDrawn 16 = .ok (.iload_n 2, 1) := by decide +kernel
theorem dX9_isDrawn_17 : decode cX9_isDrawn 17 = .ok (.iaload, 1) := by decide +kernel
theorem dX9_isDrawn_18 : decode cX9_isDrawn 18 = .ok (.istore 6, 2) := by decide +kernel
theorem dX9_isDrawn_20 : decode cX9_isDrawn 20 = .ok (.iload 6, 2) := by decide +kernel
theorem dX9_isDrawn_22 : decode cX9_isDrawn 22 = .ok (.bipush 12, 2) := by decide +kernel
theorem dX9_isDrawn_24 : decode cX9_isDrawn 24 = .ok (.if_icmp .ne 5, 3) := by decide +kernel
theorem dX9_isDrawn_27 : decode cX9_isDrawn 27 = .ok (.iconst 1, 1) := by decide +kernel
theorem dX9_isDrawn_28 : decode cX9_isDrawn 28 = .ok (.ireturn, 1) := by decide +kernel
theorem dX9_isDrawn_29 : decode cX9_isDrawn 29 = .ok (.bipush 12, 2) := by decide +kernel
theorem dX9_isDrawn_31 : decode cX9_isDrawn 31 = .ok (.iload 6, 2) := by decide +kernel
theorem dX9_isDrawn_33 : decode cX9_isDrawn 33 = .ok (.iconst 1, 1) := by decide +kernel
theorem dX9_isDrawn_34 : decode cX9_isDrawn 34 = .ok (.iadd, 1) := by decide +kernel
theorem dX9_isDrawn_35 : decode cX9_isDrawn 35 = .ok (.iload_n 3, 1) := by decide +kernel
theorem dX9_isDrawn_36 : decode cX9_isDrawn 36 = .ok (.bipush 6, 2) := by decide +kernel
theorem dX9_isDrawn_38 : decode cX9_isDrawn 38 = .ok (.ishr, 1) := by decide +kernel
theorem dX9_isDrawn_39 : decode cX9_isDrawn 39 = .ok (.iconst 5, 1) := by decide +kernel
theorem dX9_isDrawn_40 : decode cX9_isDrawn 40 = .ok (.invokestatic 32, 3) := by decide +kernel
theorem dX9_isDrawn_43 : decode cX9_isDrawn 43 = .ok (.iadd, 1) := by decide +kernel
theorem dX9_isDrawn_44 : decode cX9_isDrawn 44 = .ok (.invokestatic 38, 3) := by decide +kernel
theorem dX9_isDrawn_47 : decode cX9_isDrawn 47 = .ok (.istore 7, 2) := by decide +kernel
theorem dX9_isDrawn_49 : decode cX9_isDrawn 49 = .ok (.iload 5, 2) := by decide +kernel
theorem dX9_isDrawn_51 : decode cX9_isDrawn 51 = .ok (.tableswitch 281 0 17 #[85, 105, 105, 122, 152, 281, 164, 184, 152, 281, 219, 281, 245, 264, 264, 264, 264, 264], 85) := by decide +kernel
theorem dX9_isDrawn_136 : decode cX9_isDrawn 136 = .ok (.aload_n 0, 1) := by decide +kernel
theorem dX9_isDrawn_137 : decode cX9_isDrawn 137 = .ok (.aload_n 1, 1) := by decide +kernel
theorem dX9_isDrawn_138 : decode cX9_isDrawn 138 = .ok (.iload_n 2, 1) := by decide +kernel
theorem dX9_isDrawn_139 : decode cX9_isDrawn 139 = .ok (.iconst 0, 1) := by decide +kernel
theorem dX9_isDrawn_140 : decode cX9_isDrawn 140 = .ok (.iload_n 3, 1) := by decide +kernel
theorem dX9_isDrawn_141 : decode cX9_isDrawn 141 = .ok (.iconst 4, 1) := by decide +kernel
theorem dX9_isDrawn_142 : decode cX9_isDrawn 142 = .ok (.ishr, 1) := by decide +kernel
theorem dX9_isDrawn_143 : decode cX9_isDrawn 143 = .ok (.bipush 21, 2) := by decide +kernel
theorem dX9_isDrawn_145 : decode cX9_isDrawn 145 = .ok (.invokestatic 32, 3) := by decide +kernel
theorem dX9_isDrawn_148 : decode cX9_isDrawn 148 = .ok (.bipush 8, 2) := by decide +kernel
theorem dX9_isDrawn_150 : decode cX9_isDrawn 150 = .ok (.isub, 1) := by decide +kernel
theorem dX9_isDrawn_151 : decode cX9_isDrawn 151 = .ok (.iconst 0, 1) := by decide +kernel
theorem dX9_isDrawn_152 : decode cX9_isDrawn 152 = .ok (.invokevirtual 43, 3) := by decide +kernel
theorem dX9_isDrawn_155 : decode cX9_isDrawn 155 = .ok (.ireturn, 1) := by decide +kernel
theorem dX9_isDrawn_156 : decode cX9_isDrawn 156 = .ok (.aload_n 0, 1) := by decide +kernel
theorem dX9_isDrawn_157 : decode cX9_isDrawn 157 = .ok (.aload_n 1, 1) := by decide +kernel
theorem dX9_isDrawn_158 : decode cX9_isDrawn 158 = .ok (.iload_n 2, 1) := by decide +kernel
theorem dX9_isDrawn_159 : decode cX9_isDrawn 159 = .ok (.iload 5, 2) := by decide +kernel
theorem dX9_isDrawn_161 : decode cX9_isDrawn 161 = .ok (.iload_n 3, 1) := by decide +kernel
theorem dX9_isDrawn_162 : decode cX9_isDrawn 162 = .ok (.iconst 4, 1) := by decide +kernel
theorem dX9_isDrawn_163 : decode cX9_isDrawn 163 = .ok (.ishr, 1) := by decide +kernel
theorem dX9_isDrawn_164 : decode cX9_isDrawn 164 = .ok (.iconst 3, 1) := by decide +kernel
theorem dX9_isDrawn_165 : decode cX9_isDrawn 165 = .ok (.invokestatic 32, 3) := by decide +kernel
theorem dX9_isDrawn_168 : decode cX9_isDrawn 168 = .ok (.iconst 0, 1) := by decide +kernel
theorem dX9_isDrawn_169 : decode cX9_isDrawn 169 = .ok (.invokevirtual 43, 3) := by decide +kernel
theorem dX9_isDrawn_172 : decode cX9_isDrawn 172 = .ok (.ireturn, 1) := by decide +kernel
theorem dX9_isDrawn_173 : decode cX9_isDrawn 173 = .ok (.aload_n 0, 1) := by decide +kernel
theorem dX9_isDrawn_174 : decode cX9_isDrawn 174 = .ok (.aload_n 1, 1) := by decide +kernel
theorem dX9_isDrawn_175 : decode cX9_isDrawn 175 = .ok (.iload_n 2, 1) := by decide +kernel
theorem dX9_isDrawn_176 : decode cX9_isDrawn 176 = .ok (.iconst 3, 1) := by decide +kernel
theorem dX9_isDrawn_177 : decode cX9_isDrawn 177 = .ok (.iload_n 3, 1) := by decide +kernel
theorem dX9_isDrawn_178 : decode cX9_isDrawn 178 = .ok (.iconst 4, 1) := by decide +kernel
theorem dX9_isDrawn_179 : decode cX9_isDrawn 179 = .ok (.ishr, 1) := by decide +kernel
theorem dX9_isDrawn_180 : decode cX9_isDrawn 180 = .ok (.iconst 3, 1) := by decide +kernel
theorem dX9_isDrawn_181 : decode cX9_isDrawn 181 = .ok (.invokestatic 32, 3) := by decide +kernel
theorem dX9_isDrawn_184 : decode cX9_isDrawn 184 = .ok (.iconst 0, 1) := by decide +kernel
theorem dX9_isDrawn_185 : decode cX9_isDrawn 185 = .ok (.iload 6, 2) := by decide +kernel
theorem dX9_isDrawn_187 : decode cX9_isDrawn 187 = .ok (.iload_n 3, 1) := by decide +kernel
theorem dX9_isDrawn_188 : decode cX9_isDrawn 188 = .ok (.bipush 6, 2) := by decide +kernel
theorem dX9_isDrawn_190 : decode cX9_isDrawn 190 = .ok (.ishr, 1) := by decide +kernel
theorem dX9_isDrawn_191 : decode cX9_isDrawn 191 = .ok (.iconst 4, 1) := by decide +kernel
theorem dX9_isDrawn_192 : decode cX9_isDrawn 192 = .ok (.invokestatic 32, 3) := by decide +kernel
theorem dX9_isDrawn_195 : decode cX9_isDrawn 195 = .ok (.isub, 1) := by decide +kernel
theorem dX9_isDrawn_196 : decode cX9_isDrawn 196 = .ok (.invokestatic 47, 3) := by decide +kernel
theorem dX9_isDrawn_199 : decode cX9_isDrawn 199 = .ok (.invokevirtual 43, 3) := by decide +kernel
theorem dX9_isDrawn_202 : decode cX9_isDrawn 202 = .ok (.ireturn, 1) := by decide +kernel
theorem dX9_isDrawn_203 : decode cX9_isDrawn 203 = .ok (.aload_n 0, 1) := by decide +kernel
theorem dX9_isDrawn_204 : decode cX9_isDrawn 204 = .ok (.aload_n 1, 1) := by decide +kernel
theorem dX9_isDrawn_205 : decode cX9_isDrawn 205 = .ok (.iload_n 2, 1) := by decide +kernel
theorem dX9_isDrawn_206 : decode cX9_isDrawn 206 = .ok (.iload 5, 2) := by decide +kernel
theorem dX9_isDrawn_208 : decode cX9_isDrawn 208 = .ok (.iconst 0, 1) := by decide +kernel
theorem dX9_isDrawn_209 : decode cX9_isDrawn 209 = .ok (.iload 7, 2) := by decide +kernel
theorem dX9_isDrawn_211 : decode cX9_isDrawn 211 = .ok (.invokevirtual 43, 3) := by decide +kernel
theorem dX9_isDrawn_214 : decode cX9_isDrawn 214 = .ok (.ireturn, 1) := by decide +kernel
theorem dX9_isDrawn_215 : decode cX9_isDrawn 215 = .ok (.aload_n 0, 1) := by decide +kernel
theorem dX9_isDrawn_216 : decode cX9_isDrawn 216 = .ok (.aload_n 1, 1) := by decide +kernel
theorem dX9_isDrawn_217 : decode cX9_isDrawn 217 = .ok (.iload_n 2, 1) := by decide +kernel
theorem dX9_isDrawn_218 : decode cX9_isDrawn 218 = .ok (.bipush 6, 2) := by decide +kernel
theorem dX9_isDrawn_220 : decode cX9_isDrawn 220 = .ok (.iconst 1, 1) := by decide +kernel
theorem dX9_isDrawn_221 : decode cX9_isDrawn 221 = .ok (.iload_n 3, 1) := by decide +kernel
theorem dX9_isDrawn_222 : decode cX9_isDrawn 222 = .ok (.iconst 4, 1) := by decide +kernel
theorem dX9_isDrawn_223 : decode cX9_isDrawn 223 = .ok (.ishr, 1) := by decide +kernel
theorem dX9_isDrawn_224 : decode cX9_isDrawn 224 = .ok (.bipush 7, 2) := by decide +kernel
theorem dX9_isDrawn_226 : decode cX9_isDrawn 226 = .ok (.invokestatic 32, 3) := by decide +kernel
theorem dX9_isDrawn_229 : decode cX9_isDrawn 229 = .ok (.iadd, 1) := by decide +kernel
theorem dX9_isDrawn_230 : decode cX9_isDrawn 230 = .ok (.iconst 0, 1) := by decide +kernel
theorem dX9_isDrawn_231 : decode cX9_isDrawn 231 = .ok (.invokevirtual 43, 3) := by decide +kernel
theorem dX9_isDrawn_234 : decode cX9_isDrawn 234 = .ok (.ireturn, 1) := by decide +kernel
theorem dX9_isDrawn_235 : decode cX9_isDrawn 235 = .ok (.aload_n 0, 1) := by decide +kernel
theorem dX9_isDrawn_236 : decode cX9_isDrawn 236 = .ok (.aload_n 1, 1) := by decide +kernel
theorem dX9_isDrawn_237 : decode cX9_isDrawn 237 = .ok (.iload_n 2, 1) := by decide +kernel
theorem dX9_isDrawn_238 : decode cX9_isDrawn 238 = .ok (.bipush 7, 2) := by decide +kernel
theorem dX9_isDrawn_240 : decode cX9_isDrawn 240 = .ok (.iload_n 3, 1) := by decide +kernel
theorem dX9_isDrawn_241 : decode cX9_isDrawn 241 = .ok (.iconst 4, 1) := by decide +kernel
theorem dX9_isDrawn_242 : decode cX9_isDrawn 242 = .ok (.ishr, 1) := by decide +kernel
theorem dX9_isDrawn_243 : decode cX9_isDrawn 243 = .ok (.iconst 3, 1) := by decide +kernel
theorem dX9_isDrawn_244 : decode cX9_isDrawn 244 = .ok (.invokestatic 32, 3) := by decide +kernel
theorem dX9_isDrawn_247 : decode cX9_isDrawn 247 = .ok (.ifCond .ne 16, 3) := by decide +kernel
theorem dX9_isDrawn_250 : decode cX9_isDrawn 250 = .ok (.iconst 1, 1) := by decide +kernel
theorem dX9_isDrawn_251 : decode cX9_isDrawn 251 = .ok (.iload_n 3, 1) := by decide +kernel
theorem dX9_isDrawn_252 : decode cX9_isDrawn 252 = .ok (.iconst 5, 1) := by decide +kernel
theorem dX9_isDrawn_253 : decode cX9_isDrawn 253 = .ok (.ishr, 1) := by decide +kernel
theorem dX9_isDrawn_254 : decode cX9_isDrawn 254 = .ok (.bipush 6, 2) := by decide +kernel
theorem dX9_isDrawn_256 : decode cX9_isDrawn 256 = .ok (.invokestatic 32, 3) := by decide +kernel
theorem dX9_isDrawn_259 : decode cX9_isDrawn 259 = .ok (.iadd, 1) := by decide +kernel
theorem dX9_isDrawn_260 : decode cX9_isDrawn 260 = .ok (.goto 4, 3) := by decide +kernel
theorem dX9_isDrawn_263 : decode cX9_isDrawn 263 = .ok (.iconst 0, 1) := by decide +kernel
theorem dX9_isDrawn_264 : decode cX9_isDrawn 264 = .ok (.iload 7, 2) := by decide +kernel
theorem dX9_isDrawn_266 : decode cX9_isDrawn 266 = .ok (.invokevirtual 43, 3) := by decide +kernel
theorem dX9_isDrawn_269 : decode cX9_isDrawn 269 = .ok (.ireturn, 1) := by decide +kernel
theorem dX9_isDrawn_270 : decode cX9_isDrawn 270 = .ok (.aload_n 0, 1) := by decide +kernel
theorem dX9_isDrawn_271 : decode cX9_isDrawn 271 = .ok (.aload_n 1, 1) := by decide +kernel
theorem dX9_isDrawn_272 : decode cX9_isDrawn 272 = .ok (.iload_n 2, 1) := by decide +kernel
theorem dX9_isDrawn_273 : decode cX9_isDrawn 273 = .ok (.bipush 10, 2) := by decide +kernel
theorem dX9_isDrawn_275 : decode cX9_isDrawn 275 = .ok (.iload_n 2, 1) := by decide +kernel
theorem dX9_isDrawn_276 : decode cX9_isDrawn 276 = .ok (.ifCond .ne 8, 3) := by decide +kernel
theorem dX9_isDrawn_279 : decode cX9_isDrawn 279 = .ok (.bipush 7, 2) := by decide +kernel
theorem dX9_isDrawn_281 : decode cX9_isDrawn 281 = .ok (.goto 10, 3) := by decide +kernel
theorem dX9_isDrawn_284 : decode cX9_isDrawn 284 = .ok (.iload_n 3, 1) := by decide +kernel
theorem dX9_isDrawn_285 : decode cX9_isDrawn 285 = .ok (.iconst 4, 1) := by decide +kernel
theorem dX9_isDrawn_286 : decode cX9_isDrawn 286 = .ok (.ishr, 1) := by decide +kernel
theorem dX9_isDrawn_287 : decode cX9_isDrawn 287 = .ok (.iload_n 2, 1) := by decide +kernel
theorem dX9_isDrawn_288 : decode cX9_isDrawn 288 = .ok (.invokestatic 32, 3) := by decide +kernel
theorem dX9_isDrawn_291 : decode cX9_isDrawn 291 = .ok (.iconst 0, 1) := by decide +kernel
theorem dX9_isDrawn_292 : decode cX9_isDrawn 292 = .ok (.invokevirtual 43, 3) := by decide +kernel
theorem dX9_isDrawn_295 : decode cX9_isDrawn 295 = .ok (.ireturn, 1) := by decide +kernel
theorem dX9_isDrawn_296 : decode cX9_isDrawn 296 = .ok (.aload_n 0, 1) := by decide +kernel
theorem dX9_isDrawn_297 : decode cX9_isDrawn 297 = .ok (.aload_n 1, 1) := by decide +kernel
theorem dX9_isDrawn_298 : decode cX9_isDrawn 298 = .ok (.iload_n 2, 1) := by decide +kernel
theorem dX9_isDrawn_299 : decode cX9_isDrawn 299 = .ok (.bipush 12, 2) := by decide +kernel
theorem dX9_isDrawn_301 : decode cX9_isDrawn 301 = .ok (.iconst 1, 1) := by decide +kernel
theorem dX9_isDrawn_302 : decode cX9_isDrawn 302 = .ok (.iload_n 3, 1) := by decide +kernel
theorem dX9_isDrawn_303 : decode cX9_isDrawn 303 = .ok (.iconst 4, 1) := by decide +kernel
theorem dX9_isDrawn_304 : decode cX9_isDrawn 304 = .ok (.ishr, 1) := by decide +kernel
theorem dX9_isDrawn_305 : decode cX9_isDrawn 305 = .ok (.iconst 4, 1) := by decide +kernel
theorem dX9_isDrawn_306 : decode cX9_isDrawn 306 = .ok (.invokestatic 32, 3) := by decide +kernel
theorem dX9_isDrawn_309 : decode cX9_isDrawn 309 = .ok (.iadd, 1) := by decide +kernel
theorem dX9_isDrawn_310 : decode cX9_isDrawn 310 = .ok (.iconst 0, 1) := by decide +kernel
theorem dX9_isDrawn_311 : decode cX9_isDrawn 311 = .ok (.invokevirtual 43, 3) := by decide +kernel
theorem dX9_isDrawn_314 : decode cX9_isDrawn 314 = .ok (.ireturn, 1) := by decide +kernel
theorem dX9_isDrawn_315 : decode cX9_isDrawn 315 = .ok (.aload_n 0, 1) := by decide +kernel
theorem dX9_isDrawn_316 : decode cX9_isDrawn 316 = .ok (.aload_n 1, 1) := by decide +kernel
theorem dX9_isDrawn_317 : decode cX9_isDrawn 317 = .ok (.iload_n 2, 1) := by decide +kernel
theorem dX9_isDrawn_318 : decode cX9_isDrawn 318 = .ok (.iload 5, 2) := by decide +kernel
theorem dX9_isDrawn_320 : decode cX9_isDrawn 320 = .ok (.iload_n 3, 1) := by decide +kernel
theorem dX9_isDrawn_321 : decode cX9_isDrawn 321 = .ok (.iconst 4, 1) := by decide +kernel
theorem dX9_isDrawn_322 : decode cX9_isDrawn 322 = .ok (.ishr, 1) := by decide +kernel
theorem dX9_isDrawn_323 : decode cX9_isDrawn 323 = .ok (.iconst 2, 1) := by decide +kernel
theorem dX9_isDrawn_324 : decode cX9_isDrawn 324 = .ok (.invokestatic 32, 3) := by decide +kernel
theorem dX9_isDrawn_327 : decode cX9_isDrawn 327 = .ok (.iconst 0, 1) := by decide +kernel
theorem dX9_isDrawn_328 : decode cX9_isDrawn 328 = .ok (.invokevirtual 43, 3) := by decide +kernel
theorem dX9_isDrawn_331 : decode cX9_isDrawn 331 = .ok (.ireturn, 1) := by decide +kernel
theorem dX9_isDrawn_332 : decode cX9_isDrawn 332 = .ok (.aload_n 0, 1) := by decide +kernel
theorem dX9_isDrawn_333 : decode cX9_isDrawn 333 = .ok (.aload_n 1, 1) := by decide +kernel
theorem dX9_isDrawn_334 : decode cX9_isDrawn 334 = .ok (.iload_n 2, 1) := by decide +kernel
theorem dX9_isDrawn_335 : decode cX9_isDrawn 335 = .ok (.iload 5, 2) := by decide +kernel
theorem dX9_isDrawn_337 : decode cX9_isDrawn 337 = .ok (.iconst 0, 1) := by decide +kernel
theorem dX9_isDrawn_338 : decode cX9_isDrawn 338 = .ok (.iconst 0, 1) := by decide +kernel
theorem dX9_isDrawn_339 : decode cX9_isDrawn 339 = .ok (.invokevirtual 43, 3) := by decide +kernel
theorem dX9_isDrawn_342 : decode cX9_isDrawn 342 = .ok (.ireturn, 1) := by decide +kernel
theorem dL_below_0 : decode cL_below 0 = .ok (.iload_n 0, 1) := by decide +kernel
theorem dL_below_1 : decode cL_below 1 = .ok (.ldc 7, 2) := by decide +kernel
theorem dL_below_3 : decode cL_below 3 = .ok (.iand, 1) := by decide +kernel
theorem dL_below_4 : decode cL_below 4 = .ok (.iload_n 1, 1) := by decide +kernel
theorem dL_below_5 : decode cL_below 5 = .ok (.irem, 1) := by decide +kernel
theorem dL_below_6 : decode cL_below 6 = .ok (.ireturn, 1) := by decide +kernel
theorem dL_cell_0 : decode cL_cell 0 = .ok (.iload_n 1, 1) := by decide +kernel
theorem dL_cell_1 : decode cL_cell 1 = .ok (.aload_n 0, 1) := by decide +kernel
theorem dL_cell_2 : decode cL_cell 2 = .ok (.arraylength, 1) := by decide +kernel
theorem dL_cell_3 : decode cL_cell 3 = .ok (.if_icmp .ge 9, 3) := by decide +kernel
theorem dL_cell_6 : decode cL_cell 6 = .ok (.aload_n 0, 1) := by decide +kernel
theorem dL_cell_7 : decode cL_cell 7 = .ok (.iload_n 1, 1) := by decide +kernel
theorem dL_cell_8 : decode cL_cell 8 = .ok (.iaload, 1) := by decide +kernel
theorem dL_cell_9 : decode cL_cell 9 = .ok (.goto 9, 3) := by decide +kernel
theorem dL_cell_12 : decode cL_cell 12 = .ok (.ldc 8, 2) := by decide +kernel
theorem dL_cell_14 : decode cL_cell 14 = .ok (.iload_n 1, 1) := by decide +kernel
theorem dL_cell_15 : decode cL_cell 15 = .ok (.iconst 3, 1) := by decide +kernel
theorem dL_cell_16 : decode cL_cell 16 = .ok (.iadd, 1) := by decide +kernel
theorem dL_cell_17 : decode cL_cell 17 = .ok (.imul, 1) := by decide +kernel
theorem dL_cell_18 : decode cL_cell 18 = .ok (.ireturn, 1) := by decide +kernel
theorem dL_over_0 : decode cL_over 0 = .ok (.aload_n 0, 1) := by decide +kernel
theorem dL_over_1 : decode cL_over 1 = .ok (.iconst 4, 1) := by decide +kernel
theorem dL_over_2 : decode cL_over 2 = .ok (.invokevirtual 43, 3) := by decide +kernel
theorem dL_over_5 : decode cL_over 5 = .ok (.aload_n 0, 1) := by decide +kernel
theorem dL_over_6 : decode cL_over 6 = .ok (.iconst 5, 1) := by decide +kernel
theorem dL_over_7 : decode cL_over 7 = .ok (.invokevirtual 43, 3) := by decide +kernel
theorem dL_over_10 : decode cL_over 10 = .ok (.iadd, 1) := by decide +kernel
theorem dL_over_11 : decode cL_over 11 = .ok (.aload_n 0, 1) := by decide +kernel
theorem dL_over_12 : decode cL_over 12 = .ok (.bipush 6, 2) := by decide +kernel
theorem dL_over_14 : decode cL_over 14 = .ok (.invokevirtual 43, 3) := by decide +kernel
theorem dL_over_17 : decode cL_over 17 = .ok (.iadd, 1) := by decide +kernel
theorem dL_over_18 : decode cL_over 18 = .ok (.ireturn, 1) := by decide +kernel
theorem dL_areTasksRight_0 : decode cL_areTasksRight 0 = .ok (.iconst 5, 1) := by decide +kernel
theorem dL_areTasksRight_1 : decode cL_areTasksRight 1 = .ok (.newarray .int, 2) := by decide +kernel
theorem dL_areTasksRight_3 : decode cL_areTasksRight 3 = .ok (.astore_n 2, 1) := by decide +kernel
theorem dL_areTasksRight_4 : decode cL_areTasksRight 4 = .ok (.bipush 24, 2) := by decide +kernel
theorem dL_areTasksRight_6 : decode cL_areTasksRight 6 = .ok (.newarray .boolean, 2) := by decide +kernel
theorem dL_areTasksRight_8 : decode cL_areTasksRight 8 = .ok (.astore_n 3, 1) := by decide +kernel
theorem dL_areTasksRight_9 : decode cL_areTasksRight 9 = .ok (.bipush 19, 2) := by decide +kernel
theorem dL_areTasksRight_11 : decode cL_areTasksRight 11 = .ok (.newarray .int, 2) := by decide +kernel
theorem dL_areTasksRight_13 : decode cL_areTasksRight 13 = .ok (.dup, 1) := by decide +kernel
theorem dL_areTasksRight_14 : decode cL_areTasksRight 14 = .ok (.iconst 0, 1) := by decide +kernel
theorem dL_areTasksRight_15 : decode cL_areTasksRight 15 = .ok (.iconst 0, 1) := by decide +kernel
theorem dL_areTasksRight_16 : decode cL_areTasksRight 16 = .ok (.iastore, 1) := by decide +kernel
theorem dL_areTasksRight_17 : decode cL_areTasksRight 17 = .ok (.dup, 1) := by decide +kernel
theorem dL_areTasksRight_18 : decode cL_areTasksRight 18 = .ok (.iconst 1, 1) := by decide +kernel
theorem dL_areTasksRight_19 : decode cL_areTasksRight 19 = .ok (.iconst 0, 1) := by decide +kernel
theorem dL_areTasksRight_20 : decode cL_areTasksRight 20 = .ok (.iastore, 1) := by decide +kernel
theorem dL_areTasksRight_21 : decode cL_areTasksRight 21 = .ok (.dup, 1) := by decide +kernel
theorem dL_areTasksRight_22 : decode cL_areTasksRight 22 = .ok (.iconst 2, 1) := by decide +kernel
theorem dL_areTasksRight_23 : decode cL_areTasksRight 23 = .ok (.iconst 0, 1) := by decide +kernel
theorem dL_areTasksRight_24 : decode cL_areTasksRight 24 = .ok (.iastore, 1) := by decide +kernel
theorem dL_areTasksRight_25 : decode cL_areTasksRight 25 = .ok (.dup, 1) := by decide +kernel
theorem dL_areTasksRight_26 : decode cL_areTasksRight 26 = .ok (.iconst 3, 1) := by decide +kernel
theorem dL_areTasksRight_27 : decode cL_areTasksRight 27 = .ok (.iconst 0, 1) := by decide +kernel
theorem dL_areTasksRight_28 : decode cL_areTasksRight 28 = .ok (.iastore, 1) := by decide +kernel
theorem dL_areTasksRight_29 : decode cL_areTasksRight 29 = .ok (.dup, 1) := by decide +kernel
theorem dL_areTasksRight_30 : decode cL_areTasksRight 30 = .ok (.iconst 4, 1) := by decide +kernel
theorem dL_areTasksRight_31 : decode cL_areTasksRight 31 = .ok (.iconst 0, 1) := by decide +kernel
theorem dL_areTasksRight_32 : decode cL_areTasksRight 32 = .ok (.iastore, 1) := by decide +kernel
theorem dL_areTasksRight_33 : decode cL_areTasksRight 33 = .ok (.dup, 1) := by decide +kernel
theorem dL_areTasksRight_34 : decode cL_areTasksRight 34 = .ok (.iconst 5, 1) := by decide +kernel
theorem dL_areTasksRight_35 : decode cL_areTasksRight 35 = .ok (.iconst 0, 1) := by decide +kernel
theorem dL_areTasksRight_36 : decode cL_areTasksRight 36 = .ok (.iastore, 1) := by decide +kernel
theorem dL_areTasksRight_37 : decode cL_areTasksRight 37 = .ok (.dup, 1) := by decide +kernel
theorem dL_areTasksRight_38 : decode cL_areTasksRight 38 = .ok (.bipush 6, 2) := by decide +kernel
theorem dL_areTasksRight_40 : decode cL_areTasksRight 40 = .ok (.iconst 0, 1) := by decide +kernel
theorem dL_areTasksRight_41 : decode cL_areTasksRight 41 = .ok (.iastore, 1) := by decide +kernel
theorem dL_areTasksRight_42 : decode cL_areTasksRight 42 = .ok (.dup, 1) := by decide +kernel
theorem dL_areTasksRight_43 : decode cL_areTasksRight 43 = .ok (.bipush 7, 2) := by decide +kernel
theorem dL_areTasksRight_45 : decode cL_areTasksRight 45 = .ok (.iconst 0, 1) := by decide +kernel
theorem dL_areTasksRight_46 : decode cL_areTasksRight 46 = .ok (.iastore, 1) := by decide +kernel
theorem dL_areTasksRight_47 : decode cL_areTasksRight 47 = .ok (.dup, 1) := by decide +kernel
theorem dL_areTasksRight_48 : decode cL_areTasksRight 48 = .ok (.bipush 8, 2) := by decide +kernel
theorem dL_areTasksRight_50 : decode cL_areTasksRight 50 = .ok (.iconst 0, 1) := by decide +kernel
theorem dL_areTasksRight_51 : decode cL_areTasksRight 51 = .ok (.iastore, 1) := by decide +kernel
theorem dL_areTasksRight_52 : decode cL_areTasksRight 52 = .ok (.dup, 1) := by decide +kernel
theorem dL_areTasksRight_53 : decode cL_areTasksRight 53 = .ok (.bipush 9, 2) := by decide +kernel
theorem dL_areTasksRight_55 : decode cL_areTasksRight 55 = .ok (.iconst 0, 1) := by decide +kernel
theorem dL_areTasksRight_56 : decode cL_areTasksRight 56 = .ok (.iastore, 1) := by decide +kernel
theorem dL_areTasksRight_57 : decode cL_areTasksRight 57 = .ok (.dup, 1) := by decide +kernel
theorem dL_areTasksRight_58 : decode cL_areTasksRight 58 = .ok (.bipush 10, 2) := by decide +kernel
theorem dL_areTasksRight_60 : decode cL_areTasksRight 60 = .ok (.iconst 0, 1) := by decide +kernel
theorem dL_areTasksRight_61 : decode cL_areTasksRight 61 = .ok (.iastore, 1) := by decide +kernel
theorem dL_areTasksRight_62 : decode cL_areTasksRight 62 = .ok (.dup, 1) := by decide +kernel
theorem dL_areTasksRight_63 : decode cL_areTasksRight 63 = .ok (.bipush 11, 2) := by decide +kernel
theorem dL_areTasksRight_65 : decode cL_areTasksRight 65 = .ok (.iconst 0, 1) := by decide +kernel
theorem dL_areTasksRight_66 : decode cL_areTasksRight 66 = .ok (.iastore, 1) := by decide +kernel
theorem dL_areTasksRight_67 : decode cL_areTasksRight 67 = .ok (.dup, 1) := by decide +kernel
theorem dL_areTasksRight_68 : decode cL_areTasksRight 68 = .ok (.bipush 12, 2) := by decide +kernel
theorem dL_areTasksRight_70 : decode cL_areTasksRight 70 = .ok (.iconst 1, 1) := by decide +kernel
theorem dL_areTasksRight_71 : decode cL_areTasksRight 71 = .ok (.iastore, 1) := by decide +kernel
theorem dL_areTasksRight_72 : decode cL_areTasksRight 72 = .ok (.dup, 1) := by decide +kernel
theorem dL_areTasksRight_73 : decode cL_areTasksRight 73 = .ok (.bipush 13, 2) := by decide +kernel
theorem dL_areTasksRight_75 : decode cL_areTasksRight 75 = .ok (.iconst 2, 1) := by decide +kernel
theorem dL_areTasksRight_76 : decode cL_areTasksRight 76 = .ok (.iastore, 1) := by decide +kernel
theorem dL_areTasksRight_77 : decode cL_areTasksRight 77 = .ok (.dup, 1) := by decide +kernel
theorem dL_areTasksRight_78 : decode cL_areTasksRight 78 = .ok (.bipush 14, 2) := by decide +kernel
theorem dL_areTasksRight_80 : decode cL_areTasksRight 80 = .ok (.iconst 0, 1) := by decide +kernel
theorem dL_areTasksRight_81 : decode cL_areTasksRight 81 = .ok (.iastore, 1) := by decide +kernel
theorem dL_areTasksRight_82 : decode cL_areTasksRight 82 = .ok (.dup, 1) := by decide +kernel
theorem dL_areTasksRight_83 : decode cL_areTasksRight 83 = .ok (.bipush 15, 2) := by decide +kernel
theorem dL_areTasksRight_85 : decode cL_areTasksRight 85 = .ok (.iconst 3, 1) := by decide +kernel
theorem dL_areTasksRight_86 : decode cL_areTasksRight 86 = .ok (.iastore, 1) := by decide +kernel
theorem dL_areTasksRight_87 : decode cL_areTasksRight 87 = .ok (.dup, 1) := by decide +kernel
theorem dL_areTasksRight_88 : decode cL_areTasksRight 88 = .ok (.bipush 16, 2) := by decide +kernel
theorem dL_areTasksRight_90 : decode cL_areTasksRight 90 = .ok (.iconst 4, 1) := by decide +kernel
theorem dL_areTasksRight_91 : decode cL_areTasksRight 91 = .ok (.iastore, 1) := by decide +kernel
theorem dL_areTasksRight_92 : decode cL_areTasksRight 92 = .ok (.dup, 1) := by decide +kernel
theorem dL_areTasksRight_93 : decode cL_areTasksRight 93 = .ok (.bipush 17, 2) := by decide +kernel
theorem dL_areTasksRight_95 : decode cL_areTasksRight 95 = .ok (.iconst 0, 1) := by decide +kernel
theorem dL_areTasksRight_96 : decode cL_areTasksRight 96 = .ok (.iastore, 1) := by decide +kernel
theorem dL_areTasksRight_97 : decode cL_areTasksRight 97 = .ok (.dup, 1) := by decide +kernel
theorem dL_areTasksRight_98 : decode cL_areTasksRight 98 = .ok (.bipush 18, 2) := by decide +kernel
theorem dL_areTasksRight_100 : decode cL_areTasksRight 100 = .ok (.iconst 4, 1) := by decide +kernel
theorem dL_areTasksRight_101 : decode cL_areTasksRight 101 = .ok (.iastore, 1) := by decide +kernel
theorem dL_areTasksRight_102 : decode cL_areTasksRight 102 = .ok (.astore 4, 2) := by decide +kernel
theorem dL_areTasksRight_104 : decode cL_areTasksRight 104 = .ok (.iconst 0, 1) := by decide +kernel
theorem dL_areTasksRight_105 : decode cL_areTasksRight 105 = .ok (.istore 5, 2) := by decide +kernel
theorem dL_areTasksRight_107 : decode cL_areTasksRight 107 = .ok (.iload 5, 2) := by decide +kernel
theorem dL_areTasksRight_109 : decode cL_areTasksRight 109 = .ok (.aload_n 0, 1) := by decide +kernel
theorem dL_areTasksRight_110 : decode cL_areTasksRight 110 = .ok (.iconst 1, 1) := by decide +kernel
theorem dL_areTasksRight_111 : decode cL_areTasksRight 111 = .ok (.invokevirtual 43, 3) := by decide +kernel
theorem dL_areTasksRight_114 : decode cL_areTasksRight 114 = .ok (.if_icmp .ge 338, 3) := by decide +kernel
theorem dL_areTasksRight_117 : decode cL_areTasksRight 117 = .ok (.aload_n 0, 1) := by decide +kernel
theorem dL_areTasksRight_118 : decode cL_areTasksRight 118 = .ok (.iload 5, 2) := by decide +kernel
theorem dL_areTasksRight_120 : decode cL_areTasksRight 120 = .ok (.iconst 1, 1) := by decide +kernel
theorem dL_areTasksRight_121 : decode cL_areTasksRight 121 = .ok (.invokevirtual 47, 3) := by decide +kernel
theorem dL_areTasksRight_124 : decode cL_areTasksRight 124 = .ok (.istore 6, 2) := by decide +kernel
theorem dL_areTasksRight_126 : decode cL_areTasksRight 126 = .ok (.aload_n 0, 1) := by decide +kernel
theorem dL_areTasksRight_127 : decode cL_areTasksRight 127 = .ok (.iload 5, 2) := by decide +kernel
theorem dL_areTasksRight_129 : decode cL_areTasksRight 129 = .ok (.bipush 6, 2) := by decide +kernel
theorem dL_areTasksRight_131 : decode cL_areTasksRight 131 = .ok (.invokevirtual 47, 3) := by decide +kernel
theorem dL_areTasksRight_134 : decode cL_areTasksRight 134 = .ok (.istore 7, 2) := by decide +kernel
theorem dL_areTasksRight_136 : decode cL_areTasksRight 136 = .ok (.aload_n 0, 1) := by decide +kernel
theorem dL_areTasksRight_137 : decode cL_areTasksRight 137 = .ok (.iload 5, 2) := by decide +kernel
theorem dL_areTasksRight_139 : decode cL_areTasksRight 139 = .ok (.bipush 8, 2) := by decide +kernel
theorem dL_areTasksRight_141 : decode cL_areTasksRight 141 = .ok (.invokevirtual 47, 3) := by decide +kernel
theorem dL_areTasksRight_144 : decode cL_areTasksRight 144 = .ok (.istore 8, 2) := by decide +kernel
theorem dL_areTasksRight_146 : decode cL_areTasksRight 146 = .ok (.aload_n 0, 1) := by decide +kernel
theorem dL_areTasksRight_147 : decode cL_areTasksRight 147 = .ok (.iload 5, 2) := by decide +kernel
theorem dL_areTasksRight_149 : decode cL_areTasksRight 149 = .ok (.iconst 2, 1) := by decide +kernel
theorem dL_areTasksRight_150 : decode cL_areTasksRight 150 = .ok (.invokevirtual 47, 3) := by decide +kernel
theorem dL_areTasksRight_153 : decode cL_areTasksRight 153 = .ok (.istore 9, 2) := by decide +kernel
theorem dL_areTasksRight_155 : decode cL_areTasksRight 155 = .ok (.aload_n 2, 1) := by decide +kernel
theorem dL_areTasksRight_156 : decode cL_areTasksRight 156 = .ok (.iload 6, 2) := by decide +kernel
theorem dL_areTasksRight_158 : decode cL_areTasksRight 158 = .ok (.dup2, 1) := by decide +kernel
theorem dL_areTasksRight_159 : decode cL_areTasksRight 159 = .ok (.iaload, 1) := by decide +kernel
theorem dL_areTasksRight_160 : decode cL_areTasksRight 160 = .ok (.iconst 1, 1) := by decide +kernel
theorem dL_areTasksRight_161 : decode cL_areTasksRight 161 = .ok (.iadd, 1) := by decide +kernel
theorem dL_areTasksRight_162 : decode cL_areTasksRight 162 = .ok (.iastore, 1) := by decide +kernel
theorem dL_areTasksRight_163 : decode cL_areTasksRight 163 = .ok (.iload 7, 2) := by decide +kernel
theorem dL_areTasksRight_165 : decode cL_areTasksRight 165 = .ok (.ifCond .lt 7, 3) := by decide +kernel
theorem dL_areTasksRight_168 : decode cL_areTasksRight 168 = .ok (.iconst 1, 1) := by decide +kernel
theorem dL_areTasksRight_169 : decode cL_areTasksRight 169 = .ok (.goto 4, 3) := by decide +kernel
theorem dL_areTasksRight_172 : decode cL_areTasksRight 172 = .ok (.iconst 0, 1) := by decide +kernel
theorem dL_areTasksRight_173 : decode cL_areTasksRight 173 = .ok (.iload 6, 2) := by decide +kernel
theorem dL_areTasksRight_175 : decode cL_areTasksRight 175 = .ok (.ifCond .ne 7, 3) := by decide +kernel
theorem dL_areTasksRight_178 : decode cL_areTasksRight 178 = .ok (.iconst 1, 1) := by decide +kernel
theorem dL_areTasksRight_179 : decode cL_areTasksRight 179 = .ok (.goto 4, 3) := by decide +kernel
theorem dL_areTasksRight_182 : decode cL_areTasksRight 182 = .ok (.iconst 0, 1) := by decide +kernel
theorem dL_areTasksRight_183 : decode cL_areTasksRight 183 = .ok (.if_icmp .ne 100, 3) := by decide +kernel
theorem dL_areTasksRight_186 : decode cL_areTasksRight 186 = .ok (.iload 7, 2) := by decide +kernel
theorem dL_areTasksRight_188 : decode cL_areTasksRight 188 = .ok (.aload_n 0, 1) := by decide +kernel
theorem dL_areTasksRight_189 : decode cL_areTasksRight 189 = .ok (.iconst 2, 1) := by decide +kernel
theorem dL_areTasksRight_190 : decode cL_areTasksRight 190 = .ok (.invokevirtual 43, 3) := by decide +kernel
theorem dL_areTasksRight_193 : decode cL_areTasksRight 193 = .ok (.if_icmp .ge 90, 3) := by decide +kernel
theorem dL_areTasksRight_196 : decode cL_areTasksRight 196 = .ok (.iload 7, 2) := by decide +kernel
theorem dL_areTasksRight_198 : decode cL_areTasksRight 198 = .ok (.ifCond .lt 10, 3) := by decide +kernel
theorem dL_areTasksRight_201 : decode cL_areTasksRight 201 = .ok (.aload_n 3, 1) := by decide +kernel
theorem dL_areTasksRight_202 : decode cL_areTasksRight 202 = .ok (.iload 7, 2) := by decide +kernel
theorem dL_areTasksRight_204 : decode cL_areTasksRight 204 = .ok (.baload, 1) := by decide +kernel
theorem dL_areTasksRight_205 : decode cL_areTasksRight 205 = .ok (.ifCond .ne 78, 3) := by decide +kernel
theorem dL_areTasksRight_208 : decode cL_areTasksRight 208 = .ok (.iload 8, 2) := by decide +kernel
theorem dL_areTasksRight_210 : decode cL_areTasksRight 210 = .ok (.ifCond .le 7, 3) := by decide +kernel
theorem dL_areTasksRight_213 : decode cL_areTasksRight 213 = .ok (.iconst 1, 1) := by decide +kernel
theorem dL_areTasksRight_214 : decode cL_areTasksRight 214 = .ok (.goto 4, 3) := by decide +kernel
theorem dL_areTasksRight_217 : decode cL_areTasksRight 217 = .ok (.iconst 0, 1) := by decide +kernel
theorem dL_areTasksRight_218 : decode cL_areTasksRight 218 = .ok (.iload 6, 2) := by decide +kernel
theorem dL_areTasksRight_220 : decode cL_areTasksRight 220 = .ok (.iconst 1, 1) := by decide +kernel
theorem dL_areTasksRight_221 : decode cL_areTasksRight 221 = .ok (.if_icmp .ne 7, 3) := by decide +kernel
theorem dL_areTasksRight_224 : decode cL_areTasksRight 224 = .ok (.iconst 1, 1) := by decide +kernel
theorem dL_areTasksRight_225 : decode cL_areTasksRight 225 = .ok (.goto 4, 3) := by decide +kernel
theorem dL_areTasksRight_228 : decode cL_areTasksRight 228 = .ok (.iconst 0, 1) := by decide +kernel
theorem dL_areTasksRight_229 : decode cL_areTasksRight 229 = .ok (.if_icmp .ne 54, 3) := by decide +kernel
theorem dL_areTasksRight_232 : decode cL_areTasksRight 232 = .ok (.iload 9, 2) := by decide +kernel
theorem dL_areTasksRight_234 : decode cL_areTasksRight 234 = .ok (.ifCond .ge 7, 3) := by decide +kernel
theorem dL_areTasksRight_237 : decode cL_areTasksRight 237 = .ok (.iconst 1, 1) := by decide +kernel
theorem dL_areTasksRight_238 : decode cL_areTasksRight 238 = .ok (.goto 4, 3) := by decide +kernel
theorem dL_areTasksRight_241 : decode cL_areTasksRight 241 = .ok (.iconst 0, 1) := by decide +kernel
theorem dL_areTasksRight_242 : decode cL_areTasksRight 242 = .ok (.iload 6, 2) := by decide +kernel
theorem dL_areTasksRight_244 : decode cL_areTasksRight 244 = .ok (.iconst 1, 1) := by decide +kernel
theorem dL_areTasksRight_245 : decode cL_areTasksRight 245 = .ok (.if_icmp .le 7, 3) := by decide +kernel
theorem dL_areTasksRight_248 : decode cL_areTasksRight 248 = .ok (.iconst 1, 1) := by decide +kernel
theorem dL_areTasksRight_249 : decode cL_areTasksRight 249 = .ok (.goto 4, 3) := by decide +kernel
theorem dL_areTasksRight_252 : decode cL_areTasksRight 252 = .ok (.iconst 0, 1) := by decide +kernel
theorem dL_areTasksRight_253 : decode cL_areTasksRight 253 = .ok (.if_icmp .ne 30, 3) := by decide +kernel
theorem dL_areTasksRight_256 : decode cL_areTasksRight 256 = .ok (.iload 6, 2) := by decide +kernel
theorem dL_areTasksRight_258 : decode cL_areTasksRight 258 = .ok (.iconst 1, 1) := by decide +kernel
theorem dL_areTasksRight_259 : decode cL_areTasksRight 259 = .ok (.if_icmp .le 26, 3) := by decide +kernel
theorem dL_areTasksRight_262 : decode cL_areTasksRight 262 = .ok (.aload_n 0, 1) := by decide +kernel
theorem dL_areTasksRight_263 : decode cL_areTasksRight 263 = .ok (.iload 5, 2) := by decide +kernel
theorem dL_areTasksRight_265 : decode cL_areTasksRight 265 = .ok (.iconst 5, 1) := by decide +kernel
theorem dL_areTasksRight_266 : decode cL_areTasksRight 266 = .ok (.invokevirtual 47, 3) := by decide +kernel
theorem dL_areTasksRight_269 : decode cL_areTasksRight 269 = .ok (.ifCond .ne 14, 3) := by decide +kernel
theorem dL_areTasksRight_272 : decode cL_areTasksRight 272 = .ok (.aload_n 0, 1) := by decide +kernel
theorem dL_areTasksRight_273 : decode cL_areTasksRight 273 = .ok (.iload 5, 2) := by decide +kernel
theorem dL_areTasksRight_275 : decode cL_areTasksRight 275 = .ok (.bipush 7, 2) := by decide +kernel
theorem dL_areTasksRight_277 : decode cL_areTasksRight 277 = .ok (.invokevirtual 47, 3) := by decide +kernel
theorem dL_areTasksRight_280 : decode cL_areTasksRight 280 = .ok (.ifCond .eq 5, 3) := by decide +kernel
theorem dL_areTasksRight_283 : decode cL_areTasksRight 283 = .ok (.iconst 0, 1) := by decide +kernel
theorem dL_areTasksRight_284 : decode cL_areTasksRight 284 = .ok (.ireturn, 1) := by decide +kernel
theorem dL_areTasksRight_285 : decode cL_areTasksRight 285 = .ok (.iload 7, 2) := by decide +kernel
theorem dL_areTasksRight_287 : decode cL_areTasksRight 287 = .ok (.ifCond .lt 8, 3) := by decide +kernel
theorem dL_areTasksRight_290 : decode cL_areTasksRight 290 = .ok (.aload_n 3, 1) := by decide +kernel
theorem dL_areTasksRight_291 : decode cL_areTasksRight 291 = .ok (.iload 7, 2) := by decide +kernel
theorem dL_areTasksRight_293 : decode cL_areTasksRight 293 = .ok (.iconst 1, 1) := by decide +kernel
theorem dL_areTasksRight_294 : decode cL_areTasksRight 294 = .ok (.bastore, 1) := by decide +kernel
theorem dL_areTasksRight_295 : decode cL_areTasksRight 295 = .ok (.iload 8, 2) := by decide +kernel
theorem dL_areTasksRight_297 : decode cL_areTasksRight 297 = .ok (.ifCond .le 48, 3) := by decide +kernel
theorem dL_areTasksRight_300 : decode cL_areTasksRight 300 = .ok (.iload 8, 2) := by decide +kernel
theorem dL_areTasksRight_302 : decode cL_areTasksRight 302 = .ok (.iconst 5, 1) := by decide +kernel
theorem dL_areTasksRight_303 : decode cL_areTasksRight 303 = .ok (.if_icmp .ge 42, 3) := by decide +kernel
theorem dL_areTasksRight_306 : decode cL_areTasksRight 306 = .ok (.aload_n 0, 1) := by decide +kernel
theorem dL_areTasksRight_307 : decode cL_areTasksRight 307 = .ok (.iload 5, 2) := by decide +kernel
theorem dL_areTasksRight_309 : decode cL_areTasksRight 309 = .ok (.bipush 7, 2) := by decide +kernel
theorem dL_areTasksRight_311 : decode cL_areTasksRight 311 = .ok (.invokevirtual 47, 3) := by decide +kernel
theorem dL_areTasksRight_314 : decode cL_areTasksRight 314 = .ok (.iconst 1, 1) := by decide +kernel
theorem dL_areTasksRight_315 : decode cL_areTasksRight 315 = .ok (.if_icmp .eq 28, 3) := by decide +kernel
theorem dL_areTasksRight_318 : decode cL_areTasksRight 318 = .ok (.aload 4, 2) := by decide +kernel
theorem dL_areTasksRight_320 : decode cL_areTasksRight 320 = .ok (.aload_n 1, 1) := by decide +kernel
theorem dL_areTasksRight_321 : decode cL_areTasksRight 321 = .ok (.getfield 99, 3) := by decide +kernel
theorem dL_areTasksRight_324 : decode cL_areTasksRight 324 = .ok (.aload_n 0, 1) := by decide +kernel
theorem dL_areTasksRight_325 : decode cL_areTasksRight 325 = .ok (.iload 5, 2) := by decide +kernel
theorem dL_areTasksRight_327 : decode cL_areTasksRight 327 = .ok (.iconst 0, 1) := by decide +kernel
theorem dL_areTasksRight_328 : decode cL_areTasksRight 328 = .ok (.invokevirtual 47, 3) := by decide +kernel
theorem dL_areTasksRight_331 : decode cL_areTasksRight 331 = .ok (.aaload, 1) := by decide +kernel
theorem dL_areTasksRight_332 : decode cL_areTasksRight 332 = .ok (.iload 9, 2) := by decide +kernel
theorem dL_areTasksRight_334 : decode cL_areTasksRight 334 = .ok (.aaload, 1) := by decide +kernel
theorem dL_areTasksRight_335 : decode cL_areTasksRight 335 = .ok (.iconst 0, 1) := by decide +kernel
theorem dL_areTasksRight_336 : decode cL_areTasksRight 336 = .ok (.iaload, 1) := by decide +kernel
theorem dL_areTasksRight_337 : decode cL_areTasksRight 337 = .ok (.iaload, 1) := by decide +kernel
theorem dL_areTasksRight_338 : decode cL_areTasksRight 338 = .ok (.iload 8, 2) := by decide +kernel
theorem dL_areTasksRight_340 : decode cL_areTasksRight 340 = .ok (.if_icmp .eq 5, 3) := by decide +kernel
theorem dL_areTasksRight_343 : decode cL_areTasksRight 343 = .ok (.iconst 0, 1) := by decide +kernel
theorem dL_areTasksRight_344 : decode cL_areTasksRight 344 = .ok (.ireturn, 1) := by decide +kernel
theorem dL_areTasksRight_345 : decode cL_areTasksRight 345 = .ok (.iload 8, 2) := by decide +kernel
theorem dL_areTasksRight_347 : decode cL_areTasksRight 347 = .ok (.iconst 5, 1) := by decide +kernel
theorem dL_areTasksRight_348 : decode cL_areTasksRight 348 = .ok (.if_icmp .ne 13, 3) := by decide +kernel
theorem dL_areTasksRight_351 : decode cL_areTasksRight 351 = .ok (.aload_n 0, 1) := by decide +kernel
theorem dL_areTasksRight_352 : decode cL_areTasksRight 352 = .ok (.iload 5, 2) := by decide +kernel
theorem dL_areTasksRight_354 : decode cL_areTasksRight 354 = .ok (.iconst 5, 1) := by decide +kernel
theorem dL_areTasksRight_355 : decode cL_areTasksRight 355 = .ok (.invokevirtual 47, 3) := by decide +kernel
theorem dL_areTasksRight_358 : decode cL_areTasksRight 358 = .ok (.ifCond .eq 35, 3) := by decide +kernel
theorem dL_areTasksRight_361 : decode cL_areTasksRight 361 = .ok (.aload_n 0, 1) := by decide +kernel
theorem dL_areTasksRight_362 : decode cL_areTasksRight 362 = .ok (.iload 5, 2) := by decide +kernel
theorem dL_areTasksRight_364 : decode cL_areTasksRight 364 = .ok (.iconst 3, 1) := by decide +kernel
theorem dL_areTasksRight_365 : decode cL_areTasksRight 365 = .ok (.invokevirtual 47, 3) := by decide +kernel
theorem dL_areTasksRight_368 : decode cL_areTasksRight 368 = .ok (.invokestatic 103, 3) := by decide +kernel
theorem dL_areTasksRight_371 : decode cL_areTasksRight 371 = .ok (.sipush 9999, 3) := by decide +kernel
theorem dL_areTasksRight_374 : decode cL_areTasksRight 374 = .ok (.if_icmp .gt 19, 3) := by decide +kernel
theorem dL_areTasksRight_377 : decode cL_areTasksRight 377 = .ok (.aload_n 0, 1) := by decide +kernel
theorem dL_areTasksRight_378 : decode cL_areTasksRight 378 = .ok (.iload 5, 2) := by decide +kernel
theorem dL_areTasksRight_380 : decode cL_areTasksRight 380 = .ok (.iconst 4, 1) := by decide +kernel
theorem dL_areTasksRight_381 : decode cL_areTasksRight 381 = .ok (.invokevirtual 47, 3) := by decide +kernel
theorem dL_areTasksRight_384 : decode cL_areTasksRight 384 = .ok (.aload_n 0, 1) := by decide +kernel
theorem dL_areTasksRight_385 : decode cL_areTasksRight 385 = .ok (.bipush 7, 2) := by decide +kernel
theorem dL_areTasksRight_387 : decode cL_areTasksRight 387 = .ok (.invokevirtual 43, 3) := by decide +kernel
theorem dL_areTasksRight_390 : decode cL_areTasksRight 390 = .ok (.if_icmp .lt 5, 3) := by decide +kernel
theorem dL_areTasksRight_393 : decode cL_areTasksRight 393 = .ok (.iconst 0, 1) := by decide +kernel
theorem dL_areTasksRight_394 : decode cL_areTasksRight 394 = .ok (.ireturn, 1) := by decide +kernel
theorem dL_areTasksRight_395 : decode cL_areTasksRight 395 = .ok (.aload_n 0, 1) := by decide +kernel
theorem dL_areTasksRight_396 : decode cL_areTasksRight 396 = .ok (.iload 5, 2) := by decide +kernel
theorem dL_areTasksRight_398 : decode cL_areTasksRight 398 = .ok (.iconst 4, 1) := by decide +kernel
theorem dL_areTasksRight_399 : decode cL_areTasksRight 399 = .ok (.invokevirtual 47, 3) := by decide +kernel
theorem dL_areTasksRight_402 : decode cL_areTasksRight 402 = .ok (.ifCond .lt 44, 3) := by decide +kernel
theorem dL_areTasksRight_405 : decode cL_areTasksRight 405 = .ok (.aload_n 0, 1) := by decide +kernel
theorem dL_areTasksRight_406 : decode cL_areTasksRight 406 = .ok (.aload_n 0, 1) := by decide +kernel
theorem dL_areTasksRight_407 : decode cL_areTasksRight 407 = .ok (.iload 5, 2) := by decide +kernel
theorem dL_areTasksRight_409 : decode cL_areTasksRight 409 = .ok (.iconst 4, 1) := by decide +kernel
theorem dL_areTasksRight_410 : decode cL_areTasksRight 410 = .ok (.invokevirtual 47, 3) := by decide +kernel
theorem dL_areTasksRight_413 : decode cL_areTasksRight 413 = .ok (.iconst 0, 1) := by decide +kernel
theorem dL_areTasksRight_414 : decode cL_areTasksRight 414 = .ok (.invokevirtual 50, 3) := by decide +kernel
theorem dL_areTasksRight_417 : decode cL_areTasksRight 417 = .ok (.iload 5, 2) := by decide +kernel
theorem dL_areTasksRight_419 : decode cL_areTasksRight 419 = .ok (.if_icmp .ge 25, 3) := by decide +kernel
theorem dL_areTasksRight_422 : decode cL_areTasksRight 422 = .ok (.aload_n 0, 1) := by decide +kernel
theorem dL_areTasksRight_423 : decode cL_areTasksRight 423 = .ok (.aload_n 0, 1) := by decide +kernel
theorem dL_areTasksRight_424 : decode cL_areTasksRight 424 = .ok (.iload 5, 2) := by decide +kernel
theorem dL_areTasksRight_426 : decode cL_areTasksRight 426 = .ok (.iconst 4, 1) := by decide +kernel
theorem dL_areTasksRight_427 : decode cL_areTasksRight 427 = .ok (.invokevirtual 47, 3) := by decide +kernel
theorem dL_areTasksRight_430 : decode cL_areTasksRight 430 = .ok (.iconst 1, 1) := by decide +kernel
theorem dL_areTasksRight_431 : decode cL_areTasksRight 431 = .ok (.invokevirtual 50, 3) := by decide +kernel
theorem dL_areTasksRight_434 : decode cL_areTasksRight 434 = .ok (.iconst 2, 1) := by decide +kernel
theorem dL_areTasksRight_435 : decode cL_areTasksRight 435 = .ok (.if_icmp .ne 11, 3) := by decide +kernel
theorem dL_areTasksRight_438 : decode cL_areTasksRight 438 = .ok (.iload 6, 2) := by decide +kernel
theorem dL_areTasksRight_440 : decode cL_areTasksRight 440 = .ok (.iconst 2, 1) := by decide +kernel
theorem dL_areTasksRight_441 : decode cL_areTasksRight 441 = .ok (.if_icmp .ge 5, 3) := by decide +kernel
theorem dL_areTasksRight_444 : decode cL_areTasksRight 444 = .ok (.iconst 0, 1) := by decide +kernel
theorem dL_areTasksRight_445 : decode cL_areTasksRight 445 = .ok (.ireturn, 1) := by decide +kernel
theorem dL_areTasksRight_446 : decode cL_areTasksRight 446 = .ok (.iinc 5 1, 3) := by decide +kernel
theorem dL_areTasksRight_449 : decode cL_areTasksRight 449 = .ok (.goto (-342), 3) := by decide +kernel
theorem dL_areTasksRight_452 : decode cL_areTasksRight 452 = .ok (.aload_n 0, 1) := by decide +kernel
theorem dL_areTasksRight_453 : decode cL_areTasksRight 453 = .ok (.iconst 2, 1) := by decide +kernel
theorem dL_areTasksRight_454 : decode cL_areTasksRight 454 = .ok (.invokevirtual 43, 3) := by decide +kernel
theorem dL_areTasksRight_457 : decode cL_areTasksRight 457 = .ok (.aload_n 2, 1) := by decide +kernel
theorem dL_areTasksRight_458 : decode cL_areTasksRight 458 = .ok (.iconst 0, 1) := by decide +kernel
theorem dL_areTasksRight_459 : decode cL_areTasksRight 459 = .ok (.iaload, 1) := by decide +kernel
theorem dL_areTasksRight_460 : decode cL_areTasksRight 460 = .ok (.if_icmp .ne 75, 3) := by decide +kernel
theorem dL_areTasksRight_463 : decode cL_areTasksRight 463 = .ok (.aload_n 0, 1) := by decide +kernel
theorem dL_areTasksRight_464 : decode cL_areTasksRight 464 = .ok (.iconst 3, 1) := by decide +kernel
theorem dL_areTasksRight_465 : decode cL_areTasksRight 465 = .ok (.invokevirtual 43, 3) := by decide +kernel
theorem dL_areTasksRight_468 : decode cL_areTasksRight 468 = .ok (.aload_n 2, 1) := by decide +kernel
theorem dL_areTasksRight_469 : decode cL_areTasksRight 469 = .ok (.iconst 1, 1) := by decide +kernel
theorem dL_areTasksRight_470 : decode cL_areTasksRight 470 = .ok (.iaload, 1) := by decide +kernel
theorem dL_areTasksRight_471 : decode cL_areTasksRight 471 = .ok (.if_icmp .ne 64, 3) := by decide +kernel
theorem dL_areTasksRight_474 : decode cL_areTasksRight 474 = .ok (.aload_n 0, 1) := by decide +kernel
theorem dL_areTasksRight_475 : decode cL_areTasksRight 475 = .ok (.iconst 4, 1) := by decide +kernel
theorem dL_areTasksRight_476 : decode cL_areTasksRight 476 = .ok (.invokevirtual 43, 3) := by decide +kernel
theorem dL_areTasksRight_479 : decode cL_areTasksRight 479 = .ok (.aload_n 2, 1) := by decide +kernel
theorem dL_areTasksRight_480 : decode cL_areTasksRight 480 = .ok (.iconst 2, 1) := by decide +kernel
theorem dL_areTasksRight_481 : decode cL_areTasksRight 481 = .ok (.iaload, 1) := by decide +kernel
theorem dL_areTasksRight_482 : decode cL_areTasksRight 482 = .ok (.if_icmp .ne 53, 3) := by decide +kernel
theorem dL_areTasksRight_485 : decode cL_areTasksRight 485 = .ok (.aload_n 0, 1) := by decide +kernel
theorem dL_areTasksRight_486 : decode cL_areTasksRight 486 = .ok (.iconst 5, 1) := by decide +kernel
theorem dL_areTasksRight_487 : decode cL_areTasksRight 487 = .ok (.invokevirtual 43, 3) := by decide +kernel
theorem dL_areTasksRight_490 : decode cL_areTasksRight 490 = .ok (.aload_n 2, 1) := by decide +kernel
theorem dL_areTasksRight_491 : decode cL_areTasksRight 491 = .ok (.iconst 3, 1) := by decide +kernel
theorem dL_areTasksRight_492 : decode cL_areTasksRight 492 = .ok (.iaload, 1) := by decide +kernel
theorem dL_areTasksRight_493 : decode cL_areTasksRight 493 = .ok (.if_icmp .ne 42, 3) := by decide +kernel
theorem dL_areTasksRight_496 : decode cL_areTasksRight 496 = .ok (.aload_n 0, 1) := by decide +kernel
theorem dL_areTasksRight_497 : decode cL_areTasksRight 497 = .ok (.bipush 6, 2) := by decide +kernel
theorem dL_areTasksRight_499 : decode cL_areTasksRight 499 = .ok (.invokevirtual 43, 3) := by decide +kernel
theorem dL_areTasksRight_502 : decode cL_areTasksRight 502 = .ok (.aload_n 2, 1) := by decide +kernel
theorem dL_areTasksRight_503 : decode cL_areTasksRight 503 = .ok (.iconst 4, 1) := by decide +kernel
theorem dL_areTasksRight_504 : decode cL_areTasksRight 504 = .ok (.iaload, 1) := by decide +kernel
theorem dL_areTasksRight_505 : decode cL_areTasksRight 505 = .ok (.if_icmp .ne 30, 3) := by decide +kernel
theorem dL_areTasksRight_508 : decode cL_areTasksRight 508 = .ok (.aload_n 0, 1) := by decide +kernel
theorem dL_areTasksRight_509 : decode cL_areTasksRight 509 = .ok (.invokevirtual 106, 3) := by decide +kernel
theorem dL_areTasksRight_512 : decode cL_areTasksRight 512 = .ok (.ifCond .eq 19, 3) := by decide +kernel
theorem dL_areTasksRight_515 : decode cL_areTasksRight 515 = .ok (.aload_n 0, 1) := by decide +kernel
theorem dL_areTasksRight_516 : decode cL_areTasksRight 516 = .ok (.invokevirtual 106, 3) := by decide +kernel
theorem dL_areTasksRight_519 : decode cL_areTasksRight 519 = .ok (.aload_n 2, 1) := by decide +kernel
theorem dL_areTasksRight_520 : decode cL_areTasksRight 520 = .ok (.iconst 1, 1) := by decide +kernel
theorem dL_areTasksRight_521 : decode cL_areTasksRight 521 = .ok (.iaload, 1) := by decide +kernel
theorem dL_areTasksRight_522 : decode cL_areTasksRight 522 = .ok (.if_icmp .ne 13, 3) := by decide +kernel
theorem dL_areTasksRight_525 : decode cL_areTasksRight 525 = .ok (.aload_n 2, 1) := by decide +kernel
theorem dL_areTasksRight_526 : decode cL_areTasksRight 526 = .ok (.iconst 0, 1) := by decide +kernel
theorem dL_areTasksRight_527 : decode cL_areTasksRight 527 = .ok (.iaload, 1) := by decide +kernel
theorem dL_areTasksRight_528 : decode cL_areTasksRight 528 = .ok (.ifCond .ne 7, 3) := by decide +kernel
theorem dL_areTasksRight_531 : decode cL_areTasksRight 531 = .ok (.iconst 1, 1) := by decide +kernel
theorem dL_areTasksRight_532 : decode cL_areTasksRight 532 = .ok (.goto 4, 3) := by decide +kernel
theorem dL_areTasksRight_535 : decode cL_areTasksRight 535 = .ok (.iconst 0, 1) := by decide +kernel
theorem dL_areTasksRight_536 : decode cL_areTasksRight 536 = .ok (.ireturn, 1) := by decide +kernel
theorem dL_areScopesRight_0 : decode cL_areScopesRight 0 = .ok (.iconst 0, 1) := by decide +kernel
theorem dL_areScopesRight_1 : decode cL_areScopesRight 1 = .ok (.istore_n 1, 1) := by decide +kernel
theorem dL_areScopesRight_2 : decode cL_areScopesRight 2 = .ok (.iconst 0, 1) := by decide +kernel
theorem dL_areScopesRight_3 : decode cL_areScopesRight 3 = .ok (.istore_n 2, 1) := by decide +kernel
theorem dL_areScopesRight_4 : decode cL_areScopesRight 4 = .ok (.bipush 24, 2) := by decide +kernel
theorem dL_areScopesRight_6 : decode cL_areScopesRight 6 = .ok (.newarray .int, 2) := by decide +kernel
theorem dL_areScopesRight_8 : decode cL_areScopesRight 8 = .ok (.astore_n 3, 1) := by decide +kernel
theorem dL_areScopesRight_9 : decode cL_areScopesRight 9 = .ok (.iconst 0, 1) := by decide +kernel
theorem dL_areScopesRight_10 : decode cL_areScopesRight 10 = .ok (.istore 4, 2) := by decide +kernel
theorem dL_areScopesRight_12 : decode cL_areScopesRight 12 = .ok (.iload 4, 2) := by decide +kernel
theorem dL_areScopesRight_14 : decode cL_areScopesRight 14 = .ok (.aload_n 0, 1) := by decide +kernel
theorem dL_areScopesRight_15 : decode cL_areScopesRight 15 = .ok (.bipush 7, 2) := by decide +kernel
theorem dL_areScopesRight_17 : decode cL_areScopesRight 17 = .ok (.invokevirtual 43, 3) := by decide +kernel
theorem dL_areScopesRight_20 : decode cL_areScopesRight 20 = .ok (.if_icmp .ge 369, 3) := by decide +kernel
theorem dL_areScopesRight_23 : decode cL_areScopesRight 23 = .ok (.iconst 0, 1) := by decide +kernel
theorem dL_areScopesRight_24 : decode cL_areScopesRight 24 = .ok (.istore 5, 2) := by decide +kernel
theorem dL_areScopesRight_26 : decode cL_areScopesRight 26 = .ok (.iconst 0, 1) := by decide +kernel
theorem dL_areScopesRight_27 : decode cL_areScopesRight 27 = .ok (.istore 6, 2) := by decide +kernel
theorem dL_areScopesRight_29 : decode cL_areScopesRight 29 = .ok (.iconst 0, 1) := by decide +kernel
theorem dL_areScopesRight_30 : decode cL_areScopesRight 30 = .ok (.istore 7, 2) := by decide +kernel
theorem dL_areScopesRight_32 : decode cL_areScopesRight 32 = .ok (.iconst 0, 1) := by decide +kernel
theorem dL_areScopesRight_33 : decode cL_areScopesRight 33 = .ok (.istore 8, 2) := by decide +kernel
theorem dL_areScopesRight_35 : decode cL_areScopesRight 35 = .ok (.iload 8, 2) := by decide +kernel
theorem dL_areScopesRight_37 : decode cL_areScopesRight 37 = .ok (.aload_n 0, 1) := by decide +kernel
theorem dL_areScopesRight_38 : decode cL_areScopesRight 38 = .ok (.iconst 1, 1) := by decide +kernel
theorem dL_areScopesRight_39 : decode cL_areScopesRight 39 = .ok (.invokevirtual 43, 3) := by decide +kernel
theorem dL_areScopesRight_42 : decode cL_areScopesRight 42 = .ok (.if_icmp .ge 69, 3) := by decide +kernel
theorem dL_areScopesRight_45 : decode cL_areScopesRight 45 = .ok (.aload_n 0, 1) := by decide +kernel
theorem dL_areScopesRight_46 : decode cL_areScopesRight 46 = .ok (.iload 8, 2) := by decide +kernel
theorem dL_areScopesRight_48 : decode cL_areScopesRight 48 = .ok (.iconst 4, 1) := by decide +kernel
theorem dL_areScopesRight_49 : decode cL_areScopesRight 49 = .ok (.invokevirtual 47, 3) := by decide +kernel
theorem dL_areScopesRight_52 : decode cL_areScopesRight 52 = .ok (.iload 4, 2) := by decide +kernel
theorem dL_areScopesRight_54 : decode cL_areScopesRight 54 = .ok (.if_icmp .eq 6, 3) := by decide +kernel
theorem dL_areScopesRight_57 : decode cL_areScopesRight 57 = .ok (.goto 48, 3) := by decide +kernel
theorem dL_areScopesRight_60 : decode cL_areScopesRight 60 = .ok (.iinc 5 1, 3) := by decide +kernel
theorem dL_areScopesRight_63 : decode cL_areScopesRight 63 = .ok (.iload 6, 2) := by decide +kernel
theorem dL_areScopesRight_65 : decode cL_areScopesRight 65 = .ok (.aload_n 0, 1) := by decide +kernel
theorem dL_areScopesRight_66 : decode cL_areScopesRight 66 = .ok (.iload 8, 2) := by decide +kernel
theorem dL_areScopesRight_68 : decode cL_areScopesRight 68 = .ok (.iconst 1, 1) := by decide +kernel
theorem dL_areScopesRight_69 : decode cL_areScopesRight 69 = .ok (.invokevirtual 47, 3) := by decide +kernel
theorem dL_areScopesRight_72 : decode cL_areScopesRight 72 = .ok (.iconst 1, 1) := by decide +kernel
theorem dL_areScopesRight_73 : decode cL_areScopesRight 73 = .ok (.if_icmp .le 7, 3) := by decide +kernel
theorem dL_areScopesRight_76 : decode cL_areScopesRight 76 = .ok (.iconst 1, 1) := by decide +kernel
theorem dL_areScopesRight_77 : decode cL_areScopesRight 77 = .ok (.goto 4, 3) := by decide +kernel
theorem dL_areScopesRight_80 : decode cL_areScopesRight 80 = .ok (.iconst 0, 1) := by decide +kernel
theorem dL_areScopesRight_81 : decode cL_areScopesRight 81 = .ok (.iadd, 1) := by decide +kernel
theorem dL_areScopesRight_82 : decode cL_areScopesRight 82 = .ok (.istore 6, 2) := by decide +kernel
theorem dL_areScopesRight_84 : decode cL_areScopesRight 84 = .ok (.iload 7, 2) := by decide +kernel
theorem dL_areScopesRight_86 : decode cL_areScopesRight 86 = .ok (.aload_n 0, 1) := by decide +kernel
theorem dL_areScopesRight_87 : decode cL_areScopesRight 87 = .ok (.iload 8, 2) := by decide +kernel
theorem dL_areScopesRight_89 : decode cL_areScopesRight 89 = .ok (.iconst 1, 1) := by decide +kernel
theorem dL_areScopesRight_90 : decode cL_areScopesRight 90 = .ok (.invokevirtual 47, 3) := by decide +kernel
theorem dL_areScopesRight_93 : decode cL_areScopesRight 93 = .ok (.iconst 3, 1) := by decide +kernel
theorem dL_areScopesRight_94 : decode cL_areScopesRight 94 = .ok (.if_icmp .ne 7, 3) := by decide +kernel
theorem dL_areScopesRight_97 : decode cL_areScopesRight 97 = .ok (.iconst 1, 1) := by decide +kernel
theorem dL_areScopesRight_98 : decode cL_areScopesRight 98 = .ok (.goto 4, 3) := by decide +kernel
theorem dL_areScopesRight_101 : decode cL_areScopesRight 101 = .ok (.iconst 0, 1) := by decide +kernel
theorem dL_areScopesRight_102 : decode cL_areScopesRight 102 = .ok (.iadd, 1) := by decide +kernel
theorem dL_areScopesRight_103 : decode cL_areScopesRight 103 = .ok (.istore 7, 2) := by decide +kernel
theorem dL_areScopesRight_105 : decode cL_areScopesRight 105 = .ok (.iinc 8 1, 3) := by decide +kernel
theorem dL_areScopesRight_108 : decode cL_areScopesRight 108 = .ok (.goto (-73), 3) := by decide +kernel
theorem dL_areScopesRight_111 : decode cL_areScopesRight 111 = .ok (.aload_n 0, 1) := by decide +kernel
theorem dL_areScopesRight_112 : decode cL_areScopesRight 112 = .ok (.iload 4, 2) := by decide +kernel
theorem dL_areScopesRight_114 : decode cL_areScopesRight 114 = .ok (.bipush 8, 2) := by decide +kernel
theorem dL_areScopesRight_116 : decode cL_areScopesRight 116 = .ok (.invokevirtual 50, 3) := by decide +kernel
theorem dL_areScopesRight_119 : decode cL_areScopesRight 119 = .ok (.istore 8, 2) := by decide +kernel
theorem dL_areScopesRight_121 : decode cL_areScopesRight 121 = .ok (.aload_n 0, 1) := by decide +kernel
theorem dL_areScopesRight_122 : decode cL_areScopesRight 122 = .ok (.iload 4, 2) := by decide +kernel
theorem dL_areScopesRight_124 : decode cL_areScopesRight 124 = .ok (.iconst 5, 1) := by decide +kernel
theorem dL_areScopesRight_125 : decode cL_areScopesRight 125 = .ok (.invokevirtual 50, 3) := by decide +kernel
theorem dL_areScopesRight_128 : decode cL_areScopesRight 128 = .ok (.iload 5, 2) := by decide +kernel
theorem dL_areScopesRight_130 : decode cL_areScopesRight 130 = .ok (.if_icmp .ne 90, 3) := by decide +kernel
theorem dL_areScopesRight_133 : decode cL_areScopesRight 133 = .ok (.aload_n 0, 1) := by decide +kernel
theorem dL_areScopesRight_134 : decode cL_areScopesRight 134 = .ok (.iload 4, 2) := by decide +kernel
theorem dL_areScopesRight_136 : decode cL_areScopesRight 136 = .ok (.bipush 6, 2) := by decide +kernel
theorem dL_areScopesRight_138 : decode cL_areScopesRight 138 = .ok (.invokevirtual 50, 3) := by decide +kernel
theorem dL_areScopesRight_141 : decode cL_areScopesRight 141 = .ok (.iload 6, 2) := by decide +kernel
theorem dL_areScopesRight_143 : decode cL_areScopesRight 143 = .ok (.if_icmp .ne 77, 3) := by decide +kernel
theorem dL_areScopesRight_146 : decode cL_areScopesRight 146 = .ok (.aload_n 0, 1) := by decide +kernel
theorem dL_areScopesRight_147 : decode cL_areScopesRight 147 = .ok (.iload 4, 2) := by decide +kernel
theorem dL_areScopesRight_149 : decode cL_areScopesRight 149 = .ok (.bipush 7, 2) := by decide +kernel
theorem dL_areScopesRight_151 : decode cL_areScopesRight 151 = .ok (.invokevirtual 50, 3) := by decide +kernel
theorem dL_areScopesRight_154 : decode cL_areScopesRight 154 = .ok (.iload 7, 2) := by decide +kernel
theorem dL_areScopesRight_156 : decode cL_areScopesRight 156 = .ok (.if_icmp .ne 64, 3) := by decide +kernel
theorem dL_areScopesRight_159 : decode cL_areScopesRight 159 = .ok (.iload 8, 2) := by decide +kernel
theorem dL_areScopesRight_161 : decode cL_areScopesRight 161 = .ok (.ifCond .lt 7, 3) := by decide +kernel
theorem dL_areScopesRight_164 : decode cL_areScopesRight 164 = .ok (.iconst 1, 1) := by decide +kernel
theorem dL_areScopesRight_165 : decode cL_areScopesRight 165 = .ok (.goto 4, 3) := by decide +kernel
theorem dL_areScopesRight_168 : decode cL_areScopesRight 168 = .ok (.iconst 0, 1) := by decide +kernel
theorem dL_areScopesRight_169 : decode cL_areScopesRight 169 = .ok (.iload 7, 2) := by decide +kernel
theorem dL_areScopesRight_171 : decode cL_areScopesRight 171 = .ok (.ifCond .le 7, 3) := by decide +kernel
theorem dL_areScopesRight_174 : decode cL_areScopesRight 174 = .ok (.iconst 1, 1) := by decide +kernel
theorem dL_areScopesRight_175 : decode cL_areScopesRight 175 = .ok (.goto 4, 3) := by decide +kernel
theorem dL_areScopesRight_178 : decode cL_areScopesRight 178 = .ok (.iconst 0, 1) := by decide +kernel
theorem dL_areScopesRight_179 : decode cL_areScopesRight 179 = .ok (.if_icmp .ne 41, 3) := by decide +kernel
theorem dL_areScopesRight_182 : decode cL_areScopesRight 182 = .ok (.iload 8, 2) := by decide +kernel
theorem dL_areScopesRight_184 : decode cL_areScopesRight 184 = .ok (.ifCond .lt 38, 3) := by decide +kernel
theorem dL_areScopesRight_187 : decode cL_areScopesRight 187 = .ok (.aload_n 0, 1) := by decide +kernel
theorem dL_areScopesRight_188 : decode cL_areScopesRight 188 = .ok (.iload 8, 2) := by decide +kernel
theorem dL_areScopesRight_190 : decode cL_areScopesRight 190 = .ok (.iconst 4, 1) := by decide +kernel
theorem dL_areScopesRight_191 : decode cL_areScopesRight 191 = .ok (.invokevirtual 47, 3) := by decide +kernel
theorem dL_areScopesRight_194 : decode cL_areScopesRight 194 = .ok (.iload 4, 2) := by decide +kernel
theorem dL_areScopesRight_196 : decode cL_areScopesRight 196 = .ok (.if_icmp .ne 24, 3) := by decide +kernel
theorem dL_areScopesRight_199 : decode cL_areScopesRight 199 = .ok (.aload_n 0, 1) := by decide +kernel
theorem dL_areScopesRight_200 : decode cL_areScopesRight 200 = .ok (.iload 8, 2) := by decide +kernel
theorem dL_areScopesRight_202 : decode cL_areScopesRight 202 = .ok (.iconst 1, 1) := by decide +kernel
theorem dL_areScopesRight_203 : decode cL_areScopesRight 203 = .ok (.invokevirtual 47, 3) := by decide +kernel
theorem dL_areScopesRight_206 : decode cL_areScopesRight 206 = .ok (.iconst 3, 1) := by decide +kernel
theorem dL_areScopesRight_207 : decode cL_areScopesRight 207 = .ok (.if_icmp .ne 13, 3) := by decide +kernel
theorem dL_areScopesRight_210 : decode cL_areScopesRight 210 = .ok (.aload_n 0, 1) := by decide +kernel
theorem dL_areScopesRight_211 : decode cL_areScopesRight 211 = .ok (.iload 4, 2) := by decide +kernel
theorem dL_areScopesRight_213 : decode cL_areScopesRight 213 = .ok (.iconst 2, 1) := by decide +kernel
theorem dL_areScopesRight_214 : decode cL_areScopesRight 214 = .ok (.invokevirtual 50, 3) := by decide +kernel
theorem dL_areScopesRight_217 : decode cL_areScopesRight 217 = .ok (.ifCond .ne 5, 3) := by decide +kernel
theorem dL_areScopesRight_220 : decode cL_areScopesRight 220 = .ok (.iconst 0, 1) := by decide +kernel
theorem dL_areScopesRight_221 : decode cL_areScopesRight 221 = .ok (.ireturn, 1) := by decide +kernel
theorem dL_areScopesRight_222 : decode cL_areScopesRight 222 = .ok (.aload_n 0, 1) := by decide +kernel
theorem dL_areScopesRight_223 : decode cL_areScopesRight 223 = .ok (.iload 4, 2) := by decide +kernel
theorem dL_areScopesRight_225 : decode cL_areScopesRight 225 = .ok (.iconst 1, 1) := by decide +kernel
theorem dL_areScopesRight_226 : decode cL_areScopesRight 226 = .ok (.invokevirtual 50, 3) := by decide +kernel
theorem dL_areScopesRight_229 : decode cL_areScopesRight 229 = .ok (.iconst 2, 1) := by decide +kernel
theorem dL_areScopesRight_230 : decode cL_areScopesRight 230 = .ok (.if_icmp .ne 10, 3) := by decide +kernel
theorem dL_areScopesRight_233 : decode cL_areScopesRight 233 = .ok (.iload 6, 2) := by decide +kernel
theorem dL_areScopesRight_235 : decode cL_areScopesRight 235 = .ok (.iload 5, 2) := by decide +kernel
theorem dL_areScopesRight_237 : decode cL_areScopesRight 237 = .ok (.if_icmp .lt 43, 3) := by decide +kernel
theorem dL_areScopesRight_240 : decode cL_areScopesRight 240 = .ok (.aload_n 0, 1) := by decide +kernel
theorem dL_areScopesRight_241 : decode cL_areScopesRight 241 = .ok (.iload 4, 2) := by decide +kernel
theorem dL_areScopesRight_243 : decode cL_areScopesRight 243 = .ok (.iconst 1, 1) := by decide +kernel
theorem dL_areScopesRight_244 : decode cL_areScopesRight 244 = .ok (.invokevirtual 50, 3) := by decide +kernel
theorem dL_areScopesRight_247 : decode cL_areScopesRight 247 = .ok (.iconst 1, 1) := by decide +kernel
theorem dL_areScopesRight_248 : decode cL_areScopesRight 248 = .ok (.if_icmp .ne 10, 3) := by decide +kernel
theorem dL_areScopesRight_251 : decode cL_areScopesRight 251 = .ok (.iload 6, 2) := by decide +kernel
theorem dL_areScopesRight_253 : decode cL_areScopesRight 253 = .ok (.iload 5, 2) := by decide +kernel
theorem dL_areScopesRight_255 : decode cL_areScopesRight 255 = .ok (.if_icmp .eq 25, 3) := by decide +kernel
theorem dL_areScopesRight_258 : decode cL_areScopesRight 258 = .ok (.aload_n 0, 1) := by decide +kernel
theorem dL_areScopesRight_259 : decode cL_areScopesRight 259 = .ok (.iload 4, 2) := by decide +kernel
theorem dL_areScopesRight_261 : decode cL_areScopesRight 261 = .ok (.iconst 4, 1) := by decide +kernel
theorem dL_areScopesRight_262 : decode cL_areScopesRight 262 = .ok (.invokevirtual 50, 3) := by decide +kernel
theorem dL_areScopesRight_265 : decode cL_areScopesRight 265 = .ok (.iconst 1, 1) := by decide +kernel
theorem dL_areScopesRight_266 : decode cL_areScopesRight 266 = .ok (.if_icmp .ne 16, 3) := by decide +kernel
theorem dL_areScopesRight_269 : decode cL_areScopesRight 269 = .ok (.aload_n 0, 1) := by decide +kernel
theorem dL_areScopesRight_270 : decode cL_areScopesRight 270 = .ok (.iload 4, 2) := by decide +kernel
theorem dL_areScopesRight_272 : decode cL_areScopesRight 272 = .ok (.iconst 3, 1) := by decide +kernel
theorem dL_areScopesRight_273 : decode cL_areScopesRight 273 = .ok (.invokevirtual 50, 3) := by decide +kernel
theorem dL_areScopesRight_276 : decode cL_areScopesRight 276 = .ok (.iconst (-1), 1) := by decide +kernel
theorem dL_areScopesRight_277 : decode cL_areScopesRight 277 = .ok (.if_icmp .eq 5, 3) := by decide +kernel
theorem dL_areScopesRight_280 : decode cL_areScopesRight 280 = .ok (.iconst 0, 1) := by decide +kernel
theorem dL_areScopesRight_281 : decode cL_areScopesRight 281 = .ok (.ireturn, 1) := by decide +kernel
theorem dL_areScopesRight_282 : decode cL_areScopesRight 282 = .ok (.aload_n 0, 1) := by decide +kernel
theorem dL_areScopesRight_283 : decode cL_areScopesRight 283 = .ok (.iload 4, 2) := by decide +kernel
theorem dL_areScopesRight_285 : decode cL_areScopesRight 285 = .ok (.iconst 1, 1) := by decide +kernel
theorem dL_areScopesRight_286 : decode cL_areScopesRight 286 = .ok (.invokevirtual 50, 3) := by decide +kernel
theorem dL_areScopesRight_289 : decode cL_areScopesRight 289 = .ok (.iconst 2, 1) := by decide +kernel
theorem dL_areScopesRight_290 : decode cL_areScopesRight 290 = .ok (.if_icmp .ge 16, 3) := by decide +kernel
theorem dL_areScopesRight_293 : decode cL_areScopesRight 293 = .ok (.aload_n 3, 1) := by decide +kernel
theorem dL_areScopesRight_294 : decode cL_areScopesRight 294 = .ok (.aload_n 0, 1) := by decide +kernel
theorem dL_areScopesRight_295 : decode cL_areScopesRight 295 = .ok (.iload 4, 2) := by decide +kernel
theorem dL_areScopesRight_297 : decode cL_areScopesRight 297 = .ok (.iconst 0, 1) := by decide +kernel
theorem dL_areScopesRight_298 : decode cL_areScopesRight 298 = .ok (.invokevirtual 50, 3) := by decide +kernel
theorem dL_areScopesRight_301 : decode cL_areScopesRight 301 = .ok (.dup2, 1) := by decide +kernel
theorem dL_areScopesRight_302 : decode cL_areScopesRight 302 = .ok (.iaload, 1) := by decide +kernel
theorem dL_areScopesRight_303 : decode cL_areScopesRight 303 = .ok (.iconst 1, 1) := by decide +kernel
theorem dL_areScopesRight_304 : decode cL_areScopesRight 304 = .ok (.iadd, 1) := by decide +kernel
theorem dL_areScopesRight_305 : decode cL_areScopesRight 305 = .ok (.iastore, 1) := by decide +kernel
theorem dL_areScopesRight_306 : decode cL_areScopesRight 306 = .ok (.iload_n 1, 1) := by decide +kernel
theorem dL_areScopesRight_307 : decode cL_areScopesRight 307 = .ok (.aload_n 0, 1) := by decide +kernel
theorem dL_areScopesRight_308 : decode cL_areScopesRight 308 = .ok (.iload 4, 2) := by decide +kernel
theorem dL_areScopesRight_310 : decode cL_areScopesRight 310 = .ok (.iconst 1, 1) := by decide +kernel
theorem dL_areScopesRight_311 : decode cL_areScopesRight 311 = .ok (.invokevirtual 50, 3) := by decide +kernel
theorem dL_areScopesRight_314 : decode cL_areScopesRight 314 = .ok (.iconst 2, 1) := by decide +kernel
theorem dL_areScopesRight_315 : decode cL_areScopesRight 315 = .ok (.if_icmp .ge 7, 3) := by decide +kernel
theorem dL_areScopesRight_318 : decode cL_areScopesRight 318 = .ok (.iconst 1, 1) := by decide +kernel
theorem dL_areScopesRight_319 : decode cL_areScopesRight 319 = .ok (.goto 4, 3) := by decide +kernel
theorem dL_areScopesRight_322 : decode cL_areScopesRight 322 = .ok (.iconst 0, 1) := by decide +kernel
theorem dL_areScopesRight_323 : decode cL_areScopesRight 323 = .ok (.iadd, 1) := by decide +kernel
theorem dL_areScopesRight_324 : decode cL_areScopesRight 324 = .ok (.istore_n 1, 1) := by decide +kernel
theorem dL_areScopesRight_325 : decode cL_areScopesRight 325 = .ok (.iload_n 2, 1) := by decide +kernel
theorem dL_areScopesRight_326 : decode cL_areScopesRight 326 = .ok (.aload_n 0, 1) := by decide +kernel
theorem dL_areScopesRight_327 : decode cL_areScopesRight 327 = .ok (.iload 4, 2) := by decide +kernel
theorem dL_areScopesRight_329 : decode cL_areScopesRight 329 = .ok (.iconst 2, 1) := by decide +kernel
theorem dL_areScopesRight_330 : decode cL_areScopesRight 330 = .ok (.invokevirtual 50, 3) := by decide +kernel
theorem dL_areScopesRight_333 : decode cL_areScopesRight 333 = .ok (.iadd, 1) := by decide +kernel
theorem dL_areScopesRight_334 : decode cL_areScopesRight 334 = .ok (.istore_n 2, 1) := by decide +kernel
theorem dL_areScopesRight_335 : decode cL_areScopesRight 335 = .ok (.aload_n 0, 1) := by decide +kernel
theorem dL_areScopesRight_336 : decode cL_areScopesRight 336 = .ok (.iload 4, 2) := by decide +kernel
theorem dL_areScopesRight_338 : decode cL_areScopesRight 338 = .ok (.iconst 3, 1) := by decide +kernel
theorem dL_areScopesRight_339 : decode cL_areScopesRight 339 = .ok (.invokevirtual 50, 3) := by decide +kernel
theorem dL_areScopesRight_342 : decode cL_areScopesRight 342 = .ok (.istore 9, 2) := by decide +kernel
theorem dL_areScopesRight_344 : decode cL_areScopesRight 344 = .ok (.iload 9, 2) := by decide +kernel
theorem dL_areScopesRight_346 : decode cL_areScopesRight 346 = .ok (.ifCond .lt 37, 3) := by decide +kernel
theorem dL_areScopesRight_349 : decode cL_areScopesRight 349 = .ok (.iload 9, 2) := by decide +kernel
theorem dL_areScopesRight_351 : decode cL_areScopesRight 351 = .ok (.aload_n 0, 1) := by decide +kernel
theorem dL_areScopesRight_352 : decode cL_areScopesRight 352 = .ok (.bipush 10, 2) := by decide +kernel
theorem dL_areScopesRight_354 : decode cL_areScopesRight 354 = .ok (.invokevirtual 43, 3) := by decide +kernel
theorem dL_areScopesRight_357 : decode cL_areScopesRight 357 = .ok (.if_icmp .gt 26, 3) := by decide +kernel
theorem dL_areScopesRight_360 : decode cL_areScopesRight 360 = .ok (.aload_n 0, 1) := by decide +kernel
theorem dL_areScopesRight_361 : decode cL_areScopesRight 361 = .ok (.iload 4, 2) := by decide +kernel
theorem dL_areScopesRight_363 : decode cL_areScopesRight 363 = .ok (.iconst 1, 1) := by decide +kernel
theorem dL_areScopesRight_364 : decode cL_areScopesRight 364 = .ok (.invokevirtual 50, 3) := by decide +kernel
theorem dL_areScopesRight_367 : decode cL_areScopesRight 367 = .ok (.iconst 2, 1) := by decide +kernel
theorem dL_areScopesRight_368 : decode cL_areScopesRight 368 = .ok (.if_icmp .ge 15, 3) := by decide +kernel
theorem dL_areScopesRight_371 : decode cL_areScopesRight 371 = .ok (.aload_n 0, 1) := by decide +kernel
theorem dL_areScopesRight_372 : decode cL_areScopesRight 372 = .ok (.iload 4, 2) := by decide +kernel
theorem dL_areScopesRight_374 : decode cL_areScopesRight 374 = .ok (.iconst 2, 1) := by decide +kernel
theorem dL_areScopesRight_375 : decode cL_areScopesRight 375 = .ok (.invokevirtual 50, 3) := by decide +kernel
theorem dL_areScopesRight_378 : decode cL_areScopesRight 378 = .ok (.ifCond .ne 5, 3) := by decide +kernel
theorem dL_areScopesRight_381 : decode cL_areScopesRight 381 = .ok (.iconst 0, 1) := by decide +kernel
theorem dL_areScopesRight_382 : decode cL_areScopesRight 382 = .ok (.ireturn, 1) := by decide +kernel
theorem dL_areScopesRight_383 : decode cL_areScopesRight 383 = .ok (.iinc 4 1, 3) := by decide +kernel
theorem dL_areScopesRight_386 : decode cL_areScopesRight 386 = .ok (.goto (-374), 3) := by decide +kernel
theorem dL_areScopesRight_389 : decode cL_areScopesRight 389 = .ok (.iconst 0, 1) := by decide +kernel
theorem dL_areScopesRight_390 : decode cL_areScopesRight 390 = .ok (.istore 4, 2) := by decide +kernel
theorem dL_areScopesRight_392 : decode cL_areScopesRight 392 = .ok (.iload 4, 2) := by decide +kernel
theorem dL_areScopesRight_394 : decode cL_areScopesRight 394 = .ok (.aload_n 0, 1) := by decide +kernel
theorem dL_areScopesRight_395 : decode cL_areScopesRight 395 = .ok (.iconst 1, 1) := by decide +kernel
theorem dL_areScopesRight_396 : decode cL_areScopesRight 396 = .ok (.invokevirtual 43, 3) := by decide +kernel
theorem dL_areScopesRight_399 : decode cL_areScopesRight 399 = .ok (.if_icmp .ge 55, 3) := by decide +kernel
theorem dL_areScopesRight_402 : decode cL_areScopesRight 402 = .ok (.aload_n 0, 1) := by decide +kernel
theorem dL_areScopesRight_403 : decode cL_areScopesRight 403 = .ok (.iload 4, 2) := by decide +kernel
theorem dL_areScopesRight_405 : decode cL_areScopesRight 405 = .ok (.iconst 5, 1) := by decide +kernel
theorem dL_areScopesRight_406 : decode cL_areScopesRight 406 = .ok (.invokevirtual 47, 3) := by decide +kernel
theorem dL_areScopesRight_409 : decode cL_areScopesRight 409 = .ok (.aload_n 3, 1) := by decide +kernel
theorem dL_areScopesRight_410 : decode cL_areScopesRight 410 = .ok (.iload 4, 2) := by decide +kernel
theorem dL_areScopesRight_412 : decode cL_areScopesRight 412 = .ok (.iaload, 1) := by decide +kernel
theorem dL_areScopesRight_413 : decode cL_areScopesRight 413 = .ok (.if_icmp .lt 33, 3) := by decide +kernel
theorem dL_areScopesRight_416 : decode cL_areScopesRight 416 = .ok (.aload_n 0, 1) := by decide +kernel
theorem dL_areScopesRight_417 : decode cL_areScopesRight 417 = .ok (.iload 4, 2) := by decide +kernel
theorem dL_areScopesRight_419 : decode cL_areScopesRight 419 = .ok (.iconst 5, 1) := by decide +kernel
theorem dL_areScopesRight_420 : decode cL_areScopesRight 420 = .ok (.invokevirtual 47, 3) := by decide +kernel
theorem dL_areScopesRight_423 : decode cL_areScopesRight 423 = .ok (.aload_n 3, 1) := by decide +kernel
theorem dL_areScopesRight_424 : decode cL_areScopesRight 424 = .ok (.iload 4, 2) := by decide +kernel
theorem dL_areScopesRight_426 : decode cL_areScopesRight 426 = .ok (.iaload, 1) := by decide +kernel
theorem dL_areScopesRight_427 : decode cL_areScopesRight 427 = .ok (.aload_n 0, 1) := by decide +kernel
theorem dL_areScopesRight_428 : decode cL_areScopesRight 428 = .ok (.iload 4, 2) := by decide +kernel
theorem dL_areScopesRight_430 : decode cL_areScopesRight 430 = .ok (.iconst 1, 1) := by decide +kernel
theorem dL_areScopesRight_431 : decode cL_areScopesRight 431 = .ok (.invokevirtual 47, 3) := by decide +kernel
theorem dL_areScopesRight_434 : decode cL_areScopesRight 434 = .ok (.ifCond .ne 7, 3) := by decide +kernel
theorem dL_areScopesRight_437 : decode cL_areScopesRight 437 = .ok (.iconst 1, 1) := by decide +kernel
theorem dL_areScopesRight_438 : decode cL_areScopesRight 438 = .ok (.goto 4, 3) := by decide +kernel
theorem dL_areScopesRight_441 : decode cL_areScopesRight 441 = .ok (.iconst 0, 1) := by decide +kernel
theorem dL_areScopesRight_442 : decode cL_areScopesRight 442 = .ok (.iadd, 1) := by decide +kernel
theorem dL_areScopesRight_443 : decode cL_areScopesRight 443 = .ok (.if_icmp .le 5, 3) := by decide +kernel
theorem dL_areScopesRight_446 : decode cL_areScopesRight 446 = .ok (.iconst 0, 1) := by decide +kernel
theorem dL_areScopesRight_447 : decode cL_areScopesRight 447 = .ok (.ireturn, 1) := by decide +kernel
theorem dL_areScopesRight_448 : decode cL_areScopesRight 448 = .ok (.iinc 4 1, 3) := by decide +kernel
theorem dL_areScopesRight_451 : decode cL_areScopesRight 451 = .ok (.goto (-59), 3) := by decide +kernel
theorem dL_areScopesRight_454 : decode cL_areScopesRight 454 = .ok (.aload_n 0, 1) := by decide +kernel
theorem dL_areScopesRight_455 : decode cL_areScopesRight 455 = .ok (.bipush 8, 2) := by decide +kernel
theorem dL_areScopesRight_457 : decode cL_areScopesRight 457 = .ok (.invokevirtual 43, 3) := by decide +kernel
theorem dL_areScopesRight_460 : decode cL_areScopesRight 460 = .ok (.iload_n 1, 1) := by decide +kernel
theorem dL_areScopesRight_461 : decode cL_areScopesRight 461 = .ok (.if_icmp .ne 17, 3) := by decide +kernel
theorem dL_areScopesRight_464 : decode cL_areScopesRight 464 = .ok (.aload_n 0, 1) := by decide +kernel
theorem dL_areScopesRight_465 : decode cL_areScopesRight 465 = .ok (.bipush 9, 2) := by decide +kernel
theorem dL_areScopesRight_467 : decode cL_areScopesRight 467 = .ok (.invokevirtual 43, 3) := by decide +kernel
theorem dL_areScopesRight_470 : decode cL_areScopesRight 470 = .ok (.iload_n 2, 1) := by decide +kernel
theorem dL_areScopesRight_471 : decode cL_areScopesRight 471 = .ok (.if_icmp .ne 7, 3) := by decide +kernel
theorem dL_areScopesRight_474 : decode cL_areScopesRight 474 = .ok (.iconst 1, 1) := by decide +kernel
theorem dL_areScopesRight_475 : decode cL_areScopesRight 475 = .ok (.goto 4, 3) := by decide +kernel
theorem dL_areScopesRight_478 : decode cL_areScopesRight 478 = .ok (.iconst 0, 1) := by decide +kernel
theorem dL_areScopesRight_479 : decode cL_areScopesRight 479 = .ok (.ireturn, 1) := by decide +kernel
theorem dL_areOthersRight_0 : decode cL_areOthersRight 0 = .ok (.iconst 5, 1) := by decide +kernel
theorem dL_areOthersRight_1 : decode cL_areOthersRight 1 = .ok (.newarray .int, 2) := by decide +kernel
theorem dL_areOthersRight_3 : decode cL_areOthersRight 3 = .ok (.astore_n 1, 1) := by decide +kernel
theorem dL_areOthersRight_4 : decode cL_areOthersRight 4 = .ok (.iconst 0, 1) := by decide +kernel
theorem dL_areOthersRight_5 : decode cL_areOthersRight 5 = .ok (.istore_n 2, 1) := by decide +kernel
theorem dL_areOthersRight_6 : decode cL_areOthersRight 6 = .ok (.iload_n 2, 1) := by decide +kernel
theorem dL_areOthersRight_7 : decode cL_areOthersRight 7 = .ok (.aload_n 0, 1) := by decide +kernel
theorem dL_areOthersRight_8 : decode cL_areOthersRight 8 = .ok (.iconst 1, 1) := by decide +kernel
theorem dL_areOthersRight_9 : decode cL_areOthersRight 9 = .ok (.invokevirtual 43, 3) := by decide +kernel
theorem dL_areOthersRight_12 : decode cL_areOthersRight 12 = .ok (.if_icmp .ge 33, 3) := by decide +kernel
theorem dL_areOthersRight_15 : decode cL_areOthersRight 15 = .ok (.aload_n 0, 1) := by decide +kernel
theorem dL_areOthersRight_16 : decode cL_areOthersRight 16 = .ok (.iload_n 2, 1) := by decide +kernel
theorem dL_areOthersRight_17 : decode cL_areOthersRight 17 = .ok (.bipush 8, 2) := by decide +kernel
theorem dL_areOthersRight_19 : decode cL_areOthersRight 19 = .ok (.invokevirtual 47, 3) := by decide +kernel
theorem dL_areOthersRight_22 : decode cL_areOthersRight 22 = .ok (.iconst 5, 1) := by decide +kernel
theorem dL_areOthersRight_23 : decode cL_areOthersRight 23 = .ok (.if_icmp .ge 16, 3) := by decide +kernel
theorem dL_areOthersRight_26 : decode cL_areOthersRight 26 = .ok (.aload_n 1, 1) := by decide +kernel
theorem dL_areOthersRight_27 : decode cL_areOthersRight 27 = .ok (.aload_n 0, 1) := by decide +kernel
theorem dL_areOthersRight_28 : decode cL_areOthersRight 28 = .ok (.iload_n 2, 1) := by decide +kernel
theorem dL_areOthersRight_29 : decode cL_areOthersRight 29 = .ok (.bipush 8, 2) := by decide +kernel
theorem dL_areOthersRight_31 : decode cL_areOthersRight 31 = .ok (.invokevirtual 47, 3) := by decide +kernel
theorem dL_areOthersRight_34 : decode cL_areOthersRight 34 = .ok (.dup2, 1) := by decide +kernel
theorem dL_areOthersRight_35 : decode cL_areOthersRight 35 = .ok (.iaload, 1) := by decide +kernel
theorem dL_areOthersRight_36 : decode cL_areOthersRight 36 = .ok (.iconst 1, 1) := by decide +kernel
theorem dL_areOthersRight_37 : decode cL_areOthersRight 37 = .ok (.iadd, 1) := by decide +kernel
theorem dL_areOthersRight_38 : decode cL_areOthersRight 38 = .ok (.iastore, 1) := by decide +kernel
theorem dL_areOthersRight_39 : decode cL_areOthersRight 39 = .ok (.iinc 2 1, 3) := by decide +kernel
theorem dL_areOthersRight_42 : decode cL_areOthersRight 42 = .ok (.goto (-36), 3) := by decide +kernel
theorem dL_areOthersRight_45 : decode cL_areOthersRight 45 = .ok (.iconst 0, 1) := by decide +kernel
theorem dL_areOthersRight_46 : decode cL_areOthersRight 46 = .ok (.istore_n 2, 1) := by decide +kernel
theorem dL_areOthersRight_47 : decode cL_areOthersRight 47 = .ok (.iconst 0, 1) := by decide +kernel
theorem dL_areOthersRight_48 : decode cL_areOthersRight 48 = .ok (.istore_n 3, 1) := by decide +kernel
theorem dL_areOthersRight_49 : decode cL_areOthersRight 49 = .ok (.iconst 0, 1) := by decide +kernel
theorem dL_areOthersRight_50 : decode cL_areOthersRight 50 = .ok (.istore 4, 2) := by decide +kernel
theorem dL_areOthersRight_52 : decode cL_areOthersRight 52 = .ok (.iload 4, 2) := by decide +kernel
theorem dL_areOthersRight_54 : decode cL_areOthersRight 54 = .ok (.iconst 2, 1) := by decide +kernel
theorem dL_areOthersRight_55 : decode cL_areOthersRight 55 = .ok (.if_icmp .ge 224, 3) := by decide +kernel
theorem dL_areOthersRight_58 : decode cL_areOthersRight 58 = .ok (.aload_n 0, 1) := by decide +kernel
theorem dL_areOthersRight_59 : decode cL_areOthersRight 59 = .ok (.iload 4, 2) := by decide +kernel
theorem dL_areOthersRight_61 : decode cL_areOthersRight 61 = .ok (.iconst 0, 1) := by decide +kernel
theorem dL_areOthersRight_62 : decode cL_areOthersRight 62 = .ok (.invokevirtual 110, 3) := by decide +kernel
theorem dL_areOthersRight_65 : decode cL_areOthersRight 65 = .ok (.istore 5, 2) := by decide +kernel
theorem dL_areOthersRight_67 : decode cL_areOthersRight 67 = .ok (.iload 5, 2) := by decide +kernel
theorem dL_areOthersRight_69 : decode cL_areOthersRight 69 = .ok (.ifCond .lt 14, 3) := by decide +kernel
theorem dL_areOthersRight_72 : decode cL_areOthersRight 72 = .ok (.aload_n 0, 1) := by decide +kernel
theorem dL_areOthersRight_73 : decode cL_areOthersRight 73 = .ok (.iload 5, 2) := by decide +kernel
theorem dL_areOthersRight_75 : decode cL_areOthersRight 75 = .ok (.iconst 1, 1) := by decide +kernel
theorem dL_areOthersRight_76 : decode cL_areOthersRight 76 = .ok (.invokevirtual 47, 3) := by decide +kernel
theorem dL_areOthersRight_79 : decode cL_areOthersRight 79 = .ok (.iconst 1, 1) := by decide +kernel
theorem dL_areOthersRight_80 : decode cL_areOthersRight 80 = .ok (.if_icmp .gt 90, 3) := by decide +kernel
theorem dL_areOthersRight_83 : decode cL_areOthersRight 83 = .ok (.iload 5, 2) := by decide +kernel
theorem dL_areOthersRight_85 : decode cL_areOthersRight 85 = .ok (.ifCond .ge 13, 3) := by decide +kernel
theorem dL_areOthersRight_88 : decode cL_areOthersRight 88 = .ok (.aload_n 0, 1) := by decide +kernel
theorem dL_areOthersRight_89 : decode cL_areOthersRight 89 = .ok (.iload 4, 2) := by decide +kernel
theorem dL_areOthersRight_91 : decode cL_areOthersRight 91 = .ok (.iconst 1, 1) := by decide +kernel
theorem dL_areOthersRight_92 : decode cL_areOthersRight 92 = .ok (.invokevirtual 110, 3) := by decide +kernel
theorem dL_areOthersRight_95 : decode cL_areOthersRight 95 = .ok (.ifCond .gt 75, 3) := by decide +kernel
theorem dL_areOthersRight_98 : decode cL_areOthersRight 98 = .ok (.aload_n 0, 1) := by decide +kernel
theorem dL_areOthersRight_99 : decode cL_areOthersRight 99 = .ok (.iload 4, 2) := by decide +kernel
theorem dL_areOthersRight_101 : decode cL_areOthersRight 101 = .ok (.iconst 1, 1) := by decide +kernel
theorem dL_areOthersRight_102 : decode cL_areOthersRight 102 = .ok (.invokevirtual 110, 3) := by decide +kernel
theorem dL_areOthersRight_105 : decode cL_areOthersRight 105 = .ok (.ifCond .le 7, 3) := by decide +kernel
theorem dL_areOthersRight_108 : decode cL_areOthersRight 108 = .ok (.iconst 1, 1) := by decide +kernel
theorem dL_areOthersRight_109 : decode cL_areOthersRight 109 = .ok (.goto 4, 3) := by decide +kernel
theorem dL_areOthersRight_112 : decode cL_areOthersRight 112 = .ok (.iconst 0, 1) := by decide +kernel
theorem dL_areOthersRight_113 : decode cL_areOthersRight 113 = .ok (.aload_n 0, 1) := by decide +kernel
theorem dL_areOthersRight_114 : decode cL_areOthersRight 114 = .ok (.iload 4, 2) := by decide +kernel
theorem dL_areOthersRight_116 : decode cL_areOthersRight 116 = .ok (.iconst 2, 1) := by decide +kernel
theorem dL_areOthersRight_117 : decode cL_areOthersRight 117 = .ok (.invokevirtual 110, 3) := by decide +kernel
theorem dL_areOthersRight_120 : decode cL_areOthersRight 120 = .ok (.ifCond .lt 7, 3) := by decide +kernel
theorem dL_areOthersRight_123 : decode cL_areOthersRight 123 = .ok (.iconst 1, 1) := by decide +kernel
theorem dL_areOthersRight_124 : decode cL_areOthersRight 124 = .ok (.goto 4, 3) := by decide +kernel
theorem dL_areOthersRight_127 : decode cL_areOthersRight 127 = .ok (.iconst 0, 1) := by decide +kernel
theorem dL_areOthersRight_128 : decode cL_areOthersRight 128 = .ok (.if_icmp .ne 42, 3) := by decide +kernel
theorem dL_areOthersRight_131 : decode cL_areOthersRight 131 = .ok (.aload_n 0, 1) := by decide +kernel
theorem dL_areOthersRight_132 : decode cL_areOthersRight 132 = .ok (.iload 4, 2) := by decide +kernel
theorem dL_areOthersRight_134 : decode cL_areOthersRight 134 = .ok (.iconst 2, 1) := by decide +kernel
theorem dL_areOthersRight_135 : decode cL_areOthersRight 135 = .ok (.invokevirtual 110, 3) := by decide +kernel
theorem dL_areOthersRight_138 : decode cL_areOthersRight 138 = .ok (.ifCond .lt 34, 3) := by decide +kernel
theorem dL_areOthersRight_141 : decode cL_areOthersRight 141 = .ok (.aload_n 0, 1) := by decide +kernel
theorem dL_areOthersRight_142 : decode cL_areOthersRight 142 = .ok (.aload_n 0, 1) := by decide +kernel
theorem dL_areOthersRight_143 : decode cL_areOthersRight 143 = .ok (.iload 4, 2) := by decide +kernel
theorem dL_areOthersRight_145 : decode cL_areOthersRight 145 = .ok (.iconst 2, 1) := by decide +kernel
theorem dL_areOthersRight_146 : decode cL_areOthersRight 146 = .ok (.invokevirtual 110, 3) := by decide +kernel
theorem dL_areOthersRight_149 : decode cL_areOthersRight 149 = .ok (.bipush 8, 2) := by decide +kernel
theorem dL_areOthersRight_151 : decode cL_areOthersRight 151 = .ok (.invokevirtual 47, 3) := by decide +kernel
theorem dL_areOthersRight_154 : decode cL_areOthersRight 154 = .ok (.iconst 2, 1) := by decide +kernel
theorem dL_areOthersRight_155 : decode cL_areOthersRight 155 = .ok (.if_icmp .ne 15, 3) := by decide +kernel
theorem dL_areOthersRight_158 : decode cL_areOthersRight 158 = .ok (.aload_n 0, 1) := by decide +kernel
theorem dL_areOthersRight_159 : decode cL_areOthersRight 159 = .ok (.iload 4, 2) := by decide +kernel
theorem dL_areOthersRight_161 : decode cL_areOthersRight 161 = .ok (.iconst 2, 1) := by decide +kernel
theorem dL_areOthersRight_162 : decode cL_areOthersRight 162 = .ok (.invokevirtual 110, 3) := by decide +kernel
theorem dL_areOthersRight_165 : decode cL_areOthersRight 165 = .ok (.iload 5, 2) := by decide +kernel
theorem dL_areOthersRight_167 : decode cL_areOthersRight 167 = .ok (.if_icmp .ne 5, 3) := by decide +kernel
theorem dL_areOthersRight_170 : decode cL_areOthersRight 170 = .ok (.iconst 0, 1) := by decide +kernel
theorem dL_areOthersRight_171 : decode cL_areOthersRight 171 = .ok (.ireturn, 1) := by decide +kernel
theorem dL_areOthersRight_172 : decode cL_areOthersRight 172 = .ok (.iload_n 2, 1) := by decide +kernel
theorem dL_areOthersRight_173 : decode cL_areOthersRight 173 = .ok (.aload_n 0, 1) := by decide +kernel
theorem dL_areOthersRight_174 : decode cL_areOthersRight 174 = .ok (.iload 4, 2) := by decide +kernel
theorem dL_areOthersRight_176 : decode cL_areOthersRight 176 = .ok (.iconst 1, 1) := by decide +kernel
theorem dL_areOthersRight_177 : decode cL_areOthersRight 177 = .ok (.invokevirtual 110, 3) := by decide +kernel
theorem dL_areOthersRight_180 : decode cL_areOthersRight 180 = .ok (.iadd, 1) := by decide +kernel
theorem dL_areOthersRight_181 : decode cL_areOthersRight 181 = .ok (.istore_n 2, 1) := by decide +kernel
theorem dL_areOthersRight_182 : decode cL_areOthersRight 182 = .ok (.iload_n 3, 1) := by decide +kernel
theorem dL_areOthersRight_183 : decode cL_areOthersRight 183 = .ok (.aload_n 0, 1) := by decide +kernel
theorem dL_areOthersRight_184 : decode cL_areOthersRight 184 = .ok (.iload 4, 2) := by decide +kernel
theorem dL_areOthersRight_186 : decode cL_areOthersRight 186 = .ok (.iconst 3, 1) := by decide +kernel
theorem dL_areOthersRight_187 : decode cL_areOthersRight 187 = .ok (.invokevirtual 113, 3) := by decide +kernel
theorem dL_areOthersRight_190 : decode cL_areOthersRight 190 = .ok (.iadd, 1) := by decide +kernel
theorem dL_areOthersRight_191 : decode cL_areOthersRight 191 = .ok (.istore_n 3, 1) := by decide +kernel
theorem dL_areOthersRight_192 : decode cL_areOthersRight 192 = .ok (.aload_n 0, 1) := by decide +kernel
theorem dL_areOthersRight_193 : decode cL_areOthersRight 193 = .ok (.iload 4, 2) := by decide +kernel
theorem dL_areOthersRight_195 : decode cL_areOthersRight 195 = .ok (.iconst 3, 1) := by decide +kernel
theorem dL_areOthersRight_196 : decode cL_areOthersRight 196 = .ok (.invokevirtual 113, 3) := by decide +kernel
theorem dL_areOthersRight_199 : decode cL_areOthersRight 199 = .ok (.ifCond .le 41, 3) := by decide +kernel
theorem dL_areOthersRight_202 : decode cL_areOthersRight 202 = .ok (.aload_n 0, 1) := by decide +kernel
theorem dL_areOthersRight_203 : decode cL_areOthersRight 203 = .ok (.iload 4, 2) := by decide +kernel
theorem dL_areOthersRight_205 : decode cL_areOthersRight 205 = .ok (.iconst 1, 1) := by decide +kernel
theorem dL_areOthersRight_206 : decode cL_areOthersRight 206 = .ok (.invokevirtual 113, 3) := by decide +kernel
theorem dL_areOthersRight_209 : decode cL_areOthersRight 209 = .ok (.aload_n 0, 1) := by decide +kernel
theorem dL_areOthersRight_210 : decode cL_areOthersRight 210 = .ok (.iload 4, 2) := by decide +kernel
theorem dL_areOthersRight_212 : decode cL_areOthersRight 212 = .ok (.iconst 0, 1) := by decide +kernel
theorem dL_areOthersRight_213 : decode cL_areOthersRight 213 = .ok (.invokevirtual 113, 3) := by decide +kernel
theorem dL_areOthersRight_216 : decode cL_areOthersRight 216 = .ok (.if_icmp .lt 55, 3) := by decide +kernel
theorem dL_areOthersRight_219 : decode cL_areOthersRight 219 = .ok (.aload_n 0, 1) := by decide +kernel
theorem dL_areOthersRight_220 : decode cL_areOthersRight 220 = .ok (.iload 4, 2) := by decide +kernel
theorem dL_areOthersRight_222 : decode cL_areOthersRight 222 = .ok (.iconst 4, 1) := by decide +kernel
theorem dL_areOthersRight_223 : decode cL_areOthersRight 223 = .ok (.invokevirtual 113, 3) := by decide +kernel
theorem dL_areOthersRight_226 : decode cL_areOthersRight 226 = .ok (.ifCond .gt 45, 3) := by decide +kernel
theorem dL_areOthersRight_229 : decode cL_areOthersRight 229 = .ok (.aload_n 0, 1) := by decide +kernel
theorem dL_areOthersRight_230 : decode cL_areOthersRight 230 = .ok (.iload 4, 2) := by decide +kernel
theorem dL_areOthersRight_232 : decode cL_areOthersRight 232 = .ok (.iconst 5, 1) := by decide +kernel
theorem dL_areOthersRight_233 : decode cL_areOthersRight 233 = .ok (.invokevirtual 113, 3) := by decide +kernel
theorem dL_areOthersRight_236 : decode cL_areOthersRight 236 = .ok (.iconst 1, 1) := by decide +kernel
theorem dL_areOthersRight_237 : decode cL_areOthersRight 237 = .ok (.if_icmp .eq 34, 3) := by decide +kernel
theorem dL_areOthersRight_240 : decode cL_areOthersRight 240 = .ok (.aload_n 0, 1) := by decide +kernel
theorem dL_areOthersRight_241 : decode cL_areOthersRight 241 = .ok (.iload 4, 2) := by decide +kernel
theorem dL_areOthersRight_243 : decode cL_areOthersRight 243 = .ok (.iconst 4, 1) := by decide +kernel
theorem dL_areOthersRight_244 : decode cL_areOthersRight 244 = .ok (.invokevirtual 113, 3) := by decide +kernel
theorem dL_areOthersRight_247 : decode cL_areOthersRight 247 = .ok (.ifCond .le 13, 3) := by decide +kernel
theorem dL_areOthersRight_250 : decode cL_areOthersRight 250 = .ok (.aload_n 0, 1) := by decide +kernel
theorem dL_areOthersRight_251 : decode cL_areOthersRight 251 = .ok (.iload 4, 2) := by decide +kernel
theorem dL_areOthersRight_253 : decode cL_areOthersRight 253 = .ok (.iconst 1, 1) := by decide +kernel
theorem dL_areOthersRight_254 : decode cL_areOthersRight 254 = .ok (.invokevirtual 113, 3) := by decide +kernel
theorem dL_areOthersRight_257 : decode cL_areOthersRight 257 = .ok (.ifCond .gt 14, 3) := by decide +kernel
theorem dL_areOthersRight_260 : decode cL_areOthersRight 260 = .ok (.aload_n 0, 1) := by decide +kernel
theorem dL_areOthersRight_261 : decode cL_areOthersRight 261 = .ok (.iload 4, 2) := by decide +kernel
theorem dL_areOthersRight_263 : decode cL_areOthersRight 263 = .ok (.bipush 6, 2) := by decide +kernel
theorem dL_areOthersRight_265 : decode cL_areOthersRight 265 = .ok (.invokevirtual 113, 3) := by decide +kernel
theorem dL_areOthersRight_268 : decode cL_areOthersRight 268 = .ok (.ifCond .ge 5, 3) := by decide +kernel
theorem dL_areOthersRight_271 : decode cL_areOthersRight 271 = .ok (.iconst 0, 1) := by decide +kernel
theorem dL_areOthersRight_272 : decode cL_areOthersRight 272 = .ok (.ireturn, 1) := by decide +kernel
theorem dL_areOthersRight_273 : decode cL_areOthersRight 273 = .ok (.iinc 4 1, 3) := by decide +kernel
theorem dL_areOthersRight_276 : decode cL_areOthersRight 276 = .ok (.goto (-224), 3) := by decide +kernel
theorem dL_areOthersRight_279 : decode cL_areOthersRight 279 = .ok (.aload_n 0, 1) := by decide +kernel
theorem dL_areOthersRight_280 : decode cL_areOthersRight 280 = .ok (.iconst 0, 1) := by decide +kernel
theorem dL_areOthersRight_281 : decode cL_areOthersRight 281 = .ok (.iconst 4, 1) := by decide +kernel
theorem dL_areOthersRight_282 : decode cL_areOthersRight 282 = .ok (.invokevirtual 113, 3) := by decide +kernel
theorem dL_areOthersRight_285 : decode cL_areOthersRight 285 = .ok (.aload_n 0, 1) := by decide +kernel
theorem dL_areOthersRight_286 : decode cL_areOthersRight 286 = .ok (.iconst 1, 1) := by decide +kernel
theorem dL_areOthersRight_287 : decode cL_areOthersRight 287 = .ok (.iconst 4, 1) := by decide +kernel
theorem dL_areOthersRight_288 : decode cL_areOthersRight 288 = .ok (.invokevirtual 113, 3) := by decide +kernel
theorem dL_areOthersRight_291 : decode cL_areOthersRight 291 = .ok (.invokestatic 77, 3) := by decide +kernel
theorem dL_areOthersRight_294 : decode cL_areOthersRight 294 = .ok (.istore 4, 2) := by decide +kernel
theorem dL_areOthersRight_296 : decode cL_areOthersRight 296 = .ok (.iload_n 2, 1) := by decide +kernel
theorem dL_areOthersRight_297 : decode cL_areOthersRight 297 = .ok (.aload_n 1, 1) := by decide +kernel
theorem dL_areOthersRight_298 : decode cL_areOthersRight 298 = .ok (.iconst 2, 1) := by decide +kernel
theorem dL_areOthersRight_299 : decode cL_areOthersRight 299 = .ok (.iaload, 1) := by decide +kernel
theorem dL_areOthersRight_300 : decode cL_areOthersRight 300 = .ok (.if_icmp .ne 41, 3) := by decide +kernel
theorem dL_areOthersRight_303 : decode cL_areOthersRight 303 = .ok (.iload_n 3, 1) := by decide +kernel
theorem dL_areOthersRight_304 : decode cL_areOthersRight 304 = .ok (.aload_n 1, 1) := by decide +kernel
theorem dL_areOthersRight_305 : decode cL_areOthersRight 305 = .ok (.iconst 3, 1) := by decide +kernel
theorem dL_areOthersRight_306 : decode cL_areOthersRight 306 = .ok (.iaload, 1) := by decide +kernel
theorem dL_areOthersRight_307 : decode cL_areOthersRight 307 = .ok (.if_icmp .ne 34, 3) := by decide +kernel
theorem dL_areOthersRight_310 : decode cL_areOthersRight 310 = .ok (.iload 4, 2) := by decide +kernel
theorem dL_areOthersRight_312 : decode cL_areOthersRight 312 = .ok (.aload_n 1, 1) := by decide +kernel
theorem dL_areOthersRight_313 : decode cL_areOthersRight 313 = .ok (.iconst 4, 1) := by decide +kernel
theorem dL_areOthersRight_314 : decode cL_areOthersRight 314 = .ok (.iaload, 1) := by decide +kernel
theorem dL_areOthersRight_315 : decode cL_areOthersRight 315 = .ok (.if_icmp .gt 26, 3) := by decide +kernel
theorem dL_areOthersRight_318 : decode cL_areOthersRight 318 = .ok (.aload_n 0, 1) := by decide +kernel
theorem dL_areOthersRight_319 : decode cL_areOthersRight 319 = .ok (.iconst 0, 1) := by decide +kernel
theorem dL_areOthersRight_320 : decode cL_areOthersRight 320 = .ok (.iconst 4, 1) := by decide +kernel
theorem dL_areOthersRight_321 : decode cL_areOthersRight 321 = .ok (.invokevirtual 113, 3) := by decide +kernel
theorem dL_areOthersRight_324 : decode cL_areOthersRight 324 = .ok (.aload_n 0, 1) := by decide +kernel
theorem dL_areOthersRight_325 : decode cL_areOthersRight 325 = .ok (.iconst 1, 1) := by decide +kernel
theorem dL_areOthersRight_326 : decode cL_areOthersRight 326 = .ok (.iconst 4, 1) := by decide +kernel
theorem dL_areOthersRight_327 : decode cL_areOthersRight 327 = .ok (.invokevirtual 113, 3) := by decide +kernel
theorem dL_areOthersRight_330 : decode cL_areOthersRight 330 = .ok (.iadd, 1) := by decide +kernel
theorem dL_areOthersRight_331 : decode cL_areOthersRight 331 = .ok (.aload_n 1, 1) := by decide +kernel
theorem dL_areOthersRight_332 : decode cL_areOthersRight 332 = .ok (.iconst 4, 1) := by decide +kernel
theorem dL_areOthersRight_333 : decode cL_areOthersRight 333 = .ok (.iaload, 1) := by decide +kernel
theorem dL_areOthersRight_334 : decode cL_areOthersRight 334 = .ok (.if_icmp .lt 7, 3) := by decide +kernel
theorem dL_areOthersRight_337 : decode cL_areOthersRight 337 = .ok (.iconst 1, 1) := by decide +kernel
theorem dL_areOthersRight_338 : decode cL_areOthersRight 338 = .ok (.goto 4, 3) := by decide +kernel
theorem dL_areOthersRight_341 : decode cL_areOthersRight 341 = .ok (.iconst 0, 1) := by decide +kernel
theorem dL_areOthersRight_342 : decode cL_areOthersRight 342 = .ok (.ireturn, 1) := by decide +kernel
noncomputable def wl_below : List Cond := .code yL_below cL_below 2 (some .int) :: ([.constant RL 7 (2147483647)] ++ [])
noncomputable def wl_cell : List Cond := .code yL_cell cL_cell 2 (some .int) :: ([.constant RL 8 (790386105)] ++ [])
noncomputable def wl_over : List Cond := .code yL_over cL_over 1 (some .int) :: ([] ++ (wsV RL 43 RX8 yX8_many w8_many ++ []))
theorem gl_over_X8_many : GoodIn wl_over (wsV RL 43 RX8 yX8_many w8_many) := gw_c (gw_r (gw_l (gw_self (by decide +kernel))))
noncomputable def wl_areOthersRight : List Cond := .code yL_areOthersRight cL_areOthersRight 6 (some .boolean) :: ([.arrayClass .int, .methodLink RL 77 Lib.Math.max.name, .static Lib.Math.max.name, .initialized "java/lang/Math", .code Lib.Math.max.name Lib.Math.max.code 2 (some .int)] ++ (wsV RL 43 RX8 yX8_many w8_many ++ (wsV RL 47 RX8 yX8_ofTask w8_ofTask ++ (wsV RL 110 RX8 yX8_ofLock w8_ofLock ++ (wsV RL 113 RX8 yX8_ofChannel w8_ofChannel ++ [])))))
theorem gl_areOthersRight_X8_many : GoodIn wl_areOthersRight (wsV RL 43 RX8 yX8_many w8_many) := gw_c (gw_r (gw_l (gw_self (by decide +kernel))))
theorem gl_areOthersRight_X8_ofTask : GoodIn wl_areOthersRight (wsV RL 47 RX8 yX8_ofTask w8_ofTask) := gw_c (gw_r (gw_r (gw_l (gw_self (by decide +kernel)))))
theorem gl_areOthersRight_X8_ofLock : GoodIn wl_areOthersRight (wsV RL 110 RX8 yX8_ofLock w8_ofLock) := gw_c (gw_r (gw_r (gw_r (gw_l (gw_self (by decide +kernel))))))
theorem gl_areOthersRight_X8_ofChannel : GoodIn wl_areOthersRight (wsV RL 113 RX8 yX8_ofChannel w8_ofChannel) := gw_c (gw_r (gw_r (gw_r (gw_r (gw_l (gw_self (by decide +kernel)))))))
noncomputable def wl_areScopesRight : List Cond := .code yL_areScopesRight cL_areScopesRight 10 (some .boolean) :: ([.arrayClass .int] ++ (wsV RL 43 RX8 yX8_many w8_many ++ (wsV RL 47 RX8 yX8_ofTask w8_ofTask ++ (wsV RL 50 RX8 yX8_ofScope w8_ofScope ++ []))))
theorem gl_areScopesRight_X8_many : GoodIn wl_areScopesRight (wsV RL 43 RX8 yX8_many w8_many) := gw_c (gw_r (gw_l (gw_self (by decide +kernel))))
theorem gl_areScopesRight_X8_ofTask : GoodIn wl_areScopesRight (wsV RL 47 RX8 yX8_ofTask w8_ofTask) := gw_c (gw_r (gw_r (gw_l (gw_self (by decide +kernel)))))
theorem gl_areScopesRight_X8_ofScope : GoodIn wl_areScopesRight (wsV RL 50 RX8 yX8_ofScope w8_ofScope) := gw_c (gw_r (gw_r (gw_r (gw_l (gw_self (by decide +kernel))))))
noncomputable def wl_areTasksRight : List Cond := .code yL_areTasksRight cL_areTasksRight 10 (some .boolean) :: ([.arrayClass .int, .arrayClass .boolean, .methodLink RL 103 Lib.Math.abs.name, .static Lib.Math.abs.name, .initialized "java/lang/Math", .code Lib.Math.abs.name Lib.Math.abs.code 1 (some .int)] ++ (wsX90 ++ (wsV RL 43 RX8 yX8_many w8_many ++ (wsV RL 47 RX8 yX8_ofTask w8_ofTask ++ (wsV RL 50 RX8 yX8_ofScope w8_ofScope ++ (wsV RL 106 RX8 yX8_stuck w8_stuck ++ []))))))
theorem nl_areTasksRight_X9 : ∀ w ∈ u_ws RX9 TX9 3, w ∈ wl_areTasksRight := mw_c (mw_r (mw_l (fun _ h => h)))
theorem gl_areTasksRight_X8_many : GoodIn wl_areTasksRight (wsV RL 43 RX8 yX8_many w8_many) := gw_c (gw_r (gw_r (gw_l (gw_self (by decide +kernel)))))
theorem gl_areTasksRight_X8_ofTask : GoodIn wl_areTasksRight (wsV RL 47 RX8 yX8_ofTask w8_ofTask) := gw_c (gw_r (gw_r (gw_r (gw_l (gw_self (by decide +kernel))))))
theorem gl_areTasksRight_X8_ofScope : GoodIn wl_areTasksRight (wsV RL 50 RX8 yX8_ofScope w8_ofScope) := gw_c (gw_r (gw_r (gw_r (gw_r (gw_l (gw_self (by decide +kernel)))))))
theorem gl_areTasksRight_X8_stuck : GoodIn wl_areTasksRight (wsV RL 106 RX8 yX8_stuck w8_stuck) := gw_c (gw_r (gw_r (gw_r (gw_r (gw_r (gw_l (gw_self (by decide +kernel))))))))
noncomputable def wl_isTold : List Cond := .code yX9_isTold cX9_isTold 2 (some .boolean) :: ([.fieldLink RX9 18 "ScopeRowLaw$Own" "bodies" "I"] ++ (wsX90 ++ (wsV RX9 22 RX8 yX8_body w8_body ++ [])))
theorem nl_isTold_X9 : ∀ w ∈ u_ws RX9 TX9 3, w ∈ wl_isTold := mw_c (mw_r (mw_l (fun _ h => h)))
theorem gl_isTold_X8_body : GoodIn wl_isTold (wsV RX9 22 RX8 yX8_body w8_body) := gw_c (gw_r (gw_r (gw_l (gw_self (by decide +kernel)))))
noncomputable def wl_isLine : List Cond := .code yX9_isLine cX9_isLine 7 (some .boolean) :: ([.fieldLink RX9 14 "ScopeRowLaw$Own" "size" "[I", .arrayClass .int, .fieldLink RX9 9 "ScopeRowLaw$Own" "lines" "[[[I"] ++ (wsX90 ++ (wsV RX9 28 RX8 yX8_line w8_line ++ [])))
theorem nl_isLine_X9 : ∀ w ∈ u_ws RX9 TX9 3, w ∈ wl_isLine := mw_c (mw_r (mw_l (fun _ h => h)))
theorem gl_isLine_X8_line : GoodIn wl_isLine (wsV RX9 28 RX8 yX8_line w8_line) := gw_c (gw_r (gw_r (gw_l (gw_self (by decide +kernel)))))
noncomputable def wl_isDrawn : List Cond := .code yX9_isDrawn cX9_isDrawn 8 (some .boolean) :: ([.static yL_below, .initialized RL, .fieldLink RX9 14 "ScopeRowLaw$Own" "size" "[I", .methodLink RX9 38 Lib.Math.min.name, .static Lib.Math.min.name, .initialized "java/lang/Math", .code Lib.Math.min.name Lib.Math.min.code 2 (some .int), .methodLink RX9 47 Lib.Math.max.name, .static Lib.Math.max.name, .code Lib.Math.max.name Lib.Math.max.code 2 (some .int)] ++ (wsX90 ++ (wl_below ++ (wsV RX9 43 RX9 yX9_isLine wl_isLine ++ []))))
theorem nl_isDrawn_X9 : ∀ w ∈ u_ws RX9 TX9 3, w ∈ wl_isDrawn := mw_c (mw_r (mw_l (fun _ h => h)))
theorem gl_isDrawn_L_below : GoodIn wl_isDrawn (wl_below) := gw_c (gw_r (gw_r (gw_l (gw_self (by decide +kernel)))))
theorem gl_isDrawn_X9_isLine : GoodIn wl_isDrawn (wsV RX9 43 RX9 yX9_isLine wl_isLine) := gw_c (gw_r (gw_r (gw_r (gw_l (gw_self (by decide +kernel))))))
