theorem mD_La_law_0 : decode mB_La_law 0 = .ok (.new 8, 3) := by decide +kernel
theorem mD_La_law_3 : decode mB_La_law 3 = .ok (.dup, 1) := by decide +kernel
theorem mD_La_law_4 : decode mB_La_law 4 = .ok (.invokespecial 59, 3) := by decide +kernel
theorem mD_La_law_7 : decode mB_La_law 7 = .ok (.astore_n 1, 1) := by decide +kernel
theorem mD_La_law_8 : decode mB_La_law 8 = .ok (.new 60, 3) := by decide +kernel
theorem mD_La_law_11 : decode mB_La_law 11 = .ok (.dup, 1) := by decide +kernel
theorem mD_La_law_12 : decode mB_La_law 12 = .ok (.invokespecial 62, 3) := by decide +kernel
theorem mD_La_law_15 : decode mB_La_law 15 = .ok (.astore_n 2, 1) := by decide +kernel
theorem mD_La_law_16 : decode mB_La_law 16 = .ok (.iconst 1, 1) := by decide +kernel
theorem mD_La_law_17 : decode mB_La_law 17 = .ok (.newarray .long, 2) := by decide +kernel
theorem mD_La_law_19 : decode mB_La_law 19 = .ok (.astore_n 3, 1) := by decide +kernel
theorem mD_La_law_20 : decode mB_La_law 20 = .ok (.iconst 0, 1) := by decide +kernel
theorem mD_La_law_21 : decode mB_La_law 21 = .ok (.istore 4, 2) := by decide +kernel
theorem mD_La_law_23 : decode mB_La_law 23 = .ok (.iload 4, 2) := by decide +kernel
theorem mD_La_law_25 : decode mB_La_law 25 = .ok (.aload_n 0, 1) := by decide +kernel
theorem mD_La_law_26 : decode mB_La_law 26 = .ok (.arraylength, 1) := by decide +kernel
theorem mD_La_law_27 : decode mB_La_law 27 = .ok (.iconst 4, 1) := by decide +kernel
theorem mD_La_law_28 : decode mB_La_law 28 = .ok (.isub, 1) := by decide +kernel
theorem mD_La_law_29 : decode mB_La_law 29 = .ok (.if_icmp .gt 986, 3) := by decide +kernel
theorem mD_La_law_32 : decode mB_La_law 32 = .ok (.aload_n 0, 1) := by decide +kernel
theorem mD_La_law_33 : decode mB_La_law 33 = .ok (.iload 4, 2) := by decide +kernel
theorem mD_La_law_35 : decode mB_La_law 35 = .ok (.iaload, 1) := by decide +kernel
theorem mD_La_law_36 : decode mB_La_law 36 = .ok (.bipush 15, 2) := by decide +kernel
theorem mD_La_law_38 : decode mB_La_law 38 = .ok (.iand, 1) := by decide +kernel
theorem mD_La_law_39 : decode mB_La_law 39 = .ok (.tableswitch 970 0 14 #[73, 98, 170, 226, 282, 350, 418, 498, 578, 634, 690, 753, 833, 901, 914], 73) := by decide +kernel
theorem mD_La_law_112 : decode mB_La_law 112 = .ok (.aload_n 1, 1) := by decide +kernel
theorem mD_La_law_113 : decode mB_La_law 113 = .ok (.aload_n 0, 1) := by decide +kernel
theorem mD_La_law_114 : decode mB_La_law 114 = .ok (.iload 4, 2) := by decide +kernel
theorem mD_La_law_116 : decode mB_La_law 116 = .ok (.iconst 1, 1) := by decide +kernel
theorem mD_La_law_117 : decode mB_La_law 117 = .ok (.iadd, 1) := by decide +kernel
theorem mD_La_law_118 : decode mB_La_law 118 = .ok (.iaload, 1) := by decide +kernel
theorem mD_La_law_119 : decode mB_La_law 119 = .ok (.invokevirtual 63, 3) := by decide +kernel
theorem mD_La_law_122 : decode mB_La_law 122 = .ok (.aload_n 2, 1) := by decide +kernel
theorem mD_La_law_123 : decode mB_La_law 123 = .ok (.aload_n 0, 1) := by decide +kernel
theorem mD_La_law_124 : decode mB_La_law 124 = .ok (.iload 4, 2) := by decide +kernel
theorem mD_La_law_126 : decode mB_La_law 126 = .ok (.iconst 1, 1) := by decide +kernel
theorem mD_La_law_127 : decode mB_La_law 127 = .ok (.iadd, 1) := by decide +kernel
theorem mD_La_law_128 : decode mB_La_law 128 = .ok (.iaload, 1) := by decide +kernel
theorem mD_La_law_129 : decode mB_La_law 129 = .ok (.invokevirtual 66, 3) := by decide +kernel
theorem mD_La_law_132 : decode mB_La_law 132 = .ok (.if_icmp .eq 877, 3) := by decide +kernel
theorem mD_La_law_135 : decode mB_La_law 135 = .ok (.iconst 0, 1) := by decide +kernel
theorem mD_La_law_136 : decode mB_La_law 136 = .ok (.ireturn, 1) := by decide +kernel
theorem mD_La_law_137 : decode mB_La_law 137 = .ok (.aload_n 1, 1) := by decide +kernel
theorem mD_La_law_138 : decode mB_La_law 138 = .ok (.aload_n 0, 1) := by decide +kernel
theorem mD_La_law_139 : decode mB_La_law 139 = .ok (.iload 4, 2) := by decide +kernel
theorem mD_La_law_141 : decode mB_La_law 141 = .ok (.iconst 1, 1) := by decide +kernel
theorem mD_La_law_142 : decode mB_La_law 142 = .ok (.iadd, 1) := by decide +kernel
theorem mD_La_law_143 : decode mB_La_law 143 = .ok (.iaload, 1) := by decide +kernel
theorem mD_La_law_144 : decode mB_La_law 144 = .ok (.ifCond .eq 7, 3) := by decide +kernel
theorem mD_La_law_147 : decode mB_La_law 147 = .ok (.iconst 1, 1) := by decide +kernel
theorem mD_La_law_148 : decode mB_La_law 148 = .ok (.goto 4, 3) := by decide +kernel
theorem mD_La_law_151 : decode mB_La_law 151 = .ok (.iconst 0, 1) := by decide +kernel
theorem mD_La_law_152 : decode mB_La_law 152 = .ok (.aload_n 3, 1) := by decide +kernel
theorem mD_La_law_153 : decode mB_La_law 153 = .ok (.invokestatic 67, 3) := by decide +kernel
theorem mD_La_law_156 : decode mB_La_law 156 = .ok (.istore 5, 2) := by decide +kernel
theorem mD_La_law_158 : decode mB_La_law 158 = .ok (.aload_n 2, 1) := by decide +kernel
theorem mD_La_law_159 : decode mB_La_law 159 = .ok (.aload_n 0, 1) := by decide +kernel
theorem mD_La_law_160 : decode mB_La_law 160 = .ok (.iload 4, 2) := by decide +kernel
theorem mD_La_law_162 : decode mB_La_law 162 = .ok (.iconst 1, 1) := by decide +kernel
theorem mD_La_law_163 : decode mB_La_law 163 = .ok (.iadd, 1) := by decide +kernel
theorem mD_La_law_164 : decode mB_La_law 164 = .ok (.iaload, 1) := by decide +kernel
theorem mD_La_law_165 : decode mB_La_law 165 = .ok (.ifCond .eq 7, 3) := by decide +kernel
theorem mD_La_law_168 : decode mB_La_law 168 = .ok (.iconst 1, 1) := by decide +kernel
theorem mD_La_law_169 : decode mB_La_law 169 = .ok (.goto 4, 3) := by decide +kernel
theorem mD_La_law_172 : decode mB_La_law 172 = .ok (.iconst 0, 1) := by decide +kernel
theorem mD_La_law_173 : decode mB_La_law 173 = .ok (.invokevirtual 72, 3) := by decide +kernel
theorem mD_La_law_176 : decode mB_La_law 176 = .ok (.istore 6, 2) := by decide +kernel
theorem mD_La_law_178 : decode mB_La_law 178 = .ok (.aload_n 2, 1) := by decide +kernel
theorem mD_La_law_179 : decode mB_La_law 179 = .ok (.invokevirtual 73, 3) := by decide +kernel
theorem mD_La_law_182 : decode mB_La_law 182 = .ok (.iload 5, 2) := by decide +kernel
theorem mD_La_law_184 : decode mB_La_law 184 = .ok (.if_icmp .eq 5, 3) := by decide +kernel
theorem mD_La_law_187 : decode mB_La_law 187 = .ok (.iconst 0, 1) := by decide +kernel
theorem mD_La_law_188 : decode mB_La_law 188 = .ok (.ireturn, 1) := by decide +kernel
theorem mD_La_law_189 : decode mB_La_law 189 = .ok (.iload 5, 2) := by decide +kernel
theorem mD_La_law_191 : decode mB_La_law 191 = .ok (.ifCond .ne 15, 3) := by decide +kernel
theorem mD_La_law_194 : decode mB_La_law 194 = .ok (.aload_n 3, 1) := by decide +kernel
theorem mD_La_law_195 : decode mB_La_law 195 = .ok (.iconst 0, 1) := by decide +kernel
theorem mD_La_law_196 : decode mB_La_law 196 = .ok (.laload, 1) := by decide +kernel
theorem mD_La_law_197 : decode mB_La_law 197 = .ok (.iload 6, 2) := by decide +kernel
theorem mD_La_law_199 : decode mB_La_law 199 = .ok (.i2l, 1) := by decide +kernel
theorem mD_La_law_200 : decode mB_La_law 200 = .ok (.lcmp, 1) := by decide +kernel
theorem mD_La_law_201 : decode mB_La_law 201 = .ok (.ifCond .eq 5, 3) := by decide +kernel
theorem mD_La_law_204 : decode mB_La_law 204 = .ok (.iconst 0, 1) := by decide +kernel
theorem mD_La_law_205 : decode mB_La_law 205 = .ok (.ireturn, 1) := by decide +kernel
theorem mD_La_law_206 : decode mB_La_law 206 = .ok (.goto 803, 3) := by decide +kernel
theorem mD_La_law_209 : decode mB_La_law 209 = .ok (.aload_n 1, 1) := by decide +kernel
theorem mD_La_law_210 : decode mB_La_law 210 = .ok (.aload_n 0, 1) := by decide +kernel
theorem mD_La_law_211 : decode mB_La_law 211 = .ok (.iload 4, 2) := by decide +kernel
theorem mD_La_law_213 : decode mB_La_law 213 = .ok (.iconst 1, 1) := by decide +kernel
theorem mD_La_law_214 : decode mB_La_law 214 = .ok (.iadd, 1) := by decide +kernel
theorem mD_La_law_215 : decode mB_La_law 215 = .ok (.iaload, 1) := by decide +kernel
theorem mD_La_law_216 : decode mB_La_law 216 = .ok (.aload_n 3, 1) := by decide +kernel
theorem mD_La_law_217 : decode mB_La_law 217 = .ok (.invokestatic 77, 3) := by decide +kernel
theorem mD_La_law_220 : decode mB_La_law 220 = .ok (.istore 5, 2) := by decide +kernel
theorem mD_La_law_222 : decode mB_La_law 222 = .ok (.aload_n 2, 1) := by decide +kernel
theorem mD_La_law_223 : decode mB_La_law 223 = .ok (.aload_n 0, 1) := by decide +kernel
theorem mD_La_law_224 : decode mB_La_law 224 = .ok (.iload 4, 2) := by decide +kernel
theorem mD_La_law_226 : decode mB_La_law 226 = .ok (.iconst 1, 1) := by decide +kernel
theorem mD_La_law_227 : decode mB_La_law 227 = .ok (.iadd, 1) := by decide +kernel
theorem mD_La_law_228 : decode mB_La_law 228 = .ok (.iaload, 1) := by decide +kernel
