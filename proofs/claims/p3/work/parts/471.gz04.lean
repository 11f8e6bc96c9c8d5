/-! what stands where (printed by wip/gen/gy.py) -/
section MGZ4
theorem gz_209_169 : mz_pg 209 169 = some (.ifCond .eq 63, 0, 0, 0) := by decide +kernel
theorem gz_209_172 : mz_pg 209 172 = some (.aload_n 0, 0, 0, 0) := by decide +kernel
theorem gz_209_173 : mz_pg 209 173 = some (.getfield 77, 10, 15, 1228) := by decide +kernel
theorem gz_209_176 : mz_pg 209 176 = some (.sipush 480, 0, 0, 0) := by decide +kernel
theorem gz_209_179 : mz_pg 209 179 = some (.iload 8, 0, 0, 0) := by decide +kernel
theorem gz_209_181 : mz_pg 209 181 = some (.iadd, 0, 0, 0) := by decide +kernel
theorem gz_209_182 : mz_pg 209 182 = some (.iconst 0, 0, 0, 0) := by decide +kernel
theorem gz_209_183 : mz_pg 209 183 = some (.bastore, 0, 0, 0) := by decide +kernel
theorem gz_209_184 : mz_pg 209 184 = some (.aload_n 0, 0, 0, 0) := by decide +kernel
theorem gz_209_185 : mz_pg 209 185 = some (.bipush 8, 0, 0, 0) := by decide +kernel
theorem gz_209_187 : mz_pg 209 187 = some (.invokevirtual 260, 1, 155, 1444) := by decide +kernel
theorem gz_209_190 : mz_pg 209 190 = some (.ifCond .eq 30, 0, 0, 0) := by decide +kernel
theorem gz_209_193 : mz_pg 209 193 = some (.aload_n 0, 0, 0, 0) := by decide +kernel
theorem gz_209_194 : mz_pg 209 194 = some (.bipush 8, 0, 0, 0) := by decide +kernel
theorem gz_209_196 : mz_pg 209 196 = some (.iload_n 2, 0, 0, 0) := by decide +kernel
theorem gz_209_197 : mz_pg 209 197 = some (.invokevirtual 407, 1, 213, 1634) := by decide +kernel
theorem gz_209_200 : mz_pg 209 200 = some (.ifCond .eq 20, 0, 0, 0) := by decide +kernel
theorem gz_209_203 : mz_pg 209 203 = some (.aload_n 0, 0, 0, 0) := by decide +kernel
theorem gz_209_204 : mz_pg 209 204 = some (.iconst 2, 0, 0, 0) := by decide +kernel
theorem gz_209_205 : mz_pg 209 205 = some (.iload 8, 0, 0, 0) := by decide +kernel
theorem gz_209_207 : mz_pg 209 207 = some (.bipush 20, 0, 0, 0) := by decide +kernel
theorem gz_209_209 : mz_pg 209 209 = some (.idiv, 0, 0, 0) := by decide +kernel
theorem gz_209_210 : mz_pg 209 210 = some (.iload 8, 0, 0, 0) := by decide +kernel
theorem gz_209_212 : mz_pg 209 212 = some (.bipush 20, 0, 0, 0) := by decide +kernel
theorem gz_209_214 : mz_pg 209 214 = some (.irem, 0, 0, 0) := by decide +kernel
theorem gz_209_215 : mz_pg 209 215 = some (.iconst (-1), 0, 0, 0) := by decide +kernel
theorem gz_209_216 : mz_pg 209 216 = some (.iconst (-1), 0, 0, 0) := by decide +kernel
theorem gz_209_217 : mz_pg 209 217 = some (.invokevirtual 410, 1, 214, 1637) := by decide +kernel
theorem gz_209_220 : mz_pg 209 220 = some (.aload_n 0, 0, 0, 0) := by decide +kernel
theorem gz_209_221 : mz_pg 209 221 = some (.getfield 77, 10, 15, 1228) := by decide +kernel
theorem gz_209_224 : mz_pg 209 224 = some (.sipush 480, 0, 0, 0) := by decide +kernel
theorem gz_209_227 : mz_pg 209 227 = some (.iload 8, 0, 0, 0) := by decide +kernel
theorem gz_209_229 : mz_pg 209 229 = some (.iadd, 0, 0, 0) := by decide +kernel
theorem gz_209_230 : mz_pg 209 230 = some (.iconst 1, 0, 0, 0) := by decide +kernel
theorem gz_209_231 : mz_pg 209 231 = some (.bastore, 0, 0, 0) := by decide +kernel
theorem gz_209_232 : mz_pg 209 232 = some (.iinc 8 1, 0, 0, 0) := by decide +kernel
theorem gz_209_235 : mz_pg 209 235 = some (.goto (-99), 0, 0, 0) := by decide +kernel
theorem gz_209_238 : mz_pg 209 238 = some (.aload_n 0, 0, 0, 0) := by decide +kernel
theorem gz_209_239 : mz_pg 209 239 = some (.bipush 8, 0, 0, 0) := by decide +kernel
theorem gz_209_241 : mz_pg 209 241 = some (.iload_n 2, 0, 0, 0) := by decide +kernel
theorem gz_209_242 : mz_pg 209 242 = some (.invokevirtual 418, 1, 216, 1643) := by decide +kernel
theorem gz_209_245 : mz_pg 209 245 = some (.ifCond .eq 39, 0, 0, 0) := by decide +kernel
theorem gz_209_248 : mz_pg 209 248 = some (.aload_n 0, 0, 0, 0) := by decide +kernel
theorem gz_209_249 : mz_pg 209 249 = some (.bipush 8, 0, 0, 0) := by decide +kernel
theorem gz_209_251 : mz_pg 209 251 = some (.invokevirtual 260, 1, 155, 1444) := by decide +kernel
theorem gz_209_254 : mz_pg 209 254 = some (.ifCond .eq 30, 0, 0, 0) := by decide +kernel
theorem gz_209_257 : mz_pg 209 257 = some (.aload_n 0, 0, 0, 0) := by decide +kernel
theorem gz_209_258 : mz_pg 209 258 = some (.bipush 8, 0, 0, 0) := by decide +kernel
theorem gz_209_260 : mz_pg 209 260 = some (.iload_n 2, 0, 0, 0) := by decide +kernel
theorem gz_209_261 : mz_pg 209 261 = some (.invokevirtual 407, 1, 213, 1634) := by decide +kernel
theorem gz_209_264 : mz_pg 209 264 = some (.ifCond .eq 20, 0, 0, 0) := by decide +kernel
theorem gz_209_267 : mz_pg 209 267 = some (.aload_n 0, 0, 0, 0) := by decide +kernel
theorem gz_209_268 : mz_pg 209 268 = some (.iconst 3, 0, 0, 0) := by decide +kernel
theorem gz_209_269 : mz_pg 209 269 = some (.aload_n 0, 0, 0, 0) := by decide +kernel
theorem gz_209_270 : mz_pg 209 270 = some (.getfield 296, 10, 33, 1246) := by decide +kernel
theorem gz_209_273 : mz_pg 209 273 = some (.aload_n 0, 0, 0, 0) := by decide +kernel
theorem gz_209_274 : mz_pg 209 274 = some (.getfield 176, 10, 54, 1267) := by decide +kernel
theorem gz_209_277 : mz_pg 209 277 = some (.iconst 0, 0, 0, 0) := by decide +kernel
theorem gz_209_278 : mz_pg 209 278 = some (.iaload, 0, 0, 0) := by decide +kernel
theorem gz_209_279 : mz_pg 209 279 = some (.iconst (-1), 0, 0, 0) := by decide +kernel
theorem gz_209_280 : mz_pg 209 280 = some (.iconst (-1), 0, 0, 0) := by decide +kernel
theorem gz_209_281 : mz_pg 209 281 = some (.invokevirtual 410, 1, 214, 1637) := by decide +kernel
theorem gz_209_284 : mz_pg 209 284 = some (.return_, 0, 0, 0) := by decide +kernel
theorem gz_210_0 : mz_pg 210 0 = some (.aload_n 0, 0, 0, 0) := by decide +kernel
theorem gz_210_1 : mz_pg 210 1 = some (.iconst 0, 0, 0, 0) := by decide +kernel
theorem gz_210_2 : mz_pg 210 2 = some (.putfield 385, 10, 46, 1259) := by decide +kernel
theorem gz_210_5 : mz_pg 210 5 = some (.iconst 0, 0, 0, 0) := by decide +kernel
theorem gz_210_6 : mz_pg 210 6 = some (.istore 5, 0, 0, 0) := by decide +kernel
theorem gz_210_8 : mz_pg 210 8 = some (.iload 5, 0, 0, 0) := by decide +kernel
theorem gz_210_10 : mz_pg 210 10 = some (.aload_n 0, 0, 0, 0) := by decide +kernel
theorem gz_210_11 : mz_pg 210 11 = some (.getfield 349, 10, 37, 1250) := by decide +kernel
theorem gz_210_14 : mz_pg 210 14 = some (.if_icmp .ge 97, 0, 0, 0) := by decide +kernel
theorem gz_210_17 : mz_pg 210 17 = some (.iload_n 1, 0, 0, 0) := by decide +kernel
theorem gz_210_18 : mz_pg 210 18 = some (.iconst 1, 0, 0, 0) := by decide +kernel
theorem gz_210_19 : mz_pg 210 19 = some (.if_icmp .ne 9, 0, 0, 0) := by decide +kernel
theorem gz_210_22 : mz_pg 210 22 = some (.iload 5, 0, 0, 0) := by decide +kernel
theorem gz_210_24 : mz_pg 210 24 = some (.iload_n 2, 0, 0, 0) := by decide +kernel
theorem gz_210_25 : mz_pg 210 25 = some (.if_icmp .eq 80, 0, 0, 0) := by decide +kernel
theorem gz_210_28 : mz_pg 210 28 = some (.iconst 0, 0, 0, 0) := by decide +kernel
theorem gz_210_29 : mz_pg 210 29 = some (.istore 6, 0, 0, 0) := by decide +kernel
theorem gz_210_31 : mz_pg 210 31 = some (.iload 6, 0, 0, 0) := by decide +kernel
theorem gz_210_33 : mz_pg 210 33 = some (.aload_n 0, 0, 0, 0) := by decide +kernel
theorem gz_210_34 : mz_pg 210 34 = some (.getfield 299, 10, 27, 1240) := by decide +kernel
theorem gz_210_37 : mz_pg 210 37 = some (.if_icmp .ge 58, 0, 0, 0) := by decide +kernel
theorem gz_210_40 : mz_pg 210 40 = some (.aload_n 0, 0, 0, 0) := by decide +kernel
theorem gz_210_41 : mz_pg 210 41 = some (.getfield 158, 10, 47, 1260) := by decide +kernel
theorem gz_210_44 : mz_pg 210 44 = some (.bipush 8, 0, 0, 0) := by decide +kernel
theorem gz_210_46 : mz_pg 210 46 = some (.aload_n 0, 0, 0, 0) := by decide +kernel
theorem gz_210_47 : mz_pg 210 47 = some (.getfield 385, 10, 46, 1259) := by decide +kernel
theorem gz_210_50 : mz_pg 210 50 = some (.imul, 0, 0, 0) := by decide +kernel
theorem gz_210_51 : mz_pg 210 51 = some (.iload 6, 0, 0, 0) := by decide +kernel
theorem gz_210_53 : mz_pg 210 53 = some (.iadd, 0, 0, 0) := by decide +kernel
theorem gz_210_54 : mz_pg 210 54 = some (.iload_n 1, 0, 0, 0) := by decide +kernel
theorem gz_210_55 : mz_pg 210 55 = some (.ifCond .ne 20, 0, 0, 0) := by decide +kernel
theorem gz_210_58 : mz_pg 210 58 = some (.iload 5, 0, 0, 0) := by decide +kernel
theorem gz_210_60 : mz_pg 210 60 = some (.iload_n 2, 0, 0, 0) := by decide +kernel
theorem gz_210_61 : mz_pg 210 61 = some (.if_icmp .ne 14, 0, 0, 0) := by decide +kernel
theorem gz_210_64 : mz_pg 210 64 = some (.iload 6, 0, 0, 0) := by decide +kernel
theorem gz_210_66 : mz_pg 210 66 = some (.iload_n 3, 0, 0, 0) := by decide +kernel
theorem gz_210_67 : mz_pg 210 67 = some (.if_icmp .ne 8, 0, 0, 0) := by decide +kernel
theorem gz_210_70 : mz_pg 210 70 = some (.iload 4, 0, 0, 0) := by decide +kernel
theorem gz_210_72 : mz_pg 210 72 = some (.goto 16, 0, 0, 0) := by decide +kernel
theorem gz_210_75 : mz_pg 210 75 = some (.aload_n 0, 0, 0, 0) := by decide +kernel
theorem gz_210_76 : mz_pg 210 76 = some (.getfield 137, 10, 39, 1252) := by decide +kernel
theorem gz_210_79 : mz_pg 210 79 = some (.bipush 8, 0, 0, 0) := by decide +kernel
theorem gz_210_81 : mz_pg 210 81 = some (.iload 5, 0, 0, 0) := by decide +kernel
theorem gz_210_83 : mz_pg 210 83 = some (.imul, 0, 0, 0) := by decide +kernel
theorem gz_210_84 : mz_pg 210 84 = some (.iload 6, 0, 0, 0) := by decide +kernel
theorem gz_210_86 : mz_pg 210 86 = some (.iadd, 0, 0, 0) := by decide +kernel
theorem gz_210_87 : mz_pg 210 87 = some (.iaload, 0, 0, 0) := by decide +kernel
theorem gz_210_88 : mz_pg 210 88 = some (.iastore, 0, 0, 0) := by decide +kernel
theorem gz_210_89 : mz_pg 210 89 = some (.iinc 6 1, 0, 0, 0) := by decide +kernel
theorem gz_210_92 : mz_pg 210 92 = some (.goto (-61), 0, 0, 0) := by decide +kernel
theorem gz_210_95 : mz_pg 210 95 = some (.aload_n 0, 0, 0, 0) := by decide +kernel
theorem gz_210_96 : mz_pg 210 96 = some (.dup, 0, 0, 0) := by decide +kernel
theorem gz_210_97 : mz_pg 210 97 = some (.getfield 385, 10, 46, 1259) := by decide +kernel
theorem gz_210_100 : mz_pg 210 100 = some (.iconst 1, 0, 0, 0) := by decide +kernel
theorem gz_210_101 : mz_pg 210 101 = some (.iadd, 0, 0, 0) := by decide +kernel
theorem gz_210_102 : mz_pg 210 102 = some (.putfield 385, 10, 46, 1259) := by decide +kernel
theorem gz_210_105 : mz_pg 210 105 = some (.iinc 5 1, 0, 0, 0) := by decide +kernel
theorem gz_210_108 : mz_pg 210 108 = some (.goto (-100), 0, 0, 0) := by decide +kernel
theorem gz_210_111 : mz_pg 210 111 = some (.iload_n 1, 0, 0, 0) := by decide +kernel
theorem gz_210_112 : mz_pg 210 112 = some (.iconst 2, 0, 0, 0) := by decide +kernel
theorem gz_210_113 : mz_pg 210 113 = some (.if_icmp .ne 53, 0, 0, 0) := by decide +kernel
theorem gz_210_116 : mz_pg 210 116 = some (.iconst 0, 0, 0, 0) := by decide +kernel
theorem gz_210_117 : mz_pg 210 117 = some (.istore 5, 0, 0, 0) := by decide +kernel
theorem gz_210_119 : mz_pg 210 119 = some (.iload 5, 0, 0, 0) := by decide +kernel
theorem gz_210_121 : mz_pg 210 121 = some (.aload_n 0, 0, 0, 0) := by decide +kernel
theorem gz_210_122 : mz_pg 210 122 = some (.getfield 299, 10, 27, 1240) := by decide +kernel
theorem gz_210_125 : mz_pg 210 125 = some (.if_icmp .ge 31, 0, 0, 0) := by decide +kernel
theorem gz_210_128 : mz_pg 210 128 = some (.aload_n 0, 0, 0, 0) := by decide +kernel
theorem gz_210_129 : mz_pg 210 129 = some (.getfield 158, 10, 47, 1260) := by decide +kernel
theorem gz_210_132 : mz_pg 210 132 = some (.bipush 8, 0, 0, 0) := by decide +kernel
theorem gz_210_134 : mz_pg 210 134 = some (.aload_n 0, 0, 0, 0) := by decide +kernel
theorem gz_210_135 : mz_pg 210 135 = some (.getfield 385, 10, 46, 1259) := by decide +kernel
theorem gz_210_138 : mz_pg 210 138 = some (.imul, 0, 0, 0) := by decide +kernel
theorem gz_210_139 : mz_pg 210 139 = some (.iload 5, 0, 0, 0) := by decide +kernel
theorem gz_210_141 : mz_pg 210 141 = some (.iadd, 0, 0, 0) := by decide +kernel
theorem gz_210_142 : mz_pg 210 142 = some (.aload_n 0, 0, 0, 0) := by decide +kernel
theorem gz_210_143 : mz_pg 210 143 = some (.getfield 155, 10, 45, 1258) := by decide +kernel
theorem gz_210_146 : mz_pg 210 146 = some (.iload 5, 0, 0, 0) := by decide +kernel
theorem gz_210_148 : mz_pg 210 148 = some (.iaload, 0, 0, 0) := by decide +kernel
theorem gz_210_149 : mz_pg 210 149 = some (.iastore, 0, 0, 0) := by decide +kernel
theorem gz_210_150 : mz_pg 210 150 = some (.iinc 5 1, 0, 0, 0) := by decide +kernel
theorem gz_210_153 : mz_pg 210 153 = some (.goto (-34), 0, 0, 0) := by decide +kernel
theorem gz_210_156 : mz_pg 210 156 = some (.aload_n 0, 0, 0, 0) := by decide +kernel
theorem gz_210_157 : mz_pg 210 157 = some (.dup, 0, 0, 0) := by decide +kernel
theorem gz_210_158 : mz_pg 210 158 = some (.getfield 385, 10, 46, 1259) := by decide +kernel
theorem gz_210_161 : mz_pg 210 161 = some (.iconst 1, 0, 0, 0) := by decide +kernel
theorem gz_210_162 : mz_pg 210 162 = some (.iadd, 0, 0, 0) := by decide +kernel
theorem gz_210_163 : mz_pg 210 163 = some (.putfield 385, 10, 46, 1259) := by decide +kernel
theorem gz_210_166 : mz_pg 210 166 = some (.iconst 0, 0, 0, 0) := by decide +kernel
theorem gz_210_167 : mz_pg 210 167 = some (.istore 5, 0, 0, 0) := by decide +kernel
theorem gz_210_169 : mz_pg 210 169 = some (.iload 5, 0, 0, 0) := by decide +kernel
theorem gz_210_171 : mz_pg 210 171 = some (.aload_n 0, 0, 0, 0) := by decide +kernel
theorem gz_210_172 : mz_pg 210 172 = some (.getfield 385, 10, 46, 1259) := by decide +kernel
theorem gz_210_175 : mz_pg 210 175 = some (.if_icmp .ge 49, 0, 0, 0) := by decide +kernel
theorem gz_210_178 : mz_pg 210 178 = some (.iload 5, 0, 0, 0) := by decide +kernel
theorem gz_210_180 : mz_pg 210 180 = some (.iconst 1, 0, 0, 0) := by decide +kernel
theorem gz_210_181 : mz_pg 210 181 = some (.iadd, 0, 0, 0) := by decide +kernel
theorem gz_210_182 : mz_pg 210 182 = some (.istore 6, 0, 0, 0) := by decide +kernel
theorem gz_210_184 : mz_pg 210 184 = some (.iload 6, 0, 0, 0) := by decide +kernel
theorem gz_210_186 : mz_pg 210 186 = some (.aload_n 0, 0, 0, 0) := by decide +kernel
theorem gz_210_187 : mz_pg 210 187 = some (.getfield 385, 10, 46, 1259) := by decide +kernel
theorem gz_210_190 : mz_pg 210 190 = some (.if_icmp .ge 28, 0, 0, 0) := by decide +kernel
theorem gz_210_193 : mz_pg 210 193 = some (.aload_n 0, 0, 0, 0) := by decide +kernel
theorem gz_210_194 : mz_pg 210 194 = some (.iload 6, 0, 0, 0) := by decide +kernel
theorem gz_210_196 : mz_pg 210 196 = some (.iload 5, 0, 0, 0) := by decide +kernel
theorem gz_210_198 : mz_pg 210 198 = some (.invokevirtual 388, 1, 211, 1628) := by decide +kernel
theorem gz_210_201 : mz_pg 210 201 = some (.ifCond .eq 11, 0, 0, 0) := by decide +kernel
theorem gz_210_204 : mz_pg 210 204 = some (.aload_n 0, 0, 0, 0) := by decide +kernel
theorem gz_210_205 : mz_pg 210 205 = some (.iload 5, 0, 0, 0) := by decide +kernel
theorem gz_210_207 : mz_pg 210 207 = some (.iload 6, 0, 0, 0) := by decide +kernel
theorem gz_210_209 : mz_pg 210 209 = some (.invokevirtual 391, 1, 212, 1631) := by decide +kernel
theorem gz_210_212 : mz_pg 210 212 = some (.iinc 6 1, 0, 0, 0) := by decide +kernel
theorem gz_210_215 : mz_pg 210 215 = some (.goto (-31), 0, 0, 0) := by decide +kernel
theorem gz_210_218 : mz_pg 210 218 = some (.iinc 5 1, 0, 0, 0) := by decide +kernel
theorem gz_210_221 : mz_pg 210 221 = some (.goto (-52), 0, 0, 0) := by decide +kernel
theorem gz_210_224 : mz_pg 210 224 = some (.return_, 0, 0, 0) := by decide +kernel
theorem gz_211_0 : mz_pg 211 0 = some (.iconst 0, 0, 0, 0) := by decide +kernel
theorem gz_211_1 : mz_pg 211 1 = some (.istore_n 3, 0, 0, 0) := by decide +kernel
theorem gz_211_2 : mz_pg 211 2 = some (.iload_n 3, 0, 0, 0) := by decide +kernel
theorem gz_211_3 : mz_pg 211 3 = some (.aload_n 0, 0, 0, 0) := by decide +kernel
theorem gz_211_4 : mz_pg 211 4 = some (.getfield 299, 10, 27, 1240) := by decide +kernel
theorem gz_211_7 : mz_pg 211 7 = some (.if_icmp .ge 65, 0, 0, 0) := by decide +kernel
theorem gz_211_10 : mz_pg 211 10 = some (.aload_n 0, 0, 0, 0) := by decide +kernel
theorem gz_211_11 : mz_pg 211 11 = some (.getfield 158, 10, 47, 1260) := by decide +kernel
theorem gz_211_14 : mz_pg 211 14 = some (.bipush 8, 0, 0, 0) := by decide +kernel
theorem gz_211_16 : mz_pg 211 16 = some (.iload_n 1, 0, 0, 0) := by decide +kernel
theorem gz_211_17 : mz_pg 211 17 = some (.imul, 0, 0, 0) := by decide +kernel
theorem gz_211_18 : mz_pg 211 18 = some (.iload_n 3, 0, 0, 0) := by decide +kernel
theorem gz_211_19 : mz_pg 211 19 = some (.iadd, 0, 0, 0) := by decide +kernel
theorem gz_211_20 : mz_pg 211 20 = some (.iaload, 0, 0, 0) := by decide +kernel
theorem gz_211_21 : mz_pg 211 21 = some (.aload_n 0, 0, 0, 0) := by decide +kernel
theorem gz_211_22 : mz_pg 211 22 = some (.getfield 158, 10, 47, 1260) := by decide +kernel
theorem gz_211_25 : mz_pg 211 25 = some (.bipush 8, 0, 0, 0) := by decide +kernel
theorem gz_211_27 : mz_pg 211 27 = some (.iload_n 2, 0, 0, 0) := by decide +kernel
theorem gz_211_28 : mz_pg 211 28 = some (.imul, 0, 0, 0) := by decide +kernel
theorem gz_211_29 : mz_pg 211 29 = some (.iload_n 3, 0, 0, 0) := by decide +kernel
theorem gz_211_30 : mz_pg 211 30 = some (.iadd, 0, 0, 0) := by decide +kernel
theorem gz_211_31 : mz_pg 211 31 = some (.iaload, 0, 0, 0) := by decide +kernel
theorem gz_211_32 : mz_pg 211 32 = some (.if_icmp .eq 34, 0, 0, 0) := by decide +kernel
theorem gz_211_35 : mz_pg 211 35 = some (.aload_n 0, 0, 0, 0) := by decide +kernel
theorem gz_211_36 : mz_pg 211 36 = some (.getfield 158, 10, 47, 1260) := by decide +kernel
theorem gz_211_39 : mz_pg 211 39 = some (.bipush 8, 0, 0, 0) := by decide +kernel
theorem gz_211_41 : mz_pg 211 41 = some (.iload_n 1, 0, 0, 0) := by decide +kernel
theorem gz_211_42 : mz_pg 211 42 = some (.imul, 0, 0, 0) := by decide +kernel
theorem gz_211_43 : mz_pg 211 43 = some (.iload_n 3, 0, 0, 0) := by decide +kernel
theorem gz_211_44 : mz_pg 211 44 = some (.iadd, 0, 0, 0) := by decide +kernel
theorem gz_211_45 : mz_pg 211 45 = some (.iaload, 0, 0, 0) := by decide +kernel
theorem gz_211_46 : mz_pg 211 46 = some (.aload_n 0, 0, 0, 0) := by decide +kernel
theorem gz_211_47 : mz_pg 211 47 = some (.getfield 158, 10, 47, 1260) := by decide +kernel
theorem gz_211_50 : mz_pg 211 50 = some (.bipush 8, 0, 0, 0) := by decide +kernel
theorem gz_211_52 : mz_pg 211 52 = some (.iload_n 2, 0, 0, 0) := by decide +kernel
theorem gz_211_53 : mz_pg 211 53 = some (.imul, 0, 0, 0) := by decide +kernel
theorem gz_211_54 : mz_pg 211 54 = some (.iload_n 3, 0, 0, 0) := by decide +kernel
theorem gz_211_55 : mz_pg 211 55 = some (.iadd, 0, 0, 0) := by decide +kernel
theorem gz_211_56 : mz_pg 211 56 = some (.iaload, 0, 0, 0) := by decide +kernel
theorem gz_211_57 : mz_pg 211 57 = some (.if_icmp .ge 7, 0, 0, 0) := by decide +kernel
theorem gz_211_60 : mz_pg 211 60 = some (.iconst 1, 0, 0, 0) := by decide +kernel
theorem gz_211_61 : mz_pg 211 61 = some (.goto 4, 0, 0, 0) := by decide +kernel
theorem gz_211_64 : mz_pg 211 64 = some (.iconst 0, 0, 0, 0) := by decide +kernel
theorem gz_211_65 : mz_pg 211 65 = some (.ireturn, 0, 0, 0) := by decide +kernel
theorem gz_211_66 : mz_pg 211 66 = some (.iinc 3 1, 0, 0, 0) := by decide +kernel
theorem gz_211_69 : mz_pg 211 69 = some (.goto (-67), 0, 0, 0) := by decide +kernel
theorem gz_211_72 : mz_pg 211 72 = some (.iconst 0, 0, 0, 0) := by decide +kernel
theorem gz_211_73 : mz_pg 211 73 = some (.ireturn, 0, 0, 0) := by decide +kernel
theorem gz_212_0 : mz_pg 212 0 = some (.iconst 0, 0, 0, 0) := by decide +kernel
theorem gz_212_1 : mz_pg 212 1 = some (.istore_n 3, 0, 0, 0) := by decide +kernel
theorem gz_212_2 : mz_pg 212 2 = some (.iload_n 3, 0, 0, 0) := by decide +kernel
theorem gz_212_3 : mz_pg 212 3 = some (.aload_n 0, 0, 0, 0) := by decide +kernel
theorem gz_212_4 : mz_pg 212 4 = some (.getfield 299, 10, 27, 1240) := by decide +kernel
theorem gz_212_7 : mz_pg 212 7 = some (.if_icmp .ge 57, 0, 0, 0) := by decide +kernel
theorem gz_212_10 : mz_pg 212 10 = some (.aload_n 0, 0, 0, 0) := by decide +kernel
theorem gz_212_11 : mz_pg 212 11 = some (.getfield 158, 10, 47, 1260) := by decide +kernel
theorem gz_212_14 : mz_pg 212 14 = some (.bipush 8, 0, 0, 0) := by decide +kernel
theorem gz_212_16 : mz_pg 212 16 = some (.iload_n 1, 0, 0, 0) := by decide +kernel
theorem gz_212_17 : mz_pg 212 17 = some (.imul, 0, 0, 0) := by decide +kernel
theorem gz_212_18 : mz_pg 212 18 = some (.iload_n 3, 0, 0, 0) := by decide +kernel
theorem gz_212_19 : mz_pg 212 19 = some (.iadd, 0, 0, 0) := by decide +kernel
theorem gz_212_20 : mz_pg 212 20 = some (.iaload, 0, 0, 0) := by decide +kernel
theorem gz_212_21 : mz_pg 212 21 = some (.istore 4, 0, 0, 0) := by decide +kernel
theorem gz_212_23 : mz_pg 212 23 = some (.aload_n 0, 0, 0, 0) := by decide +kernel
theorem gz_212_24 : mz_pg 212 24 = some (.getfield 158, 10, 47, 1260) := by decide +kernel
theorem gz_212_27 : mz_pg 212 27 = some (.bipush 8, 0, 0, 0) := by decide +kernel
theorem gz_212_29 : mz_pg 212 29 = some (.iload_n 1, 0, 0, 0) := by decide +kernel
theorem gz_212_30 : mz_pg 212 30 = some (.imul, 0, 0, 0) := by decide +kernel
theorem gz_212_31 : mz_pg 212 31 = some (.iload_n 3, 0, 0, 0) := by decide +kernel
theorem gz_212_32 : mz_pg 212 32 = some (.iadd, 0, 0, 0) := by decide +kernel
theorem gz_212_33 : mz_pg 212 33 = some (.aload_n 0, 0, 0, 0) := by decide +kernel
theorem gz_212_34 : mz_pg 212 34 = some (.getfield 158, 10, 47, 1260) := by decide +kernel
theorem gz_212_37 : mz_pg 212 37 = some (.bipush 8, 0, 0, 0) := by decide +kernel
theorem gz_212_39 : mz_pg 212 39 = some (.iload_n 2, 0, 0, 0) := by decide +kernel
theorem gz_212_40 : mz_pg 212 40 = some (.imul, 0, 0, 0) := by decide +kernel
theorem gz_212_41 : mz_pg 212 41 = some (.iload_n 3, 0, 0, 0) := by decide +kernel
theorem gz_212_42 : mz_pg 212 42 = some (.iadd, 0, 0, 0) := by decide +kernel
theorem gz_212_43 : mz_pg 212 43 = some (.iaload, 0, 0, 0) := by decide +kernel
theorem gz_212_44 : mz_pg 212 44 = some (.iastore, 0, 0, 0) := by decide +kernel
theorem gz_212_45 : mz_pg 212 45 = some (.aload_n 0, 0, 0, 0) := by decide +kernel
theorem gz_212_46 : mz_pg 212 46 = some (.getfield 158, 10, 47, 1260) := by decide +kernel
theorem gz_212_49 : mz_pg 212 49 = some (.bipush 8, 0, 0, 0) := by decide +kernel
theorem gz_212_51 : mz_pg 212 51 = some (.iload_n 2, 0, 0, 0) := by decide +kernel
theorem gz_212_52 : mz_pg 212 52 = some (.imul, 0, 0, 0) := by decide +kernel
theorem gz_212_53 : mz_pg 212 53 = some (.iload_n 3, 0, 0, 0) := by decide +kernel
theorem gz_212_54 : mz_pg 212 54 = some (.iadd, 0, 0, 0) := by decide +kernel
theorem gz_212_55 : mz_pg 212 55 = some (.iload 4, 0, 0, 0) := by decide +kernel
theorem gz_212_57 : mz_pg 212 57 = some (.iastore, 0, 0, 0) := by decide +kernel
theorem gz_212_58 : mz_pg 212 58 = some (.iinc 3 1, 0, 0, 0) := by decide +kernel
theorem gz_212_61 : mz_pg 212 61 = some (.goto (-59), 0, 0, 0) := by decide +kernel
theorem gz_212_64 : mz_pg 212 64 = some (.return_, 0, 0, 0) := by decide +kernel
theorem gz_213_0 : mz_pg 213 0 = some (.aload_n 0, 0, 0, 0) := by decide +kernel
theorem gz_213_1 : mz_pg 213 1 = some (.iload_n 1, 0, 0, 0) := by decide +kernel
theorem gz_213_2 : mz_pg 213 2 = some (.iload_n 2, 0, 0, 0) := by decide +kernel
theorem gz_213_3 : mz_pg 213 3 = some (.invokevirtual 376, 1, 194, 1573) := by decide +kernel
theorem gz_213_6 : mz_pg 213 6 = some (.aload_n 0, 0, 0, 0) := by decide +kernel
theorem gz_213_7 : mz_pg 213 7 = some (.getfield 349, 10, 37, 1250) := by decide +kernel
theorem gz_213_10 : mz_pg 213 10 = some (.aload_n 0, 0, 0, 0) := by decide +kernel
theorem gz_213_11 : mz_pg 213 11 = some (.getfield 385, 10, 46, 1259) := by decide +kernel
theorem gz_213_14 : mz_pg 213 14 = some (.if_icmp .ne 7, 0, 0, 0) := by decide +kernel
theorem gz_213_17 : mz_pg 213 17 = some (.iconst 1, 0, 0, 0) := by decide +kernel
theorem gz_213_18 : mz_pg 213 18 = some (.goto 4, 0, 0, 0) := by decide +kernel
theorem gz_213_21 : mz_pg 213 21 = some (.iconst 0, 0, 0, 0) := by decide +kernel
theorem gz_213_22 : mz_pg 213 22 = some (.istore_n 3, 0, 0, 0) := by decide +kernel
theorem gz_213_23 : mz_pg 213 23 = some (.iconst 0, 0, 0, 0) := by decide +kernel
theorem gz_213_24 : mz_pg 213 24 = some (.istore 4, 0, 0, 0) := by decide +kernel
theorem gz_213_26 : mz_pg 213 26 = some (.iload 4, 0, 0, 0) := by decide +kernel
theorem gz_213_28 : mz_pg 213 28 = some (.aload_n 0, 0, 0, 0) := by decide +kernel
theorem gz_213_29 : mz_pg 213 29 = some (.getfield 349, 10, 37, 1250) := by decide +kernel
theorem gz_213_32 : mz_pg 213 32 = some (.if_icmp .ge 70, 0, 0, 0) := by decide +kernel
theorem gz_213_35 : mz_pg 213 35 = some (.iload_n 3, 0, 0, 0) := by decide +kernel
theorem gz_213_36 : mz_pg 213 36 = some (.ifCond .eq 66, 0, 0, 0) := by decide +kernel
theorem gz_213_39 : mz_pg 213 39 = some (.iconst 0, 0, 0, 0) := by decide +kernel
theorem gz_213_40 : mz_pg 213 40 = some (.istore 5, 0, 0, 0) := by decide +kernel
theorem gz_213_42 : mz_pg 213 42 = some (.iload 5, 0, 0, 0) := by decide +kernel
theorem gz_213_44 : mz_pg 213 44 = some (.aload_n 0, 0, 0, 0) := by decide +kernel
theorem gz_213_45 : mz_pg 213 45 = some (.getfield 299, 10, 27, 1240) := by decide +kernel
theorem gz_213_48 : mz_pg 213 48 = some (.if_icmp .ge 48, 0, 0, 0) := by decide +kernel
theorem gz_213_51 : mz_pg 213 51 = some (.iload_n 3, 0, 0, 0) := by decide +kernel
theorem gz_213_52 : mz_pg 213 52 = some (.ifCond .eq 36, 0, 0, 0) := by decide +kernel
theorem gz_213_55 : mz_pg 213 55 = some (.aload_n 0, 0, 0, 0) := by decide +kernel
theorem gz_213_56 : mz_pg 213 56 = some (.getfield 137, 10, 39, 1252) := by decide +kernel
theorem gz_213_59 : mz_pg 213 59 = some (.bipush 8, 0, 0, 0) := by decide +kernel
theorem gz_213_61 : mz_pg 213 61 = some (.iload 4, 0, 0, 0) := by decide +kernel
theorem gz_213_63 : mz_pg 213 63 = some (.imul, 0, 0, 0) := by decide +kernel
theorem gz_213_64 : mz_pg 213 64 = some (.iload 5, 0, 0, 0) := by decide +kernel
theorem gz_213_66 : mz_pg 213 66 = some (.iadd, 0, 0, 0) := by decide +kernel
theorem gz_213_67 : mz_pg 213 67 = some (.iaload, 0, 0, 0) := by decide +kernel
theorem gz_213_68 : mz_pg 213 68 = some (.aload_n 0, 0, 0, 0) := by decide +kernel
theorem gz_213_69 : mz_pg 213 69 = some (.getfield 158, 10, 47, 1260) := by decide +kernel
theorem gz_213_72 : mz_pg 213 72 = some (.bipush 8, 0, 0, 0) := by decide +kernel
theorem gz_213_74 : mz_pg 213 74 = some (.iload 4, 0, 0, 0) := by decide +kernel
theorem gz_213_76 : mz_pg 213 76 = some (.imul, 0, 0, 0) := by decide +kernel
theorem gz_213_77 : mz_pg 213 77 = some (.iload 5, 0, 0, 0) := by decide +kernel
theorem gz_213_79 : mz_pg 213 79 = some (.iadd, 0, 0, 0) := by decide +kernel
theorem gz_213_80 : mz_pg 213 80 = some (.iaload, 0, 0, 0) := by decide +kernel
theorem gz_213_81 : mz_pg 213 81 = some (.if_icmp .ne 7, 0, 0, 0) := by decide +kernel
theorem gz_213_84 : mz_pg 213 84 = some (.iconst 1, 0, 0, 0) := by decide +kernel
theorem gz_213_85 : mz_pg 213 85 = some (.goto 4, 0, 0, 0) := by decide +kernel
theorem gz_213_88 : mz_pg 213 88 = some (.iconst 0, 0, 0, 0) := by decide +kernel
theorem gz_213_89 : mz_pg 213 89 = some (.istore_n 3, 0, 0, 0) := by decide +kernel
theorem gz_213_90 : mz_pg 213 90 = some (.iinc 5 1, 0, 0, 0) := by decide +kernel
theorem gz_213_93 : mz_pg 213 93 = some (.goto (-51), 0, 0, 0) := by decide +kernel
theorem gz_213_96 : mz_pg 213 96 = some (.iinc 4 1, 0, 0, 0) := by decide +kernel
theorem gz_213_99 : mz_pg 213 99 = some (.goto (-73), 0, 0, 0) := by decide +kernel
theorem gz_213_102 : mz_pg 213 102 = some (.iload_n 3, 0, 0, 0) := by decide +kernel
theorem gz_213_103 : mz_pg 213 103 = some (.ireturn, 0, 0, 0) := by decide +kernel
theorem gz_214_0 : mz_pg 214 0 = some (.aload_n 0, 0, 0, 0) := by decide +kernel
theorem gz_214_1 : mz_pg 214 1 = some (.getfield 161, 10, 49, 1262) := by decide +kernel
theorem gz_214_4 : mz_pg 214 4 = some (.aload_n 0, 0, 0, 0) := by decide +kernel
theorem gz_214_5 : mz_pg 214 5 = some (.getfield 394, 10, 48, 1261) := by decide +kernel
theorem gz_214_8 : mz_pg 214 8 = some (.iload_n 1, 0, 0, 0) := by decide +kernel
theorem gz_214_9 : mz_pg 214 9 = some (.iastore, 0, 0, 0) := by decide +kernel
theorem gz_214_10 : mz_pg 214 10 = some (.aload_n 0, 0, 0, 0) := by decide +kernel
theorem gz_214_11 : mz_pg 214 11 = some (.getfield 164, 10, 50, 1263) := by decide +kernel
theorem gz_214_14 : mz_pg 214 14 = some (.aload_n 0, 0, 0, 0) := by decide +kernel
theorem gz_214_15 : mz_pg 214 15 = some (.getfield 394, 10, 48, 1261) := by decide +kernel
theorem gz_214_18 : mz_pg 214 18 = some (.iload_n 2, 0, 0, 0) := by decide +kernel
theorem gz_214_19 : mz_pg 214 19 = some (.iastore, 0, 0, 0) := by decide +kernel
theorem gz_214_20 : mz_pg 214 20 = some (.aload_n 0, 0, 0, 0) := by decide +kernel
theorem gz_214_21 : mz_pg 214 21 = some (.getfield 167, 10, 51, 1264) := by decide +kernel
theorem gz_214_24 : mz_pg 214 24 = some (.aload_n 0, 0, 0, 0) := by decide +kernel
theorem gz_214_25 : mz_pg 214 25 = some (.getfield 394, 10, 48, 1261) := by decide +kernel
theorem gz_214_28 : mz_pg 214 28 = some (.iload_n 3, 0, 0, 0) := by decide +kernel
theorem gz_214_29 : mz_pg 214 29 = some (.iastore, 0, 0, 0) := by decide +kernel
theorem gz_214_30 : mz_pg 214 30 = some (.aload_n 0, 0, 0, 0) := by decide +kernel
theorem gz_214_31 : mz_pg 214 31 = some (.getfield 170, 10, 52, 1265) := by decide +kernel
theorem gz_214_34 : mz_pg 214 34 = some (.aload_n 0, 0, 0, 0) := by decide +kernel
theorem gz_214_35 : mz_pg 214 35 = some (.getfield 394, 10, 48, 1261) := by decide +kernel
theorem gz_214_38 : mz_pg 214 38 = some (.iload 4, 0, 0, 0) := by decide +kernel
theorem gz_214_40 : mz_pg 214 40 = some (.iastore, 0, 0, 0) := by decide +kernel
theorem gz_214_41 : mz_pg 214 41 = some (.aload_n 0, 0, 0, 0) := by decide +kernel
theorem gz_214_42 : mz_pg 214 42 = some (.getfield 173, 10, 53, 1266) := by decide +kernel
theorem gz_214_45 : mz_pg 214 45 = some (.aload_n 0, 0, 0, 0) := by decide +kernel
theorem gz_214_46 : mz_pg 214 46 = some (.getfield 394, 10, 48, 1261) := by decide +kernel
theorem gz_214_49 : mz_pg 214 49 = some (.iload 5, 0, 0, 0) := by decide +kernel
theorem gz_214_51 : mz_pg 214 51 = some (.iastore, 0, 0, 0) := by decide +kernel
theorem gz_214_52 : mz_pg 214 52 = some (.aload_n 0, 0, 0, 0) := by decide +kernel
theorem gz_214_53 : mz_pg 214 53 = some (.dup, 0, 0, 0) := by decide +kernel
theorem gz_214_54 : mz_pg 214 54 = some (.getfield 394, 10, 48, 1261) := by decide +kernel
theorem gz_214_57 : mz_pg 214 57 = some (.iconst 1, 0, 0, 0) := by decide +kernel
theorem gz_214_58 : mz_pg 214 58 = some (.iadd, 0, 0, 0) := by decide +kernel
theorem gz_214_59 : mz_pg 214 59 = some (.putfield 394, 10, 48, 1261) := by decide +kernel
theorem gz_214_62 : mz_pg 214 62 = some (.return_, 0, 0, 0) := by decide +kernel
theorem gz_215_0 : mz_pg 215 0 = some (.iconst 4, 0, 0, 0) := by decide +kernel
theorem gz_215_1 : mz_pg 215 1 = some (.sipush 480, 0, 0, 0) := by decide +kernel
theorem gz_215_4 : mz_pg 215 4 = some (.iload_n 2, 0, 0, 0) := by decide +kernel
theorem gz_215_5 : mz_pg 215 5 = some (.iadd, 0, 0, 0) := by decide +kernel
theorem gz_215_6 : mz_pg 215 6 = some (.imul, 0, 0, 0) := by decide +kernel
theorem gz_215_7 : mz_pg 215 7 = some (.iload_n 3, 0, 0, 0) := by decide +kernel
theorem gz_215_8 : mz_pg 215 8 = some (.iadd, 0, 0, 0) := by decide +kernel
theorem gz_215_9 : mz_pg 215 9 = some (.istore 4, 0, 0, 0) := by decide +kernel
theorem gz_215_11 : mz_pg 215 11 = some (.aload_n 0, 0, 0, 0) := by decide +kernel
theorem gz_215_12 : mz_pg 215 12 = some (.getfield 80, 10, 16, 1229) := by decide +kernel
theorem gz_215_15 : mz_pg 215 15 = some (.iload 4, 0, 0, 0) := by decide +kernel
theorem gz_215_17 : mz_pg 215 17 = some (.iaload, 0, 0, 0) := by decide +kernel
theorem gz_215_18 : mz_pg 215 18 = some (.istore 5, 0, 0, 0) := by decide +kernel
theorem gz_215_20 : mz_pg 215 20 = some (.iconst 0, 0, 0, 0) := by decide +kernel
theorem gz_215_21 : mz_pg 215 21 = some (.istore 6, 0, 0, 0) := by decide +kernel
theorem gz_215_23 : mz_pg 215 23 = some (.iload 6, 0, 0, 0) := by decide +kernel
theorem gz_215_25 : mz_pg 215 25 = some (.bipush 20, 0, 0, 0) := by decide +kernel
theorem gz_215_27 : mz_pg 215 27 = some (.if_icmp .ge 60, 0, 0, 0) := by decide +kernel
theorem gz_215_30 : mz_pg 215 30 = some (.aload_n 0, 0, 0, 0) := by decide +kernel
theorem gz_215_31 : mz_pg 215 31 = some (.getfield 80, 10, 16, 1229) := by decide +kernel
theorem gz_215_34 : mz_pg 215 34 = some (.iload 4, 0, 0, 0) := by decide +kernel
theorem gz_215_36 : mz_pg 215 36 = some (.iload 6, 0, 0, 0) := by decide +kernel
theorem gz_215_38 : mz_pg 215 38 = some (.iastore, 0, 0, 0) := by decide +kernel
theorem gz_215_39 : mz_pg 215 39 = some (.iload 6, 0, 0, 0) := by decide +kernel
theorem gz_215_41 : mz_pg 215 41 = some (.iload 5, 0, 0, 0) := by decide +kernel
theorem gz_215_43 : mz_pg 215 43 = some (.if_icmp .eq 38, 0, 0, 0) := by decide +kernel
theorem gz_215_46 : mz_pg 215 46 = some (.aload_n 0, 0, 0, 0) := by decide +kernel
theorem gz_215_47 : mz_pg 215 47 = some (.bipush 8, 0, 0, 0) := by decide +kernel
theorem gz_215_49 : mz_pg 215 49 = some (.invokevirtual 260, 1, 155, 1444) := by decide +kernel
theorem gz_215_52 : mz_pg 215 52 = some (.ifCond .eq 29, 0, 0, 0) := by decide +kernel
theorem gz_215_55 : mz_pg 215 55 = some (.aload_n 0, 0, 0, 0) := by decide +kernel
theorem gz_215_56 : mz_pg 215 56 = some (.bipush 8, 0, 0, 0) := by decide +kernel
theorem gz_215_58 : mz_pg 215 58 = some (.iload_n 1, 0, 0, 0) := by decide +kernel
theorem gz_215_59 : mz_pg 215 59 = some (.invokevirtual 407, 1, 213, 1634) := by decide +kernel
theorem gz_215_62 : mz_pg 215 62 = some (.ifCond .eq 19, 0, 0, 0) := by decide +kernel
theorem gz_215_65 : mz_pg 215 65 = some (.aload_n 0, 0, 0, 0) := by decide +kernel
theorem gz_215_66 : mz_pg 215 66 = some (.iconst 1, 0, 0, 0) := by decide +kernel
theorem gz_215_67 : mz_pg 215 67 = some (.iload_n 2, 0, 0, 0) := by decide +kernel
theorem gz_215_68 : mz_pg 215 68 = some (.bipush 20, 0, 0, 0) := by decide +kernel
theorem gz_215_70 : mz_pg 215 70 = some (.idiv, 0, 0, 0) := by decide +kernel
theorem gz_215_71 : mz_pg 215 71 = some (.iload_n 2, 0, 0, 0) := by decide +kernel
theorem gz_215_72 : mz_pg 215 72 = some (.bipush 20, 0, 0, 0) := by decide +kernel
theorem gz_215_74 : mz_pg 215 74 = some (.irem, 0, 0, 0) := by decide +kernel
theorem gz_215_75 : mz_pg 215 75 = some (.iload_n 3, 0, 0, 0) := by decide +kernel
theorem gz_215_76 : mz_pg 215 76 = some (.iload 6, 0, 0, 0) := by decide +kernel
theorem gz_215_78 : mz_pg 215 78 = some (.invokevirtual 410, 1, 214, 1637) := by decide +kernel
theorem gz_215_81 : mz_pg 215 81 = some (.iinc 6 1, 0, 0, 0) := by decide +kernel
theorem gz_215_84 : mz_pg 215 84 = some (.goto (-61), 0, 0, 0) := by decide +kernel
theorem gz_215_87 : mz_pg 215 87 = some (.aload_n 0, 0, 0, 0) := by decide +kernel
theorem gz_215_88 : mz_pg 215 88 = some (.getfield 80, 10, 16, 1229) := by decide +kernel
theorem gz_215_91 : mz_pg 215 91 = some (.iload 4, 0, 0, 0) := by decide +kernel
theorem gz_215_93 : mz_pg 215 93 = some (.iload 5, 0, 0, 0) := by decide +kernel
theorem gz_215_95 : mz_pg 215 95 = some (.iastore, 0, 0, 0) := by decide +kernel
theorem gz_215_96 : mz_pg 215 96 = some (.return_, 0, 0, 0) := by decide +kernel
theorem gz_216_0 : mz_pg 216 0 = some (.aload_n 0, 0, 0, 0) := by decide +kernel
theorem gz_216_1 : mz_pg 216 1 = some (.iload_n 2, 0, 0, 0) := by decide +kernel
theorem gz_216_2 : mz_pg 216 2 = some (.invokevirtual 400, 1, 217, 1646) := by decide +kernel
theorem gz_216_5 : mz_pg 216 5 = some (.aload_n 0, 0, 0, 0) := by decide +kernel
theorem gz_216_6 : mz_pg 216 6 = some (.getfield 77, 10, 15, 1228) := by decide +kernel
theorem gz_216_9 : mz_pg 216 9 = some (.iload_n 1, 0, 0, 0) := by decide +kernel
theorem gz_216_10 : mz_pg 216 10 = some (.aload_n 0, 0, 0, 0) := by decide +kernel
theorem gz_216_11 : mz_pg 216 11 = some (.getfield 296, 10, 33, 1246) := by decide +kernel
theorem gz_216_14 : mz_pg 216 14 = some (.aload_n 0, 0, 0, 0) := by decide +kernel
theorem gz_216_15 : mz_pg 216 15 = some (.getfield 176, 10, 54, 1267) := by decide +kernel
theorem gz_216_18 : mz_pg 216 18 = some (.iconst 0, 0, 0, 0) := by decide +kernel
theorem gz_216_19 : mz_pg 216 19 = some (.iaload, 0, 0, 0) := by decide +kernel
theorem gz_216_20 : mz_pg 216 20 = some (.invokestatic 242, 1, 150, 1429) := by decide +kernel
theorem gz_216_23 : mz_pg 216 23 = some (.baload, 0, 0, 0) := by decide +kernel
theorem gz_216_24 : mz_pg 216 24 = some (.ifCond .ne 17, 0, 0, 0) := by decide +kernel
theorem gz_216_27 : mz_pg 216 27 = some (.aload_n 0, 0, 0, 0) := by decide +kernel
theorem gz_216_28 : mz_pg 216 28 = some (.iload_n 1, 0, 0, 0) := by decide +kernel
theorem gz_216_29 : mz_pg 216 29 = some (.aload_n 0, 0, 0, 0) := by decide +kernel
theorem gz_216_30 : mz_pg 216 30 = some (.getfield 296, 10, 33, 1246) := by decide +kernel
theorem gz_216_33 : mz_pg 216 33 = some (.invokevirtual 267, 1, 151, 1432) := by decide +kernel
theorem gz_216_36 : mz_pg 216 36 = some (.bipush 10, 0, 0, 0) := by decide +kernel
theorem gz_216_38 : mz_pg 216 38 = some (.if_icmp .ne 5, 0, 0, 0) := by decide +kernel
theorem gz_216_41 : mz_pg 216 41 = some (.iconst 0, 0, 0, 0) := by decide +kernel
theorem gz_216_42 : mz_pg 216 42 = some (.ireturn, 0, 0, 0) := by decide +kernel
theorem gz_216_43 : mz_pg 216 43 = some (.aload_n 0, 0, 0, 0) := by decide +kernel
theorem gz_216_44 : mz_pg 216 44 = some (.iload_n 1, 0, 0, 0) := by decide +kernel
theorem gz_216_45 : mz_pg 216 45 = some (.aload_n 0, 0, 0, 0) := by decide +kernel
theorem gz_216_46 : mz_pg 216 46 = some (.getfield 296, 10, 33, 1246) := by decide +kernel
theorem gz_216_49 : mz_pg 216 49 = some (.aload_n 0, 0, 0, 0) := by decide +kernel
theorem gz_216_50 : mz_pg 216 50 = some (.getfield 176, 10, 54, 1267) := by decide +kernel
theorem gz_216_53 : mz_pg 216 53 = some (.iconst 0, 0, 0, 0) := by decide +kernel
theorem gz_216_54 : mz_pg 216 54 = some (.iaload, 0, 0, 0) := by decide +kernel
theorem gz_216_55 : mz_pg 216 55 = some (.aload_n 0, 0, 0, 0) := by decide +kernel
theorem gz_216_56 : mz_pg 216 56 = some (.getfield 176, 10, 54, 1267) := by decide +kernel
theorem gz_216_59 : mz_pg 216 59 = some (.iconst 1, 0, 0, 0) := by decide +kernel
theorem gz_216_60 : mz_pg 216 60 = some (.iaload, 0, 0, 0) := by decide +kernel
theorem gz_216_61 : mz_pg 216 61 = some (.aload_n 0, 0, 0, 0) := by decide +kernel
theorem gz_216_62 : mz_pg 216 62 = some (.getfield 176, 10, 54, 1267) := by decide +kernel
theorem gz_216_65 : mz_pg 216 65 = some (.iconst 2, 0, 0, 0) := by decide +kernel
theorem gz_216_66 : mz_pg 216 66 = some (.iaload, 0, 0, 0) := by decide +kernel
theorem gz_216_67 : mz_pg 216 67 = some (.aload_n 0, 0, 0, 0) := by decide +kernel
theorem gz_216_68 : mz_pg 216 68 = some (.getfield 176, 10, 54, 1267) := by decide +kernel
theorem gz_216_71 : mz_pg 216 71 = some (.iconst 3, 0, 0, 0) := by decide +kernel
theorem gz_216_72 : mz_pg 216 72 = some (.iaload, 0, 0, 0) := by decide +kernel
theorem gz_216_73 : mz_pg 216 73 = some (.invokevirtual 271, 1, 153, 1438) := by decide +kernel
theorem gz_216_76 : mz_pg 216 76 = some (.iconst 1, 0, 0, 0) := by decide +kernel
theorem gz_216_77 : mz_pg 216 77 = some (.ireturn, 0, 0, 0) := by decide +kernel
theorem gz_217_0 : mz_pg 217 0 = some (.aload_n 0, 0, 0, 0) := by decide +kernel
theorem gz_217_1 : mz_pg 217 1 = some (.iload_n 1, 0, 0, 0) := by decide +kernel
theorem gz_217_2 : mz_pg 217 2 = some (.invokevirtual 326, 1, 179, 1526) := by decide +kernel
theorem gz_217_5 : mz_pg 217 5 = some (.iconst 0, 0, 0, 0) := by decide +kernel
theorem gz_217_6 : mz_pg 217 6 = some (.istore_n 2, 0, 0, 0) := by decide +kernel
theorem gz_217_7 : mz_pg 217 7 = some (.iload_n 2, 0, 0, 0) := by decide +kernel
theorem gz_217_8 : mz_pg 217 8 = some (.iconst 4, 0, 0, 0) := by decide +kernel
theorem gz_217_9 : mz_pg 217 9 = some (.if_icmp .ge 94, 0, 0, 0) := by decide +kernel
theorem gz_217_12 : mz_pg 217 12 = some (.aload_n 0, 0, 0, 0) := by decide +kernel
theorem gz_217_13 : mz_pg 217 13 = some (.getfield 176, 10, 54, 1267) := by decide +kernel
theorem gz_217_16 : mz_pg 217 16 = some (.iload_n 2, 0, 0, 0) := by decide +kernel
theorem gz_217_17 : mz_pg 217 17 = some (.iload_n 2, 0, 0, 0) := by decide +kernel
theorem gz_217_18 : mz_pg 217 18 = some (.aload_n 0, 0, 0, 0) := by decide +kernel
theorem gz_217_19 : mz_pg 217 19 = some (.getfield 61, 10, 10, 1223) := by decide +kernel
theorem gz_217_22 : mz_pg 217 22 = some (.aload_n 0, 0, 0, 0) := by decide +kernel
theorem gz_217_23 : mz_pg 217 23 = some (.getfield 296, 10, 33, 1246) := by decide +kernel
theorem gz_217_26 : mz_pg 217 26 = some (.iaload, 0, 0, 0) := by decide +kernel
theorem gz_217_27 : mz_pg 217 27 = some (.if_icmp .ge 11, 0, 0, 0) := by decide +kernel
theorem gz_217_30 : mz_pg 217 30 = some (.aload_n 0, 0, 0, 0) := by decide +kernel
theorem gz_217_31 : mz_pg 217 31 = some (.iload_n 2, 0, 0, 0) := by decide +kernel
theorem gz_217_32 : mz_pg 217 32 = some (.invokevirtual 397, 1, 218, 1649) := by decide +kernel
theorem gz_217_35 : mz_pg 217 35 = some (.goto 4, 0, 0, 0) := by decide +kernel
theorem gz_217_38 : mz_pg 217 38 = some (.iconst 0, 0, 0, 0) := by decide +kernel
theorem gz_217_39 : mz_pg 217 39 = some (.iastore, 0, 0, 0) := by decide +kernel
theorem gz_217_40 : mz_pg 217 40 = some (.aload_n 0, 0, 0, 0) := by decide +kernel
theorem gz_217_41 : mz_pg 217 41 = some (.getfield 299, 10, 27, 1240) := by decide +kernel
theorem gz_217_44 : mz_pg 217 44 = some (.iconst 1, 0, 0, 0) := by decide +kernel
theorem gz_217_45 : mz_pg 217 45 = some (.isub, 0, 0, 0) := by decide +kernel
theorem gz_217_46 : mz_pg 217 46 = some (.istore_n 3, 0, 0, 0) := by decide +kernel
theorem gz_217_47 : mz_pg 217 47 = some (.iload_n 3, 0, 0, 0) := by decide +kernel
theorem gz_217_48 : mz_pg 217 48 = some (.ifCond .lt 49, 0, 0, 0) := by decide +kernel
theorem gz_217_51 : mz_pg 217 51 = some (.aload_n 0, 0, 0, 0) := by decide +kernel
theorem gz_217_52 : mz_pg 217 52 = some (.getfield 176, 10, 54, 1267) := by decide +kernel
theorem gz_217_55 : mz_pg 217 55 = some (.iload_n 2, 0, 0, 0) := by decide +kernel
theorem gz_217_56 : mz_pg 217 56 = some (.aload_n 0, 0, 0, 0) := by decide +kernel
theorem gz_217_57 : mz_pg 217 57 = some (.getfield 119, 10, 30, 1243) := by decide +kernel
theorem gz_217_60 : mz_pg 217 60 = some (.iload_n 3, 0, 0, 0) := by decide +kernel
theorem gz_217_61 : mz_pg 217 61 = some (.baload, 0, 0, 0) := by decide +kernel
theorem gz_217_62 : mz_pg 217 62 = some (.ifCond .eq 22, 0, 0, 0) := by decide +kernel
theorem gz_217_65 : mz_pg 217 65 = some (.aload_n 0, 0, 0, 0) := by decide +kernel
theorem gz_217_66 : mz_pg 217 66 = some (.getfield 116, 10, 29, 1242) := by decide +kernel
theorem gz_217_69 : mz_pg 217 69 = some (.iload_n 3, 0, 0, 0) := by decide +kernel
theorem gz_217_70 : mz_pg 217 70 = some (.iaload, 0, 0, 0) := by decide +kernel
theorem gz_217_71 : mz_pg 217 71 = some (.iload_n 2, 0, 0, 0) := by decide +kernel
theorem gz_217_72 : mz_pg 217 72 = some (.if_icmp .ne 12, 0, 0, 0) := by decide +kernel
theorem gz_217_75 : mz_pg 217 75 = some (.aload_n 0, 0, 0, 0) := by decide +kernel
theorem gz_217_76 : mz_pg 217 76 = some (.getfield 155, 10, 45, 1258) := by decide +kernel
theorem gz_217_79 : mz_pg 217 79 = some (.iload_n 3, 0, 0, 0) := by decide +kernel
theorem gz_217_80 : mz_pg 217 80 = some (.iaload, 0, 0, 0) := by decide +kernel
theorem gz_217_81 : mz_pg 217 81 = some (.goto 9, 0, 0, 0) := by decide +kernel
theorem gz_217_84 : mz_pg 217 84 = some (.aload_n 0, 0, 0, 0) := by decide +kernel
theorem gz_217_85 : mz_pg 217 85 = some (.getfield 176, 10, 54, 1267) := by decide +kernel
theorem gz_217_88 : mz_pg 217 88 = some (.iload_n 2, 0, 0, 0) := by decide +kernel
theorem gz_217_89 : mz_pg 217 89 = some (.iaload, 0, 0, 0) := by decide +kernel
theorem gz_217_90 : mz_pg 217 90 = some (.iastore, 0, 0, 0) := by decide +kernel
theorem gz_217_91 : mz_pg 217 91 = some (.iinc 3 (-1), 0, 0, 0) := by decide +kernel
theorem gz_217_94 : mz_pg 217 94 = some (.goto (-47), 0, 0, 0) := by decide +kernel
theorem gz_217_97 : mz_pg 217 97 = some (.iinc 2 1, 0, 0, 0) := by decide +kernel
theorem gz_217_100 : mz_pg 217 100 = some (.goto (-93), 0, 0, 0) := by decide +kernel
theorem gz_217_103 : mz_pg 217 103 = some (.return_, 0, 0, 0) := by decide +kernel
theorem gz_218_0 : mz_pg 218 0 = some (.aload_n 0, 0, 0, 0) := by decide +kernel
theorem gz_218_1 : mz_pg 218 1 = some (.getfield 293, 10, 32, 1245) := by decide +kernel
theorem gz_218_4 : mz_pg 218 4 = some (.iconst 1, 0, 0, 0) := by decide +kernel
theorem gz_218_5 : mz_pg 218 5 = some (.isub, 0, 0, 0) := by decide +kernel
theorem gz_218_6 : mz_pg 218 6 = some (.istore_n 2, 0, 0, 0) := by decide +kernel
theorem gz_218_7 : mz_pg 218 7 = some (.iload_n 2, 0, 0, 0) := by decide +kernel
theorem gz_218_8 : mz_pg 218 8 = some (.ifCond .lt 43, 0, 0, 0) := by decide +kernel
theorem gz_218_11 : mz_pg 218 11 = some (.aload_n 0, 0, 0, 0) := by decide +kernel
theorem gz_218_12 : mz_pg 218 12 = some (.getfield 110, 10, 26, 1239) := by decide +kernel
theorem gz_218_15 : mz_pg 218 15 = some (.iconst 4, 0, 0, 0) := by decide +kernel
theorem gz_218_16 : mz_pg 218 16 = some (.aload_n 0, 0, 0, 0) := by decide +kernel
theorem gz_218_17 : mz_pg 218 17 = some (.getfield 122, 10, 31, 1244) := by decide +kernel
theorem gz_218_20 : mz_pg 218 20 = some (.iload_n 2, 0, 0, 0) := by decide +kernel
theorem gz_218_21 : mz_pg 218 21 = some (.iaload, 0, 0, 0) := by decide +kernel
theorem gz_218_22 : mz_pg 218 22 = some (.imul, 0, 0, 0) := by decide +kernel
theorem gz_218_23 : mz_pg 218 23 = some (.iload_n 1, 0, 0, 0) := by decide +kernel
theorem gz_218_24 : mz_pg 218 24 = some (.iadd, 0, 0, 0) := by decide +kernel
theorem gz_218_25 : mz_pg 218 25 = some (.iaload, 0, 0, 0) := by decide +kernel
theorem gz_218_26 : mz_pg 218 26 = some (.ifCond .lt 19, 0, 0, 0) := by decide +kernel
theorem gz_218_29 : mz_pg 218 29 = some (.aload_n 0, 0, 0, 0) := by decide +kernel
theorem gz_218_30 : mz_pg 218 30 = some (.getfield 110, 10, 26, 1239) := by decide +kernel
theorem gz_218_33 : mz_pg 218 33 = some (.iconst 4, 0, 0, 0) := by decide +kernel
theorem gz_218_34 : mz_pg 218 34 = some (.aload_n 0, 0, 0, 0) := by decide +kernel
theorem gz_218_35 : mz_pg 218 35 = some (.getfield 122, 10, 31, 1244) := by decide +kernel
theorem gz_218_38 : mz_pg 218 38 = some (.iload_n 2, 0, 0, 0) := by decide +kernel
theorem gz_218_39 : mz_pg 218 39 = some (.iaload, 0, 0, 0) := by decide +kernel
theorem gz_218_40 : mz_pg 218 40 = some (.imul, 0, 0, 0) := by decide +kernel
theorem gz_218_41 : mz_pg 218 41 = some (.iload_n 1, 0, 0, 0) := by decide +kernel
theorem gz_218_42 : mz_pg 218 42 = some (.iadd, 0, 0, 0) := by decide +kernel
theorem gz_218_43 : mz_pg 218 43 = some (.iaload, 0, 0, 0) := by decide +kernel
theorem gz_218_44 : mz_pg 218 44 = some (.ireturn, 0, 0, 0) := by decide +kernel
theorem gz_218_45 : mz_pg 218 45 = some (.iinc 2 (-1), 0, 0, 0) := by decide +kernel
theorem gz_218_48 : mz_pg 218 48 = some (.goto (-41), 0, 0, 0) := by decide +kernel
theorem gz_218_51 : mz_pg 218 51 = some (.iconst 0, 0, 0, 0) := by decide +kernel
theorem gz_218_52 : mz_pg 218 52 = some (.ireturn, 0, 0, 0) := by decide +kernel
theorem gz_219_0 : mz_pg 219 0 = some (.aload_n 0, 0, 0, 0) := by decide +kernel
theorem gz_219_1 : mz_pg 219 1 = some (.iconst 0, 0, 0, 0) := by decide +kernel
theorem gz_219_2 : mz_pg 219 2 = some (.putfield 1, 10, 0, 1213) := by decide +kernel
theorem gz_219_5 : mz_pg 219 5 = some (.iload 7, 0, 0, 0) := by decide +kernel
theorem gz_219_7 : mz_pg 219 7 = some (.iconst 0, 0, 0, 0) := by decide +kernel
theorem gz_219_8 : mz_pg 219 8 = some (.iconst 5, 0, 0, 0) := by decide +kernel
theorem gz_219_9 : mz_pg 219 9 = some (.invokestatic 250, 1, 147, 1419) := by decide +kernel
theorem gz_219_12 : mz_pg 219 12 = some (.ifCond .eq 18, 0, 0, 0) := by decide +kernel
theorem gz_219_15 : mz_pg 219 15 = some (.aload_n 0, 0, 0, 0) := by decide +kernel
theorem gz_219_16 : mz_pg 219 16 = some (.iconst 0, 0, 0, 0) := by decide +kernel
theorem gz_219_17 : mz_pg 219 17 = some (.iload_n 1, 0, 0, 0) := by decide +kernel
theorem gz_219_18 : mz_pg 219 18 = some (.iload_n 2, 0, 0, 0) := by decide +kernel
theorem gz_219_19 : mz_pg 219 19 = some (.iload_n 3, 0, 0, 0) := by decide +kernel
theorem gz_219_20 : mz_pg 219 20 = some (.iload 4, 0, 0, 0) := by decide +kernel
theorem gz_219_22 : mz_pg 219 22 = some (.iload 5, 0, 0, 0) := by decide +kernel
theorem gz_219_24 : mz_pg 219 24 = some (.invokevirtual 424, 1, 208, 1619) := by decide +kernel
theorem gz_219_27 : mz_pg 219 27 = some (.ifCond .ne 5, 0, 0, 0) := by decide +kernel
theorem gz_219_30 : mz_pg 219 30 = some (.iconst (-1), 0, 0, 0) := by decide +kernel
theorem gz_219_31 : mz_pg 219 31 = some (.ireturn, 0, 0, 0) := by decide +kernel
theorem gz_219_32 : mz_pg 219 32 = some (.aload_n 0, 0, 0, 0) := by decide +kernel
theorem gz_219_33 : mz_pg 219 33 = some (.iconst 0, 0, 0, 0) := by decide +kernel
theorem gz_219_34 : mz_pg 219 34 = some (.iload_n 1, 0, 0, 0) := by decide +kernel
theorem gz_219_35 : mz_pg 219 35 = some (.iload_n 2, 0, 0, 0) := by decide +kernel
theorem gz_219_36 : mz_pg 219 36 = some (.iload_n 3, 0, 0, 0) := by decide +kernel
theorem gz_219_37 : mz_pg 219 37 = some (.iload 4, 0, 0, 0) := by decide +kernel
theorem gz_219_39 : mz_pg 219 39 = some (.iload 5, 0, 0, 0) := by decide +kernel
theorem gz_219_41 : mz_pg 219 41 = some (.invokevirtual 428, 1, 209, 1622) := by decide +kernel
theorem gz_219_44 : mz_pg 219 44 = some (.iload 6, 0, 0, 0) := by decide +kernel
theorem gz_219_46 : mz_pg 219 46 = some (.iconst (-1), 0, 0, 0) := by decide +kernel
theorem gz_219_47 : mz_pg 219 47 = some (.if_icmp .ne 10, 0, 0, 0) := by decide +kernel
theorem gz_219_50 : mz_pg 219 50 = some (.aload_n 0, 0, 0, 0) := by decide +kernel
theorem gz_219_51 : mz_pg 219 51 = some (.invokevirtual 431, 1, 220, 1656) := by decide +kernel
theorem gz_219_54 : mz_pg 219 54 = some (.goto 5, 0, 0, 0) := by decide +kernel
theorem gz_219_57 : mz_pg 219 57 = some (.iload 6, 0, 0, 0) := by decide +kernel
theorem gz_219_59 : mz_pg 219 59 = some (.istore 8, 0, 0, 0) := by decide +kernel
theorem gz_219_61 : mz_pg 219 61 = some (.iload 8, 0, 0, 0) := by decide +kernel
theorem gz_219_63 : mz_pg 219 63 = some (.iconst 0, 0, 0, 0) := by decide +kernel
theorem gz_219_64 : mz_pg 219 64 = some (.aload_n 0, 0, 0, 0) := by decide +kernel
theorem gz_219_65 : mz_pg 219 65 = some (.getfield 394, 10, 48, 1261) := by decide +kernel
theorem gz_219_68 : mz_pg 219 68 = some (.iconst 1, 0, 0, 0) := by decide +kernel
theorem gz_219_69 : mz_pg 219 69 = some (.isub, 0, 0, 0) := by decide +kernel
theorem gz_219_70 : mz_pg 219 70 = some (.invokestatic 250, 1, 147, 1419) := by decide +kernel
theorem gz_219_73 : mz_pg 219 73 = some (.ifCond .ne 5, 0, 0, 0) := by decide +kernel
theorem gz_219_76 : mz_pg 219 76 = some (.iconst (-1), 0, 0, 0) := by decide +kernel
theorem gz_219_77 : mz_pg 219 77 = some (.ireturn, 0, 0, 0) := by decide +kernel
theorem gz_219_78 : mz_pg 219 78 = some (.iload 7, 0, 0, 0) := by decide +kernel
theorem gz_219_80 : mz_pg 219 80 = some (.tableswitch 75 0 4 #[36, 43, 51, 59, 67], 0, 0, 0) := by decide +kernel
theorem gz_219_116 : mz_pg 219 116 = some (.aload_n 0, 0, 0, 0) := by decide +kernel
theorem gz_219_117 : mz_pg 219 117 = some (.iload 8, 0, 0, 0) := by decide +kernel
theorem gz_219_119 : mz_pg 219 119 = some (.invokevirtual 421, 1, 221, 1659) := by decide +kernel
theorem gz_219_122 : mz_pg 219 122 = some (.ireturn, 0, 0, 0) := by decide +kernel
theorem gz_219_123 : mz_pg 219 123 = some (.aload_n 0, 0, 0, 0) := by decide +kernel
theorem gz_219_124 : mz_pg 219 124 = some (.getfield 161, 10, 49, 1262) := by decide +kernel
theorem gz_219_127 : mz_pg 219 127 = some (.iload 8, 0, 0, 0) := by decide +kernel
theorem gz_219_129 : mz_pg 219 129 = some (.iaload, 0, 0, 0) := by decide +kernel
theorem gz_219_130 : mz_pg 219 130 = some (.ireturn, 0, 0, 0) := by decide +kernel
theorem gz_219_131 : mz_pg 219 131 = some (.aload_n 0, 0, 0, 0) := by decide +kernel
theorem gz_219_132 : mz_pg 219 132 = some (.getfield 164, 10, 50, 1263) := by decide +kernel
theorem gz_219_135 : mz_pg 219 135 = some (.iload 8, 0, 0, 0) := by decide +kernel
theorem gz_219_137 : mz_pg 219 137 = some (.iaload, 0, 0, 0) := by decide +kernel
theorem gz_219_138 : mz_pg 219 138 = some (.ireturn, 0, 0, 0) := by decide +kernel
theorem gz_219_139 : mz_pg 219 139 = some (.aload_n 0, 0, 0, 0) := by decide +kernel
theorem gz_219_140 : mz_pg 219 140 = some (.getfield 167, 10, 51, 1264) := by decide +kernel
theorem gz_219_143 : mz_pg 219 143 = some (.iload 8, 0, 0, 0) := by decide +kernel
theorem gz_219_145 : mz_pg 219 145 = some (.iaload, 0, 0, 0) := by decide +kernel
theorem gz_219_146 : mz_pg 219 146 = some (.ireturn, 0, 0, 0) := by decide +kernel
theorem gz_219_147 : mz_pg 219 147 = some (.aload_n 0, 0, 0, 0) := by decide +kernel
theorem gz_219_148 : mz_pg 219 148 = some (.getfield 170, 10, 52, 1265) := by decide +kernel
theorem gz_219_151 : mz_pg 219 151 = some (.iload 8, 0, 0, 0) := by decide +kernel
theorem gz_219_153 : mz_pg 219 153 = some (.iaload, 0, 0, 0) := by decide +kernel
theorem gz_219_154 : mz_pg 219 154 = some (.ireturn, 0, 0, 0) := by decide +kernel
theorem gz_219_155 : mz_pg 219 155 = some (.aload_n 0, 0, 0, 0) := by decide +kernel
theorem gz_219_156 : mz_pg 219 156 = some (.getfield 173, 10, 53, 1266) := by decide +kernel
theorem gz_219_159 : mz_pg 219 159 = some (.iload 8, 0, 0, 0) := by decide +kernel
theorem gz_219_161 : mz_pg 219 161 = some (.iaload, 0, 0, 0) := by decide +kernel
theorem gz_219_162 : mz_pg 219 162 = some (.ireturn, 0, 0, 0) := by decide +kernel
theorem gz_220_0 : mz_pg 220 0 = some (.iconst (-1), 0, 0, 0) := by decide +kernel
theorem gz_220_1 : mz_pg 220 1 = some (.istore_n 1, 0, 0, 0) := by decide +kernel
theorem gz_220_2 : mz_pg 220 2 = some (.iconst 0, 0, 0, 0) := by decide +kernel
theorem gz_220_3 : mz_pg 220 3 = some (.istore_n 2, 0, 0, 0) := by decide +kernel
theorem gz_220_4 : mz_pg 220 4 = some (.iload_n 2, 0, 0, 0) := by decide +kernel
theorem gz_220_5 : mz_pg 220 5 = some (.aload_n 0, 0, 0, 0) := by decide +kernel
theorem gz_220_6 : mz_pg 220 6 = some (.getfield 394, 10, 48, 1261) := by decide +kernel
theorem gz_220_9 : mz_pg 220 9 = some (.if_icmp .ge 32, 0, 0, 0) := by decide +kernel
theorem gz_220_12 : mz_pg 220 12 = some (.iload_n 1, 0, 0, 0) := by decide +kernel
theorem gz_220_13 : mz_pg 220 13 = some (.ifCond .lt 16, 0, 0, 0) := by decide +kernel
theorem gz_220_16 : mz_pg 220 16 = some (.aload_n 0, 0, 0, 0) := by decide +kernel
theorem gz_220_17 : mz_pg 220 17 = some (.iload_n 2, 0, 0, 0) := by decide +kernel
theorem gz_220_18 : mz_pg 220 18 = some (.invokevirtual 421, 1, 221, 1659) := by decide +kernel
theorem gz_220_21 : mz_pg 220 21 = some (.aload_n 0, 0, 0, 0) := by decide +kernel
theorem gz_220_22 : mz_pg 220 22 = some (.iload_n 1, 0, 0, 0) := by decide +kernel
theorem gz_220_23 : mz_pg 220 23 = some (.invokevirtual 421, 1, 221, 1659) := by decide +kernel
theorem gz_220_26 : mz_pg 220 26 = some (.if_icmp .ge 7, 0, 0, 0) := by decide +kernel
theorem gz_220_29 : mz_pg 220 29 = some (.iload_n 2, 0, 0, 0) := by decide +kernel
theorem gz_220_30 : mz_pg 220 30 = some (.goto 4, 0, 0, 0) := by decide +kernel
theorem gz_220_33 : mz_pg 220 33 = some (.iload_n 1, 0, 0, 0) := by decide +kernel
theorem gz_220_34 : mz_pg 220 34 = some (.istore_n 1, 0, 0, 0) := by decide +kernel
theorem gz_220_35 : mz_pg 220 35 = some (.iinc 2 1, 0, 0, 0) := by decide +kernel
theorem gz_220_38 : mz_pg 220 38 = some (.goto (-34), 0, 0, 0) := by decide +kernel
theorem gz_220_41 : mz_pg 220 41 = some (.iload_n 1, 0, 0, 0) := by decide +kernel
theorem gz_220_42 : mz_pg 220 42 = some (.ireturn, 0, 0, 0) := by decide +kernel
theorem gz_221_0 : mz_pg 221 0 = some (.aload_n 0, 0, 0, 0) := by decide +kernel
theorem gz_221_1 : mz_pg 221 1 = some (.getfield 161, 10, 49, 1262) := by decide +kernel
theorem gz_221_4 : mz_pg 221 4 = some (.iload_n 1, 0, 0, 0) := by decide +kernel
theorem gz_221_5 : mz_pg 221 5 = some (.iaload, 0, 0, 0) := by decide +kernel
theorem gz_221_6 : mz_pg 221 6 = some (.iconst 2, 0, 0, 0) := by decide +kernel
theorem gz_221_7 : mz_pg 221 7 = some (.if_icmp .ge 12, 0, 0, 0) := by decide +kernel
theorem gz_221_10 : mz_pg 221 10 = some (.aload_n 0, 0, 0, 0) := by decide +kernel
theorem gz_221_11 : mz_pg 221 11 = some (.getfield 161, 10, 49, 1262) := by decide +kernel
theorem gz_221_14 : mz_pg 221 14 = some (.iload_n 1, 0, 0, 0) := by decide +kernel
theorem gz_221_15 : mz_pg 221 15 = some (.iaload, 0, 0, 0) := by decide +kernel
theorem gz_221_16 : mz_pg 221 16 = some (.goto 14, 0, 0, 0) := by decide +kernel
theorem gz_221_19 : mz_pg 221 19 = some (.aload_n 0, 0, 0, 0) := by decide +kernel
theorem gz_221_20 : mz_pg 221 20 = some (.getfield 61, 10, 10, 1223) := by decide +kernel
theorem gz_221_23 : mz_pg 221 23 = some (.aload_n 0, 0, 0, 0) := by decide +kernel
theorem gz_221_24 : mz_pg 221 24 = some (.getfield 164, 10, 50, 1263) := by decide +kernel
theorem gz_221_27 : mz_pg 221 27 = some (.iload_n 1, 0, 0, 0) := by decide +kernel
theorem gz_221_28 : mz_pg 221 28 = some (.iaload, 0, 0, 0) := by decide +kernel
theorem gz_221_29 : mz_pg 221 29 = some (.iaload, 0, 0, 0) := by decide +kernel
theorem gz_221_30 : mz_pg 221 30 = some (.ireturn, 0, 0, 0) := by decide +kernel
theorem gz_222_0 : mz_pg 222 0 = some (.aload_n 0, 0, 0, 0) := by decide +kernel
theorem gz_222_1 : mz_pg 222 1 = some (.iconst 0, 0, 0, 0) := by decide +kernel
theorem gz_222_2 : mz_pg 222 2 = some (.putfield 1, 10, 0, 1213) := by decide +kernel
theorem gz_222_5 : mz_pg 222 5 = some (.aload_n 0, 0, 0, 0) := by decide +kernel
theorem gz_222_6 : mz_pg 222 6 = some (.iconst 0, 0, 0, 0) := by decide +kernel
theorem gz_222_7 : mz_pg 222 7 = some (.iconst 5, 0, 0, 0) := by decide +kernel
theorem gz_222_8 : mz_pg 222 8 = some (.invokevirtual 263, 1, 152, 1435) := by decide +kernel
theorem gz_222_11 : mz_pg 222 11 = some (.aload_n 0, 0, 0, 0) := by decide +kernel
theorem gz_222_12 : mz_pg 222 12 = some (.iconst 5, 0, 0, 0) := by decide +kernel
theorem gz_222_13 : mz_pg 222 13 = some (.iload_n 1, 0, 0, 0) := by decide +kernel
theorem gz_222_14 : mz_pg 222 14 = some (.iload_n 2, 0, 0, 0) := by decide +kernel
theorem gz_222_15 : mz_pg 222 15 = some (.iload_n 3, 0, 0, 0) := by decide +kernel
theorem gz_222_16 : mz_pg 222 16 = some (.iload 4, 0, 0, 0) := by decide +kernel
theorem gz_222_18 : mz_pg 222 18 = some (.iload 5, 0, 0, 0) := by decide +kernel
theorem gz_222_20 : mz_pg 222 20 = some (.invokevirtual 435, 1, 223, 1666) := by decide +kernel
theorem gz_222_23 : mz_pg 222 23 = some (.istore 6, 0, 0, 0) := by decide +kernel
theorem gz_222_25 : mz_pg 222 25 = some (.iload 6, 0, 0, 0) := by decide +kernel
theorem gz_222_27 : mz_pg 222 27 = some (.ifCond .lt 21, 0, 0, 0) := by decide +kernel
theorem gz_222_30 : mz_pg 222 30 = some (.aload_n 0, 0, 0, 0) := by decide +kernel
theorem gz_222_31 : mz_pg 222 31 = some (.iconst 0, 0, 0, 0) := by decide +kernel
theorem gz_222_32 : mz_pg 222 32 = some (.bipush 9, 0, 0, 0) := by decide +kernel
theorem gz_222_34 : mz_pg 222 34 = some (.invokevirtual 263, 1, 152, 1435) := by decide +kernel
theorem gz_222_37 : mz_pg 222 37 = some (.aload_n 0, 0, 0, 0) := by decide +kernel
theorem gz_222_38 : mz_pg 222 38 = some (.iconst 5, 0, 0, 0) := by decide +kernel
theorem gz_222_39 : mz_pg 222 39 = some (.iconst 0, 0, 0, 0) := by decide +kernel
theorem gz_222_40 : mz_pg 222 40 = some (.invokevirtual 263, 1, 152, 1435) := by decide +kernel
theorem gz_222_43 : mz_pg 222 43 = some (.aload_n 0, 0, 0, 0) := by decide +kernel
theorem gz_222_44 : mz_pg 222 44 = some (.iconst 1, 0, 0, 0) := by decide +kernel
theorem gz_222_45 : mz_pg 222 45 = some (.putfield 439, 10, 55, 1268) := by decide +kernel
theorem gz_222_48 : mz_pg 222 48 = some (.iload 6, 0, 0, 0) := by decide +kernel
theorem gz_222_50 : mz_pg 222 50 = some (.ireturn, 0, 0, 0) := by decide +kernel
theorem gz_223_0 : mz_pg 223 0 = some (.aload_n 0, 0, 0, 0) := by decide +kernel
theorem gz_223_1 : mz_pg 223 1 = some (.iload_n 1, 0, 0, 0) := by decide +kernel
theorem gz_223_2 : mz_pg 223 2 = some (.iload_n 2, 0, 0, 0) := by decide +kernel
theorem gz_223_3 : mz_pg 223 3 = some (.iload_n 3, 0, 0, 0) := by decide +kernel
theorem gz_223_4 : mz_pg 223 4 = some (.iload 4, 0, 0, 0) := by decide +kernel
theorem gz_223_6 : mz_pg 223 6 = some (.iload 5, 0, 0, 0) := by decide +kernel
theorem gz_223_8 : mz_pg 223 8 = some (.iload 6, 0, 0, 0) := by decide +kernel
theorem gz_223_10 : mz_pg 223 10 = some (.invokevirtual 424, 1, 208, 1619) := by decide +kernel
theorem gz_223_13 : mz_pg 223 13 = some (.ifCond .ne 5, 0, 0, 0) := by decide +kernel
theorem gz_223_16 : mz_pg 223 16 = some (.iconst (-1), 0, 0, 0) := by decide +kernel
theorem gz_223_17 : mz_pg 223 17 = some (.ireturn, 0, 0, 0) := by decide +kernel
theorem gz_223_18 : mz_pg 223 18 = some (.aload_n 0, 0, 0, 0) := by decide +kernel
theorem gz_223_19 : mz_pg 223 19 = some (.iload_n 1, 0, 0, 0) := by decide +kernel
theorem gz_223_20 : mz_pg 223 20 = some (.iload_n 2, 0, 0, 0) := by decide +kernel
theorem gz_223_21 : mz_pg 223 21 = some (.iload_n 3, 0, 0, 0) := by decide +kernel
theorem gz_223_22 : mz_pg 223 22 = some (.iload 4, 0, 0, 0) := by decide +kernel
theorem gz_223_24 : mz_pg 223 24 = some (.iload 5, 0, 0, 0) := by decide +kernel
theorem gz_223_26 : mz_pg 223 26 = some (.iload 6, 0, 0, 0) := by decide +kernel
theorem gz_223_28 : mz_pg 223 28 = some (.invokevirtual 428, 1, 209, 1622) := by decide +kernel
theorem gz_223_31 : mz_pg 223 31 = some (.aload_n 0, 0, 0, 0) := by decide +kernel
theorem gz_223_32 : mz_pg 223 32 = some (.invokevirtual 431, 1, 220, 1656) := by decide +kernel
theorem gz_223_35 : mz_pg 223 35 = some (.istore 7, 0, 0, 0) := by decide +kernel
theorem gz_223_37 : mz_pg 223 37 = some (.iload 7, 0, 0, 0) := by decide +kernel
theorem gz_223_39 : mz_pg 223 39 = some (.ifCond .ge 5, 0, 0, 0) := by decide +kernel
theorem gz_223_42 : mz_pg 223 42 = some (.iconst (-1), 0, 0, 0) := by decide +kernel
theorem gz_223_43 : mz_pg 223 43 = some (.ireturn, 0, 0, 0) := by decide +kernel
theorem gz_223_44 : mz_pg 223 44 = some (.aload_n 0, 0, 0, 0) := by decide +kernel
theorem gz_223_45 : mz_pg 223 45 = some (.getfield 161, 10, 49, 1262) := by decide +kernel
theorem gz_223_48 : mz_pg 223 48 = some (.iload 7, 0, 0, 0) := by decide +kernel
theorem gz_223_50 : mz_pg 223 50 = some (.iaload, 0, 0, 0) := by decide +kernel
theorem gz_223_51 : mz_pg 223 51 = some (.iconst 1, 0, 0, 0) := by decide +kernel
theorem gz_223_52 : mz_pg 223 52 = some (.if_icmp .ne 46, 0, 0, 0) := by decide +kernel
theorem gz_223_55 : mz_pg 223 55 = some (.aload_n 0, 0, 0, 0) := by decide +kernel
theorem gz_223_56 : mz_pg 223 56 = some (.getfield 80, 10, 16, 1229) := by decide +kernel
theorem gz_223_59 : mz_pg 223 59 = some (.iconst 4, 0, 0, 0) := by decide +kernel
theorem gz_223_60 : mz_pg 223 60 = some (.iload_n 1, 0, 0, 0) := by decide +kernel
theorem gz_223_61 : mz_pg 223 61 = some (.aload_n 0, 0, 0, 0) := by decide +kernel
theorem gz_223_62 : mz_pg 223 62 = some (.getfield 164, 10, 50, 1263) := by decide +kernel
theorem gz_223_65 : mz_pg 223 65 = some (.iload 7, 0, 0, 0) := by decide +kernel
theorem gz_223_67 : mz_pg 223 67 = some (.iaload, 0, 0, 0) := by decide +kernel
theorem gz_223_68 : mz_pg 223 68 = some (.aload_n 0, 0, 0, 0) := by decide +kernel
theorem gz_223_69 : mz_pg 223 69 = some (.getfield 167, 10, 51, 1264) := by decide +kernel
theorem gz_223_72 : mz_pg 223 72 = some (.iload 7, 0, 0, 0) := by decide +kernel
theorem gz_223_74 : mz_pg 223 74 = some (.iaload, 0, 0, 0) := by decide +kernel
theorem gz_223_75 : mz_pg 223 75 = some (.invokestatic 242, 1, 150, 1429) := by decide +kernel
theorem gz_223_78 : mz_pg 223 78 = some (.imul, 0, 0, 0) := by decide +kernel
theorem gz_223_79 : mz_pg 223 79 = some (.aload_n 0, 0, 0, 0) := by decide +kernel
theorem gz_223_80 : mz_pg 223 80 = some (.getfield 170, 10, 52, 1265) := by decide +kernel
theorem gz_223_83 : mz_pg 223 83 = some (.iload 7, 0, 0, 0) := by decide +kernel
theorem gz_223_85 : mz_pg 223 85 = some (.iaload, 0, 0, 0) := by decide +kernel
theorem gz_223_86 : mz_pg 223 86 = some (.iadd, 0, 0, 0) := by decide +kernel
theorem gz_223_87 : mz_pg 223 87 = some (.aload_n 0, 0, 0, 0) := by decide +kernel
theorem gz_223_88 : mz_pg 223 88 = some (.getfield 173, 10, 53, 1266) := by decide +kernel
theorem gz_223_91 : mz_pg 223 91 = some (.iload 7, 0, 0, 0) := by decide +kernel
theorem gz_223_93 : mz_pg 223 93 = some (.iaload, 0, 0, 0) := by decide +kernel
theorem gz_223_94 : mz_pg 223 94 = some (.iastore, 0, 0, 0) := by decide +kernel
theorem gz_223_95 : mz_pg 223 95 = some (.goto 60, 0, 0, 0) := by decide +kernel
theorem gz_223_98 : mz_pg 223 98 = some (.aload_n 0, 0, 0, 0) := by decide +kernel
theorem gz_223_99 : mz_pg 223 99 = some (.getfield 161, 10, 49, 1262) := by decide +kernel
theorem gz_223_102 : mz_pg 223 102 = some (.iload 7, 0, 0, 0) := by decide +kernel
theorem gz_223_104 : mz_pg 223 104 = some (.iaload, 0, 0, 0) := by decide +kernel
theorem gz_223_105 : mz_pg 223 105 = some (.iconst 2, 0, 0, 0) := by decide +kernel
theorem gz_223_106 : mz_pg 223 106 = some (.if_icmp .ne 30, 0, 0, 0) := by decide +kernel
theorem gz_223_109 : mz_pg 223 109 = some (.aload_n 0, 0, 0, 0) := by decide +kernel
theorem gz_223_110 : mz_pg 223 110 = some (.getfield 77, 10, 15, 1228) := by decide +kernel
theorem gz_223_113 : mz_pg 223 113 = some (.iload_n 1, 0, 0, 0) := by decide +kernel
theorem gz_223_114 : mz_pg 223 114 = some (.aload_n 0, 0, 0, 0) := by decide +kernel
theorem gz_223_115 : mz_pg 223 115 = some (.getfield 164, 10, 50, 1263) := by decide +kernel
theorem gz_223_118 : mz_pg 223 118 = some (.iload 7, 0, 0, 0) := by decide +kernel
theorem gz_223_120 : mz_pg 223 120 = some (.iaload, 0, 0, 0) := by decide +kernel
theorem gz_223_121 : mz_pg 223 121 = some (.aload_n 0, 0, 0, 0) := by decide +kernel
theorem gz_223_122 : mz_pg 223 122 = some (.getfield 167, 10, 51, 1264) := by decide +kernel
theorem gz_223_125 : mz_pg 223 125 = some (.iload 7, 0, 0, 0) := by decide +kernel
theorem gz_223_127 : mz_pg 223 127 = some (.iaload, 0, 0, 0) := by decide +kernel
theorem gz_223_128 : mz_pg 223 128 = some (.invokestatic 242, 1, 150, 1429) := by decide +kernel
theorem gz_223_131 : mz_pg 223 131 = some (.iconst 0, 0, 0, 0) := by decide +kernel
theorem gz_223_132 : mz_pg 223 132 = some (.bastore, 0, 0, 0) := by decide +kernel
theorem gz_223_133 : mz_pg 223 133 = some (.goto 22, 0, 0, 0) := by decide +kernel
theorem gz_223_136 : mz_pg 223 136 = some (.aload_n 0, 0, 0, 0) := by decide +kernel
theorem gz_223_137 : mz_pg 223 137 = some (.getfield 161, 10, 49, 1262) := by decide +kernel
theorem gz_223_140 : mz_pg 223 140 = some (.iload 7, 0, 0, 0) := by decide +kernel
theorem gz_223_142 : mz_pg 223 142 = some (.iaload, 0, 0, 0) := by decide +kernel
theorem gz_223_143 : mz_pg 223 143 = some (.iconst 3, 0, 0, 0) := by decide +kernel
theorem gz_223_144 : mz_pg 223 144 = some (.if_icmp .ne 11, 0, 0, 0) := by decide +kernel
theorem gz_223_147 : mz_pg 223 147 = some (.aload_n 0, 0, 0, 0) := by decide +kernel
theorem gz_223_148 : mz_pg 223 148 = some (.iload_n 1, 0, 0, 0) := by decide +kernel
theorem gz_223_149 : mz_pg 223 149 = some (.iload_n 2, 0, 0, 0) := by decide +kernel
theorem gz_223_150 : mz_pg 223 150 = some (.invokevirtual 418, 1, 216, 1643) := by decide +kernel
theorem gz_223_153 : mz_pg 223 153 = some (.istore 8, 0, 0, 0) := by decide +kernel
theorem gz_223_155 : mz_pg 223 155 = some (.aload_n 0, 0, 0, 0) := by decide +kernel
theorem gz_223_156 : mz_pg 223 156 = some (.iload 7, 0, 0, 0) := by decide +kernel
theorem gz_223_158 : mz_pg 223 158 = some (.invokevirtual 421, 1, 221, 1659) := by decide +kernel
theorem gz_223_161 : mz_pg 223 161 = some (.ireturn, 0, 0, 0) := by decide +kernel
theorem gz_224_0 : mz_pg 224 0 = some (.aload_n 0, 0, 0, 0) := by decide +kernel
theorem gz_224_1 : mz_pg 224 1 = some (.iconst 0, 0, 0, 0) := by decide +kernel
theorem gz_224_2 : mz_pg 224 2 = some (.putfield 1, 10, 0, 1213) := by decide +kernel
theorem gz_224_5 : mz_pg 224 5 = some (.iload 6, 0, 0, 0) := by decide +kernel
theorem gz_224_7 : mz_pg 224 7 = some (.iconst 0, 0, 0, 0) := by decide +kernel
theorem gz_224_8 : mz_pg 224 8 = some (.iconst 2, 0, 0, 0) := by decide +kernel
theorem gz_224_9 : mz_pg 224 9 = some (.invokestatic 250, 1, 147, 1419) := by decide +kernel
theorem gz_224_12 : mz_pg 224 12 = some (.ifCond .eq 32, 0, 0, 0) := by decide +kernel
theorem gz_224_15 : mz_pg 224 15 = some (.aload_n 0, 0, 0, 0) := by decide +kernel
theorem gz_224_16 : mz_pg 224 16 = some (.iconst 0, 0, 0, 0) := by decide +kernel
theorem gz_224_17 : mz_pg 224 17 = some (.iload_n 1, 0, 0, 0) := by decide +kernel
theorem gz_224_18 : mz_pg 224 18 = some (.iload_n 2, 0, 0, 0) := by decide +kernel
theorem gz_224_19 : mz_pg 224 19 = some (.iload_n 3, 0, 0, 0) := by decide +kernel
theorem gz_224_20 : mz_pg 224 20 = some (.iload 4, 0, 0, 0) := by decide +kernel
theorem gz_224_22 : mz_pg 224 22 = some (.iload 5, 0, 0, 0) := by decide +kernel
theorem gz_224_24 : mz_pg 224 24 = some (.invokevirtual 424, 1, 208, 1619) := by decide +kernel
theorem gz_224_27 : mz_pg 224 27 = some (.ifCond .eq 17, 0, 0, 0) := by decide +kernel
theorem gz_224_30 : mz_pg 224 30 = some (.aload_n 0, 0, 0, 0) := by decide +kernel
theorem gz_224_31 : mz_pg 224 31 = some (.iload_n 1, 0, 0, 0) := by decide +kernel
theorem gz_224_32 : mz_pg 224 32 = some (.iload_n 2, 0, 0, 0) := by decide +kernel
theorem gz_224_33 : mz_pg 224 33 = some (.iload_n 3, 0, 0, 0) := by decide +kernel
theorem gz_224_34 : mz_pg 224 34 = some (.iload 4, 0, 0, 0) := by decide +kernel
theorem gz_224_36 : mz_pg 224 36 = some (.iload 5, 0, 0, 0) := by decide +kernel
theorem gz_224_38 : mz_pg 224 38 = some (.invokevirtual 446, 1, 225, 1673) := by decide +kernel
theorem gz_224_41 : mz_pg 224 41 = some (.ifCond .ne 5, 0, 0, 0) := by decide +kernel
theorem gz_224_44 : mz_pg 224 44 = some (.iconst (-1), 0, 0, 0) := by decide +kernel
theorem gz_224_45 : mz_pg 224 45 = some (.ireturn, 0, 0, 0) := by decide +kernel
theorem gz_224_46 : mz_pg 224 46 = some (.iconst 0, 0, 0, 0) := by decide +kernel
theorem gz_224_47 : mz_pg 224 47 = some (.istore 7, 0, 0, 0) := by decide +kernel
theorem gz_224_49 : mz_pg 224 49 = some (.iload 7, 0, 0, 0) := by decide +kernel
theorem gz_224_51 : mz_pg 224 51 = some (.bipush 12, 0, 0, 0) := by decide +kernel
theorem gz_224_53 : mz_pg 224 53 = some (.if_icmp .ge 138, 0, 0, 0) := by decide +kernel
theorem gz_224_56 : mz_pg 224 56 = some (.iconst 4, 0, 0, 0) := by decide +kernel
theorem gz_224_57 : mz_pg 224 57 = some (.istore 8, 0, 0, 0) := by decide +kernel
theorem gz_224_59 : mz_pg 224 59 = some (.iconst 0, 0, 0, 0) := by decide +kernel
theorem gz_224_60 : mz_pg 224 60 = some (.istore 9, 0, 0, 0) := by decide +kernel
theorem gz_224_62 : mz_pg 224 62 = some (.iload 9, 0, 0, 0) := by decide +kernel
theorem gz_224_64 : mz_pg 224 64 = some (.bipush 20, 0, 0, 0) := by decide +kernel
theorem gz_224_66 : mz_pg 224 66 = some (.if_icmp .ge 85, 0, 0, 0) := by decide +kernel
theorem gz_224_69 : mz_pg 224 69 = some (.iload 7, 0, 0, 0) := by decide +kernel
theorem gz_224_71 : mz_pg 224 71 = some (.iconst 4, 0, 0, 0) := by decide +kernel
theorem gz_224_72 : mz_pg 224 72 = some (.irem, 0, 0, 0) := by decide +kernel
theorem gz_224_73 : mz_pg 224 73 = some (.aload_n 0, 0, 0, 0) := by decide +kernel
theorem gz_224_74 : mz_pg 224 74 = some (.getfield 61, 10, 10, 1223) := by decide +kernel
theorem gz_224_77 : mz_pg 224 77 = some (.iload 7, 0, 0, 0) := by decide +kernel
theorem gz_224_79 : mz_pg 224 79 = some (.iconst 4, 0, 0, 0) := by decide +kernel
theorem gz_224_80 : mz_pg 224 80 = some (.idiv, 0, 0, 0) := by decide +kernel
theorem gz_224_81 : mz_pg 224 81 = some (.iaload, 0, 0, 0) := by decide +kernel
theorem gz_224_82 : mz_pg 224 82 = some (.if_icmp .ge 69, 0, 0, 0) := by decide +kernel
theorem gz_224_85 : mz_pg 224 85 = some (.aload_n 0, 0, 0, 0) := by decide +kernel
theorem gz_224_86 : mz_pg 224 86 = some (.getfield 77, 10, 15, 1228) := by decide +kernel
theorem gz_224_89 : mz_pg 224 89 = some (.iconst 5, 0, 0, 0) := by decide +kernel
theorem gz_224_90 : mz_pg 224 90 = some (.iload 7, 0, 0, 0) := by decide +kernel
theorem gz_224_92 : mz_pg 224 92 = some (.iconst 4, 0, 0, 0) := by decide +kernel
theorem gz_224_93 : mz_pg 224 93 = some (.idiv, 0, 0, 0) := by decide +kernel
theorem gz_224_94 : mz_pg 224 94 = some (.iload 9, 0, 0, 0) := by decide +kernel
theorem gz_224_96 : mz_pg 224 96 = some (.invokestatic 242, 1, 150, 1429) := by decide +kernel
theorem gz_224_99 : mz_pg 224 99 = some (.baload, 0, 0, 0) := by decide +kernel
theorem gz_224_100 : mz_pg 224 100 = some (.ifCond .eq 21, 0, 0, 0) := by decide +kernel
theorem gz_224_103 : mz_pg 224 103 = some (.aload_n 0, 0, 0, 0) := by decide +kernel
theorem gz_224_104 : mz_pg 224 104 = some (.iconst 5, 0, 0, 0) := by decide +kernel
theorem gz_224_105 : mz_pg 224 105 = some (.iload 7, 0, 0, 0) := by decide +kernel
theorem gz_224_107 : mz_pg 224 107 = some (.iconst 4, 0, 0, 0) := by decide +kernel
theorem gz_224_108 : mz_pg 224 108 = some (.idiv, 0, 0, 0) := by decide +kernel
theorem gz_224_109 : mz_pg 224 109 = some (.iload 9, 0, 0, 0) := by decide +kernel
theorem gz_224_111 : mz_pg 224 111 = some (.iload 7, 0, 0, 0) := by decide +kernel
theorem gz_224_113 : mz_pg 224 113 = some (.iconst 4, 0, 0, 0) := by decide +kernel
theorem gz_224_114 : mz_pg 224 114 = some (.irem, 0, 0, 0) := by decide +kernel
theorem gz_224_115 : mz_pg 224 115 = some (.invokevirtual 450, 1, 227, 1679) := by decide +kernel
theorem gz_224_118 : mz_pg 224 118 = some (.goto 4, 0, 0, 0) := by decide +kernel
theorem gz_224_121 : mz_pg 224 121 = some (.iconst 0, 0, 0, 0) := by decide +kernel
theorem gz_224_122 : mz_pg 224 122 = some (.istore 10, 0, 0, 0) := by decide +kernel
theorem gz_224_124 : mz_pg 224 124 = some (.iload 10, 0, 0, 0) := by decide +kernel
theorem gz_224_126 : mz_pg 224 126 = some (.ifCond .le 15, 0, 0, 0) := by decide +kernel
theorem gz_224_129 : mz_pg 224 129 = some (.iload 10, 0, 0, 0) := by decide +kernel
theorem gz_224_131 : mz_pg 224 131 = some (.iload 8, 0, 0, 0) := by decide +kernel
theorem gz_224_133 : mz_pg 224 133 = some (.if_icmp .ge 8, 0, 0, 0) := by decide +kernel
theorem gz_224_136 : mz_pg 224 136 = some (.iload 10, 0, 0, 0) := by decide +kernel
theorem gz_224_138 : mz_pg 224 138 = some (.goto 5, 0, 0, 0) := by decide +kernel
theorem gz_224_141 : mz_pg 224 141 = some (.iload 8, 0, 0, 0) := by decide +kernel
theorem gz_224_143 : mz_pg 224 143 = some (.istore 8, 0, 0, 0) := by decide +kernel
theorem gz_224_145 : mz_pg 224 145 = some (.iinc 9 1, 0, 0, 0) := by decide +kernel
theorem gz_224_148 : mz_pg 224 148 = some (.goto (-86), 0, 0, 0) := by decide +kernel
theorem gz_224_151 : mz_pg 224 151 = some (.iload 8, 0, 0, 0) := by decide +kernel
theorem gz_224_153 : mz_pg 224 153 = some (.iconst 4, 0, 0, 0) := by decide +kernel
theorem gz_224_154 : mz_pg 224 154 = some (.if_icmp .ge 31, 0, 0, 0) := by decide +kernel
theorem gz_224_157 : mz_pg 224 157 = some (.iload 6, 0, 0, 0) := by decide +kernel
theorem gz_224_159 : mz_pg 224 159 = some (.ifCond .ne 10, 0, 0, 0) := by decide +kernel
theorem gz_224_162 : mz_pg 224 162 = some (.iload 7, 0, 0, 0) := by decide +kernel
theorem gz_224_164 : mz_pg 224 164 = some (.iconst 4, 0, 0, 0) := by decide +kernel
theorem gz_224_165 : mz_pg 224 165 = some (.idiv, 0, 0, 0) := by decide +kernel
theorem gz_224_166 : mz_pg 224 166 = some (.goto 18, 0, 0, 0) := by decide +kernel
theorem gz_224_169 : mz_pg 224 169 = some (.iload 6, 0, 0, 0) := by decide +kernel
theorem gz_224_171 : mz_pg 224 171 = some (.iconst 1, 0, 0, 0) := by decide +kernel
theorem gz_224_172 : mz_pg 224 172 = some (.if_icmp .ne 10, 0, 0, 0) := by decide +kernel
theorem gz_224_175 : mz_pg 224 175 = some (.iload 7, 0, 0, 0) := by decide +kernel
theorem gz_224_177 : mz_pg 224 177 = some (.iconst 4, 0, 0, 0) := by decide +kernel
theorem gz_224_178 : mz_pg 224 178 = some (.irem, 0, 0, 0) := by decide +kernel
theorem gz_224_179 : mz_pg 224 179 = some (.goto 5, 0, 0, 0) := by decide +kernel
theorem gz_224_182 : mz_pg 224 182 = some (.iload 8, 0, 0, 0) := by decide +kernel
theorem gz_224_184 : mz_pg 224 184 = some (.ireturn, 0, 0, 0) := by decide +kernel
theorem gz_224_185 : mz_pg 224 185 = some (.iinc 7 1, 0, 0, 0) := by decide +kernel
theorem gz_224_188 : mz_pg 224 188 = some (.goto (-139), 0, 0, 0) := by decide +kernel
theorem gz_224_191 : mz_pg 224 191 = some (.iconst (-1), 0, 0, 0) := by decide +kernel
theorem gz_224_192 : mz_pg 224 192 = some (.ireturn, 0, 0, 0) := by decide +kernel
theorem gz_225_0 : mz_pg 225 0 = some (.aload_n 0, 0, 0, 0) := by decide +kernel
theorem gz_225_1 : mz_pg 225 1 = some (.iconst 0, 0, 0, 0) := by decide +kernel
theorem gz_225_2 : mz_pg 225 2 = some (.iconst 5, 0, 0, 0) := by decide +kernel
theorem gz_225_3 : mz_pg 225 3 = some (.invokevirtual 263, 1, 152, 1435) := by decide +kernel
theorem gz_225_6 : mz_pg 225 6 = some (.iload_n 2, 0, 0, 0) := by decide +kernel
theorem gz_225_7 : mz_pg 225 7 = some (.ifCond .ne 75, 0, 0, 0) := by decide +kernel
theorem gz_225_10 : mz_pg 225 10 = some (.aload_n 0, 0, 0, 0) := by decide +kernel
theorem gz_225_11 : mz_pg 225 11 = some (.getfield 116, 10, 29, 1242) := by decide +kernel
theorem gz_225_14 : mz_pg 225 14 = some (.iload 4, 0, 0, 0) := by decide +kernel
theorem gz_225_16 : mz_pg 225 16 = some (.iaload, 0, 0, 0) := by decide +kernel
theorem gz_225_17 : mz_pg 225 17 = some (.ifCond .le 14, 0, 0, 0) := by decide +kernel
theorem gz_225_20 : mz_pg 225 20 = some (.iload 5, 0, 0, 0) := by decide +kernel
theorem gz_225_22 : mz_pg 225 22 = some (.bipush 20, 0, 0, 0) := by decide +kernel
theorem gz_225_24 : mz_pg 225 24 = some (.if_icmp .ge 7, 0, 0, 0) := by decide +kernel
theorem gz_225_27 : mz_pg 225 27 = some (.iconst 1, 0, 0, 0) := by decide +kernel
theorem gz_225_28 : mz_pg 225 28 = some (.goto 4, 0, 0, 0) := by decide +kernel
theorem gz_225_31 : mz_pg 225 31 = some (.iconst 0, 0, 0, 0) := by decide +kernel
theorem gz_225_32 : mz_pg 225 32 = some (.istore 6, 0, 0, 0) := by decide +kernel
theorem gz_225_34 : mz_pg 225 34 = some (.iload 6, 0, 0, 0) := by decide +kernel
theorem gz_225_36 : mz_pg 225 36 = some (.ifCond .eq 43, 0, 0, 0) := by decide +kernel
theorem gz_225_39 : mz_pg 225 39 = some (.aload_n 0, 0, 0, 0) := by decide +kernel
theorem gz_225_40 : mz_pg 225 40 = some (.getfield 80, 10, 16, 1229) := by decide +kernel
theorem gz_225_43 : mz_pg 225 43 = some (.iconst 4, 0, 0, 0) := by decide +kernel
theorem gz_225_44 : mz_pg 225 44 = some (.iconst 5, 0, 0, 0) := by decide +kernel
theorem gz_225_45 : mz_pg 225 45 = some (.aload_n 0, 0, 0, 0) := by decide +kernel
theorem gz_225_46 : mz_pg 225 46 = some (.getfield 113, 10, 28, 1241) := by decide +kernel
theorem gz_225_49 : mz_pg 225 49 = some (.iload 4, 0, 0, 0) := by decide +kernel
theorem gz_225_51 : mz_pg 225 51 = some (.iaload, 0, 0, 0) := by decide +kernel
theorem gz_225_52 : mz_pg 225 52 = some (.aload_n 0, 0, 0, 0) := by decide +kernel
theorem gz_225_53 : mz_pg 225 53 = some (.getfield 140, 10, 40, 1253) := by decide +kernel
theorem gz_225_56 : mz_pg 225 56 = some (.bipush 8, 0, 0, 0) := by decide +kernel
theorem gz_225_58 : mz_pg 225 58 = some (.iload_n 3, 0, 0, 0) := by decide +kernel
theorem gz_225_59 : mz_pg 225 59 = some (.imul, 0, 0, 0) := by decide +kernel
theorem gz_225_60 : mz_pg 225 60 = some (.iload 4, 0, 0, 0) := by decide +kernel
theorem gz_225_62 : mz_pg 225 62 = some (.iadd, 0, 0, 0) := by decide +kernel
theorem gz_225_63 : mz_pg 225 63 = some (.iaload, 0, 0, 0) := by decide +kernel
theorem gz_225_64 : mz_pg 225 64 = some (.invokestatic 242, 1, 150, 1429) := by decide +kernel
theorem gz_225_67 : mz_pg 225 67 = some (.imul, 0, 0, 0) := by decide +kernel
theorem gz_225_68 : mz_pg 225 68 = some (.aload_n 0, 0, 0, 0) := by decide +kernel
theorem gz_225_69 : mz_pg 225 69 = some (.getfield 116, 10, 29, 1242) := by decide +kernel
theorem gz_225_72 : mz_pg 225 72 = some (.iload 4, 0, 0, 0) := by decide +kernel
theorem gz_225_74 : mz_pg 225 74 = some (.iaload, 0, 0, 0) := by decide +kernel
theorem gz_225_75 : mz_pg 225 75 = some (.iadd, 0, 0, 0) := by decide +kernel
theorem gz_225_76 : mz_pg 225 76 = some (.iload 5, 0, 0, 0) := by decide +kernel
theorem gz_225_78 : mz_pg 225 78 = some (.iastore, 0, 0, 0) := by decide +kernel
theorem gz_225_79 : mz_pg 225 79 = some (.iload 6, 0, 0, 0) := by decide +kernel
theorem gz_225_81 : mz_pg 225 81 = some (.ireturn, 0, 0, 0) := by decide +kernel
theorem gz_225_82 : mz_pg 225 82 = some (.iload_n 2, 0, 0, 0) := by decide +kernel
theorem gz_225_83 : mz_pg 225 83 = some (.iconst 1, 0, 0, 0) := by decide +kernel
theorem gz_225_84 : mz_pg 225 84 = some (.if_icmp .ne 50, 0, 0, 0) := by decide +kernel
theorem gz_225_87 : mz_pg 225 87 = some (.aload_n 0, 0, 0, 0) := by decide +kernel
theorem gz_225_88 : mz_pg 225 88 = some (.getfield 134, 10, 38, 1251) := by decide +kernel
theorem gz_225_91 : mz_pg 225 91 = some (.iload_n 3, 0, 0, 0) := by decide +kernel
theorem gz_225_92 : mz_pg 225 92 = some (.iaload, 0, 0, 0) := by decide +kernel
theorem gz_225_93 : mz_pg 225 93 = some (.istore 6, 0, 0, 0) := by decide +kernel
theorem gz_225_95 : mz_pg 225 95 = some (.aload_n 0, 0, 0, 0) := by decide +kernel
theorem gz_225_96 : mz_pg 225 96 = some (.iload_n 1, 0, 0, 0) := by decide +kernel
theorem gz_225_97 : mz_pg 225 97 = some (.invokevirtual 443, 1, 226, 1676) := by decide +kernel
theorem gz_225_100 : mz_pg 225 100 = some (.ifCond .ne 7, 0, 0, 0) := by decide +kernel
theorem gz_225_103 : mz_pg 225 103 = some (.iconst 1, 0, 0, 0) := by decide +kernel
theorem gz_225_104 : mz_pg 225 104 = some (.goto 4, 0, 0, 0) := by decide +kernel
theorem gz_225_107 : mz_pg 225 107 = some (.iconst 0, 0, 0, 0) := by decide +kernel
theorem gz_225_108 : mz_pg 225 108 = some (.istore 7, 0, 0, 0) := by decide +kernel
theorem gz_225_110 : mz_pg 225 110 = some (.iload 7, 0, 0, 0) := by decide +kernel
theorem gz_225_112 : mz_pg 225 112 = some (.ifCond .eq 19, 0, 0, 0) := by decide +kernel
theorem gz_225_115 : mz_pg 225 115 = some (.aload_n 0, 0, 0, 0) := by decide +kernel
theorem gz_225_116 : mz_pg 225 116 = some (.getfield 77, 10, 15, 1228) := by decide +kernel
theorem gz_225_119 : mz_pg 225 119 = some (.iconst 5, 0, 0, 0) := by decide +kernel
theorem gz_225_120 : mz_pg 225 120 = some (.aload_n 0, 0, 0, 0) := by decide +kernel
theorem gz_225_121 : mz_pg 225 121 = some (.getfield 296, 10, 33, 1246) := by decide +kernel
theorem gz_225_124 : mz_pg 225 124 = some (.iload 6, 0, 0, 0) := by decide +kernel
theorem gz_225_126 : mz_pg 225 126 = some (.invokestatic 242, 1, 150, 1429) := by decide +kernel
theorem gz_225_129 : mz_pg 225 129 = some (.iconst 0, 0, 0, 0) := by decide +kernel
theorem gz_225_130 : mz_pg 225 130 = some (.bastore, 0, 0, 0) := by decide +kernel
theorem gz_225_131 : mz_pg 225 131 = some (.iload 7, 0, 0, 0) := by decide +kernel
theorem gz_225_133 : mz_pg 225 133 = some (.ireturn, 0, 0, 0) := by decide +kernel
theorem gz_225_134 : mz_pg 225 134 = some (.aload_n 0, 0, 0, 0) := by decide +kernel
theorem gz_225_135 : mz_pg 225 135 = some (.iconst 5, 0, 0, 0) := by decide +kernel
theorem gz_225_136 : mz_pg 225 136 = some (.iload_n 1, 0, 0, 0) := by decide +kernel
theorem gz_225_137 : mz_pg 225 137 = some (.invokevirtual 418, 1, 216, 1643) := by decide +kernel
theorem gz_225_140 : mz_pg 225 140 = some (.ireturn, 0, 0, 0) := by decide +kernel
theorem gz_226_0 : mz_pg 226 0 = some (.aload_n 0, 0, 0, 0) := by decide +kernel
theorem gz_226_1 : mz_pg 226 1 = some (.iload_n 1, 0, 0, 0) := by decide +kernel
theorem gz_226_2 : mz_pg 226 2 = some (.invokevirtual 302, 1, 180, 1529) := by decide +kernel
theorem gz_226_5 : mz_pg 226 5 = some (.iconst 0, 0, 0, 0) := by decide +kernel
theorem gz_226_6 : mz_pg 226 6 = some (.istore_n 2, 0, 0, 0) := by decide +kernel
theorem gz_226_7 : mz_pg 226 7 = some (.iconst 0, 0, 0, 0) := by decide +kernel
theorem gz_226_8 : mz_pg 226 8 = some (.istore_n 3, 0, 0, 0) := by decide +kernel
theorem gz_226_9 : mz_pg 226 9 = some (.iload_n 3, 0, 0, 0) := by decide +kernel
theorem gz_226_10 : mz_pg 226 10 = some (.aload_n 0, 0, 0, 0) := by decide +kernel
theorem gz_226_11 : mz_pg 226 11 = some (.getfield 293, 10, 32, 1245) := by decide +kernel
theorem gz_226_14 : mz_pg 226 14 = some (.if_icmp .ge 65, 0, 0, 0) := by decide +kernel
theorem gz_226_17 : mz_pg 226 17 = some (.iconst 0, 0, 0, 0) := by decide +kernel
theorem gz_226_18 : mz_pg 226 18 = some (.istore 4, 0, 0, 0) := by decide +kernel
theorem gz_226_20 : mz_pg 226 20 = some (.iload 4, 0, 0, 0) := by decide +kernel
theorem gz_226_22 : mz_pg 226 22 = some (.aload_n 0, 0, 0, 0) := by decide +kernel
theorem gz_226_23 : mz_pg 226 23 = some (.getfield 92, 10, 20, 1233) := by decide +kernel
theorem gz_226_26 : mz_pg 226 26 = some (.aload_n 0, 0, 0, 0) := by decide +kernel
theorem gz_226_27 : mz_pg 226 27 = some (.getfield 122, 10, 31, 1244) := by decide +kernel
theorem gz_226_30 : mz_pg 226 30 = some (.iload_n 3, 0, 0, 0) := by decide +kernel
theorem gz_226_31 : mz_pg 226 31 = some (.iaload, 0, 0, 0) := by decide +kernel
theorem gz_226_32 : mz_pg 226 32 = some (.iaload, 0, 0, 0) := by decide +kernel
theorem gz_226_33 : mz_pg 226 33 = some (.if_icmp .ge 40, 0, 0, 0) := by decide +kernel
theorem gz_226_36 : mz_pg 226 36 = some (.iload_n 2, 0, 0, 0) := by decide +kernel
theorem gz_226_37 : mz_pg 226 37 = some (.ifCond .ne 24, 0, 0, 0) := by decide +kernel
theorem gz_226_40 : mz_pg 226 40 = some (.aload_n 0, 0, 0, 0) := by decide +kernel
theorem gz_226_41 : mz_pg 226 41 = some (.getfield 95, 10, 21, 1234) := by decide +kernel
theorem gz_226_44 : mz_pg 226 44 = some (.bipush 6, 0, 0, 0) := by decide +kernel
theorem gz_226_46 : mz_pg 226 46 = some (.aload_n 0, 0, 0, 0) := by decide +kernel
theorem gz_226_47 : mz_pg 226 47 = some (.getfield 122, 10, 31, 1244) := by decide +kernel
theorem gz_226_50 : mz_pg 226 50 = some (.iload_n 3, 0, 0, 0) := by decide +kernel
theorem gz_226_51 : mz_pg 226 51 = some (.iaload, 0, 0, 0) := by decide +kernel
theorem gz_226_52 : mz_pg 226 52 = some (.imul, 0, 0, 0) := by decide +kernel
theorem gz_226_53 : mz_pg 226 53 = some (.iload 4, 0, 0, 0) := by decide +kernel
theorem gz_226_55 : mz_pg 226 55 = some (.iadd, 0, 0, 0) := by decide +kernel
theorem gz_226_56 : mz_pg 226 56 = some (.iaload, 0, 0, 0) := by decide +kernel
theorem gz_226_57 : mz_pg 226 57 = some (.iconst 5, 0, 0, 0) := by decide +kernel
theorem gz_226_58 : mz_pg 226 58 = some (.if_icmp .ne 7, 0, 0, 0) := by decide +kernel
theorem gz_226_61 : mz_pg 226 61 = some (.iconst 1, 0, 0, 0) := by decide +kernel
theorem gz_226_62 : mz_pg 226 62 = some (.goto 4, 0, 0, 0) := by decide +kernel
theorem gz_226_65 : mz_pg 226 65 = some (.iconst 0, 0, 0, 0) := by decide +kernel
theorem gz_226_66 : mz_pg 226 66 = some (.istore_n 2, 0, 0, 0) := by decide +kernel
theorem gz_226_67 : mz_pg 226 67 = some (.iinc 4 1, 0, 0, 0) := by decide +kernel
theorem gz_226_70 : mz_pg 226 70 = some (.goto (-50), 0, 0, 0) := by decide +kernel
theorem gz_226_73 : mz_pg 226 73 = some (.iinc 3 1, 0, 0, 0) := by decide +kernel
theorem gz_226_76 : mz_pg 226 76 = some (.goto (-67), 0, 0, 0) := by decide +kernel
theorem gz_226_79 : mz_pg 226 79 = some (.iload_n 2, 0, 0, 0) := by decide +kernel
theorem gz_226_80 : mz_pg 226 80 = some (.ireturn, 0, 0, 0) := by decide +kernel
theorem gz_227_0 : mz_pg 227 0 = some (.iconst 4, 0, 0, 0) := by decide +kernel
theorem gz_227_1 : mz_pg 227 1 = some (.iload_n 2, 0, 0, 0) := by decide +kernel
theorem gz_227_2 : mz_pg 227 2 = some (.imul, 0, 0, 0) := by decide +kernel
theorem gz_227_3 : mz_pg 227 3 = some (.iload 4, 0, 0, 0) := by decide +kernel
theorem gz_227_5 : mz_pg 227 5 = some (.iadd, 0, 0, 0) := by decide +kernel
theorem gz_227_6 : mz_pg 227 6 = some (.istore 5, 0, 0, 0) := by decide +kernel
theorem gz_227_8 : mz_pg 227 8 = some (.aload_n 0, 0, 0, 0) := by decide +kernel
theorem gz_227_9 : mz_pg 227 9 = some (.iload_n 1, 0, 0, 0) := by decide +kernel
theorem gz_227_10 : mz_pg 227 10 = some (.iload_n 2, 0, 0, 0) := by decide +kernel
theorem gz_227_11 : mz_pg 227 11 = some (.iload_n 3, 0, 0, 0) := by decide +kernel
theorem gz_227_12 : mz_pg 227 12 = some (.iload 4, 0, 0, 0) := by decide +kernel
theorem gz_227_14 : mz_pg 227 14 = some (.invokevirtual 246, 1, 157, 1450) := by decide +kernel
theorem gz_227_17 : mz_pg 227 17 = some (.istore 6, 0, 0, 0) := by decide +kernel
theorem gz_227_19 : mz_pg 227 19 = some (.iload 6, 0, 0, 0) := by decide +kernel
theorem gz_227_21 : mz_pg 227 21 = some (.aload_n 0, 0, 0, 0) := by decide +kernel
theorem gz_227_22 : mz_pg 227 22 = some (.getfield 64, 10, 11, 1224) := by decide +kernel
theorem gz_227_25 : mz_pg 227 25 = some (.iload 5, 0, 0, 0) := by decide +kernel
theorem gz_227_27 : mz_pg 227 27 = some (.iaload, 0, 0, 0) := by decide +kernel
theorem gz_227_28 : mz_pg 227 28 = some (.aload_n 0, 0, 0, 0) := by decide +kernel
theorem gz_227_29 : mz_pg 227 29 = some (.getfield 67, 10, 12, 1225) := by decide +kernel
theorem gz_227_32 : mz_pg 227 32 = some (.iload 5, 0, 0, 0) := by decide +kernel
theorem gz_227_34 : mz_pg 227 34 = some (.iaload, 0, 0, 0) := by decide +kernel
theorem gz_227_35 : mz_pg 227 35 = some (.invokestatic 250, 1, 147, 1419) := by decide +kernel
theorem gz_227_38 : mz_pg 227 38 = some (.ifCond .ne 5, 0, 0, 0) := by decide +kernel
theorem gz_227_41 : mz_pg 227 41 = some (.iconst 1, 0, 0, 0) := by decide +kernel
theorem gz_227_42 : mz_pg 227 42 = some (.ireturn, 0, 0, 0) := by decide +kernel
theorem gz_227_43 : mz_pg 227 43 = some (.aload_n 0, 0, 0, 0) := by decide +kernel
theorem gz_227_44 : mz_pg 227 44 = some (.getfield 70, 10, 13, 1226) := by decide +kernel
theorem gz_227_47 : mz_pg 227 47 = some (.iload 5, 0, 0, 0) := by decide +kernel
theorem gz_227_49 : mz_pg 227 49 = some (.iaload, 0, 0, 0) := by decide +kernel
theorem gz_227_50 : mz_pg 227 50 = some (.ifCond .lt 26, 0, 0, 0) := by decide +kernel
theorem gz_227_53 : mz_pg 227 53 = some (.aload_n 0, 0, 0, 0) := by decide +kernel
theorem gz_227_54 : mz_pg 227 54 = some (.getfield 77, 10, 15, 1228) := by decide +kernel
theorem gz_227_57 : mz_pg 227 57 = some (.iload_n 1, 0, 0, 0) := by decide +kernel
theorem gz_227_58 : mz_pg 227 58 = some (.aload_n 0, 0, 0, 0) := by decide +kernel
theorem gz_227_59 : mz_pg 227 59 = some (.getfield 70, 10, 13, 1226) := by decide +kernel
theorem gz_227_62 : mz_pg 227 62 = some (.iload 5, 0, 0, 0) := by decide +kernel
theorem gz_227_64 : mz_pg 227 64 = some (.iaload, 0, 0, 0) := by decide +kernel
theorem gz_227_65 : mz_pg 227 65 = some (.iload 6, 0, 0, 0) := by decide +kernel
theorem gz_227_67 : mz_pg 227 67 = some (.invokestatic 242, 1, 150, 1429) := by decide +kernel
theorem gz_227_70 : mz_pg 227 70 = some (.baload, 0, 0, 0) := by decide +kernel
theorem gz_227_71 : mz_pg 227 71 = some (.ifCond .ne 5, 0, 0, 0) := by decide +kernel
theorem gz_227_74 : mz_pg 227 74 = some (.iconst 2, 0, 0, 0) := by decide +kernel
theorem gz_227_75 : mz_pg 227 75 = some (.ireturn, 0, 0, 0) := by decide +kernel
theorem gz_227_76 : mz_pg 227 76 = some (.iconst 0, 0, 0, 0) := by decide +kernel
theorem gz_227_77 : mz_pg 227 77 = some (.istore 7, 0, 0, 0) := by decide +kernel
theorem gz_227_79 : mz_pg 227 79 = some (.iload 7, 0, 0, 0) := by decide +kernel
theorem gz_227_81 : mz_pg 227 81 = some (.iload_n 3, 0, 0, 0) := by decide +kernel
theorem gz_227_82 : mz_pg 227 82 = some (.if_icmp .ge 51, 0, 0, 0) := by decide +kernel
theorem gz_227_85 : mz_pg 227 85 = some (.aload_n 0, 0, 0, 0) := by decide +kernel
theorem gz_227_86 : mz_pg 227 86 = some (.getfield 73, 10, 14, 1227) := by decide +kernel
theorem gz_227_89 : mz_pg 227 89 = some (.iload 5, 0, 0, 0) := by decide +kernel
theorem gz_227_91 : mz_pg 227 91 = some (.baload, 0, 0, 0) := by decide +kernel
theorem gz_227_92 : mz_pg 227 92 = some (.ifCond .eq 41, 0, 0, 0) := by decide +kernel
theorem gz_227_95 : mz_pg 227 95 = some (.aload_n 0, 0, 0, 0) := by decide +kernel
theorem gz_227_96 : mz_pg 227 96 = some (.getfield 77, 10, 15, 1228) := by decide +kernel
theorem gz_227_99 : mz_pg 227 99 = some (.iload_n 1, 0, 0, 0) := by decide +kernel
theorem gz_227_100 : mz_pg 227 100 = some (.iload_n 2, 0, 0, 0) := by decide +kernel
theorem gz_227_101 : mz_pg 227 101 = some (.iload 7, 0, 0, 0) := by decide +kernel
theorem gz_227_103 : mz_pg 227 103 = some (.invokestatic 242, 1, 150, 1429) := by decide +kernel
theorem gz_227_106 : mz_pg 227 106 = some (.baload, 0, 0, 0) := by decide +kernel
theorem gz_227_107 : mz_pg 227 107 = some (.ifCond .eq 20, 0, 0, 0) := by decide +kernel
theorem gz_227_110 : mz_pg 227 110 = some (.aload_n 0, 0, 0, 0) := by decide +kernel
theorem gz_227_111 : mz_pg 227 111 = some (.iload_n 1, 0, 0, 0) := by decide +kernel
theorem gz_227_112 : mz_pg 227 112 = some (.iload_n 2, 0, 0, 0) := by decide +kernel
theorem gz_227_113 : mz_pg 227 113 = some (.iload 7, 0, 0, 0) := by decide +kernel
theorem gz_227_115 : mz_pg 227 115 = some (.iload 4, 0, 0, 0) := by decide +kernel
theorem gz_227_117 : mz_pg 227 117 = some (.invokevirtual 246, 1, 157, 1450) := by decide +kernel
theorem gz_227_120 : mz_pg 227 120 = some (.iload 6, 0, 0, 0) := by decide +kernel
theorem gz_227_122 : mz_pg 227 122 = some (.if_icmp .ne 5, 0, 0, 0) := by decide +kernel
theorem gz_227_125 : mz_pg 227 125 = some (.iconst 3, 0, 0, 0) := by decide +kernel
theorem gz_227_126 : mz_pg 227 126 = some (.ireturn, 0, 0, 0) := by decide +kernel
theorem gz_227_127 : mz_pg 227 127 = some (.iinc 7 1, 0, 0, 0) := by decide +kernel
theorem gz_227_130 : mz_pg 227 130 = some (.goto (-51), 0, 0, 0) := by decide +kernel
theorem gz_227_133 : mz_pg 227 133 = some (.iconst 0, 0, 0, 0) := by decide +kernel
theorem gz_227_134 : mz_pg 227 134 = some (.ireturn, 0, 0, 0) := by decide +kernel
theorem gz_228_0 : mz_pg 228 0 = some (.aload_n 0, 0, 0, 0) := by decide +kernel
theorem gz_228_1 : mz_pg 228 1 = some (.iconst 0, 0, 0, 0) := by decide +kernel
theorem gz_228_2 : mz_pg 228 2 = some (.putfield 1, 10, 0, 1213) := by decide +kernel
theorem gz_228_5 : mz_pg 228 5 = some (.aload_n 0, 0, 0, 0) := by decide +kernel
theorem gz_228_6 : mz_pg 228 6 = some (.iconst 0, 0, 0, 0) := by decide +kernel
theorem gz_228_7 : mz_pg 228 7 = some (.iload_n 1, 0, 0, 0) := by decide +kernel
theorem gz_228_8 : mz_pg 228 8 = some (.iload_n 2, 0, 0, 0) := by decide +kernel
theorem gz_228_9 : mz_pg 228 9 = some (.iload_n 3, 0, 0, 0) := by decide +kernel
theorem gz_228_10 : mz_pg 228 10 = some (.iload 4, 0, 0, 0) := by decide +kernel
theorem gz_228_12 : mz_pg 228 12 = some (.iload 5, 0, 0, 0) := by decide +kernel
theorem gz_228_14 : mz_pg 228 14 = some (.invokevirtual 424, 1, 208, 1619) := by decide +kernel
theorem gz_228_17 : mz_pg 228 17 = some (.ifCond .ne 5, 0, 0, 0) := by decide +kernel
theorem gz_228_20 : mz_pg 228 20 = some (.iconst (-1), 0, 0, 0) := by decide +kernel
theorem gz_228_21 : mz_pg 228 21 = some (.ireturn, 0, 0, 0) := by decide +kernel
theorem gz_228_22 : mz_pg 228 22 = some (.aload_n 0, 0, 0, 0) := by decide +kernel
theorem gz_228_23 : mz_pg 228 23 = some (.iload_n 2, 0, 0, 0) := by decide +kernel
theorem gz_228_24 : mz_pg 228 24 = some (.iload_n 3, 0, 0, 0) := by decide +kernel
theorem gz_228_25 : mz_pg 228 25 = some (.iload 4, 0, 0, 0) := by decide +kernel
theorem gz_228_27 : mz_pg 228 27 = some (.iload 5, 0, 0, 0) := by decide +kernel
theorem gz_228_29 : mz_pg 228 29 = some (.invokevirtual 403, 1, 210, 1625) := by decide +kernel
theorem gz_228_32 : mz_pg 228 32 = some (.aload_n 0, 0, 0, 0) := by decide +kernel
theorem gz_228_33 : mz_pg 228 33 = some (.iload_n 1, 0, 0, 0) := by decide +kernel
theorem gz_228_34 : mz_pg 228 34 = some (.iload_n 2, 0, 0, 0) := by decide +kernel
theorem gz_228_35 : mz_pg 228 35 = some (.iload_n 3, 0, 0, 0) := by decide +kernel
theorem gz_228_36 : mz_pg 228 36 = some (.iload 4, 0, 0, 0) := by decide +kernel
theorem gz_228_38 : mz_pg 228 38 = some (.iload 5, 0, 0, 0) := by decide +kernel
theorem gz_228_40 : mz_pg 228 40 = some (.invokevirtual 446, 1, 225, 1673) := by decide +kernel
theorem gz_228_43 : mz_pg 228 43 = some (.ifCond .ne 5, 0, 0, 0) := by decide +kernel
theorem gz_228_46 : mz_pg 228 46 = some (.iconst 1, 0, 0, 0) := by decide +kernel
theorem gz_228_47 : mz_pg 228 47 = some (.ireturn, 0, 0, 0) := by decide +kernel
theorem gz_228_48 : mz_pg 228 48 = some (.aload_n 0, 0, 0, 0) := by decide +kernel
theorem gz_228_49 : mz_pg 228 49 = some (.iconst 5, 0, 0, 0) := by decide +kernel
theorem gz_228_50 : mz_pg 228 50 = some (.iload_n 1, 0, 0, 0) := by decide +kernel
theorem gz_228_51 : mz_pg 228 51 = some (.invokevirtual 407, 1, 213, 1634) := by decide +kernel
theorem gz_228_54 : mz_pg 228 54 = some (.istore 6, 0, 0, 0) := by decide +kernel
theorem gz_228_56 : mz_pg 228 56 = some (.aload_n 0, 0, 0, 0) := by decide +kernel
theorem gz_228_57 : mz_pg 228 57 = some (.iconst 5, 0, 0, 0) := by decide +kernel
theorem gz_228_58 : mz_pg 228 58 = some (.invokevirtual 260, 1, 155, 1444) := by decide +kernel
theorem gz_228_61 : mz_pg 228 61 = some (.ifCond .eq 7, 0, 0, 0) := by decide +kernel
theorem gz_228_64 : mz_pg 228 64 = some (.iconst 0, 0, 0, 0) := by decide +kernel
theorem gz_228_65 : mz_pg 228 65 = some (.goto 4, 0, 0, 0) := by decide +kernel
theorem gz_228_68 : mz_pg 228 68 = some (.iconst 1, 0, 0, 0) := by decide +kernel
theorem gz_228_69 : mz_pg 228 69 = some (.iload 6, 0, 0, 0) := by decide +kernel
theorem gz_228_71 : mz_pg 228 71 = some (.ifCond .eq 7, 0, 0, 0) := by decide +kernel
theorem gz_228_74 : mz_pg 228 74 = some (.iconst 0, 0, 0, 0) := by decide +kernel
theorem gz_228_75 : mz_pg 228 75 = some (.goto 19, 0, 0, 0) := by decide +kernel
theorem gz_228_78 : mz_pg 228 78 = some (.aload_n 0, 0, 0, 0) := by decide +kernel
theorem gz_228_79 : mz_pg 228 79 = some (.getfield 349, 10, 37, 1250) := by decide +kernel
theorem gz_228_82 : mz_pg 228 82 = some (.aload_n 0, 0, 0, 0) := by decide +kernel
theorem gz_228_83 : mz_pg 228 83 = some (.getfield 385, 10, 46, 1259) := by decide +kernel
theorem gz_228_86 : mz_pg 228 86 = some (.if_icmp .eq 7, 0, 0, 0) := by decide +kernel
theorem gz_228_89 : mz_pg 228 89 = some (.iconst 2, 0, 0, 0) := by decide +kernel
theorem gz_228_90 : mz_pg 228 90 = some (.goto 4, 0, 0, 0) := by decide +kernel
theorem gz_228_93 : mz_pg 228 93 = some (.iconst 4, 0, 0, 0) := by decide +kernel
theorem gz_228_94 : mz_pg 228 94 = some (.iadd, 0, 0, 0) := by decide +kernel
theorem gz_228_95 : mz_pg 228 95 = some (.ireturn, 0, 0, 0) := by decide +kernel
theorem gz_229_0 : mz_pg 229 0 = some (.aload_n 0, 0, 0, 0) := by decide +kernel
theorem gz_229_1 : mz_pg 229 1 = some (.iconst 0, 0, 0, 0) := by decide +kernel
theorem gz_229_2 : mz_pg 229 2 = some (.putfield 1, 10, 0, 1213) := by decide +kernel
theorem gz_229_5 : mz_pg 229 5 = some (.aload_n 0, 0, 0, 0) := by decide +kernel
theorem gz_229_6 : mz_pg 229 6 = some (.iconst 0, 0, 0, 0) := by decide +kernel
theorem gz_229_7 : mz_pg 229 7 = some (.iload_n 1, 0, 0, 0) := by decide +kernel
theorem gz_229_8 : mz_pg 229 8 = some (.iconst 0, 0, 0, 0) := by decide +kernel
theorem gz_229_9 : mz_pg 229 9 = some (.iload_n 2, 0, 0, 0) := by decide +kernel
theorem gz_229_10 : mz_pg 229 10 = some (.iload_n 3, 0, 0, 0) := by decide +kernel
theorem gz_229_11 : mz_pg 229 11 = some (.iload 4, 0, 0, 0) := by decide +kernel
theorem gz_229_13 : mz_pg 229 13 = some (.invokevirtual 424, 1, 208, 1619) := by decide +kernel
theorem gz_229_16 : mz_pg 229 16 = some (.ifCond .eq 17, 0, 0, 0) := by decide +kernel
theorem gz_229_19 : mz_pg 229 19 = some (.aload_n 0, 0, 0, 0) := by decide +kernel
theorem gz_229_20 : mz_pg 229 20 = some (.iconst 0, 0, 0, 0) := by decide +kernel
theorem gz_229_21 : mz_pg 229 21 = some (.iload_n 1, 0, 0, 0) := by decide +kernel
theorem gz_229_22 : mz_pg 229 22 = some (.iconst 0, 0, 0, 0) := by decide +kernel
theorem gz_229_23 : mz_pg 229 23 = some (.iload_n 2, 0, 0, 0) := by decide +kernel
theorem gz_229_24 : mz_pg 229 24 = some (.iload_n 3, 0, 0, 0) := by decide +kernel
theorem gz_229_25 : mz_pg 229 25 = some (.iload 5, 0, 0, 0) := by decide +kernel
theorem gz_229_27 : mz_pg 229 27 = some (.invokevirtual 424, 1, 208, 1619) := by decide +kernel
theorem gz_229_30 : mz_pg 229 30 = some (.ifCond .ne 5, 0, 0, 0) := by decide +kernel
theorem gz_229_33 : mz_pg 229 33 = some (.iconst (-1), 0, 0, 0) := by decide +kernel
theorem gz_229_34 : mz_pg 229 34 = some (.ireturn, 0, 0, 0) := by decide +kernel
theorem gz_229_35 : mz_pg 229 35 = some (.aload_n 0, 0, 0, 0) := by decide +kernel
theorem gz_229_36 : mz_pg 229 36 = some (.iconst 0, 0, 0, 0) := by decide +kernel
theorem gz_229_37 : mz_pg 229 37 = some (.iconst 5, 0, 0, 0) := by decide +kernel
theorem gz_229_38 : mz_pg 229 38 = some (.invokevirtual 263, 1, 152, 1435) := by decide +kernel
theorem gz_229_41 : mz_pg 229 41 = some (.aload_n 0, 0, 0, 0) := by decide +kernel
theorem gz_229_42 : mz_pg 229 42 = some (.iconst 0, 0, 0, 0) := by decide +kernel
theorem gz_229_43 : mz_pg 229 43 = some (.bipush 6, 0, 0, 0) := by decide +kernel
theorem gz_229_45 : mz_pg 229 45 = some (.invokevirtual 263, 1, 152, 1435) := by decide +kernel
theorem gz_229_48 : mz_pg 229 48 = some (.aload_n 0, 0, 0, 0) := by decide +kernel
theorem gz_229_49 : mz_pg 229 49 = some (.iconst 5, 0, 0, 0) := by decide +kernel
theorem gz_229_50 : mz_pg 229 50 = some (.iload_n 1, 0, 0, 0) := by decide +kernel
theorem gz_229_51 : mz_pg 229 51 = some (.iconst 0, 0, 0, 0) := by decide +kernel
theorem gz_229_52 : mz_pg 229 52 = some (.iload_n 2, 0, 0, 0) := by decide +kernel
theorem gz_229_53 : mz_pg 229 53 = some (.iload_n 3, 0, 0, 0) := by decide +kernel
theorem gz_229_54 : mz_pg 229 54 = some (.iload 4, 0, 0, 0) := by decide +kernel
theorem gz_229_56 : mz_pg 229 56 = some (.invokevirtual 435, 1, 223, 1666) := by decide +kernel
theorem gz_229_59 : mz_pg 229 59 = some (.ifCond .lt 21, 0, 0, 0) := by decide +kernel
theorem gz_229_62 : mz_pg 229 62 = some (.aload_n 0, 0, 0, 0) := by decide +kernel
theorem gz_229_63 : mz_pg 229 63 = some (.iconst 5, 0, 0, 0) := by decide +kernel
theorem gz_229_64 : mz_pg 229 64 = some (.iload_n 1, 0, 0, 0) := by decide +kernel
theorem gz_229_65 : mz_pg 229 65 = some (.iconst 0, 0, 0, 0) := by decide +kernel
theorem gz_229_66 : mz_pg 229 66 = some (.iload_n 2, 0, 0, 0) := by decide +kernel
theorem gz_229_67 : mz_pg 229 67 = some (.iload_n 3, 0, 0, 0) := by decide +kernel
theorem gz_229_68 : mz_pg 229 68 = some (.iload 5, 0, 0, 0) := by decide +kernel
theorem gz_229_70 : mz_pg 229 70 = some (.invokevirtual 435, 1, 223, 1666) := by decide +kernel
theorem gz_229_73 : mz_pg 229 73 = some (.ifCond .lt 7, 0, 0, 0) := by decide +kernel
theorem gz_229_76 : mz_pg 229 76 = some (.iconst 1, 0, 0, 0) := by decide +kernel
theorem gz_229_77 : mz_pg 229 77 = some (.goto 4, 0, 0, 0) := by decide +kernel
theorem gz_229_80 : mz_pg 229 80 = some (.iconst 0, 0, 0, 0) := by decide +kernel
theorem gz_229_81 : mz_pg 229 81 = some (.istore 6, 0, 0, 0) := by decide +kernel
theorem gz_229_83 : mz_pg 229 83 = some (.iload 6, 0, 0, 0) := by decide +kernel
theorem gz_229_85 : mz_pg 229 85 = some (.ifCond .eq 32, 0, 0, 0) := by decide +kernel
theorem gz_229_88 : mz_pg 229 88 = some (.aload_n 0, 0, 0, 0) := by decide +kernel
theorem gz_229_89 : mz_pg 229 89 = some (.bipush 6, 0, 0, 0) := by decide +kernel
theorem gz_229_91 : mz_pg 229 91 = some (.iload_n 1, 0, 0, 0) := by decide +kernel
theorem gz_229_92 : mz_pg 229 92 = some (.iconst 0, 0, 0, 0) := by decide +kernel
theorem gz_229_93 : mz_pg 229 93 = some (.iload_n 2, 0, 0, 0) := by decide +kernel
theorem gz_229_94 : mz_pg 229 94 = some (.iload_n 3, 0, 0, 0) := by decide +kernel
theorem gz_229_95 : mz_pg 229 95 = some (.iload 5, 0, 0, 0) := by decide +kernel
theorem gz_229_97 : mz_pg 229 97 = some (.invokevirtual 435, 1, 223, 1666) := by decide +kernel
theorem gz_229_100 : mz_pg 229 100 = some (.ifCond .lt 17, 0, 0, 0) := by decide +kernel
theorem gz_229_103 : mz_pg 229 103 = some (.aload_n 0, 0, 0, 0) := by decide +kernel
theorem gz_229_104 : mz_pg 229 104 = some (.iconst 5, 0, 0, 0) := by decide +kernel
theorem gz_229_105 : mz_pg 229 105 = some (.bipush 6, 0, 0, 0) := by decide +kernel
theorem gz_229_107 : mz_pg 229 107 = some (.invokevirtual 453, 1, 230, 1690) := by decide +kernel
theorem gz_229_110 : mz_pg 229 110 = some (.ifCond .eq 7, 0, 0, 0) := by decide +kernel
theorem gz_229_113 : mz_pg 229 113 = some (.iconst 1, 0, 0, 0) := by decide +kernel
theorem gz_229_114 : mz_pg 229 114 = some (.goto 4, 0, 0, 0) := by decide +kernel
theorem gz_229_117 : mz_pg 229 117 = some (.iconst 0, 0, 0, 0) := by decide +kernel
theorem gz_229_118 : mz_pg 229 118 = some (.ireturn, 0, 0, 0) := by decide +kernel
theorem gz_230_0 : mz_pg 230 0 = some (.iconst 1, 0, 0, 0) := by decide +kernel
theorem gz_230_1 : mz_pg 230 1 = some (.istore_n 3, 0, 0, 0) := by decide +kernel
theorem gz_230_2 : mz_pg 230 2 = some (.iconst 0, 0, 0, 0) := by decide +kernel
theorem gz_230_3 : mz_pg 230 3 = some (.istore 4, 0, 0, 0) := by decide +kernel
theorem gz_230_5 : mz_pg 230 5 = some (.iload 4, 0, 0, 0) := by decide +kernel
theorem gz_230_7 : mz_pg 230 7 = some (.bipush 60, 0, 0, 0) := by decide +kernel
theorem gz_230_9 : mz_pg 230 9 = some (.if_icmp .ge 123, 0, 0, 0) := by decide +kernel
theorem gz_230_12 : mz_pg 230 12 = some (.iload_n 3, 0, 0, 0) := by decide +kernel
theorem gz_230_13 : mz_pg 230 13 = some (.ifCond .eq 34, 0, 0, 0) := by decide +kernel
theorem gz_230_16 : mz_pg 230 16 = some (.aload_n 0, 0, 0, 0) := by decide +kernel
theorem gz_230_17 : mz_pg 230 17 = some (.getfield 77, 10, 15, 1228) := by decide +kernel
theorem gz_230_20 : mz_pg 230 20 = some (.bipush 60, 0, 0, 0) := by decide +kernel
theorem gz_230_22 : mz_pg 230 22 = some (.iload_n 1, 0, 0, 0) := by decide +kernel
theorem gz_230_23 : mz_pg 230 23 = some (.imul, 0, 0, 0) := by decide +kernel
theorem gz_230_24 : mz_pg 230 24 = some (.iload 4, 0, 0, 0) := by decide +kernel
theorem gz_230_26 : mz_pg 230 26 = some (.iadd, 0, 0, 0) := by decide +kernel
theorem gz_230_27 : mz_pg 230 27 = some (.baload, 0, 0, 0) := by decide +kernel
theorem gz_230_28 : mz_pg 230 28 = some (.aload_n 0, 0, 0, 0) := by decide +kernel
theorem gz_230_29 : mz_pg 230 29 = some (.getfield 77, 10, 15, 1228) := by decide +kernel
theorem gz_230_32 : mz_pg 230 32 = some (.bipush 60, 0, 0, 0) := by decide +kernel
theorem gz_230_34 : mz_pg 230 34 = some (.iload_n 2, 0, 0, 0) := by decide +kernel
theorem gz_230_35 : mz_pg 230 35 = some (.imul, 0, 0, 0) := by decide +kernel
theorem gz_230_36 : mz_pg 230 36 = some (.iload 4, 0, 0, 0) := by decide +kernel
theorem gz_230_38 : mz_pg 230 38 = some (.iadd, 0, 0, 0) := by decide +kernel
theorem gz_230_39 : mz_pg 230 39 = some (.baload, 0, 0, 0) := by decide +kernel
theorem gz_230_40 : mz_pg 230 40 = some (.if_icmp .ne 7, 0, 0, 0) := by decide +kernel
theorem gz_230_43 : mz_pg 230 43 = some (.iconst 1, 0, 0, 0) := by decide +kernel
theorem gz_230_44 : mz_pg 230 44 = some (.goto 4, 0, 0, 0) := by decide +kernel
theorem gz_230_47 : mz_pg 230 47 = some (.iconst 0, 0, 0, 0) := by decide +kernel
theorem gz_230_48 : mz_pg 230 48 = some (.istore_n 3, 0, 0, 0) := by decide +kernel
theorem gz_230_49 : mz_pg 230 49 = some (.iconst 0, 0, 0, 0) := by decide +kernel
theorem gz_230_50 : mz_pg 230 50 = some (.istore 5, 0, 0, 0) := by decide +kernel
theorem gz_230_52 : mz_pg 230 52 = some (.iload 5, 0, 0, 0) := by decide +kernel
theorem gz_230_54 : mz_pg 230 54 = some (.iconst 4, 0, 0, 0) := by decide +kernel
theorem gz_230_55 : mz_pg 230 55 = some (.if_icmp .ge 71, 0, 0, 0) := by decide +kernel
theorem gz_230_58 : mz_pg 230 58 = some (.iload_n 3, 0, 0, 0) := by decide +kernel
theorem gz_230_59 : mz_pg 230 59 = some (.ifCond .eq 67, 0, 0, 0) := by decide +kernel
theorem gz_230_62 : mz_pg 230 62 = some (.aload_n 0, 0, 0, 0) := by decide +kernel
theorem gz_230_63 : mz_pg 230 63 = some (.getfield 77, 10, 15, 1228) := by decide +kernel
theorem gz_230_66 : mz_pg 230 66 = some (.bipush 60, 0, 0, 0) := by decide +kernel
theorem gz_230_68 : mz_pg 230 68 = some (.iload_n 1, 0, 0, 0) := by decide +kernel
theorem gz_230_69 : mz_pg 230 69 = some (.imul, 0, 0, 0) := by decide +kernel
theorem gz_230_70 : mz_pg 230 70 = some (.iload 4, 0, 0, 0) := by decide +kernel
theorem gz_230_72 : mz_pg 230 72 = some (.iadd, 0, 0, 0) := by decide +kernel
theorem gz_230_73 : mz_pg 230 73 = some (.baload, 0, 0, 0) := by decide +kernel
theorem gz_230_74 : mz_pg 230 74 = some (.ifCond .eq 52, 0, 0, 0) := by decide +kernel
theorem gz_230_77 : mz_pg 230 77 = some (.aload_n 0, 0, 0, 0) := by decide +kernel
theorem gz_230_78 : mz_pg 230 78 = some (.getfield 80, 10, 16, 1229) := by decide +kernel
theorem gz_230_81 : mz_pg 230 81 = some (.iconst 4, 0, 0, 0) := by decide +kernel
theorem gz_230_82 : mz_pg 230 82 = some (.bipush 60, 0, 0, 0) := by decide +kernel
theorem gz_230_84 : mz_pg 230 84 = some (.iload_n 1, 0, 0, 0) := by decide +kernel
theorem gz_230_85 : mz_pg 230 85 = some (.imul, 0, 0, 0) := by decide +kernel
theorem gz_230_86 : mz_pg 230 86 = some (.iload 4, 0, 0, 0) := by decide +kernel
theorem gz_230_88 : mz_pg 230 88 = some (.iadd, 0, 0, 0) := by decide +kernel
theorem gz_230_89 : mz_pg 230 89 = some (.imul, 0, 0, 0) := by decide +kernel
theorem gz_230_90 : mz_pg 230 90 = some (.iload 5, 0, 0, 0) := by decide +kernel
theorem gz_230_92 : mz_pg 230 92 = some (.iadd, 0, 0, 0) := by decide +kernel
theorem gz_230_93 : mz_pg 230 93 = some (.iaload, 0, 0, 0) := by decide +kernel
theorem gz_230_94 : mz_pg 230 94 = some (.aload_n 0, 0, 0, 0) := by decide +kernel
theorem gz_230_95 : mz_pg 230 95 = some (.getfield 80, 10, 16, 1229) := by decide +kernel
theorem gz_230_98 : mz_pg 230 98 = some (.iconst 4, 0, 0, 0) := by decide +kernel
theorem gz_230_99 : mz_pg 230 99 = some (.bipush 60, 0, 0, 0) := by decide +kernel
theorem gz_230_101 : mz_pg 230 101 = some (.iload_n 2, 0, 0, 0) := by decide +kernel
theorem gz_230_102 : mz_pg 230 102 = some (.imul, 0, 0, 0) := by decide +kernel
theorem gz_230_103 : mz_pg 230 103 = some (.iload 4, 0, 0, 0) := by decide +kernel
theorem gz_230_105 : mz_pg 230 105 = some (.iadd, 0, 0, 0) := by decide +kernel
theorem gz_230_106 : mz_pg 230 106 = some (.imul, 0, 0, 0) := by decide +kernel
theorem gz_230_107 : mz_pg 230 107 = some (.iload 5, 0, 0, 0) := by decide +kernel
theorem gz_230_109 : mz_pg 230 109 = some (.iadd, 0, 0, 0) := by decide +kernel
theorem gz_230_110 : mz_pg 230 110 = some (.iaload, 0, 0, 0) := by decide +kernel
theorem gz_230_111 : mz_pg 230 111 = some (.if_icmp .ne 7, 0, 0, 0) := by decide +kernel
theorem gz_230_114 : mz_pg 230 114 = some (.iconst 1, 0, 0, 0) := by decide +kernel
theorem gz_230_115 : mz_pg 230 115 = some (.goto 4, 0, 0, 0) := by decide +kernel
theorem gz_230_118 : mz_pg 230 118 = some (.iconst 0, 0, 0, 0) := by decide +kernel
theorem gz_230_119 : mz_pg 230 119 = some (.istore_n 3, 0, 0, 0) := by decide +kernel
theorem gz_230_120 : mz_pg 230 120 = some (.iinc 5 1, 0, 0, 0) := by decide +kernel
theorem gz_230_123 : mz_pg 230 123 = some (.goto (-71), 0, 0, 0) := by decide +kernel
theorem gz_230_126 : mz_pg 230 126 = some (.iinc 4 1, 0, 0, 0) := by decide +kernel
theorem gz_230_129 : mz_pg 230 129 = some (.goto (-124), 0, 0, 0) := by decide +kernel
theorem gz_230_132 : mz_pg 230 132 = some (.iload_n 3, 0, 0, 0) := by decide +kernel
theorem gz_230_133 : mz_pg 230 133 = some (.ireturn, 0, 0, 0) := by decide +kernel
theorem gz_231_0 : mz_pg 231 0 = some (.aload_n 0, 0, 0, 0) := by decide +kernel
theorem gz_231_1 : mz_pg 231 1 = some (.iconst 0, 0, 0, 0) := by decide +kernel
theorem gz_231_2 : mz_pg 231 2 = some (.putfield 1, 10, 0, 1213) := by decide +kernel
theorem gz_231_5 : mz_pg 231 5 = some (.aload_n 0, 0, 0, 0) := by decide +kernel
theorem gz_231_6 : mz_pg 231 6 = some (.iconst 0, 0, 0, 0) := by decide +kernel
theorem gz_231_7 : mz_pg 231 7 = some (.iload_n 1, 0, 0, 0) := by decide +kernel
theorem gz_231_8 : mz_pg 231 8 = some (.iconst 0, 0, 0, 0) := by decide +kernel
theorem gz_231_9 : mz_pg 231 9 = some (.iload_n 2, 0, 0, 0) := by decide +kernel
theorem gz_231_10 : mz_pg 231 10 = some (.iload_n 3, 0, 0, 0) := by decide +kernel
theorem gz_231_11 : mz_pg 231 11 = some (.iload 4, 0, 0, 0) := by decide +kernel
theorem gz_231_13 : mz_pg 231 13 = some (.invokevirtual 424, 1, 208, 1619) := by decide +kernel
theorem gz_231_16 : mz_pg 231 16 = some (.ifCond .ne 5, 0, 0, 0) := by decide +kernel
theorem gz_231_19 : mz_pg 231 19 = some (.iconst (-1), 0, 0, 0) := by decide +kernel
theorem gz_231_20 : mz_pg 231 20 = some (.ireturn, 0, 0, 0) := by decide +kernel
theorem gz_231_21 : mz_pg 231 21 = some (.aload_n 0, 0, 0, 0) := by decide +kernel
theorem gz_231_22 : mz_pg 231 22 = some (.getfield 137, 10, 39, 1252) := by decide +kernel
theorem gz_231_25 : mz_pg 231 25 = some (.bipush 8, 0, 0, 0) := by decide +kernel
theorem gz_231_27 : mz_pg 231 27 = some (.iload_n 2, 0, 0, 0) := by decide +kernel
theorem gz_231_28 : mz_pg 231 28 = some (.imul, 0, 0, 0) := by decide +kernel
theorem gz_231_29 : mz_pg 231 29 = some (.iload_n 3, 0, 0, 0) := by decide +kernel
theorem gz_231_30 : mz_pg 231 30 = some (.iadd, 0, 0, 0) := by decide +kernel
theorem gz_231_31 : mz_pg 231 31 = some (.iaload, 0, 0, 0) := by decide +kernel
theorem gz_231_32 : mz_pg 231 32 = some (.istore 5, 0, 0, 0) := by decide +kernel
theorem gz_231_34 : mz_pg 231 34 = some (.aload_n 0, 0, 0, 0) := by decide +kernel
theorem gz_231_35 : mz_pg 231 35 = some (.iconst 0, 0, 0, 0) := by decide +kernel
theorem gz_231_36 : mz_pg 231 36 = some (.iconst 5, 0, 0, 0) := by decide +kernel
theorem gz_231_37 : mz_pg 231 37 = some (.invokevirtual 263, 1, 152, 1435) := by decide +kernel
theorem gz_231_40 : mz_pg 231 40 = some (.aload_n 0, 0, 0, 0) := by decide +kernel
theorem gz_231_41 : mz_pg 231 41 = some (.iconst 5, 0, 0, 0) := by decide +kernel
theorem gz_231_42 : mz_pg 231 42 = some (.iload_n 1, 0, 0, 0) := by decide +kernel
theorem gz_231_43 : mz_pg 231 43 = some (.iconst 0, 0, 0, 0) := by decide +kernel
theorem gz_231_44 : mz_pg 231 44 = some (.iload_n 2, 0, 0, 0) := by decide +kernel
theorem gz_231_45 : mz_pg 231 45 = some (.iload_n 3, 0, 0, 0) := by decide +kernel
theorem gz_231_46 : mz_pg 231 46 = some (.iload 4, 0, 0, 0) := by decide +kernel
theorem gz_231_48 : mz_pg 231 48 = some (.invokevirtual 435, 1, 223, 1666) := by decide +kernel
theorem gz_231_51 : mz_pg 231 51 = some (.ifCond .lt 21, 0, 0, 0) := by decide +kernel
theorem gz_231_54 : mz_pg 231 54 = some (.aload_n 0, 0, 0, 0) := by decide +kernel
theorem gz_231_55 : mz_pg 231 55 = some (.iconst 5, 0, 0, 0) := by decide +kernel
theorem gz_231_56 : mz_pg 231 56 = some (.iload_n 1, 0, 0, 0) := by decide +kernel
theorem gz_231_57 : mz_pg 231 57 = some (.iconst 0, 0, 0, 0) := by decide +kernel
theorem gz_231_58 : mz_pg 231 58 = some (.iload_n 2, 0, 0, 0) := by decide +kernel
theorem gz_231_59 : mz_pg 231 59 = some (.iload_n 3, 0, 0, 0) := by decide +kernel
theorem gz_231_60 : mz_pg 231 60 = some (.iload 5, 0, 0, 0) := by decide +kernel
theorem gz_231_62 : mz_pg 231 62 = some (.invokevirtual 435, 1, 223, 1666) := by decide +kernel
theorem gz_231_65 : mz_pg 231 65 = some (.ifCond .lt 7, 0, 0, 0) := by decide +kernel
theorem gz_231_68 : mz_pg 231 68 = some (.iconst 1, 0, 0, 0) := by decide +kernel
theorem gz_231_69 : mz_pg 231 69 = some (.goto 4, 0, 0, 0) := by decide +kernel
theorem gz_231_72 : mz_pg 231 72 = some (.iconst 0, 0, 0, 0) := by decide +kernel
theorem gz_231_73 : mz_pg 231 73 = some (.istore 6, 0, 0, 0) := by decide +kernel
theorem gz_231_75 : mz_pg 231 75 = some (.iload 6, 0, 0, 0) := by decide +kernel
theorem gz_231_77 : mz_pg 231 77 = some (.ifCond .eq 16, 0, 0, 0) := by decide +kernel
theorem gz_231_80 : mz_pg 231 80 = some (.aload_n 0, 0, 0, 0) := by decide +kernel
theorem gz_231_81 : mz_pg 231 81 = some (.iconst 5, 0, 0, 0) := by decide +kernel
theorem gz_231_82 : mz_pg 231 82 = some (.iconst 0, 0, 0, 0) := by decide +kernel
theorem gz_231_83 : mz_pg 231 83 = some (.invokevirtual 453, 1, 230, 1690) := by decide +kernel
theorem gz_231_86 : mz_pg 231 86 = some (.ifCond .eq 7, 0, 0, 0) := by decide +kernel
theorem gz_231_89 : mz_pg 231 89 = some (.iconst 1, 0, 0, 0) := by decide +kernel
theorem gz_231_90 : mz_pg 231 90 = some (.goto 4, 0, 0, 0) := by decide +kernel
theorem gz_231_93 : mz_pg 231 93 = some (.iconst 0, 0, 0, 0) := by decide +kernel
theorem gz_231_94 : mz_pg 231 94 = some (.ireturn, 0, 0, 0) := by decide +kernel
theorem gz_232_0 : mz_pg 232 0 = some (.aload_n 0, 0, 0, 0) := by decide +kernel
theorem gz_232_1 : mz_pg 232 1 = some (.iconst 0, 0, 0, 0) := by decide +kernel
theorem gz_232_2 : mz_pg 232 2 = some (.putfield 1, 10, 0, 1213) := by decide +kernel
theorem gz_232_5 : mz_pg 232 5 = some (.iload_n 2, 0, 0, 0) := by decide +kernel
theorem gz_232_6 : mz_pg 232 6 = some (.ifCond .lt 50, 0, 0, 0) := by decide +kernel
theorem gz_232_9 : mz_pg 232 9 = some (.iload 5, 0, 0, 0) := by decide +kernel
theorem gz_232_11 : mz_pg 232 11 = some (.ifCond .lt 45, 0, 0, 0) := by decide +kernel
theorem gz_232_14 : mz_pg 232 14 = some (.aload_n 0, 0, 0, 0) := by decide +kernel
theorem gz_232_15 : mz_pg 232 15 = some (.iconst 0, 0, 0, 0) := by decide +kernel
theorem gz_232_16 : mz_pg 232 16 = some (.iload_n 1, 0, 0, 0) := by decide +kernel
theorem gz_232_17 : mz_pg 232 17 = some (.iconst 0, 0, 0, 0) := by decide +kernel
theorem gz_232_18 : mz_pg 232 18 = some (.iload_n 2, 0, 0, 0) := by decide +kernel
theorem gz_232_19 : mz_pg 232 19 = some (.bipush 8, 0, 0, 0) := by decide +kernel
theorem gz_232_21 : mz_pg 232 21 = some (.idiv, 0, 0, 0) := by decide +kernel
theorem gz_232_22 : mz_pg 232 22 = some (.iload_n 2, 0, 0, 0) := by decide +kernel
theorem gz_232_23 : mz_pg 232 23 = some (.bipush 8, 0, 0, 0) := by decide +kernel
theorem gz_232_25 : mz_pg 232 25 = some (.irem, 0, 0, 0) := by decide +kernel
theorem gz_232_26 : mz_pg 232 26 = some (.iload_n 3, 0, 0, 0) := by decide +kernel
theorem gz_232_27 : mz_pg 232 27 = some (.invokevirtual 424, 1, 208, 1619) := by decide +kernel
theorem gz_232_30 : mz_pg 232 30 = some (.ifCond .eq 26, 0, 0, 0) := by decide +kernel
theorem gz_232_33 : mz_pg 232 33 = some (.aload_n 0, 0, 0, 0) := by decide +kernel
theorem gz_232_34 : mz_pg 232 34 = some (.iconst 0, 0, 0, 0) := by decide +kernel
theorem gz_232_35 : mz_pg 232 35 = some (.iload 4, 0, 0, 0) := by decide +kernel
theorem gz_232_37 : mz_pg 232 37 = some (.iconst 0, 0, 0, 0) := by decide +kernel
theorem gz_232_38 : mz_pg 232 38 = some (.iload 5, 0, 0, 0) := by decide +kernel
theorem gz_232_40 : mz_pg 232 40 = some (.bipush 8, 0, 0, 0) := by decide +kernel
theorem gz_232_42 : mz_pg 232 42 = some (.idiv, 0, 0, 0) := by decide +kernel
theorem gz_232_43 : mz_pg 232 43 = some (.iload 5, 0, 0, 0) := by decide +kernel
theorem gz_232_45 : mz_pg 232 45 = some (.bipush 8, 0, 0, 0) := by decide +kernel
theorem gz_232_47 : mz_pg 232 47 = some (.irem, 0, 0, 0) := by decide +kernel
theorem gz_232_48 : mz_pg 232 48 = some (.iload 6, 0, 0, 0) := by decide +kernel
theorem gz_232_50 : mz_pg 232 50 = some (.invokevirtual 424, 1, 208, 1619) := by decide +kernel
theorem gz_232_53 : mz_pg 232 53 = some (.ifCond .ne 5, 0, 0, 0) := by decide +kernel
theorem gz_232_56 : mz_pg 232 56 = some (.iconst (-1), 0, 0, 0) := by decide +kernel
theorem gz_232_57 : mz_pg 232 57 = some (.ireturn, 0, 0, 0) := by decide +kernel
theorem gz_232_58 : mz_pg 232 58 = some (.aload_n 0, 0, 0, 0) := by decide +kernel
theorem gz_232_59 : mz_pg 232 59 = some (.iconst 5, 0, 0, 0) := by decide +kernel
theorem gz_232_60 : mz_pg 232 60 = some (.iload_n 1, 0, 0, 0) := by decide +kernel
theorem gz_232_61 : mz_pg 232 61 = some (.iload_n 2, 0, 0, 0) := by decide +kernel
theorem gz_232_62 : mz_pg 232 62 = some (.iload_n 3, 0, 0, 0) := by decide +kernel
theorem gz_232_63 : mz_pg 232 63 = some (.iload 4, 0, 0, 0) := by decide +kernel
theorem gz_232_65 : mz_pg 232 65 = some (.iload 5, 0, 0, 0) := by decide +kernel
theorem gz_232_67 : mz_pg 232 67 = some (.iload 6, 0, 0, 0) := by decide +kernel
theorem gz_232_69 : mz_pg 232 69 = some (.invokevirtual 456, 1, 233, 1701) := by decide +kernel
theorem gz_232_72 : mz_pg 232 72 = some (.istore 7, 0, 0, 0) := by decide +kernel
theorem gz_232_74 : mz_pg 232 74 = some (.aload_n 0, 0, 0, 0) := by decide +kernel
theorem gz_232_75 : mz_pg 232 75 = some (.bipush 6, 0, 0, 0) := by decide +kernel
theorem gz_232_77 : mz_pg 232 77 = some (.iload 4, 0, 0, 0) := by decide +kernel
theorem gz_232_79 : mz_pg 232 79 = some (.iload 5, 0, 0, 0) := by decide +kernel
theorem gz_232_81 : mz_pg 232 81 = some (.iload 6, 0, 0, 0) := by decide +kernel
theorem gz_232_83 : mz_pg 232 83 = some (.iload_n 1, 0, 0, 0) := by decide +kernel
theorem gz_232_84 : mz_pg 232 84 = some (.iload_n 2, 0, 0, 0) := by decide +kernel
theorem gz_232_85 : mz_pg 232 85 = some (.iload_n 3, 0, 0, 0) := by decide +kernel
theorem gz_232_86 : mz_pg 232 86 = some (.invokevirtual 456, 1, 233, 1701) := by decide +kernel
theorem gz_232_89 : mz_pg 232 89 = some (.istore 8, 0, 0, 0) := by decide +kernel
theorem gz_232_91 : mz_pg 232 91 = some (.iload 7, 0, 0, 0) := by decide +kernel
theorem gz_232_93 : mz_pg 232 93 = some (.ifCond .eq 26, 0, 0, 0) := by decide +kernel
theorem gz_232_96 : mz_pg 232 96 = some (.iload 8, 0, 0, 0) := by decide +kernel
theorem gz_232_98 : mz_pg 232 98 = some (.ifCond .eq 21, 0, 0, 0) := by decide +kernel
theorem gz_232_101 : mz_pg 232 101 = some (.aload_n 0, 0, 0, 0) := by decide +kernel
theorem gz_232_102 : mz_pg 232 102 = some (.iconst 5, 0, 0, 0) := by decide +kernel
theorem gz_232_103 : mz_pg 232 103 = some (.bipush 6, 0, 0, 0) := by decide +kernel
theorem gz_232_105 : mz_pg 232 105 = some (.invokevirtual 453, 1, 230, 1690) := by decide +kernel
theorem gz_232_108 : mz_pg 232 108 = some (.ifCond .eq 7, 0, 0, 0) := by decide +kernel
theorem gz_232_111 : mz_pg 232 111 = some (.iconst 0, 0, 0, 0) := by decide +kernel
theorem gz_232_112 : mz_pg 232 112 = some (.goto 26, 0, 0, 0) := by decide +kernel
theorem gz_232_115 : mz_pg 232 115 = some (.iconst 1, 0, 0, 0) := by decide +kernel
theorem gz_232_116 : mz_pg 232 116 = some (.goto 22, 0, 0, 0) := by decide +kernel
theorem gz_232_119 : mz_pg 232 119 = some (.iload 7, 0, 0, 0) := by decide +kernel
theorem gz_232_121 : mz_pg 232 121 = some (.ifCond .eq 7, 0, 0, 0) := by decide +kernel
theorem gz_232_124 : mz_pg 232 124 = some (.iconst 2, 0, 0, 0) := by decide +kernel
theorem gz_232_125 : mz_pg 232 125 = some (.goto 13, 0, 0, 0) := by decide +kernel
theorem gz_232_128 : mz_pg 232 128 = some (.iload 8, 0, 0, 0) := by decide +kernel
theorem gz_232_130 : mz_pg 232 130 = some (.ifCond .eq 7, 0, 0, 0) := by decide +kernel
theorem gz_232_133 : mz_pg 232 133 = some (.iconst 3, 0, 0, 0) := by decide +kernel
theorem gz_232_134 : mz_pg 232 134 = some (.goto 4, 0, 0, 0) := by decide +kernel
theorem gz_232_137 : mz_pg 232 137 = some (.iconst 4, 0, 0, 0) := by decide +kernel
theorem gz_232_138 : mz_pg 232 138 = some (.ireturn, 0, 0, 0) := by decide +kernel
theorem gz_233_0 : mz_pg 233 0 = some (.aload_n 0, 0, 0, 0) := by decide +kernel
theorem gz_233_1 : mz_pg 233 1 = some (.iconst 0, 0, 0, 0) := by decide +kernel
theorem gz_233_2 : mz_pg 233 2 = some (.iload_n 1, 0, 0, 0) := by decide +kernel
theorem gz_233_3 : mz_pg 233 3 = some (.invokevirtual 263, 1, 152, 1435) := by decide +kernel
theorem gz_233_6 : mz_pg 233 6 = some (.aload_n 0, 0, 0, 0) := by decide +kernel
theorem gz_233_7 : mz_pg 233 7 = some (.iload_n 1, 0, 0, 0) := by decide +kernel
theorem gz_233_8 : mz_pg 233 8 = some (.iload_n 2, 0, 0, 0) := by decide +kernel
theorem gz_233_9 : mz_pg 233 9 = some (.iconst 0, 0, 0, 0) := by decide +kernel
theorem gz_233_10 : mz_pg 233 10 = some (.iload_n 3, 0, 0, 0) := by decide +kernel
theorem gz_233_11 : mz_pg 233 11 = some (.bipush 8, 0, 0, 0) := by decide +kernel
theorem gz_233_13 : mz_pg 233 13 = some (.idiv, 0, 0, 0) := by decide +kernel
theorem gz_233_14 : mz_pg 233 14 = some (.iload_n 3, 0, 0, 0) := by decide +kernel
theorem gz_233_15 : mz_pg 233 15 = some (.bipush 8, 0, 0, 0) := by decide +kernel
theorem gz_233_17 : mz_pg 233 17 = some (.irem, 0, 0, 0) := by decide +kernel
theorem gz_233_18 : mz_pg 233 18 = some (.iload 4, 0, 0, 0) := by decide +kernel
theorem gz_233_20 : mz_pg 233 20 = some (.invokevirtual 435, 1, 223, 1666) := by decide +kernel
theorem gz_233_23 : mz_pg 233 23 = some (.ifCond .lt 30, 0, 0, 0) := by decide +kernel
theorem gz_233_26 : mz_pg 233 26 = some (.aload_n 0, 0, 0, 0) := by decide +kernel
theorem gz_233_27 : mz_pg 233 27 = some (.iload_n 1, 0, 0, 0) := by decide +kernel
theorem gz_233_28 : mz_pg 233 28 = some (.iload 5, 0, 0, 0) := by decide +kernel
theorem gz_233_30 : mz_pg 233 30 = some (.iconst 0, 0, 0, 0) := by decide +kernel
theorem gz_233_31 : mz_pg 233 31 = some (.iload 6, 0, 0, 0) := by decide +kernel
theorem gz_233_33 : mz_pg 233 33 = some (.bipush 8, 0, 0, 0) := by decide +kernel
theorem gz_233_35 : mz_pg 233 35 = some (.idiv, 0, 0, 0) := by decide +kernel
theorem gz_233_36 : mz_pg 233 36 = some (.iload 6, 0, 0, 0) := by decide +kernel
theorem gz_233_38 : mz_pg 233 38 = some (.bipush 8, 0, 0, 0) := by decide +kernel
theorem gz_233_40 : mz_pg 233 40 = some (.irem, 0, 0, 0) := by decide +kernel
theorem gz_233_41 : mz_pg 233 41 = some (.iload 7, 0, 0, 0) := by decide +kernel
theorem gz_233_43 : mz_pg 233 43 = some (.invokevirtual 435, 1, 223, 1666) := by decide +kernel
theorem gz_233_46 : mz_pg 233 46 = some (.ifCond .lt 7, 0, 0, 0) := by decide +kernel
theorem gz_233_49 : mz_pg 233 49 = some (.iconst 1, 0, 0, 0) := by decide +kernel
theorem gz_233_50 : mz_pg 233 50 = some (.goto 4, 0, 0, 0) := by decide +kernel
theorem gz_233_53 : mz_pg 233 53 = some (.iconst 0, 0, 0, 0) := by decide +kernel
theorem gz_233_54 : mz_pg 233 54 = some (.ireturn, 0, 0, 0) := by decide +kernel
theorem gz_234_0 : mz_pg 234 0 = some (.aload_n 0, 0, 0, 0) := by decide +kernel
theorem gz_234_1 : mz_pg 234 1 = some (.iconst 0, 0, 0, 0) := by decide +kernel
theorem gz_234_2 : mz_pg 234 2 = some (.putfield 1, 10, 0, 1213) := by decide +kernel
theorem gz_234_5 : mz_pg 234 5 = some (.aload_n 0, 0, 0, 0) := by decide +kernel
theorem gz_234_6 : mz_pg 234 6 = some (.iload_n 1, 0, 0, 0) := by decide +kernel
theorem gz_234_7 : mz_pg 234 7 = some (.invokevirtual 257, 1, 149, 1426) := by decide +kernel
theorem gz_234_10 : mz_pg 234 10 = some (.ifCond .eq 28, 0, 0, 0) := by decide +kernel
theorem gz_234_13 : mz_pg 234 13 = some (.iload_n 2, 0, 0, 0) := by decide +kernel
theorem gz_234_14 : mz_pg 234 14 = some (.ifCond .lt 24, 0, 0, 0) := by decide +kernel
theorem gz_234_17 : mz_pg 234 17 = some (.iload_n 2, 0, 0, 0) := by decide +kernel
theorem gz_234_18 : mz_pg 234 18 = some (.iconst 1, 0, 0, 0) := by decide +kernel
theorem gz_234_19 : mz_pg 234 19 = some (.aload_n 0, 0, 0, 0) := by decide +kernel
theorem gz_234_20 : mz_pg 234 20 = some (.iconst 0, 0, 0, 0) := by decide +kernel
theorem gz_234_21 : mz_pg 234 21 = some (.iload_n 1, 0, 0, 0) := by decide +kernel
theorem gz_234_22 : mz_pg 234 22 = some (.invokevirtual 267, 1, 151, 1432) := by decide +kernel
theorem gz_234_25 : mz_pg 234 25 = some (.ishl, 0, 0, 0) := by decide +kernel
theorem gz_234_26 : mz_pg 234 26 = some (.if_icmp .ge 12, 0, 0, 0) := by decide +kernel
theorem gz_234_29 : mz_pg 234 29 = some (.iload_n 3, 0, 0, 0) := by decide +kernel
theorem gz_234_30 : mz_pg 234 30 = some (.iconst 0, 0, 0, 0) := by decide +kernel
theorem gz_234_31 : mz_pg 234 31 = some (.iconst 3, 0, 0, 0) := by decide +kernel
theorem gz_234_32 : mz_pg 234 32 = some (.invokestatic 250, 1, 147, 1419) := by decide +kernel
theorem gz_234_35 : mz_pg 234 35 = some (.ifCond .ne 5, 0, 0, 0) := by decide +kernel
theorem gz_234_38 : mz_pg 234 38 = some (.iconst (-1), 0, 0, 0) := by decide +kernel
theorem gz_234_39 : mz_pg 234 39 = some (.ireturn, 0, 0, 0) := by decide +kernel
theorem gz_234_40 : mz_pg 234 40 = some (.iconst 0, 0, 0, 0) := by decide +kernel
theorem gz_234_41 : mz_pg 234 41 = some (.istore 4, 0, 0, 0) := by decide +kernel
theorem gz_234_43 : mz_pg 234 43 = some (.iconst (-1), 0, 0, 0) := by decide +kernel
theorem gz_234_44 : mz_pg 234 44 = some (.istore 5, 0, 0, 0) := by decide +kernel
theorem gz_234_46 : mz_pg 234 46 = some (.iconst 0, 0, 0, 0) := by decide +kernel
theorem gz_234_47 : mz_pg 234 47 = some (.istore 6, 0, 0, 0) := by decide +kernel
theorem gz_234_49 : mz_pg 234 49 = some (.iload 6, 0, 0, 0) := by decide +kernel
theorem gz_234_51 : mz_pg 234 51 = some (.sipush 600, 0, 0, 0) := by decide +kernel
theorem gz_234_54 : mz_pg 234 54 = some (.aload_n 0, 0, 0, 0) := by decide +kernel
theorem gz_234_55 : mz_pg 234 55 = some (.getfield 61, 10, 10, 1223) := by decide +kernel
theorem gz_234_58 : mz_pg 234 58 = some (.iload_n 1, 0, 0, 0) := by decide +kernel
theorem gz_234_59 : mz_pg 234 59 = some (.iaload, 0, 0, 0) := by decide +kernel
theorem gz_234_60 : mz_pg 234 60 = some (.imul, 0, 0, 0) := by decide +kernel
theorem gz_234_61 : mz_pg 234 61 = some (.if_icmp .ge 55, 0, 0, 0) := by decide +kernel
theorem gz_234_64 : mz_pg 234 64 = some (.aload_n 0, 0, 0, 0) := by decide +kernel
theorem gz_234_65 : mz_pg 234 65 = some (.iload_n 1, 0, 0, 0) := by decide +kernel
theorem gz_234_66 : mz_pg 234 66 = some (.iload_n 2, 0, 0, 0) := by decide +kernel
theorem gz_234_67 : mz_pg 234 67 = some (.iload 6, 0, 0, 0) := by decide +kernel
theorem gz_234_69 : mz_pg 234 69 = some (.sipush 600, 0, 0, 0) := by decide +kernel
theorem gz_234_72 : mz_pg 234 72 = some (.idiv, 0, 0, 0) := by decide +kernel
theorem gz_234_73 : mz_pg 234 73 = some (.iload 6, 0, 0, 0) := by decide +kernel
theorem gz_234_75 : mz_pg 234 75 = some (.sipush 200, 0, 0, 0) := by decide +kernel
theorem gz_234_78 : mz_pg 234 78 = some (.idiv, 0, 0, 0) := by decide +kernel
theorem gz_234_79 : mz_pg 234 79 = some (.iconst 3, 0, 0, 0) := by decide +kernel
theorem gz_234_80 : mz_pg 234 80 = some (.irem, 0, 0, 0) := by decide +kernel
theorem gz_234_81 : mz_pg 234 81 = some (.iload 6, 0, 0, 0) := by decide +kernel
theorem gz_234_83 : mz_pg 234 83 = some (.sipush 200, 0, 0, 0) := by decide +kernel
theorem gz_234_86 : mz_pg 234 86 = some (.irem, 0, 0, 0) := by decide +kernel
theorem gz_234_87 : mz_pg 234 87 = some (.invokevirtual 460, 1, 235, 1708) := by decide +kernel
theorem gz_234_90 : mz_pg 234 90 = some (.ifCond .eq 20, 0, 0, 0) := by decide +kernel
theorem gz_234_93 : mz_pg 234 93 = some (.iload 4, 0, 0, 0) := by decide +kernel
theorem gz_234_95 : mz_pg 234 95 = some (.ifCond .ne 8, 0, 0, 0) := by decide +kernel
theorem gz_234_98 : mz_pg 234 98 = some (.iload 6, 0, 0, 0) := by decide +kernel
theorem gz_234_100 : mz_pg 234 100 = some (.goto 5, 0, 0, 0) := by decide +kernel
theorem gz_234_103 : mz_pg 234 103 = some (.iload 5, 0, 0, 0) := by decide +kernel
theorem gz_234_105 : mz_pg 234 105 = some (.istore 5, 0, 0, 0) := by decide +kernel
theorem gz_234_107 : mz_pg 234 107 = some (.iinc 4 1, 0, 0, 0) := by decide +kernel
theorem gz_234_110 : mz_pg 234 110 = some (.iinc 6 1, 0, 0, 0) := by decide +kernel
theorem gz_234_113 : mz_pg 234 113 = some (.goto (-64), 0, 0, 0) := by decide +kernel
theorem gz_234_116 : mz_pg 234 116 = some (.iload_n 3, 0, 0, 0) := by decide +kernel
theorem gz_234_117 : mz_pg 234 117 = some (.ifCond .ne 8, 0, 0, 0) := by decide +kernel
theorem gz_234_120 : mz_pg 234 120 = some (.iload 4, 0, 0, 0) := by decide +kernel
theorem gz_234_122 : mz_pg 234 122 = some (.goto 48, 0, 0, 0) := by decide +kernel
theorem gz_234_125 : mz_pg 234 125 = some (.iload 4, 0, 0, 0) := by decide +kernel
theorem gz_234_127 : mz_pg 234 127 = some (.ifCond .ne 7, 0, 0, 0) := by decide +kernel
theorem gz_234_130 : mz_pg 234 130 = some (.iconst (-1), 0, 0, 0) := by decide +kernel
theorem gz_234_131 : mz_pg 234 131 = some (.goto 39, 0, 0, 0) := by decide +kernel
theorem gz_234_134 : mz_pg 234 134 = some (.iload_n 3, 0, 0, 0) := by decide +kernel
theorem gz_234_135 : mz_pg 234 135 = some (.iconst 1, 0, 0, 0) := by decide +kernel
theorem gz_234_136 : mz_pg 234 136 = some (.if_icmp .ne 12, 0, 0, 0) := by decide +kernel
theorem gz_234_139 : mz_pg 234 139 = some (.iload 5, 0, 0, 0) := by decide +kernel
theorem gz_234_141 : mz_pg 234 141 = some (.sipush 600, 0, 0, 0) := by decide +kernel
theorem gz_234_144 : mz_pg 234 144 = some (.idiv, 0, 0, 0) := by decide +kernel
theorem gz_234_145 : mz_pg 234 145 = some (.goto 25, 0, 0, 0) := by decide +kernel
theorem gz_234_148 : mz_pg 234 148 = some (.iload_n 3, 0, 0, 0) := by decide +kernel
theorem gz_234_149 : mz_pg 234 149 = some (.iconst 2, 0, 0, 0) := by decide +kernel
theorem gz_234_150 : mz_pg 234 150 = some (.if_icmp .ne 14, 0, 0, 0) := by decide +kernel
theorem gz_234_153 : mz_pg 234 153 = some (.iload 5, 0, 0, 0) := by decide +kernel
theorem gz_234_155 : mz_pg 234 155 = some (.sipush 200, 0, 0, 0) := by decide +kernel
theorem gz_234_158 : mz_pg 234 158 = some (.idiv, 0, 0, 0) := by decide +kernel
theorem gz_234_159 : mz_pg 234 159 = some (.iconst 3, 0, 0, 0) := by decide +kernel
theorem gz_234_160 : mz_pg 234 160 = some (.irem, 0, 0, 0) := by decide +kernel
theorem gz_234_161 : mz_pg 234 161 = some (.goto 9, 0, 0, 0) := by decide +kernel
theorem gz_234_164 : mz_pg 234 164 = some (.iload 5, 0, 0, 0) := by decide +kernel
theorem gz_234_166 : mz_pg 234 166 = some (.sipush 200, 0, 0, 0) := by decide +kernel
theorem gz_234_169 : mz_pg 234 169 = some (.irem, 0, 0, 0) := by decide +kernel
theorem gz_234_170 : mz_pg 234 170 = some (.ireturn, 0, 0, 0) := by decide +kernel
theorem gz_235_0 : mz_pg 235 0 = some (.iconst 0, 0, 0, 0) := by decide +kernel
theorem gz_235_1 : mz_pg 235 1 = some (.istore 6, 0, 0, 0) := by decide +kernel
theorem gz_235_3 : mz_pg 235 3 = some (.iconst 0, 0, 0, 0) := by decide +kernel
theorem gz_235_4 : mz_pg 235 4 = some (.istore 7, 0, 0, 0) := by decide +kernel
theorem gz_235_6 : mz_pg 235 6 = some (.iload 7, 0, 0, 0) := by decide +kernel
theorem gz_235_8 : mz_pg 235 8 = some (.bipush 20, 0, 0, 0) := by decide +kernel
theorem gz_235_10 : mz_pg 235 10 = some (.if_icmp .ge 115, 0, 0, 0) := by decide +kernel
theorem gz_235_13 : mz_pg 235 13 = some (.aload_n 0, 0, 0, 0) := by decide +kernel
theorem gz_235_14 : mz_pg 235 14 = some (.getfield 77, 10, 15, 1228) := by decide +kernel
theorem gz_235_17 : mz_pg 235 17 = some (.iconst 0, 0, 0, 0) := by decide +kernel
theorem gz_235_18 : mz_pg 235 18 = some (.iload_n 1, 0, 0, 0) := by decide +kernel
theorem gz_235_19 : mz_pg 235 19 = some (.iload 7, 0, 0, 0) := by decide +kernel
theorem gz_235_21 : mz_pg 235 21 = some (.invokestatic 242, 1, 150, 1429) := by decide +kernel
theorem gz_235_24 : mz_pg 235 24 = some (.baload, 0, 0, 0) := by decide +kernel
theorem gz_235_25 : mz_pg 235 25 = some (.ifCond .eq 94, 0, 0, 0) := by decide +kernel
theorem gz_235_28 : mz_pg 235 28 = some (.aload_n 0, 0, 0, 0) := by decide +kernel
theorem gz_235_29 : mz_pg 235 29 = some (.iconst 0, 0, 0, 0) := by decide +kernel
theorem gz_235_30 : mz_pg 235 30 = some (.iload_n 1, 0, 0, 0) := by decide +kernel
theorem gz_235_31 : mz_pg 235 31 = some (.iload 7, 0, 0, 0) := by decide +kernel
theorem gz_235_33 : mz_pg 235 33 = some (.iload_n 3, 0, 0, 0) := by decide +kernel
theorem gz_235_34 : mz_pg 235 34 = some (.invokevirtual 246, 1, 157, 1450) := by decide +kernel
theorem gz_235_37 : mz_pg 235 37 = some (.istore 8, 0, 0, 0) := by decide +kernel
theorem gz_235_39 : mz_pg 235 39 = some (.iload 4, 0, 0, 0) := by decide +kernel
theorem gz_235_41 : mz_pg 235 41 = some (.ifCond .ne 18, 0, 0, 0) := by decide +kernel
theorem gz_235_44 : mz_pg 235 44 = some (.iload 8, 0, 0, 0) := by decide +kernel
theorem gz_235_46 : mz_pg 235 46 = some (.iload 5, 0, 0, 0) := by decide +kernel
theorem gz_235_48 : mz_pg 235 48 = some (.if_icmp .ge 7, 0, 0, 0) := by decide +kernel
theorem gz_235_51 : mz_pg 235 51 = some (.iconst 1, 0, 0, 0) := by decide +kernel
theorem gz_235_52 : mz_pg 235 52 = some (.goto 40, 0, 0, 0) := by decide +kernel
theorem gz_235_55 : mz_pg 235 55 = some (.iconst 0, 0, 0, 0) := by decide +kernel
theorem gz_235_56 : mz_pg 235 56 = some (.goto 36, 0, 0, 0) := by decide +kernel
theorem gz_235_59 : mz_pg 235 59 = some (.iload 4, 0, 0, 0) := by decide +kernel
theorem gz_235_61 : mz_pg 235 61 = some (.iconst 1, 0, 0, 0) := by decide +kernel
theorem gz_235_62 : mz_pg 235 62 = some (.if_icmp .ne 18, 0, 0, 0) := by decide +kernel
theorem gz_235_65 : mz_pg 235 65 = some (.iload 8, 0, 0, 0) := by decide +kernel
theorem gz_235_67 : mz_pg 235 67 = some (.iload 5, 0, 0, 0) := by decide +kernel
theorem gz_235_69 : mz_pg 235 69 = some (.if_icmp .ne 7, 0, 0, 0) := by decide +kernel
theorem gz_235_72 : mz_pg 235 72 = some (.iconst 1, 0, 0, 0) := by decide +kernel
theorem gz_235_73 : mz_pg 235 73 = some (.goto 19, 0, 0, 0) := by decide +kernel
theorem gz_235_76 : mz_pg 235 76 = some (.iconst 0, 0, 0, 0) := by decide +kernel
theorem gz_235_77 : mz_pg 235 77 = some (.goto 15, 0, 0, 0) := by decide +kernel
theorem gz_235_80 : mz_pg 235 80 = some (.iload 8, 0, 0, 0) := by decide +kernel
theorem gz_235_82 : mz_pg 235 82 = some (.iload 5, 0, 0, 0) := by decide +kernel
theorem gz_235_84 : mz_pg 235 84 = some (.if_icmp .le 7, 0, 0, 0) := by decide +kernel
theorem gz_235_87 : mz_pg 235 87 = some (.iconst 1, 0, 0, 0) := by decide +kernel
theorem gz_235_88 : mz_pg 235 88 = some (.goto 4, 0, 0, 0) := by decide +kernel
theorem gz_235_91 : mz_pg 235 91 = some (.iconst 0, 0, 0, 0) := by decide +kernel
theorem gz_235_92 : mz_pg 235 92 = some (.istore 9, 0, 0, 0) := by decide +kernel
theorem gz_235_94 : mz_pg 235 94 = some (.iload 9, 0, 0, 0) := by decide +kernel
theorem gz_235_96 : mz_pg 235 96 = some (.iload_n 2, 0, 0, 0) := by decide +kernel
theorem gz_235_97 : mz_pg 235 97 = some (.iload 6, 0, 0, 0) := by decide +kernel
theorem gz_235_99 : mz_pg 235 99 = some (.ishr, 0, 0, 0) := by decide +kernel
theorem gz_235_100 : mz_pg 235 100 = some (.iconst 1, 0, 0, 0) := by decide +kernel
theorem gz_235_101 : mz_pg 235 101 = some (.iand, 0, 0, 0) := by decide +kernel
theorem gz_235_102 : mz_pg 235 102 = some (.iconst 1, 0, 0, 0) := by decide +kernel
theorem gz_235_103 : mz_pg 235 103 = some (.if_icmp .ne 7, 0, 0, 0) := by decide +kernel
theorem gz_235_106 : mz_pg 235 106 = some (.iconst 1, 0, 0, 0) := by decide +kernel
theorem gz_235_107 : mz_pg 235 107 = some (.goto 4, 0, 0, 0) := by decide +kernel
theorem gz_235_110 : mz_pg 235 110 = some (.iconst 0, 0, 0, 0) := by decide +kernel
theorem gz_235_111 : mz_pg 235 111 = some (.if_icmp .eq 5, 0, 0, 0) := by decide +kernel
theorem gz_235_114 : mz_pg 235 114 = some (.iconst 0, 0, 0, 0) := by decide +kernel
theorem gz_235_115 : mz_pg 235 115 = some (.ireturn, 0, 0, 0) := by decide +kernel
theorem gz_235_116 : mz_pg 235 116 = some (.iinc 6 1, 0, 0, 0) := by decide +kernel
theorem gz_235_119 : mz_pg 235 119 = some (.iinc 7 1, 0, 0, 0) := by decide +kernel
theorem gz_235_122 : mz_pg 235 122 = some (.goto (-116), 0, 0, 0) := by decide +kernel
theorem gz_235_125 : mz_pg 235 125 = some (.iconst 1, 0, 0, 0) := by decide +kernel
theorem gz_235_126 : mz_pg 235 126 = some (.ireturn, 0, 0, 0) := by decide +kernel
theorem gz_236_0 : mz_pg 236 0 = some (.aload_n 0, 0, 0, 0) := by decide +kernel
theorem gz_236_1 : mz_pg 236 1 = some (.iconst 0, 0, 0, 0) := by decide +kernel
theorem gz_236_2 : mz_pg 236 2 = some (.putfield 1, 10, 0, 1213) := by decide +kernel
theorem gz_236_5 : mz_pg 236 5 = some (.aload_n 0, 0, 0, 0) := by decide +kernel
theorem gz_236_6 : mz_pg 236 6 = some (.iload_n 1, 0, 0, 0) := by decide +kernel
theorem gz_236_7 : mz_pg 236 7 = some (.invokevirtual 373, 1, 193, 1570) := by decide +kernel
theorem gz_236_10 : mz_pg 236 10 = some (.ifCond .eq 11, 0, 0, 0) := by decide +kernel
theorem gz_236_13 : mz_pg 236 13 = some (.aload_n 0, 0, 0, 0) := by decide +kernel
theorem gz_236_14 : mz_pg 236 14 = some (.iload_n 2, 0, 0, 0) := by decide +kernel
theorem gz_236_15 : mz_pg 236 15 = some (.invokevirtual 257, 1, 149, 1426) := by decide +kernel
theorem gz_236_18 : mz_pg 236 18 = some (.ifCond .ne 5, 0, 0, 0) := by decide +kernel
theorem gz_236_21 : mz_pg 236 21 = some (.iconst (-1), 0, 0, 0) := by decide +kernel
theorem gz_236_22 : mz_pg 236 22 = some (.ireturn, 0, 0, 0) := by decide +kernel
theorem gz_236_23 : mz_pg 236 23 = some (.aload_n 0, 0, 0, 0) := by decide +kernel
theorem gz_236_24 : mz_pg 236 24 = some (.iconst 0, 0, 0, 0) := by decide +kernel
theorem gz_236_25 : mz_pg 236 25 = some (.iload_n 1, 0, 0, 0) := by decide +kernel
theorem gz_236_26 : mz_pg 236 26 = some (.invokevirtual 376, 1, 194, 1573) := by decide +kernel
theorem gz_236_29 : mz_pg 236 29 = some (.aload_n 0, 0, 0, 0) := by decide +kernel
theorem gz_236_30 : mz_pg 236 30 = some (.getfield 299, 10, 27, 1240) := by decide +kernel
theorem gz_236_33 : mz_pg 236 33 = some (.aload_n 0, 0, 0, 0) := by decide +kernel
theorem gz_236_34 : mz_pg 236 34 = some (.getfield 61, 10, 10, 1223) := by decide +kernel
theorem gz_236_37 : mz_pg 236 37 = some (.iload_n 2, 0, 0, 0) := by decide +kernel
theorem gz_236_38 : mz_pg 236 38 = some (.iaload, 0, 0, 0) := by decide +kernel
theorem gz_236_39 : mz_pg 236 39 = some (.if_icmp .le 5, 0, 0, 0) := by decide +kernel
theorem gz_236_42 : mz_pg 236 42 = some (.iconst 0, 0, 0, 0) := by decide +kernel
theorem gz_236_43 : mz_pg 236 43 = some (.ireturn, 0, 0, 0) := by decide +kernel
theorem gz_236_44 : mz_pg 236 44 = some (.aload_n 0, 0, 0, 0) := by decide +kernel
theorem gz_236_45 : mz_pg 236 45 = some (.iconst (-1), 0, 0, 0) := by decide +kernel
theorem gz_236_46 : mz_pg 236 46 = some (.iconst (-1), 0, 0, 0) := by decide +kernel
theorem gz_236_47 : mz_pg 236 47 = some (.iconst (-1), 0, 0, 0) := by decide +kernel
theorem gz_236_48 : mz_pg 236 48 = some (.iconst (-1), 0, 0, 0) := by decide +kernel
theorem gz_236_49 : mz_pg 236 49 = some (.invokevirtual 403, 1, 210, 1625) := by decide +kernel
theorem gz_236_52 : mz_pg 236 52 = some (.iconst 0, 0, 0, 0) := by decide +kernel
theorem gz_236_53 : mz_pg 236 53 = some (.istore_n 3, 0, 0, 0) := by decide +kernel
theorem gz_236_54 : mz_pg 236 54 = some (.iload_n 3, 0, 0, 0) := by decide +kernel
theorem gz_236_55 : mz_pg 236 55 = some (.sipush 1024, 0, 0, 0) := by decide +kernel
theorem gz_236_58 : mz_pg 236 58 = some (.if_icmp .ge 16, 0, 0, 0) := by decide +kernel
theorem gz_236_61 : mz_pg 236 61 = some (.aload_n 0, 0, 0, 0) := by decide +kernel
theorem gz_236_62 : mz_pg 236 62 = some (.getfield 185, 10, 58, 1271) := by decide +kernel
theorem gz_236_65 : mz_pg 236 65 = some (.iload_n 3, 0, 0, 0) := by decide +kernel
theorem gz_236_66 : mz_pg 236 66 = some (.iconst (-1), 0, 0, 0) := by decide +kernel
theorem gz_236_67 : mz_pg 236 67 = some (.iastore, 0, 0, 0) := by decide +kernel
theorem gz_236_68 : mz_pg 236 68 = some (.iinc 3 1, 0, 0, 0) := by decide +kernel
theorem gz_236_71 : mz_pg 236 71 = some (.goto (-17), 0, 0, 0) := by decide +kernel
theorem gz_236_74 : mz_pg 236 74 = some (.aload_n 0, 0, 0, 0) := by decide +kernel
theorem gz_236_75 : mz_pg 236 75 = some (.iload_n 2, 0, 0, 0) := by decide +kernel
theorem gz_236_76 : mz_pg 236 76 = some (.iconst 1, 0, 0, 0) := by decide +kernel
theorem gz_236_77 : mz_pg 236 77 = some (.aload_n 0, 0, 0, 0) := by decide +kernel
theorem gz_236_78 : mz_pg 236 78 = some (.iconst 0, 0, 0, 0) := by decide +kernel
theorem gz_236_79 : mz_pg 236 79 = some (.iload_n 2, 0, 0, 0) := by decide +kernel
theorem gz_236_80 : mz_pg 236 80 = some (.invokevirtual 267, 1, 151, 1432) := by decide +kernel
theorem gz_236_83 : mz_pg 236 83 = some (.ishl, 0, 0, 0) := by decide +kernel
theorem gz_236_84 : mz_pg 236 84 = some (.iconst 1, 0, 0, 0) := by decide +kernel
theorem gz_236_85 : mz_pg 236 85 = some (.isub, 0, 0, 0) := by decide +kernel
theorem gz_236_86 : mz_pg 236 86 = some (.invokevirtual 469, 1, 237, 1715) := by decide +kernel
theorem gz_236_89 : mz_pg 236 89 = some (.istore_n 3, 0, 0, 0) := by decide +kernel
theorem gz_236_90 : mz_pg 236 90 = some (.iconst 0, 0, 0, 0) := by decide +kernel
theorem gz_236_91 : mz_pg 236 91 = some (.istore 4, 0, 0, 0) := by decide +kernel
theorem gz_236_93 : mz_pg 236 93 = some (.iload 4, 0, 0, 0) := by decide +kernel
theorem gz_236_95 : mz_pg 236 95 = some (.sipush 600, 0, 0, 0) := by decide +kernel
theorem gz_236_98 : mz_pg 236 98 = some (.aload_n 0, 0, 0, 0) := by decide +kernel
theorem gz_236_99 : mz_pg 236 99 = some (.getfield 61, 10, 10, 1223) := by decide +kernel
theorem gz_236_102 : mz_pg 236 102 = some (.iload_n 2, 0, 0, 0) := by decide +kernel
theorem gz_236_103 : mz_pg 236 103 = some (.iaload, 0, 0, 0) := by decide +kernel
theorem gz_236_104 : mz_pg 236 104 = some (.imul, 0, 0, 0) := by decide +kernel
theorem gz_236_105 : mz_pg 236 105 = some (.if_icmp .ge 42, 0, 0, 0) := by decide +kernel
theorem gz_236_108 : mz_pg 236 108 = some (.iload_n 3, 0, 0, 0) := by decide +kernel
theorem gz_236_109 : mz_pg 236 109 = some (.aload_n 0, 0, 0, 0) := by decide +kernel
theorem gz_236_110 : mz_pg 236 110 = some (.iload_n 2, 0, 0, 0) := by decide +kernel
theorem gz_236_111 : mz_pg 236 111 = some (.aload_n 0, 0, 0, 0) := by decide +kernel
theorem gz_236_112 : mz_pg 236 112 = some (.iload_n 2, 0, 0, 0) := by decide +kernel
theorem gz_236_113 : mz_pg 236 113 = some (.iload 4, 0, 0, 0) := by decide +kernel
theorem gz_236_115 : mz_pg 236 115 = some (.sipush 600, 0, 0, 0) := by decide +kernel
theorem gz_236_118 : mz_pg 236 118 = some (.idiv, 0, 0, 0) := by decide +kernel
theorem gz_236_119 : mz_pg 236 119 = some (.iload 4, 0, 0, 0) := by decide +kernel
theorem gz_236_121 : mz_pg 236 121 = some (.sipush 200, 0, 0, 0) := by decide +kernel
theorem gz_236_124 : mz_pg 236 124 = some (.idiv, 0, 0, 0) := by decide +kernel
theorem gz_236_125 : mz_pg 236 125 = some (.iconst 3, 0, 0, 0) := by decide +kernel
theorem gz_236_126 : mz_pg 236 126 = some (.irem, 0, 0, 0) := by decide +kernel
theorem gz_236_127 : mz_pg 236 127 = some (.iload 4, 0, 0, 0) := by decide +kernel
theorem gz_236_129 : mz_pg 236 129 = some (.sipush 200, 0, 0, 0) := by decide +kernel
theorem gz_236_132 : mz_pg 236 132 = some (.irem, 0, 0, 0) := by decide +kernel
theorem gz_236_133 : mz_pg 236 133 = some (.invokevirtual 472, 1, 240, 1724) := by decide +kernel
theorem gz_236_136 : mz_pg 236 136 = some (.invokevirtual 469, 1, 237, 1715) := by decide +kernel
theorem gz_236_139 : mz_pg 236 139 = some (.iadd, 0, 0, 0) := by decide +kernel
theorem gz_236_140 : mz_pg 236 140 = some (.istore_n 3, 0, 0, 0) := by decide +kernel
theorem gz_236_141 : mz_pg 236 141 = some (.iinc 4 1, 0, 0, 0) := by decide +kernel
theorem gz_236_144 : mz_pg 236 144 = some (.goto (-51), 0, 0, 0) := by decide +kernel
theorem gz_236_147 : mz_pg 236 147 = some (.iload_n 3, 0, 0, 0) := by decide +kernel
theorem gz_236_148 : mz_pg 236 148 = some (.ireturn, 0, 0, 0) := by decide +kernel
theorem gz_237_0 : mz_pg 237 0 = some (.iconst 0, 0, 0, 0) := by decide +kernel
theorem gz_237_1 : mz_pg 237 1 = some (.istore_n 3, 0, 0, 0) := by decide +kernel
theorem gz_237_2 : mz_pg 237 2 = some (.iconst 0, 0, 0, 0) := by decide +kernel
theorem gz_237_3 : mz_pg 237 3 = some (.istore 4, 0, 0, 0) := by decide +kernel
theorem gz_237_5 : mz_pg 237 5 = some (.iload 4, 0, 0, 0) := by decide +kernel
theorem gz_237_7 : mz_pg 237 7 = some (.bipush 10, 0, 0, 0) := by decide +kernel
theorem gz_237_9 : mz_pg 237 9 = some (.if_icmp .ge 18, 0, 0, 0) := by decide +kernel
theorem gz_237_12 : mz_pg 237 12 = some (.iload_n 3, 0, 0, 0) := by decide +kernel
theorem gz_237_13 : mz_pg 237 13 = some (.iload_n 2, 0, 0, 0) := by decide +kernel
theorem gz_237_14 : mz_pg 237 14 = some (.iload 4, 0, 0, 0) := by decide +kernel
theorem gz_237_16 : mz_pg 237 16 = some (.ishr, 0, 0, 0) := by decide +kernel
theorem gz_237_17 : mz_pg 237 17 = some (.iconst 1, 0, 0, 0) := by decide +kernel
theorem gz_237_18 : mz_pg 237 18 = some (.iand, 0, 0, 0) := by decide +kernel
theorem gz_237_19 : mz_pg 237 19 = some (.iadd, 0, 0, 0) := by decide +kernel
theorem gz_237_20 : mz_pg 237 20 = some (.istore_n 3, 0, 0, 0) := by decide +kernel
theorem gz_237_21 : mz_pg 237 21 = some (.iinc 4 1, 0, 0, 0) := by decide +kernel
theorem gz_237_24 : mz_pg 237 24 = some (.goto (-19), 0, 0, 0) := by decide +kernel
theorem gz_237_27 : mz_pg 237 27 = some (.iload_n 3, 0, 0, 0) := by decide +kernel
theorem gz_237_28 : mz_pg 237 28 = some (.aload_n 0, 0, 0, 0) := by decide +kernel
theorem gz_237_29 : mz_pg 237 29 = some (.getfield 385, 10, 46, 1259) := by decide +kernel
theorem gz_237_32 : mz_pg 237 32 = some (.if_icmp .eq 5, 0, 0, 0) := by decide +kernel
theorem gz_237_35 : mz_pg 237 35 = some (.iconst 0, 0, 0, 0) := by decide +kernel
theorem gz_237_36 : mz_pg 237 36 = some (.ireturn, 0, 0, 0) := by decide +kernel
theorem gz_237_37 : mz_pg 237 37 = some (.aload_n 0, 0, 0, 0) := by decide +kernel
theorem gz_237_38 : mz_pg 237 38 = some (.getfield 185, 10, 58, 1271) := by decide +kernel
theorem gz_237_41 : mz_pg 237 41 = some (.iload_n 2, 0, 0, 0) := by decide +kernel
theorem gz_237_42 : mz_pg 237 42 = some (.iaload, 0, 0, 0) := by decide +kernel
theorem gz_237_43 : mz_pg 237 43 = some (.ifCond .ge 17, 0, 0, 0) := by decide +kernel
theorem gz_237_46 : mz_pg 237 46 = some (.aload_n 0, 0, 0, 0) := by decide +kernel
theorem gz_237_47 : mz_pg 237 47 = some (.getfield 185, 10, 58, 1271) := by decide +kernel
theorem gz_237_50 : mz_pg 237 50 = some (.iload_n 2, 0, 0, 0) := by decide +kernel
theorem gz_237_51 : mz_pg 237 51 = some (.aload_n 0, 0, 0, 0) := by decide +kernel
theorem gz_237_52 : mz_pg 237 52 = some (.iload_n 1, 0, 0, 0) := by decide +kernel
theorem gz_237_53 : mz_pg 237 53 = some (.iload_n 2, 0, 0, 0) := by decide +kernel
theorem gz_237_54 : mz_pg 237 54 = some (.iconst 0, 0, 0, 0) := by decide +kernel
theorem gz_237_55 : mz_pg 237 55 = some (.iconst 0, 0, 0, 0) := by decide +kernel
theorem gz_237_56 : mz_pg 237 56 = some (.invokevirtual 466, 1, 238, 1718) := by decide +kernel
theorem gz_237_59 : mz_pg 237 59 = some (.iastore, 0, 0, 0) := by decide +kernel
theorem gz_237_60 : mz_pg 237 60 = some (.aload_n 0, 0, 0, 0) := by decide +kernel
theorem gz_237_61 : mz_pg 237 61 = some (.getfield 185, 10, 58, 1271) := by decide +kernel
theorem gz_237_64 : mz_pg 237 64 = some (.iload_n 2, 0, 0, 0) := by decide +kernel
theorem gz_237_65 : mz_pg 237 65 = some (.iaload, 0, 0, 0) := by decide +kernel
theorem gz_237_66 : mz_pg 237 66 = some (.ireturn, 0, 0, 0) := by decide +kernel
theorem gz_238_0 : mz_pg 238 0 = some (.iload_n 3, 0, 0, 0) := by decide +kernel
theorem gz_238_1 : mz_pg 238 1 = some (.aload_n 0, 0, 0, 0) := by decide +kernel
theorem gz_238_2 : mz_pg 238 2 = some (.getfield 299, 10, 27, 1240) := by decide +kernel
theorem gz_238_5 : mz_pg 238 5 = some (.if_icmp .ne 18, 0, 0, 0) := by decide +kernel
theorem gz_238_8 : mz_pg 238 8 = some (.aload_n 0, 0, 0, 0) := by decide +kernel
theorem gz_238_9 : mz_pg 238 9 = some (.iload_n 1, 0, 0, 0) := by decide +kernel
theorem gz_238_10 : mz_pg 238 10 = some (.iload_n 2, 0, 0, 0) := by decide +kernel
theorem gz_238_11 : mz_pg 238 11 = some (.invokevirtual 463, 1, 239, 1721) := by decide +kernel
theorem gz_238_14 : mz_pg 238 14 = some (.ifCond .eq 7, 0, 0, 0) := by decide +kernel
theorem gz_238_17 : mz_pg 238 17 = some (.iconst 1, 0, 0, 0) := by decide +kernel
theorem gz_238_18 : mz_pg 238 18 = some (.goto 4, 0, 0, 0) := by decide +kernel
theorem gz_238_21 : mz_pg 238 21 = some (.iconst 0, 0, 0, 0) := by decide +kernel
theorem gz_238_22 : mz_pg 238 22 = some (.ireturn, 0, 0, 0) := by decide +kernel
theorem gz_238_23 : mz_pg 238 23 = some (.iconst 0, 0, 0, 0) := by decide +kernel
theorem gz_238_24 : mz_pg 238 24 = some (.istore 5, 0, 0, 0) := by decide +kernel
theorem gz_238_26 : mz_pg 238 26 = some (.iconst 0, 0, 0, 0) := by decide +kernel
theorem gz_238_27 : mz_pg 238 27 = some (.istore 6, 0, 0, 0) := by decide +kernel
theorem gz_238_29 : mz_pg 238 29 = some (.iload 6, 0, 0, 0) := by decide +kernel
theorem gz_238_31 : mz_pg 238 31 = some (.aload_n 0, 0, 0, 0) := by decide +kernel
theorem gz_238_32 : mz_pg 238 32 = some (.getfield 61, 10, 10, 1223) := by decide +kernel
theorem gz_238_35 : mz_pg 238 35 = some (.iload_n 1, 0, 0, 0) := by decide +kernel
theorem gz_238_36 : mz_pg 238 36 = some (.iaload, 0, 0, 0) := by decide +kernel
theorem gz_238_37 : mz_pg 238 37 = some (.if_icmp .ge 48, 0, 0, 0) := by decide +kernel
theorem gz_238_40 : mz_pg 238 40 = some (.iload 4, 0, 0, 0) := by decide +kernel
theorem gz_238_42 : mz_pg 238 42 = some (.iload 6, 0, 0, 0) := by decide +kernel
theorem gz_238_44 : mz_pg 238 44 = some (.ishr, 0, 0, 0) := by decide +kernel
theorem gz_238_45 : mz_pg 238 45 = some (.iconst 1, 0, 0, 0) := by decide +kernel
theorem gz_238_46 : mz_pg 238 46 = some (.iand, 0, 0, 0) := by decide +kernel
theorem gz_238_47 : mz_pg 238 47 = some (.ifCond .ne 32, 0, 0, 0) := by decide +kernel
theorem gz_238_50 : mz_pg 238 50 = some (.aload_n 0, 0, 0, 0) := by decide +kernel
theorem gz_238_51 : mz_pg 238 51 = some (.getfield 179, 10, 56, 1269) := by decide +kernel
theorem gz_238_54 : mz_pg 238 54 = some (.iload_n 3, 0, 0, 0) := by decide +kernel
theorem gz_238_55 : mz_pg 238 55 = some (.iload 6, 0, 0, 0) := by decide +kernel
theorem gz_238_57 : mz_pg 238 57 = some (.iastore, 0, 0, 0) := by decide +kernel
theorem gz_238_58 : mz_pg 238 58 = some (.iload 5, 0, 0, 0) := by decide +kernel
theorem gz_238_60 : mz_pg 238 60 = some (.aload_n 0, 0, 0, 0) := by decide +kernel
theorem gz_238_61 : mz_pg 238 61 = some (.iload_n 1, 0, 0, 0) := by decide +kernel
theorem gz_238_62 : mz_pg 238 62 = some (.iload_n 2, 0, 0, 0) := by decide +kernel
theorem gz_238_63 : mz_pg 238 63 = some (.iload_n 3, 0, 0, 0) := by decide +kernel
theorem gz_238_64 : mz_pg 238 64 = some (.iconst 1, 0, 0, 0) := by decide +kernel
theorem gz_238_65 : mz_pg 238 65 = some (.iadd, 0, 0, 0) := by decide +kernel
theorem gz_238_66 : mz_pg 238 66 = some (.iload 4, 0, 0, 0) := by decide +kernel
theorem gz_238_68 : mz_pg 238 68 = some (.iconst 1, 0, 0, 0) := by decide +kernel
theorem gz_238_69 : mz_pg 238 69 = some (.iload 6, 0, 0, 0) := by decide +kernel
theorem gz_238_71 : mz_pg 238 71 = some (.ishl, 0, 0, 0) := by decide +kernel
theorem gz_238_72 : mz_pg 238 72 = some (.ior, 0, 0, 0) := by decide +kernel
theorem gz_238_73 : mz_pg 238 73 = some (.invokevirtual 466, 1, 238, 1718) := by decide +kernel
theorem gz_238_76 : mz_pg 238 76 = some (.iadd, 0, 0, 0) := by decide +kernel
theorem gz_238_77 : mz_pg 238 77 = some (.istore 5, 0, 0, 0) := by decide +kernel
theorem gz_238_79 : mz_pg 238 79 = some (.iinc 6 1, 0, 0, 0) := by decide +kernel
theorem gz_238_82 : mz_pg 238 82 = some (.goto (-53), 0, 0, 0) := by decide +kernel
theorem gz_238_85 : mz_pg 238 85 = some (.iload 5, 0, 0, 0) := by decide +kernel
theorem gz_238_87 : mz_pg 238 87 = some (.ireturn, 0, 0, 0) := by decide +kernel
theorem gz_239_0 : mz_pg 239 0 = some (.iconst 0, 0, 0, 0) := by decide +kernel
theorem gz_239_1 : mz_pg 239 1 = some (.istore_n 3, 0, 0, 0) := by decide +kernel
theorem gz_239_2 : mz_pg 239 2 = some (.iconst 0, 0, 0, 0) := by decide +kernel
theorem gz_239_3 : mz_pg 239 3 = some (.istore 4, 0, 0, 0) := by decide +kernel
theorem gz_239_5 : mz_pg 239 5 = some (.iconst 0, 0, 0, 0) := by decide +kernel
theorem gz_239_6 : mz_pg 239 6 = some (.istore 5, 0, 0, 0) := by decide +kernel
theorem gz_239_8 : mz_pg 239 8 = some (.iload 5, 0, 0, 0) := by decide +kernel
theorem gz_239_10 : mz_pg 239 10 = some (.bipush 20, 0, 0, 0) := by decide +kernel
theorem gz_239_12 : mz_pg 239 12 = some (.if_icmp .ge 48, 0, 0, 0) := by decide +kernel
theorem gz_239_15 : mz_pg 239 15 = some (.aload_n 0, 0, 0, 0) := by decide +kernel
theorem gz_239_16 : mz_pg 239 16 = some (.getfield 77, 10, 15, 1228) := by decide +kernel
theorem gz_239_19 : mz_pg 239 19 = some (.iconst 0, 0, 0, 0) := by decide +kernel
theorem gz_239_20 : mz_pg 239 20 = some (.iload_n 1, 0, 0, 0) := by decide +kernel
theorem gz_239_21 : mz_pg 239 21 = some (.iload 5, 0, 0, 0) := by decide +kernel
theorem gz_239_23 : mz_pg 239 23 = some (.invokestatic 242, 1, 150, 1429) := by decide +kernel
theorem gz_239_26 : mz_pg 239 26 = some (.baload, 0, 0, 0) := by decide +kernel
theorem gz_239_27 : mz_pg 239 27 = some (.ifCond .eq 27, 0, 0, 0) := by decide +kernel
theorem gz_239_30 : mz_pg 239 30 = some (.iload_n 2, 0, 0, 0) := by decide +kernel
theorem gz_239_31 : mz_pg 239 31 = some (.iload 4, 0, 0, 0) := by decide +kernel
theorem gz_239_33 : mz_pg 239 33 = some (.ishr, 0, 0, 0) := by decide +kernel
theorem gz_239_34 : mz_pg 239 34 = some (.iconst 1, 0, 0, 0) := by decide +kernel
theorem gz_239_35 : mz_pg 239 35 = some (.iand, 0, 0, 0) := by decide +kernel
theorem gz_239_36 : mz_pg 239 36 = some (.iconst 1, 0, 0, 0) := by decide +kernel
theorem gz_239_37 : mz_pg 239 37 = some (.if_icmp .ne 14, 0, 0, 0) := by decide +kernel
theorem gz_239_40 : mz_pg 239 40 = some (.aload_n 0, 0, 0, 0) := by decide +kernel
theorem gz_239_41 : mz_pg 239 41 = some (.getfield 182, 10, 57, 1270) := by decide +kernel
theorem gz_239_44 : mz_pg 239 44 = some (.iload_n 3, 0, 0, 0) := by decide +kernel
theorem gz_239_45 : mz_pg 239 45 = some (.iload 5, 0, 0, 0) := by decide +kernel
theorem gz_239_47 : mz_pg 239 47 = some (.iastore, 0, 0, 0) := by decide +kernel
theorem gz_239_48 : mz_pg 239 48 = some (.iinc 3 1, 0, 0, 0) := by decide +kernel
theorem gz_239_51 : mz_pg 239 51 = some (.iinc 4 1, 0, 0, 0) := by decide +kernel
theorem gz_239_54 : mz_pg 239 54 = some (.iinc 5 1, 0, 0, 0) := by decide +kernel
theorem gz_239_57 : mz_pg 239 57 = some (.goto (-49), 0, 0, 0) := by decide +kernel
theorem gz_239_60 : mz_pg 239 60 = some (.iconst 0, 0, 0, 0) := by decide +kernel
theorem gz_239_61 : mz_pg 239 61 = some (.istore 5, 0, 0, 0) := by decide +kernel
theorem gz_239_63 : mz_pg 239 63 = some (.iconst 0, 0, 0, 0) := by decide +kernel
theorem gz_239_64 : mz_pg 239 64 = some (.istore 6, 0, 0, 0) := by decide +kernel
theorem gz_239_66 : mz_pg 239 66 = some (.iload 6, 0, 0, 0) := by decide +kernel
theorem gz_239_68 : mz_pg 239 68 = some (.aload_n 0, 0, 0, 0) := by decide +kernel
theorem gz_239_69 : mz_pg 239 69 = some (.getfield 385, 10, 46, 1259) := by decide +kernel
theorem gz_239_72 : mz_pg 239 72 = some (.if_icmp .ge 144, 0, 0, 0) := by decide +kernel
theorem gz_239_75 : mz_pg 239 75 = some (.iconst (-1), 0, 0, 0) := by decide +kernel
theorem gz_239_76 : mz_pg 239 76 = some (.istore 7, 0, 0, 0) := by decide +kernel
theorem gz_239_78 : mz_pg 239 78 = some (.iconst 0, 0, 0, 0) := by decide +kernel
theorem gz_239_79 : mz_pg 239 79 = some (.istore 8, 0, 0, 0) := by decide +kernel
theorem gz_239_81 : mz_pg 239 81 = some (.iload 8, 0, 0, 0) := by decide +kernel
theorem gz_239_83 : mz_pg 239 83 = some (.iload_n 3, 0, 0, 0) := by decide +kernel
theorem gz_239_84 : mz_pg 239 84 = some (.if_icmp .ge 110, 0, 0, 0) := by decide +kernel
theorem gz_239_87 : mz_pg 239 87 = some (.iload 7, 0, 0, 0) := by decide +kernel
theorem gz_239_89 : mz_pg 239 89 = some (.ifCond .ge 105, 0, 0, 0) := by decide +kernel
theorem gz_239_92 : mz_pg 239 92 = some (.iload 5, 0, 0, 0) := by decide +kernel
theorem gz_239_94 : mz_pg 239 94 = some (.iload 8, 0, 0, 0) := by decide +kernel
theorem gz_239_96 : mz_pg 239 96 = some (.ishr, 0, 0, 0) := by decide +kernel
theorem gz_239_97 : mz_pg 239 97 = some (.iconst 1, 0, 0, 0) := by decide +kernel
theorem gz_239_98 : mz_pg 239 98 = some (.iand, 0, 0, 0) := by decide +kernel
theorem gz_239_99 : mz_pg 239 99 = some (.ifCond .ne 7, 0, 0, 0) := by decide +kernel
theorem gz_239_102 : mz_pg 239 102 = some (.iconst 1, 0, 0, 0) := by decide +kernel
theorem gz_239_103 : mz_pg 239 103 = some (.goto 4, 0, 0, 0) := by decide +kernel
theorem gz_239_106 : mz_pg 239 106 = some (.iconst 0, 0, 0, 0) := by decide +kernel
theorem gz_239_107 : mz_pg 239 107 = some (.istore 9, 0, 0, 0) := by decide +kernel
theorem gz_239_109 : mz_pg 239 109 = some (.iconst 0, 0, 0, 0) := by decide +kernel
theorem gz_239_110 : mz_pg 239 110 = some (.istore 10, 0, 0, 0) := by decide +kernel
theorem gz_239_112 : mz_pg 239 112 = some (.iload 10, 0, 0, 0) := by decide +kernel
theorem gz_239_114 : mz_pg 239 114 = some (.aload_n 0, 0, 0, 0) := by decide +kernel
theorem gz_239_115 : mz_pg 239 115 = some (.getfield 299, 10, 27, 1240) := by decide +kernel
theorem gz_239_118 : mz_pg 239 118 = some (.if_icmp .ge 57, 0, 0, 0) := by decide +kernel
theorem gz_239_121 : mz_pg 239 121 = some (.iload 9, 0, 0, 0) := by decide +kernel
theorem gz_239_123 : mz_pg 239 123 = some (.ifCond .eq 43, 0, 0, 0) := by decide +kernel
theorem gz_239_126 : mz_pg 239 126 = some (.aload_n 0, 0, 0, 0) := by decide +kernel
theorem gz_239_127 : mz_pg 239 127 = some (.getfield 158, 10, 47, 1260) := by decide +kernel
theorem gz_239_130 : mz_pg 239 130 = some (.bipush 8, 0, 0, 0) := by decide +kernel
theorem gz_239_132 : mz_pg 239 132 = some (.iload 6, 0, 0, 0) := by decide +kernel
theorem gz_239_134 : mz_pg 239 134 = some (.imul, 0, 0, 0) := by decide +kernel
theorem gz_239_135 : mz_pg 239 135 = some (.iload 10, 0, 0, 0) := by decide +kernel
theorem gz_239_137 : mz_pg 239 137 = some (.iadd, 0, 0, 0) := by decide +kernel
theorem gz_239_138 : mz_pg 239 138 = some (.iaload, 0, 0, 0) := by decide +kernel
theorem gz_239_139 : mz_pg 239 139 = some (.aload_n 0, 0, 0, 0) := by decide +kernel
theorem gz_239_140 : mz_pg 239 140 = some (.iconst 0, 0, 0, 0) := by decide +kernel
theorem gz_239_141 : mz_pg 239 141 = some (.iload_n 1, 0, 0, 0) := by decide +kernel
theorem gz_239_142 : mz_pg 239 142 = some (.aload_n 0, 0, 0, 0) := by decide +kernel
theorem gz_239_143 : mz_pg 239 143 = some (.getfield 182, 10, 57, 1270) := by decide +kernel
theorem gz_239_146 : mz_pg 239 146 = some (.iload 8, 0, 0, 0) := by decide +kernel
theorem gz_239_148 : mz_pg 239 148 = some (.iaload, 0, 0, 0) := by decide +kernel
theorem gz_239_149 : mz_pg 239 149 = some (.aload_n 0, 0, 0, 0) := by decide +kernel
theorem gz_239_150 : mz_pg 239 150 = some (.getfield 179, 10, 56, 1269) := by decide +kernel
theorem gz_239_153 : mz_pg 239 153 = some (.iload 10, 0, 0, 0) := by decide +kernel
theorem gz_239_155 : mz_pg 239 155 = some (.iaload, 0, 0, 0) := by decide +kernel
theorem gz_239_156 : mz_pg 239 156 = some (.invokevirtual 246, 1, 157, 1450) := by decide +kernel
theorem gz_239_159 : mz_pg 239 159 = some (.if_icmp .ne 7, 0, 0, 0) := by decide +kernel
theorem gz_239_162 : mz_pg 239 162 = some (.iconst 1, 0, 0, 0) := by decide +kernel
theorem gz_239_163 : mz_pg 239 163 = some (.goto 4, 0, 0, 0) := by decide +kernel
theorem gz_239_166 : mz_pg 239 166 = some (.iconst 0, 0, 0, 0) := by decide +kernel
theorem gz_239_167 : mz_pg 239 167 = some (.istore 9, 0, 0, 0) := by decide +kernel
theorem gz_239_169 : mz_pg 239 169 = some (.iinc 10 1, 0, 0, 0) := by decide +kernel
theorem gz_239_172 : mz_pg 239 172 = some (.goto (-60), 0, 0, 0) := by decide +kernel
theorem gz_239_175 : mz_pg 239 175 = some (.iload 9, 0, 0, 0) := by decide +kernel
theorem gz_239_177 : mz_pg 239 177 = some (.ifCond .eq 8, 0, 0, 0) := by decide +kernel
theorem gz_239_180 : mz_pg 239 180 = some (.iload 8, 0, 0, 0) := by decide +kernel
theorem gz_239_182 : mz_pg 239 182 = some (.goto 4, 0, 0, 0) := by decide +kernel
theorem gz_239_185 : mz_pg 239 185 = some (.iconst (-1), 0, 0, 0) := by decide +kernel
theorem gz_239_186 : mz_pg 239 186 = some (.istore 7, 0, 0, 0) := by decide +kernel
theorem gz_239_188 : mz_pg 239 188 = some (.iinc 8 1, 0, 0, 0) := by decide +kernel
theorem gz_239_191 : mz_pg 239 191 = some (.goto (-110), 0, 0, 0) := by decide +kernel
theorem gz_239_194 : mz_pg 239 194 = some (.iload 7, 0, 0, 0) := by decide +kernel
theorem gz_239_196 : mz_pg 239 196 = some (.ifCond .ge 5, 0, 0, 0) := by decide +kernel
theorem gz_239_199 : mz_pg 239 199 = some (.iconst 0, 0, 0, 0) := by decide +kernel
theorem gz_239_200 : mz_pg 239 200 = some (.ireturn, 0, 0, 0) := by decide +kernel
theorem gz_239_201 : mz_pg 239 201 = some (.iload 5, 0, 0, 0) := by decide +kernel
theorem gz_239_203 : mz_pg 239 203 = some (.iconst 1, 0, 0, 0) := by decide +kernel
theorem gz_239_204 : mz_pg 239 204 = some (.iload 7, 0, 0, 0) := by decide +kernel
theorem gz_239_206 : mz_pg 239 206 = some (.ishl, 0, 0, 0) := by decide +kernel
theorem gz_239_207 : mz_pg 239 207 = some (.ior, 0, 0, 0) := by decide +kernel
theorem gz_239_208 : mz_pg 239 208 = some (.istore 5, 0, 0, 0) := by decide +kernel
theorem gz_239_210 : mz_pg 239 210 = some (.iinc 6 1, 0, 0, 0) := by decide +kernel
theorem gz_239_213 : mz_pg 239 213 = some (.goto (-147), 0, 0, 0) := by decide +kernel
theorem gz_239_216 : mz_pg 239 216 = some (.iconst 1, 0, 0, 0) := by decide +kernel
theorem gz_239_217 : mz_pg 239 217 = some (.ireturn, 0, 0, 0) := by decide +kernel
theorem gz_240_0 : mz_pg 240 0 = some (.iconst 0, 0, 0, 0) := by decide +kernel
theorem gz_240_1 : mz_pg 240 1 = some (.istore 5, 0, 0, 0) := by decide +kernel
theorem gz_240_3 : mz_pg 240 3 = some (.iconst 0, 0, 0, 0) := by decide +kernel
theorem gz_240_4 : mz_pg 240 4 = some (.istore 6, 0, 0, 0) := by decide +kernel
theorem gz_240_6 : mz_pg 240 6 = some (.iconst 0, 0, 0, 0) := by decide +kernel
theorem gz_240_7 : mz_pg 240 7 = some (.istore 7, 0, 0, 0) := by decide +kernel
theorem gz_240_9 : mz_pg 240 9 = some (.iload 7, 0, 0, 0) := by decide +kernel
theorem gz_240_11 : mz_pg 240 11 = some (.bipush 20, 0, 0, 0) := by decide +kernel
theorem gz_240_13 : mz_pg 240 13 = some (.if_icmp .ge 87, 0, 0, 0) := by decide +kernel
theorem gz_240_16 : mz_pg 240 16 = some (.aload_n 0, 0, 0, 0) := by decide +kernel
theorem gz_240_17 : mz_pg 240 17 = some (.getfield 77, 10, 15, 1228) := by decide +kernel
theorem gz_240_20 : mz_pg 240 20 = some (.iconst 0, 0, 0, 0) := by decide +kernel
theorem gz_240_21 : mz_pg 240 21 = some (.iload_n 1, 0, 0, 0) := by decide +kernel
theorem gz_240_22 : mz_pg 240 22 = some (.iload 7, 0, 0, 0) := by decide +kernel
theorem gz_240_24 : mz_pg 240 24 = some (.invokestatic 242, 1, 150, 1429) := by decide +kernel
theorem gz_240_27 : mz_pg 240 27 = some (.baload, 0, 0, 0) := by decide +kernel
theorem gz_240_28 : mz_pg 240 28 = some (.ifCond .eq 66, 0, 0, 0) := by decide +kernel
theorem gz_240_31 : mz_pg 240 31 = some (.aload_n 0, 0, 0, 0) := by decide +kernel
theorem gz_240_32 : mz_pg 240 32 = some (.iconst 0, 0, 0, 0) := by decide +kernel
theorem gz_240_33 : mz_pg 240 33 = some (.iload_n 1, 0, 0, 0) := by decide +kernel
theorem gz_240_34 : mz_pg 240 34 = some (.iload 7, 0, 0, 0) := by decide +kernel
theorem gz_240_36 : mz_pg 240 36 = some (.iload_n 2, 0, 0, 0) := by decide +kernel
theorem gz_240_37 : mz_pg 240 37 = some (.invokevirtual 246, 1, 157, 1450) := by decide +kernel
theorem gz_240_40 : mz_pg 240 40 = some (.istore 8, 0, 0, 0) := by decide +kernel
theorem gz_240_42 : mz_pg 240 42 = some (.iload 5, 0, 0, 0) := by decide +kernel
theorem gz_240_44 : mz_pg 240 44 = some (.iload_n 3, 0, 0, 0) := by decide +kernel
theorem gz_240_45 : mz_pg 240 45 = some (.ifCond .ne 13, 0, 0, 0) := by decide +kernel
theorem gz_240_48 : mz_pg 240 48 = some (.iload 8, 0, 0, 0) := by decide +kernel
theorem gz_240_50 : mz_pg 240 50 = some (.iload 4, 0, 0, 0) := by decide +kernel
theorem gz_240_52 : mz_pg 240 52 = some (.if_icmp .ge 35, 0, 0, 0) := by decide +kernel
theorem gz_240_55 : mz_pg 240 55 = some (.goto 25, 0, 0, 0) := by decide +kernel
theorem gz_240_58 : mz_pg 240 58 = some (.iload_n 3, 0, 0, 0) := by decide +kernel
theorem gz_240_59 : mz_pg 240 59 = some (.iconst 1, 0, 0, 0) := by decide +kernel
theorem gz_240_60 : mz_pg 240 60 = some (.if_icmp .ne 13, 0, 0, 0) := by decide +kernel
theorem gz_240_63 : mz_pg 240 63 = some (.iload 8, 0, 0, 0) := by decide +kernel
theorem gz_240_65 : mz_pg 240 65 = some (.iload 4, 0, 0, 0) := by decide +kernel
theorem gz_240_67 : mz_pg 240 67 = some (.if_icmp .ne 20, 0, 0, 0) := by decide +kernel
theorem gz_240_70 : mz_pg 240 70 = some (.goto 10, 0, 0, 0) := by decide +kernel
theorem gz_240_73 : mz_pg 240 73 = some (.iload 8, 0, 0, 0) := by decide +kernel
theorem gz_240_75 : mz_pg 240 75 = some (.iload 4, 0, 0, 0) := by decide +kernel
theorem gz_240_77 : mz_pg 240 77 = some (.if_icmp .le 10, 0, 0, 0) := by decide +kernel
theorem gz_240_80 : mz_pg 240 80 = some (.iconst 1, 0, 0, 0) := by decide +kernel
theorem gz_240_81 : mz_pg 240 81 = some (.iload 6, 0, 0, 0) := by decide +kernel
theorem gz_240_83 : mz_pg 240 83 = some (.ishl, 0, 0, 0) := by decide +kernel
theorem gz_240_84 : mz_pg 240 84 = some (.goto 4, 0, 0, 0) := by decide +kernel
theorem gz_240_87 : mz_pg 240 87 = some (.iconst 0, 0, 0, 0) := by decide +kernel
theorem gz_240_88 : mz_pg 240 88 = some (.ior, 0, 0, 0) := by decide +kernel
theorem gz_240_89 : mz_pg 240 89 = some (.istore 5, 0, 0, 0) := by decide +kernel
theorem gz_240_91 : mz_pg 240 91 = some (.iinc 6 1, 0, 0, 0) := by decide +kernel
theorem gz_240_94 : mz_pg 240 94 = some (.iinc 7 1, 0, 0, 0) := by decide +kernel
theorem gz_240_97 : mz_pg 240 97 = some (.goto (-88), 0, 0, 0) := by decide +kernel
theorem gz_240_100 : mz_pg 240 100 = some (.iload 5, 0, 0, 0) := by decide +kernel
theorem gz_240_102 : mz_pg 240 102 = some (.ireturn, 0, 0, 0) := by decide +kernel
theorem gz_241_0 : mz_pg 241 0 = some (.aload_n 0, 0, 0, 0) := by decide +kernel
theorem gz_241_1 : mz_pg 241 1 = some (.iconst 0, 0, 0, 0) := by decide +kernel
theorem gz_241_2 : mz_pg 241 2 = some (.putfield 1, 10, 0, 1213) := by decide +kernel
theorem gz_241_5 : mz_pg 241 5 = some (.iload_n 1, 0, 0, 0) := by decide +kernel
theorem gz_241_6 : mz_pg 241 6 = some (.iconst 0, 0, 0, 0) := by decide +kernel
theorem gz_241_7 : mz_pg 241 7 = some (.iconst 2, 0, 0, 0) := by decide +kernel
theorem gz_241_8 : mz_pg 241 8 = some (.invokestatic 250, 1, 147, 1419) := by decide +kernel
theorem gz_241_11 : mz_pg 241 11 = some (.ifCond .eq 38, 0, 0, 0) := by decide +kernel
theorem gz_241_14 : mz_pg 241 14 = some (.iload_n 2, 0, 0, 0) := by decide +kernel
theorem gz_241_15 : mz_pg 241 15 = some (.iconst (-1), 0, 0, 0) := by decide +kernel
theorem gz_241_16 : mz_pg 241 16 = some (.if_icmp .eq 35, 0, 0, 0) := by decide +kernel
theorem gz_241_19 : mz_pg 241 19 = some (.aload_n 0, 0, 0, 0) := by decide +kernel
theorem gz_241_20 : mz_pg 241 20 = some (.iload_n 2, 0, 0, 0) := by decide +kernel
theorem gz_241_21 : mz_pg 241 21 = some (.invokevirtual 373, 1, 193, 1570) := by decide +kernel
theorem gz_241_24 : mz_pg 241 24 = some (.ifCond .eq 25, 0, 0, 0) := by decide +kernel
theorem gz_241_27 : mz_pg 241 27 = some (.iload_n 3, 0, 0, 0) := by decide +kernel
theorem gz_241_28 : mz_pg 241 28 = some (.iconst 0, 0, 0, 0) := by decide +kernel
theorem gz_241_29 : mz_pg 241 29 = some (.bipush 79, 0, 0, 0) := by decide +kernel
theorem gz_241_31 : mz_pg 241 31 = some (.invokestatic 250, 1, 147, 1419) := by decide +kernel
theorem gz_241_34 : mz_pg 241 34 = some (.ifCond .eq 15, 0, 0, 0) := by decide +kernel
theorem gz_241_37 : mz_pg 241 37 = some (.iload 4, 0, 0, 0) := by decide +kernel
theorem gz_241_39 : mz_pg 241 39 = some (.iconst 0, 0, 0, 0) := by decide +kernel
theorem gz_241_40 : mz_pg 241 40 = some (.sipush 199, 0, 0, 0) := by decide +kernel
theorem gz_241_43 : mz_pg 241 43 = some (.invokestatic 250, 1, 147, 1419) := by decide +kernel
theorem gz_241_46 : mz_pg 241 46 = some (.ifCond .ne 5, 0, 0, 0) := by decide +kernel
theorem gz_241_49 : mz_pg 241 49 = some (.iconst 0, 0, 0, 0) := by decide +kernel
theorem gz_241_50 : mz_pg 241 50 = some (.ireturn, 0, 0, 0) := by decide +kernel
theorem gz_241_51 : mz_pg 241 51 = some (.aload_n 0, 0, 0, 0) := by decide +kernel
theorem gz_241_52 : mz_pg 241 52 = some (.getfield 188, 10, 59, 1272) := by decide +kernel
theorem gz_241_55 : mz_pg 241 55 = some (.iload_n 1, 0, 0, 0) := by decide +kernel
theorem gz_241_56 : mz_pg 241 56 = some (.iload_n 2, 0, 0, 0) := by decide +kernel
theorem gz_241_57 : mz_pg 241 57 = some (.iastore, 0, 0, 0) := by decide +kernel
theorem gz_241_58 : mz_pg 241 58 = some (.aload_n 0, 0, 0, 0) := by decide +kernel
theorem gz_241_59 : mz_pg 241 59 = some (.getfield 191, 10, 60, 1273) := by decide +kernel
theorem gz_241_62 : mz_pg 241 62 = some (.iload_n 1, 0, 0, 0) := by decide +kernel
theorem gz_241_63 : mz_pg 241 63 = some (.iload_n 3, 0, 0, 0) := by decide +kernel
theorem gz_241_64 : mz_pg 241 64 = some (.iastore, 0, 0, 0) := by decide +kernel
theorem gz_241_65 : mz_pg 241 65 = some (.aload_n 0, 0, 0, 0) := by decide +kernel
theorem gz_241_66 : mz_pg 241 66 = some (.getfield 194, 10, 61, 1274) := by decide +kernel
theorem gz_241_69 : mz_pg 241 69 = some (.iload_n 1, 0, 0, 0) := by decide +kernel
theorem gz_241_70 : mz_pg 241 70 = some (.iload 4, 0, 0, 0) := by decide +kernel
theorem gz_241_72 : mz_pg 241 72 = some (.iastore, 0, 0, 0) := by decide +kernel
theorem gz_241_73 : mz_pg 241 73 = some (.iconst 1, 0, 0, 0) := by decide +kernel
theorem gz_241_74 : mz_pg 241 74 = some (.ireturn, 0, 0, 0) := by decide +kernel
theorem gz_242_0 : mz_pg 242 0 = some (.aload_n 0, 0, 0, 0) := by decide +kernel
theorem gz_242_1 : mz_pg 242 1 = some (.iconst 0, 0, 0, 0) := by decide +kernel
theorem gz_242_2 : mz_pg 242 2 = some (.putfield 1, 10, 0, 1213) := by decide +kernel
theorem gz_242_5 : mz_pg 242 5 = some (.iload_n 1, 0, 0, 0) := by decide +kernel
theorem gz_242_6 : mz_pg 242 6 = some (.iconst 0, 0, 0, 0) := by decide +kernel
theorem gz_242_7 : mz_pg 242 7 = some (.iconst 3, 0, 0, 0) := by decide +kernel
theorem gz_242_8 : mz_pg 242 8 = some (.invokestatic 250, 1, 147, 1419) := by decide +kernel
theorem gz_242_11 : mz_pg 242 11 = some (.ifCond .ne 5, 0, 0, 0) := by decide +kernel
theorem gz_242_14 : mz_pg 242 14 = some (.iconst (-1), 0, 0, 0) := by decide +kernel
theorem gz_242_15 : mz_pg 242 15 = some (.ireturn, 0, 0, 0) := by decide +kernel
theorem gz_242_16 : mz_pg 242 16 = some (.aload_n 0, 0, 0, 0) := by decide +kernel
theorem gz_242_17 : mz_pg 242 17 = some (.iconst 0, 0, 0, 0) := by decide +kernel
theorem gz_242_18 : mz_pg 242 18 = some (.putfield 481, 10, 62, 1275) := by decide +kernel
theorem gz_242_21 : mz_pg 242 21 = some (.aload_n 0, 0, 0, 0) := by decide +kernel
theorem gz_242_22 : mz_pg 242 22 = some (.iconst 0, 0, 0, 0) := by decide +kernel
theorem gz_242_23 : mz_pg 242 23 = some (.putfield 484, 10, 63, 1276) := by decide +kernel
theorem gz_242_26 : mz_pg 242 26 = some (.aload_n 0, 0, 0, 0) := by decide +kernel
theorem gz_242_27 : mz_pg 242 27 = some (.iconst 0, 0, 0, 0) := by decide +kernel
theorem gz_242_28 : mz_pg 242 28 = some (.putfield 478, 10, 64, 1277) := by decide +kernel
theorem gz_242_31 : mz_pg 242 31 = some (.aload_n 0, 0, 0, 0) := by decide +kernel
theorem gz_242_32 : mz_pg 242 32 = some (.iconst 0, 0, 0, 0) := by decide +kernel
theorem gz_242_33 : mz_pg 242 33 = some (.putfield 475, 10, 65, 1278) := by decide +kernel
theorem gz_242_36 : mz_pg 242 36 = some (.iconst 0, 0, 0, 0) := by decide +kernel
theorem gz_242_37 : mz_pg 242 37 = some (.istore_n 2, 0, 0, 0) := by decide +kernel
theorem gz_242_38 : mz_pg 242 38 = some (.iload_n 2, 0, 0, 0) := by decide +kernel
theorem gz_242_39 : mz_pg 242 39 = some (.iconst 3, 0, 0, 0) := by decide +kernel
theorem gz_242_40 : mz_pg 242 40 = some (.if_icmp .ge 110, 0, 0, 0) := by decide +kernel
theorem gz_242_43 : mz_pg 242 43 = some (.iconst 0, 0, 0, 0) := by decide +kernel
theorem gz_242_44 : mz_pg 242 44 = some (.istore_n 3, 0, 0, 0) := by decide +kernel
theorem gz_242_45 : mz_pg 242 45 = some (.iload_n 3, 0, 0, 0) := by decide +kernel
theorem gz_242_46 : mz_pg 242 46 = some (.iconst 3, 0, 0, 0) := by decide +kernel
theorem gz_242_47 : mz_pg 242 47 = some (.if_icmp .ge 97, 0, 0, 0) := by decide +kernel
theorem gz_242_50 : mz_pg 242 50 = some (.iconst 3, 0, 0, 0) := by decide +kernel
theorem gz_242_51 : mz_pg 242 51 = some (.iload_n 2, 0, 0, 0) := by decide +kernel
theorem gz_242_52 : mz_pg 242 52 = some (.isub, 0, 0, 0) := by decide +kernel
theorem gz_242_53 : mz_pg 242 53 = some (.iload_n 3, 0, 0, 0) := by decide +kernel
theorem gz_242_54 : mz_pg 242 54 = some (.isub, 0, 0, 0) := by decide +kernel
theorem gz_242_55 : mz_pg 242 55 = some (.istore 4, 0, 0, 0) := by decide +kernel
theorem gz_242_57 : mz_pg 242 57 = some (.iload_n 2, 0, 0, 0) := by decide +kernel
theorem gz_242_58 : mz_pg 242 58 = some (.iload_n 3, 0, 0, 0) := by decide +kernel
theorem gz_242_59 : mz_pg 242 59 = some (.if_icmp .eq 26, 0, 0, 0) := by decide +kernel
theorem gz_242_62 : mz_pg 242 62 = some (.aload_n 0, 0, 0, 0) := by decide +kernel
theorem gz_242_63 : mz_pg 242 63 = some (.iload_n 2, 0, 0, 0) := by decide +kernel
theorem gz_242_64 : mz_pg 242 64 = some (.iload_n 3, 0, 0, 0) := by decide +kernel
theorem gz_242_65 : mz_pg 242 65 = some (.invokevirtual 487, 1, 243, 1735) := by decide +kernel
theorem gz_242_68 : mz_pg 242 68 = some (.ifCond .eq 17, 0, 0, 0) := by decide +kernel
theorem gz_242_71 : mz_pg 242 71 = some (.aload_n 0, 0, 0, 0) := by decide +kernel
theorem gz_242_72 : mz_pg 242 72 = some (.iload_n 3, 0, 0, 0) := by decide +kernel
theorem gz_242_73 : mz_pg 242 73 = some (.iload 4, 0, 0, 0) := by decide +kernel
theorem gz_242_75 : mz_pg 242 75 = some (.invokevirtual 487, 1, 243, 1735) := by decide +kernel
theorem gz_242_78 : mz_pg 242 78 = some (.ifCond .eq 7, 0, 0, 0) := by decide +kernel
theorem gz_242_81 : mz_pg 242 81 = some (.iconst 1, 0, 0, 0) := by decide +kernel
theorem gz_242_82 : mz_pg 242 82 = some (.goto 4, 0, 0, 0) := by decide +kernel
theorem gz_242_85 : mz_pg 242 85 = some (.iconst 0, 0, 0, 0) := by decide +kernel
theorem gz_242_86 : mz_pg 242 86 = some (.istore 5, 0, 0, 0) := by decide +kernel
theorem gz_242_88 : mz_pg 242 88 = some (.iload 5, 0, 0, 0) := by decide +kernel
theorem gz_242_90 : mz_pg 242 90 = some (.ifCond .eq 48, 0, 0, 0) := by decide +kernel
theorem gz_242_93 : mz_pg 242 93 = some (.aload_n 0, 0, 0, 0) := by decide +kernel
theorem gz_242_94 : mz_pg 242 94 = some (.aload_n 0, 0, 0, 0) := by decide +kernel
theorem gz_242_95 : mz_pg 242 95 = some (.iload_n 2, 0, 0, 0) := by decide +kernel
theorem gz_242_96 : mz_pg 242 96 = some (.invokevirtual 490, 1, 244, 1738) := by decide +kernel
theorem gz_242_99 : mz_pg 242 99 = some (.ifCond .eq 7, 0, 0, 0) := by decide +kernel
theorem gz_242_102 : mz_pg 242 102 = some (.iload_n 2, 0, 0, 0) := by decide +kernel
theorem gz_242_103 : mz_pg 242 103 = some (.goto 4, 0, 0, 0) := by decide +kernel
theorem gz_242_106 : mz_pg 242 106 = some (.iconst (-1), 0, 0, 0) := by decide +kernel
theorem gz_242_107 : mz_pg 242 107 = some (.aload_n 0, 0, 0, 0) := by decide +kernel
theorem gz_242_108 : mz_pg 242 108 = some (.iload_n 3, 0, 0, 0) := by decide +kernel
theorem gz_242_109 : mz_pg 242 109 = some (.invokevirtual 490, 1, 244, 1738) := by decide +kernel
theorem gz_242_112 : mz_pg 242 112 = some (.ifCond .eq 7, 0, 0, 0) := by decide +kernel
theorem gz_242_115 : mz_pg 242 115 = some (.iload_n 3, 0, 0, 0) := by decide +kernel
theorem gz_242_116 : mz_pg 242 116 = some (.goto 4, 0, 0, 0) := by decide +kernel
theorem gz_242_119 : mz_pg 242 119 = some (.iconst (-1), 0, 0, 0) := by decide +kernel
theorem gz_242_120 : mz_pg 242 120 = some (.aload_n 0, 0, 0, 0) := by decide +kernel
theorem gz_242_121 : mz_pg 242 121 = some (.iload 4, 0, 0, 0) := by decide +kernel
theorem gz_242_123 : mz_pg 242 123 = some (.invokevirtual 490, 1, 244, 1738) := by decide +kernel
theorem gz_242_126 : mz_pg 242 126 = some (.ifCond .eq 8, 0, 0, 0) := by decide +kernel
theorem gz_242_129 : mz_pg 242 129 = some (.iload 4, 0, 0, 0) := by decide +kernel
theorem gz_242_131 : mz_pg 242 131 = some (.goto 4, 0, 0, 0) := by decide +kernel
theorem gz_242_134 : mz_pg 242 134 = some (.iconst (-1), 0, 0, 0) := by decide +kernel
theorem gz_242_135 : mz_pg 242 135 = some (.invokevirtual 493, 1, 245, 1741) := by decide +kernel
theorem gz_242_138 : mz_pg 242 138 = some (.iinc 3 1, 0, 0, 0) := by decide +kernel
theorem gz_242_141 : mz_pg 242 141 = some (.goto (-96), 0, 0, 0) := by decide +kernel
theorem gz_242_144 : mz_pg 242 144 = some (.iinc 2 1, 0, 0, 0) := by decide +kernel
theorem gz_242_147 : mz_pg 242 147 = some (.goto (-109), 0, 0, 0) := by decide +kernel
theorem gz_242_150 : mz_pg 242 150 = some (.iload_n 1, 0, 0, 0) := by decide +kernel
theorem gz_242_151 : mz_pg 242 151 = some (.ifCond .ne 10, 0, 0, 0) := by decide +kernel
theorem gz_242_154 : mz_pg 242 154 = some (.aload_n 0, 0, 0, 0) := by decide +kernel
theorem gz_242_155 : mz_pg 242 155 = some (.getfield 481, 10, 62, 1275) := by decide +kernel
theorem gz_242_158 : mz_pg 242 158 = some (.goto 31, 0, 0, 0) := by decide +kernel
theorem gz_242_161 : mz_pg 242 161 = some (.iload_n 1, 0, 0, 0) := by decide +kernel
theorem gz_242_162 : mz_pg 242 162 = some (.iconst 1, 0, 0, 0) := by decide +kernel
theorem gz_242_163 : mz_pg 242 163 = some (.if_icmp .ne 10, 0, 0, 0) := by decide +kernel
theorem gz_242_166 : mz_pg 242 166 = some (.aload_n 0, 0, 0, 0) := by decide +kernel
theorem gz_242_167 : mz_pg 242 167 = some (.getfield 484, 10, 63, 1276) := by decide +kernel
theorem gz_242_170 : mz_pg 242 170 = some (.goto 19, 0, 0, 0) := by decide +kernel
theorem gz_242_173 : mz_pg 242 173 = some (.iload_n 1, 0, 0, 0) := by decide +kernel
theorem gz_242_174 : mz_pg 242 174 = some (.iconst 2, 0, 0, 0) := by decide +kernel
theorem gz_242_175 : mz_pg 242 175 = some (.if_icmp .ne 10, 0, 0, 0) := by decide +kernel
theorem gz_242_178 : mz_pg 242 178 = some (.aload_n 0, 0, 0, 0) := by decide +kernel
theorem gz_242_179 : mz_pg 242 179 = some (.getfield 478, 10, 64, 1277) := by decide +kernel
theorem gz_242_182 : mz_pg 242 182 = some (.goto 7, 0, 0, 0) := by decide +kernel
theorem gz_242_185 : mz_pg 242 185 = some (.aload_n 0, 0, 0, 0) := by decide +kernel
theorem gz_242_186 : mz_pg 242 186 = some (.getfield 475, 10, 65, 1278) := by decide +kernel
theorem gz_242_189 : mz_pg 242 189 = some (.ireturn, 0, 0, 0) := by decide +kernel
theorem gz_243_0 : mz_pg 243 0 = some (.aload_n 0, 0, 0, 0) := by decide +kernel
theorem gz_243_1 : mz_pg 243 1 = some (.iload_n 1, 0, 0, 0) := by decide +kernel
theorem gz_243_2 : mz_pg 243 2 = some (.invokevirtual 490, 1, 244, 1738) := by decide +kernel
theorem gz_243_5 : mz_pg 243 5 = some (.ifCond .ne 16, 0, 0, 0) := by decide +kernel
theorem gz_243_8 : mz_pg 243 8 = some (.aload_n 0, 0, 0, 0) := by decide +kernel
theorem gz_243_9 : mz_pg 243 9 = some (.iload_n 2, 0, 0, 0) := by decide +kernel
theorem gz_243_10 : mz_pg 243 10 = some (.invokevirtual 490, 1, 244, 1738) := by decide +kernel
theorem gz_243_13 : mz_pg 243 13 = some (.ifCond .ne 12, 0, 0, 0) := by decide +kernel
theorem gz_243_16 : mz_pg 243 16 = some (.iload_n 1, 0, 0, 0) := by decide +kernel
theorem gz_243_17 : mz_pg 243 17 = some (.iload_n 2, 0, 0, 0) := by decide +kernel
theorem gz_243_18 : mz_pg 243 18 = some (.if_icmp .ge 7, 0, 0, 0) := by decide +kernel
theorem gz_243_21 : mz_pg 243 21 = some (.iconst 1, 0, 0, 0) := by decide +kernel
theorem gz_243_22 : mz_pg 243 22 = some (.goto 4, 0, 0, 0) := by decide +kernel
theorem gz_243_25 : mz_pg 243 25 = some (.iconst 0, 0, 0, 0) := by decide +kernel
theorem gz_243_26 : mz_pg 243 26 = some (.ireturn, 0, 0, 0) := by decide +kernel
theorem gz_244_0 : mz_pg 244 0 = some (.aload_n 0, 0, 0, 0) := by decide +kernel
theorem gz_244_1 : mz_pg 244 1 = some (.getfield 188, 10, 59, 1272) := by decide +kernel
theorem gz_244_4 : mz_pg 244 4 = some (.iload_n 1, 0, 0, 0) := by decide +kernel
theorem gz_244_5 : mz_pg 244 5 = some (.iaload, 0, 0, 0) := by decide +kernel
theorem gz_244_6 : mz_pg 244 6 = some (.ifCond .lt 7, 0, 0, 0) := by decide +kernel
theorem gz_244_9 : mz_pg 244 9 = some (.iconst 1, 0, 0, 0) := by decide +kernel
theorem gz_244_10 : mz_pg 244 10 = some (.goto 4, 0, 0, 0) := by decide +kernel
theorem gz_244_13 : mz_pg 244 13 = some (.iconst 0, 0, 0, 0) := by decide +kernel
theorem gz_244_14 : mz_pg 244 14 = some (.ireturn, 0, 0, 0) := by decide +kernel
theorem gz_245_0 : mz_pg 245 0 = some (.aload_n 0, 0, 0, 0) := by decide +kernel
theorem gz_245_1 : mz_pg 245 1 = some (.iconst 0, 0, 0, 0) := by decide +kernel
theorem gz_245_2 : mz_pg 245 2 = some (.bipush 6, 0, 0, 0) := by decide +kernel
theorem gz_245_4 : mz_pg 245 4 = some (.invokevirtual 263, 1, 152, 1435) := by decide +kernel
theorem gz_245_7 : mz_pg 245 7 = some (.iconst 0, 0, 0, 0) := by decide +kernel
theorem gz_245_8 : mz_pg 245 8 = some (.istore 4, 0, 0, 0) := by decide +kernel
theorem gz_245_10 : mz_pg 245 10 = some (.iconst 0, 0, 0, 0) := by decide +kernel
theorem gz_245_11 : mz_pg 245 11 = some (.istore 5, 0, 0, 0) := by decide +kernel
theorem gz_245_13 : mz_pg 245 13 = some (.iconst 0, 0, 0, 0) := by decide +kernel
theorem gz_245_14 : mz_pg 245 14 = some (.istore 6, 0, 0, 0) := by decide +kernel
theorem gz_245_16 : mz_pg 245 16 = some (.iload 6, 0, 0, 0) := by decide +kernel
theorem gz_245_18 : mz_pg 245 18 = some (.iconst 3, 0, 0, 0) := by decide +kernel
theorem gz_245_19 : mz_pg 245 19 = some (.if_icmp .ge 93, 0, 0, 0) := by decide +kernel
theorem gz_245_22 : mz_pg 245 22 = some (.iload 6, 0, 0, 0) := by decide +kernel
theorem gz_245_24 : mz_pg 245 24 = some (.ifCond .ne 7, 0, 0, 0) := by decide +kernel
theorem gz_245_27 : mz_pg 245 27 = some (.iload_n 1, 0, 0, 0) := by decide +kernel
theorem gz_245_28 : mz_pg 245 28 = some (.goto 14, 0, 0, 0) := by decide +kernel
theorem gz_245_31 : mz_pg 245 31 = some (.iload 6, 0, 0, 0) := by decide +kernel
theorem gz_245_33 : mz_pg 245 33 = some (.iconst 1, 0, 0, 0) := by decide +kernel
theorem gz_245_34 : mz_pg 245 34 = some (.if_icmp .ne 7, 0, 0, 0) := by decide +kernel
theorem gz_245_37 : mz_pg 245 37 = some (.iload_n 2, 0, 0, 0) := by decide +kernel
theorem gz_245_38 : mz_pg 245 38 = some (.goto 4, 0, 0, 0) := by decide +kernel
theorem gz_245_41 : mz_pg 245 41 = some (.iload_n 3, 0, 0, 0) := by decide +kernel
theorem gz_245_42 : mz_pg 245 42 = some (.istore 7, 0, 0, 0) := by decide +kernel
theorem gz_245_44 : mz_pg 245 44 = some (.iload 7, 0, 0, 0) := by decide +kernel
theorem gz_245_46 : mz_pg 245 46 = some (.ifCond .lt 60, 0, 0, 0) := by decide +kernel
theorem gz_245_49 : mz_pg 245 49 = some (.iinc 5 1, 0, 0, 0) := by decide +kernel
theorem gz_245_52 : mz_pg 245 52 = some (.iload 4, 0, 0, 0) := by decide +kernel
theorem gz_245_54 : mz_pg 245 54 = some (.aload_n 0, 0, 0, 0) := by decide +kernel
theorem gz_245_55 : mz_pg 245 55 = some (.bipush 6, 0, 0, 0) := by decide +kernel
theorem gz_245_57 : mz_pg 245 57 = some (.aload_n 0, 0, 0, 0) := by decide +kernel
theorem gz_245_58 : mz_pg 245 58 = some (.getfield 188, 10, 59, 1272) := by decide +kernel
theorem gz_245_61 : mz_pg 245 61 = some (.iload 7, 0, 0, 0) := by decide +kernel
theorem gz_245_63 : mz_pg 245 63 = some (.iaload, 0, 0, 0) := by decide +kernel
theorem gz_245_64 : mz_pg 245 64 = some (.iconst 0, 0, 0, 0) := by decide +kernel
theorem gz_245_65 : mz_pg 245 65 = some (.aload_n 0, 0, 0, 0) := by decide +kernel
theorem gz_245_66 : mz_pg 245 66 = some (.getfield 191, 10, 60, 1273) := by decide +kernel
theorem gz_245_69 : mz_pg 245 69 = some (.iload 7, 0, 0, 0) := by decide +kernel
theorem gz_245_71 : mz_pg 245 71 = some (.iaload, 0, 0, 0) := by decide +kernel
theorem gz_245_72 : mz_pg 245 72 = some (.bipush 8, 0, 0, 0) := by decide +kernel
theorem gz_245_74 : mz_pg 245 74 = some (.idiv, 0, 0, 0) := by decide +kernel
theorem gz_245_75 : mz_pg 245 75 = some (.aload_n 0, 0, 0, 0) := by decide +kernel
theorem gz_245_76 : mz_pg 245 76 = some (.getfield 191, 10, 60, 1273) := by decide +kernel
theorem gz_245_79 : mz_pg 245 79 = some (.iload 7, 0, 0, 0) := by decide +kernel
theorem gz_245_81 : mz_pg 245 81 = some (.iaload, 0, 0, 0) := by decide +kernel
theorem gz_245_82 : mz_pg 245 82 = some (.bipush 8, 0, 0, 0) := by decide +kernel
theorem gz_245_84 : mz_pg 245 84 = some (.irem, 0, 0, 0) := by decide +kernel
theorem gz_245_85 : mz_pg 245 85 = some (.aload_n 0, 0, 0, 0) := by decide +kernel
theorem gz_245_86 : mz_pg 245 86 = some (.getfield 194, 10, 61, 1274) := by decide +kernel
theorem gz_245_89 : mz_pg 245 89 = some (.iload 7, 0, 0, 0) := by decide +kernel
theorem gz_245_91 : mz_pg 245 91 = some (.iaload, 0, 0, 0) := by decide +kernel
theorem gz_245_92 : mz_pg 245 92 = some (.invokevirtual 435, 1, 223, 1666) := by decide +kernel
theorem gz_245_95 : mz_pg 245 95 = some (.ifCond .lt 7, 0, 0, 0) := by decide +kernel
theorem gz_245_98 : mz_pg 245 98 = some (.iconst 1, 0, 0, 0) := by decide +kernel
theorem gz_245_99 : mz_pg 245 99 = some (.goto 4, 0, 0, 0) := by decide +kernel
theorem gz_245_102 : mz_pg 245 102 = some (.iconst 0, 0, 0, 0) := by decide +kernel
theorem gz_245_103 : mz_pg 245 103 = some (.iadd, 0, 0, 0) := by decide +kernel
theorem gz_245_104 : mz_pg 245 104 = some (.istore 4, 0, 0, 0) := by decide +kernel
theorem gz_245_106 : mz_pg 245 106 = some (.iinc 6 1, 0, 0, 0) := by decide +kernel
theorem gz_245_109 : mz_pg 245 109 = some (.goto (-93), 0, 0, 0) := by decide +kernel
theorem gz_245_112 : mz_pg 245 112 = some (.aload_n 0, 0, 0, 0) := by decide +kernel
theorem gz_245_113 : mz_pg 245 113 = some (.dup, 0, 0, 0) := by decide +kernel
theorem gz_245_114 : mz_pg 245 114 = some (.getfield 475, 10, 65, 1278) := by decide +kernel
theorem gz_245_117 : mz_pg 245 117 = some (.iconst 1, 0, 0, 0) := by decide +kernel
theorem gz_245_118 : mz_pg 245 118 = some (.iadd, 0, 0, 0) := by decide +kernel
theorem gz_245_119 : mz_pg 245 119 = some (.putfield 475, 10, 65, 1278) := by decide +kernel
theorem gz_245_122 : mz_pg 245 122 = some (.aload_n 0, 0, 0, 0) := by decide +kernel
theorem gz_245_123 : mz_pg 245 123 = some (.iload 4, 0, 0, 0) := by decide +kernel
theorem gz_245_125 : mz_pg 245 125 = some (.aload_n 0, 0, 0, 0) := by decide +kernel
theorem gz_245_126 : mz_pg 245 126 = some (.getfield 478, 10, 64, 1277) := by decide +kernel
theorem gz_245_129 : mz_pg 245 129 = some (.if_icmp .le 8, 0, 0, 0) := by decide +kernel
theorem gz_245_132 : mz_pg 245 132 = some (.iload 4, 0, 0, 0) := by decide +kernel
theorem gz_245_134 : mz_pg 245 134 = some (.goto 7, 0, 0, 0) := by decide +kernel
theorem gz_245_137 : mz_pg 245 137 = some (.aload_n 0, 0, 0, 0) := by decide +kernel
theorem gz_245_138 : mz_pg 245 138 = some (.getfield 478, 10, 64, 1277) := by decide +kernel
theorem gz_245_141 : mz_pg 245 141 = some (.putfield 478, 10, 64, 1277) := by decide +kernel
theorem gz_245_144 : mz_pg 245 144 = some (.iload 4, 0, 0, 0) := by decide +kernel
theorem gz_245_146 : mz_pg 245 146 = some (.iload 5, 0, 0, 0) := by decide +kernel
theorem gz_245_148 : mz_pg 245 148 = some (.if_icmp .ne 88, 0, 0, 0) := by decide +kernel
theorem gz_245_151 : mz_pg 245 151 = some (.aload_n 0, 0, 0, 0) := by decide +kernel
theorem gz_245_152 : mz_pg 245 152 = some (.dup, 0, 0, 0) := by decide +kernel
theorem gz_245_153 : mz_pg 245 153 = some (.getfield 481, 10, 62, 1275) := by decide +kernel
theorem gz_245_156 : mz_pg 245 156 = some (.iconst 1, 0, 0, 0) := by decide +kernel
theorem gz_245_157 : mz_pg 245 157 = some (.iadd, 0, 0, 0) := by decide +kernel
theorem gz_245_158 : mz_pg 245 158 = some (.putfield 481, 10, 62, 1275) := by decide +kernel
theorem gz_245_161 : mz_pg 245 161 = some (.iconst 0, 0, 0, 0) := by decide +kernel
theorem gz_245_162 : mz_pg 245 162 = some (.istore 6, 0, 0, 0) := by decide +kernel
theorem gz_245_164 : mz_pg 245 164 = some (.iconst 0, 0, 0, 0) := by decide +kernel
theorem gz_245_165 : mz_pg 245 165 = some (.istore 7, 0, 0, 0) := by decide +kernel
theorem gz_245_167 : mz_pg 245 167 = some (.iload 7, 0, 0, 0) := by decide +kernel
theorem gz_245_169 : mz_pg 245 169 = some (.aload_n 0, 0, 0, 0) := by decide +kernel
theorem gz_245_170 : mz_pg 245 170 = some (.getfield 484, 10, 63, 1276) := by decide +kernel
theorem gz_245_173 : mz_pg 245 173 = some (.if_icmp .ge 35, 0, 0, 0) := by decide +kernel
theorem gz_245_176 : mz_pg 245 176 = some (.iload 6, 0, 0, 0) := by decide +kernel
theorem gz_245_178 : mz_pg 245 178 = some (.ifCond .ne 17, 0, 0, 0) := by decide +kernel
theorem gz_245_181 : mz_pg 245 181 = some (.aload_n 0, 0, 0, 0) := by decide +kernel
theorem gz_245_182 : mz_pg 245 182 = some (.bipush 6, 0, 0, 0) := by decide +kernel
theorem gz_245_184 : mz_pg 245 184 = some (.bipush 10, 0, 0, 0) := by decide +kernel
theorem gz_245_186 : mz_pg 245 186 = some (.iload 7, 0, 0, 0) := by decide +kernel
theorem gz_245_188 : mz_pg 245 188 = some (.iadd, 0, 0, 0) := by decide +kernel
theorem gz_245_189 : mz_pg 245 189 = some (.invokevirtual 453, 1, 230, 1690) := by decide +kernel
theorem gz_245_192 : mz_pg 245 192 = some (.ifCond .eq 7, 0, 0, 0) := by decide +kernel
theorem gz_245_195 : mz_pg 245 195 = some (.iconst 1, 0, 0, 0) := by decide +kernel
theorem gz_245_196 : mz_pg 245 196 = some (.goto 4, 0, 0, 0) := by decide +kernel
theorem gz_245_199 : mz_pg 245 199 = some (.iconst 0, 0, 0, 0) := by decide +kernel
theorem gz_245_200 : mz_pg 245 200 = some (.istore 6, 0, 0, 0) := by decide +kernel
theorem gz_245_202 : mz_pg 245 202 = some (.iinc 7 1, 0, 0, 0) := by decide +kernel
theorem gz_245_205 : mz_pg 245 205 = some (.goto (-38), 0, 0, 0) := by decide +kernel
theorem gz_245_208 : mz_pg 245 208 = some (.iload 6, 0, 0, 0) := by decide +kernel
theorem gz_245_210 : mz_pg 245 210 = some (.ifCond .ne 26, 0, 0, 0) := by decide +kernel
theorem gz_245_213 : mz_pg 245 213 = some (.aload_n 0, 0, 0, 0) := by decide +kernel
theorem gz_245_214 : mz_pg 245 214 = some (.bipush 6, 0, 0, 0) := by decide +kernel
theorem gz_245_216 : mz_pg 245 216 = some (.bipush 10, 0, 0, 0) := by decide +kernel
theorem gz_245_218 : mz_pg 245 218 = some (.aload_n 0, 0, 0, 0) := by decide +kernel
theorem gz_245_219 : mz_pg 245 219 = some (.getfield 484, 10, 63, 1276) := by decide +kernel
theorem gz_245_222 : mz_pg 245 222 = some (.iadd, 0, 0, 0) := by decide +kernel
theorem gz_245_223 : mz_pg 245 223 = some (.invokevirtual 263, 1, 152, 1435) := by decide +kernel
theorem gz_245_226 : mz_pg 245 226 = some (.aload_n 0, 0, 0, 0) := by decide +kernel
theorem gz_245_227 : mz_pg 245 227 = some (.dup, 0, 0, 0) := by decide +kernel
theorem gz_245_228 : mz_pg 245 228 = some (.getfield 484, 10, 63, 1276) := by decide +kernel
theorem gz_245_231 : mz_pg 245 231 = some (.iconst 1, 0, 0, 0) := by decide +kernel
theorem gz_245_232 : mz_pg 245 232 = some (.iadd, 0, 0, 0) := by decide +kernel
theorem gz_245_233 : mz_pg 245 233 = some (.putfield 484, 10, 63, 1276) := by decide +kernel
theorem gz_245_236 : mz_pg 245 236 = some (.return_, 0, 0, 0) := by decide +kernel
theorem gz_246_0 : mz_pg 246 0 = some (.aload_n 0, 0, 0, 0) := by decide +kernel
theorem gz_246_1 : mz_pg 246 1 = some (.iconst 0, 0, 0, 0) := by decide +kernel
theorem gz_246_2 : mz_pg 246 2 = some (.putfield 1, 10, 0, 1213) := by decide +kernel
theorem gz_246_5 : mz_pg 246 5 = some (.aload_n 0, 0, 0, 0) := by decide +kernel
theorem gz_246_6 : mz_pg 246 6 = some (.iload_n 1, 0, 0, 0) := by decide +kernel
theorem gz_246_7 : mz_pg 246 7 = some (.invokevirtual 373, 1, 193, 1570) := by decide +kernel
theorem gz_246_10 : mz_pg 246 10 = some (.ifCond .eq 19, 0, 0, 0) := by decide +kernel
theorem gz_246_13 : mz_pg 246 13 = some (.iload_n 2, 0, 0, 0) := by decide +kernel
theorem gz_246_14 : mz_pg 246 14 = some (.iconst 0, 0, 0, 0) := by decide +kernel
theorem gz_246_15 : mz_pg 246 15 = some (.iconst 1, 0, 0, 0) := by decide +kernel
theorem gz_246_16 : mz_pg 246 16 = some (.invokestatic 250, 1, 147, 1419) := by decide +kernel
theorem gz_246_19 : mz_pg 246 19 = some (.ifCond .eq 10, 0, 0, 0) := by decide +kernel
theorem gz_246_22 : mz_pg 246 22 = some (.aload_n 0, 0, 0, 0) := by decide +kernel
theorem gz_246_23 : mz_pg 246 23 = some (.getfield 439, 10, 55, 1268) := by decide +kernel
theorem gz_246_26 : mz_pg 246 26 = some (.ifCond .ne 5, 0, 0, 0) := by decide +kernel
theorem gz_246_29 : mz_pg 246 29 = some (.iconst (-1), 0, 0, 0) := by decide +kernel
theorem gz_246_30 : mz_pg 246 30 = some (.ireturn, 0, 0, 0) := by decide +kernel
theorem gz_246_31 : mz_pg 246 31 = some (.iload_n 2, 0, 0, 0) := by decide +kernel
theorem gz_246_32 : mz_pg 246 32 = some (.ifCond .ne 14, 0, 0, 0) := by decide +kernel
theorem gz_246_35 : mz_pg 246 35 = some (.aload_n 0, 0, 0, 0) := by decide +kernel
theorem gz_246_36 : mz_pg 246 36 = some (.iconst 0, 0, 0, 0) := by decide +kernel
theorem gz_246_37 : mz_pg 246 37 = some (.bipush 9, 0, 0, 0) := by decide +kernel
theorem gz_246_39 : mz_pg 246 39 = some (.iload_n 1, 0, 0, 0) := by decide +kernel
theorem gz_246_40 : mz_pg 246 40 = some (.invokevirtual 496, 1, 247, 1748) := by decide +kernel
theorem gz_246_43 : mz_pg 246 43 = some (.goto 11, 0, 0, 0) := by decide +kernel
theorem gz_246_46 : mz_pg 246 46 = some (.aload_n 0, 0, 0, 0) := by decide +kernel
theorem gz_246_47 : mz_pg 246 47 = some (.bipush 9, 0, 0, 0) := by decide +kernel
theorem gz_246_49 : mz_pg 246 49 = some (.iconst 0, 0, 0, 0) := by decide +kernel
theorem gz_246_50 : mz_pg 246 50 = some (.iload_n 1, 0, 0, 0) := by decide +kernel
theorem gz_246_51 : mz_pg 246 51 = some (.invokevirtual 496, 1, 247, 1748) := by decide +kernel
theorem gz_246_54 : mz_pg 246 54 = some (.ireturn, 0, 0, 0) := by decide +kernel
theorem gz_247_0 : mz_pg 247 0 = some (.aload_n 0, 0, 0, 0) := by decide +kernel
theorem gz_247_1 : mz_pg 247 1 = some (.iload_n 2, 0, 0, 0) := by decide +kernel
theorem gz_247_2 : mz_pg 247 2 = some (.iload_n 3, 0, 0, 0) := by decide +kernel
theorem gz_247_3 : mz_pg 247 3 = some (.invokevirtual 376, 1, 194, 1573) := by decide +kernel
theorem gz_247_6 : mz_pg 247 6 = some (.aload_n 0, 0, 0, 0) := by decide +kernel
theorem gz_247_7 : mz_pg 247 7 = some (.iconst (-1), 0, 0, 0) := by decide +kernel
theorem gz_247_8 : mz_pg 247 8 = some (.iconst (-1), 0, 0, 0) := by decide +kernel
theorem gz_247_9 : mz_pg 247 9 = some (.iconst (-1), 0, 0, 0) := by decide +kernel
theorem gz_247_10 : mz_pg 247 10 = some (.iconst (-1), 0, 0, 0) := by decide +kernel
theorem gz_247_11 : mz_pg 247 11 = some (.invokevirtual 403, 1, 210, 1625) := by decide +kernel
theorem gz_247_14 : mz_pg 247 14 = some (.aload_n 0, 0, 0, 0) := by decide +kernel
theorem gz_247_15 : mz_pg 247 15 = some (.iload_n 1, 0, 0, 0) := by decide +kernel
theorem gz_247_16 : mz_pg 247 16 = some (.iload_n 3, 0, 0, 0) := by decide +kernel
theorem gz_247_17 : mz_pg 247 17 = some (.invokevirtual 376, 1, 194, 1573) := by decide +kernel
theorem gz_247_20 : mz_pg 247 20 = some (.iconst 0, 0, 0, 0) := by decide +kernel
theorem gz_247_21 : mz_pg 247 21 = some (.istore 4, 0, 0, 0) := by decide +kernel
theorem gz_247_23 : mz_pg 247 23 = some (.iconst 0, 0, 0, 0) := by decide +kernel
theorem gz_247_24 : mz_pg 247 24 = some (.istore 5, 0, 0, 0) := by decide +kernel
theorem gz_247_26 : mz_pg 247 26 = some (.iconst 0, 0, 0, 0) := by decide +kernel
theorem gz_247_27 : mz_pg 247 27 = some (.istore 6, 0, 0, 0) := by decide +kernel
theorem gz_247_29 : mz_pg 247 29 = some (.iload 6, 0, 0, 0) := by decide +kernel
theorem gz_247_31 : mz_pg 247 31 = some (.aload_n 0, 0, 0, 0) := by decide +kernel
theorem gz_247_32 : mz_pg 247 32 = some (.getfield 349, 10, 37, 1250) := by decide +kernel
theorem gz_247_35 : mz_pg 247 35 = some (.if_icmp .ge 144, 0, 0, 0) := by decide +kernel
theorem gz_247_38 : mz_pg 247 38 = some (.iconst (-1), 0, 0, 0) := by decide +kernel
theorem gz_247_39 : mz_pg 247 39 = some (.istore 7, 0, 0, 0) := by decide +kernel
theorem gz_247_41 : mz_pg 247 41 = some (.iconst 0, 0, 0, 0) := by decide +kernel
theorem gz_247_42 : mz_pg 247 42 = some (.istore 8, 0, 0, 0) := by decide +kernel
theorem gz_247_44 : mz_pg 247 44 = some (.iload 8, 0, 0, 0) := by decide +kernel
theorem gz_247_46 : mz_pg 247 46 = some (.aload_n 0, 0, 0, 0) := by decide +kernel
theorem gz_247_47 : mz_pg 247 47 = some (.getfield 385, 10, 46, 1259) := by decide +kernel
theorem gz_247_50 : mz_pg 247 50 = some (.if_icmp .ge 103, 0, 0, 0) := by decide +kernel
theorem gz_247_53 : mz_pg 247 53 = some (.iload 7, 0, 0, 0) := by decide +kernel
theorem gz_247_55 : mz_pg 247 55 = some (.ifCond .ge 98, 0, 0, 0) := by decide +kernel
theorem gz_247_58 : mz_pg 247 58 = some (.iload 4, 0, 0, 0) := by decide +kernel
theorem gz_247_60 : mz_pg 247 60 = some (.iload 8, 0, 0, 0) := by decide +kernel
theorem gz_247_62 : mz_pg 247 62 = some (.ishr, 0, 0, 0) := by decide +kernel
theorem gz_247_63 : mz_pg 247 63 = some (.iconst 1, 0, 0, 0) := by decide +kernel
theorem gz_247_64 : mz_pg 247 64 = some (.iand, 0, 0, 0) := by decide +kernel
theorem gz_247_65 : mz_pg 247 65 = some (.ifCond .ne 7, 0, 0, 0) := by decide +kernel
theorem gz_247_68 : mz_pg 247 68 = some (.iconst 1, 0, 0, 0) := by decide +kernel
theorem gz_247_69 : mz_pg 247 69 = some (.goto 4, 0, 0, 0) := by decide +kernel
theorem gz_247_72 : mz_pg 247 72 = some (.iconst 0, 0, 0, 0) := by decide +kernel
theorem gz_247_73 : mz_pg 247 73 = some (.istore 9, 0, 0, 0) := by decide +kernel
theorem gz_247_75 : mz_pg 247 75 = some (.iconst 0, 0, 0, 0) := by decide +kernel
theorem gz_247_76 : mz_pg 247 76 = some (.istore 10, 0, 0, 0) := by decide +kernel
theorem gz_247_78 : mz_pg 247 78 = some (.iload 10, 0, 0, 0) := by decide +kernel
theorem gz_247_80 : mz_pg 247 80 = some (.aload_n 0, 0, 0, 0) := by decide +kernel
theorem gz_247_81 : mz_pg 247 81 = some (.getfield 299, 10, 27, 1240) := by decide +kernel
theorem gz_247_84 : mz_pg 247 84 = some (.if_icmp .ge 50, 0, 0, 0) := by decide +kernel
theorem gz_247_87 : mz_pg 247 87 = some (.iload 9, 0, 0, 0) := by decide +kernel
theorem gz_247_89 : mz_pg 247 89 = some (.ifCond .eq 36, 0, 0, 0) := by decide +kernel
theorem gz_247_92 : mz_pg 247 92 = some (.aload_n 0, 0, 0, 0) := by decide +kernel
theorem gz_247_93 : mz_pg 247 93 = some (.getfield 137, 10, 39, 1252) := by decide +kernel
theorem gz_247_96 : mz_pg 247 96 = some (.bipush 8, 0, 0, 0) := by decide +kernel
theorem gz_247_98 : mz_pg 247 98 = some (.iload 6, 0, 0, 0) := by decide +kernel
theorem gz_247_100 : mz_pg 247 100 = some (.imul, 0, 0, 0) := by decide +kernel
theorem gz_247_101 : mz_pg 247 101 = some (.iload 10, 0, 0, 0) := by decide +kernel
theorem gz_247_103 : mz_pg 247 103 = some (.iadd, 0, 0, 0) := by decide +kernel
theorem gz_247_104 : mz_pg 247 104 = some (.iaload, 0, 0, 0) := by decide +kernel
theorem gz_247_105 : mz_pg 247 105 = some (.aload_n 0, 0, 0, 0) := by decide +kernel
theorem gz_247_106 : mz_pg 247 106 = some (.getfield 158, 10, 47, 1260) := by decide +kernel
theorem gz_247_109 : mz_pg 247 109 = some (.bipush 8, 0, 0, 0) := by decide +kernel
theorem gz_247_111 : mz_pg 247 111 = some (.iload 8, 0, 0, 0) := by decide +kernel
theorem gz_247_113 : mz_pg 247 113 = some (.imul, 0, 0, 0) := by decide +kernel
theorem gz_247_114 : mz_pg 247 114 = some (.iload 10, 0, 0, 0) := by decide +kernel
theorem gz_247_116 : mz_pg 247 116 = some (.iadd, 0, 0, 0) := by decide +kernel
theorem gz_247_117 : mz_pg 247 117 = some (.iaload, 0, 0, 0) := by decide +kernel
theorem gz_247_118 : mz_pg 247 118 = some (.if_icmp .ne 7, 0, 0, 0) := by decide +kernel
theorem gz_247_121 : mz_pg 247 121 = some (.iconst 1, 0, 0, 0) := by decide +kernel
theorem gz_247_122 : mz_pg 247 122 = some (.goto 4, 0, 0, 0) := by decide +kernel
theorem gz_247_125 : mz_pg 247 125 = some (.iconst 0, 0, 0, 0) := by decide +kernel
theorem gz_247_126 : mz_pg 247 126 = some (.istore 9, 0, 0, 0) := by decide +kernel
theorem gz_247_128 : mz_pg 247 128 = some (.iinc 10 1, 0, 0, 0) := by decide +kernel
theorem gz_247_131 : mz_pg 247 131 = some (.goto (-53), 0, 0, 0) := by decide +kernel
theorem gz_247_134 : mz_pg 247 134 = some (.iload 9, 0, 0, 0) := by decide +kernel
theorem gz_247_136 : mz_pg 247 136 = some (.ifCond .eq 8, 0, 0, 0) := by decide +kernel
theorem gz_247_139 : mz_pg 247 139 = some (.iload 8, 0, 0, 0) := by decide +kernel
theorem gz_247_141 : mz_pg 247 141 = some (.goto 4, 0, 0, 0) := by decide +kernel
theorem gz_247_144 : mz_pg 247 144 = some (.iconst (-1), 0, 0, 0) := by decide +kernel
theorem gz_247_145 : mz_pg 247 145 = some (.istore 7, 0, 0, 0) := by decide +kernel
theorem gz_247_147 : mz_pg 247 147 = some (.iinc 8 1, 0, 0, 0) := by decide +kernel
theorem gz_247_150 : mz_pg 247 150 = some (.goto (-106), 0, 0, 0) := by decide +kernel
theorem gz_247_153 : mz_pg 247 153 = some (.iload 7, 0, 0, 0) := by decide +kernel
theorem gz_247_155 : mz_pg 247 155 = some (.ifCond .ge 9, 0, 0, 0) := by decide +kernel
theorem gz_247_158 : mz_pg 247 158 = some (.iinc 5 1, 0, 0, 0) := by decide +kernel
theorem gz_247_161 : mz_pg 247 161 = some (.goto 12, 0, 0, 0) := by decide +kernel
theorem gz_247_164 : mz_pg 247 164 = some (.iload 4, 0, 0, 0) := by decide +kernel
theorem gz_247_166 : mz_pg 247 166 = some (.iconst 1, 0, 0, 0) := by decide +kernel
theorem gz_247_167 : mz_pg 247 167 = some (.iload 7, 0, 0, 0) := by decide +kernel
theorem gz_247_169 : mz_pg 247 169 = some (.ishl, 0, 0, 0) := by decide +kernel
theorem gz_247_170 : mz_pg 247 170 = some (.ior, 0, 0, 0) := by decide +kernel
theorem gz_247_171 : mz_pg 247 171 = some (.istore 4, 0, 0, 0) := by decide +kernel
theorem gz_247_173 : mz_pg 247 173 = some (.iinc 6 1, 0, 0, 0) := by decide +kernel
theorem gz_247_176 : mz_pg 247 176 = some (.goto (-147), 0, 0, 0) := by decide +kernel
theorem gz_247_179 : mz_pg 247 179 = some (.iload 5, 0, 0, 0) := by decide +kernel
theorem gz_247_181 : mz_pg 247 181 = some (.ireturn, 0, 0, 0) := by decide +kernel
theorem gz_248_0 : mz_pg 248 0 = some (.aload_n 0, 0, 0, 0) := by decide +kernel
theorem gz_248_1 : mz_pg 248 1 = some (.iconst 0, 0, 0, 0) := by decide +kernel
theorem gz_248_2 : mz_pg 248 2 = some (.putfield 1, 10, 0, 1213) := by decide +kernel
theorem gz_248_5 : mz_pg 248 5 = some (.iload_n 1, 0, 0, 0) := by decide +kernel
theorem gz_248_6 : mz_pg 248 6 = some (.iconst 0, 0, 0, 0) := by decide +kernel
theorem gz_248_7 : mz_pg 248 7 = some (.iconst 3, 0, 0, 0) := by decide +kernel
theorem gz_248_8 : mz_pg 248 8 = some (.invokestatic 250, 1, 147, 1419) := by decide +kernel
theorem gz_248_11 : mz_pg 248 11 = some (.ifCond .eq 26, 0, 0, 0) := by decide +kernel
theorem gz_248_14 : mz_pg 248 14 = some (.iload_n 2, 0, 0, 0) := by decide +kernel
theorem gz_248_15 : mz_pg 248 15 = some (.ifCond .eq 24, 0, 0, 0) := by decide +kernel
theorem gz_248_18 : mz_pg 248 18 = some (.aload_n 0, 0, 0, 0) := by decide +kernel
theorem gz_248_19 : mz_pg 248 19 = some (.getfield 197, 10, 66, 1279) := by decide +kernel
theorem gz_248_22 : mz_pg 248 22 = some (.iload_n 1, 0, 0, 0) := by decide +kernel
theorem gz_248_23 : mz_pg 248 23 = some (.baload, 0, 0, 0) := by decide +kernel
theorem gz_248_24 : mz_pg 248 24 = some (.ifCond .eq 13, 0, 0, 0) := by decide +kernel
theorem gz_248_27 : mz_pg 248 27 = some (.aload_n 0, 0, 0, 0) := by decide +kernel
theorem gz_248_28 : mz_pg 248 28 = some (.iconst 1, 0, 0, 0) := by decide +kernel
theorem gz_248_29 : mz_pg 248 29 = some (.iload_n 1, 0, 0, 0) := by decide +kernel
theorem gz_248_30 : mz_pg 248 30 = some (.iadd, 0, 0, 0) := by decide +kernel
theorem gz_248_31 : mz_pg 248 31 = some (.invokevirtual 260, 1, 155, 1444) := by decide +kernel
theorem gz_248_34 : mz_pg 248 34 = some (.ifCond .ne 5, 0, 0, 0) := by decide +kernel
theorem gz_248_37 : mz_pg 248 37 = some (.iconst 0, 0, 0, 0) := by decide +kernel
theorem gz_248_38 : mz_pg 248 38 = some (.ireturn, 0, 0, 0) := by decide +kernel
theorem gz_248_39 : mz_pg 248 39 = some (.aload_n 0, 0, 0, 0) := by decide +kernel
theorem gz_248_40 : mz_pg 248 40 = some (.iload_n 2, 0, 0, 0) := by decide +kernel
theorem gz_248_41 : mz_pg 248 41 = some (.ifCond .eq 9, 0, 0, 0) := by decide +kernel
theorem gz_248_44 : mz_pg 248 44 = some (.iconst 1, 0, 0, 0) := by decide +kernel
theorem gz_248_45 : mz_pg 248 45 = some (.iload_n 1, 0, 0, 0) := by decide +kernel
theorem gz_248_46 : mz_pg 248 46 = some (.iadd, 0, 0, 0) := by decide +kernel
theorem gz_248_47 : mz_pg 248 47 = some (.goto 4, 0, 0, 0) := by decide +kernel
theorem gz_248_50 : mz_pg 248 50 = some (.iconst 0, 0, 0, 0) := by decide +kernel
theorem gz_248_51 : mz_pg 248 51 = some (.iload_n 2, 0, 0, 0) := by decide +kernel
theorem gz_248_52 : mz_pg 248 52 = some (.ifCond .eq 7, 0, 0, 0) := by decide +kernel
theorem gz_248_55 : mz_pg 248 55 = some (.iconst 0, 0, 0, 0) := by decide +kernel
theorem gz_248_56 : mz_pg 248 56 = some (.goto 6, 0, 0, 0) := by decide +kernel
theorem gz_248_59 : mz_pg 248 59 = some (.iconst 1, 0, 0, 0) := by decide +kernel
theorem gz_248_60 : mz_pg 248 60 = some (.iload_n 1, 0, 0, 0) := by decide +kernel
theorem gz_248_61 : mz_pg 248 61 = some (.iadd, 0, 0, 0) := by decide +kernel
theorem gz_248_62 : mz_pg 248 62 = some (.invokevirtual 263, 1, 152, 1435) := by decide +kernel
theorem gz_248_65 : mz_pg 248 65 = some (.aload_n 0, 0, 0, 0) := by decide +kernel
theorem gz_248_66 : mz_pg 248 66 = some (.getfield 197, 10, 66, 1279) := by decide +kernel
theorem gz_248_69 : mz_pg 248 69 = some (.iload_n 1, 0, 0, 0) := by decide +kernel
theorem gz_248_70 : mz_pg 248 70 = some (.iconst 1, 0, 0, 0) := by decide +kernel
theorem gz_248_71 : mz_pg 248 71 = some (.bastore, 0, 0, 0) := by decide +kernel
theorem gz_248_72 : mz_pg 248 72 = some (.iconst 1, 0, 0, 0) := by decide +kernel
theorem gz_248_73 : mz_pg 248 73 = some (.ireturn, 0, 0, 0) := by decide +kernel
theorem gz_249_0 : mz_pg 249 0 = some (.aload_n 0, 0, 0, 0) := by decide +kernel
theorem gz_249_1 : mz_pg 249 1 = some (.iconst 0, 0, 0, 0) := by decide +kernel
theorem gz_249_2 : mz_pg 249 2 = some (.putfield 1, 10, 0, 1213) := by decide +kernel
theorem gz_249_5 : mz_pg 249 5 = some (.iload_n 1, 0, 0, 0) := by decide +kernel
theorem gz_249_6 : mz_pg 249 6 = some (.iconst 0, 0, 0, 0) := by decide +kernel
theorem gz_249_7 : mz_pg 249 7 = some (.iconst 2, 0, 0, 0) := by decide +kernel
theorem gz_249_8 : mz_pg 249 8 = some (.invokestatic 250, 1, 147, 1419) := by decide +kernel
theorem gz_249_11 : mz_pg 249 11 = some (.ifCond .eq 23, 0, 0, 0) := by decide +kernel
theorem gz_249_14 : mz_pg 249 14 = some (.aload_n 0, 0, 0, 0) := by decide +kernel
theorem gz_249_15 : mz_pg 249 15 = some (.getfield 61, 10, 10, 1223) := by decide +kernel
theorem gz_249_18 : mz_pg 249 18 = some (.iload_n 1, 0, 0, 0) := by decide +kernel
theorem gz_249_19 : mz_pg 249 19 = some (.iaload, 0, 0, 0) := by decide +kernel
theorem gz_249_20 : mz_pg 249 20 = some (.ifCond .ne 7, 0, 0, 0) := by decide +kernel
theorem gz_249_23 : mz_pg 249 23 = some (.iconst (-1), 0, 0, 0) := by decide +kernel
theorem gz_249_24 : mz_pg 249 24 = some (.goto 9, 0, 0, 0) := by decide +kernel
theorem gz_249_27 : mz_pg 249 27 = some (.aload_n 0, 0, 0, 0) := by decide +kernel
theorem gz_249_28 : mz_pg 249 28 = some (.iconst 0, 0, 0, 0) := by decide +kernel
theorem gz_249_29 : mz_pg 249 29 = some (.iload_n 1, 0, 0, 0) := by decide +kernel
theorem gz_249_30 : mz_pg 249 30 = some (.invokevirtual 267, 1, 151, 1432) := by decide +kernel
theorem gz_249_33 : mz_pg 249 33 = some (.ireturn, 0, 0, 0) := by decide +kernel
theorem gz_249_34 : mz_pg 249 34 = some (.iconst 0, 0, 0, 0) := by decide +kernel
theorem gz_249_35 : mz_pg 249 35 = some (.istore_n 2, 0, 0, 0) := by decide +kernel
end MGZ4
