/-! what stands where (printed by wip/gen/gy.py) -/
section MGZ3
theorem gz_168_61 : mz_pg 168 61 = some (.iconst 5, 0, 0, 0) := by decide +kernel
theorem gz_168_62 : mz_pg 168 62 = some (.invokestatic 250, 1, 147, 1419) := by decide +kernel
theorem gz_168_65 : mz_pg 168 65 = some (.ifCond .eq 7, 0, 0, 0) := by decide +kernel
theorem gz_168_68 : mz_pg 168 68 = some (.iload_n 2, 0, 0, 0) := by decide +kernel
theorem gz_168_69 : mz_pg 168 69 = some (.ifCond .eq 10, 0, 0, 0) := by decide +kernel
theorem gz_168_72 : mz_pg 168 72 = some (.aload_n 0, 0, 0, 0) := by decide +kernel
theorem gz_168_73 : mz_pg 168 73 = some (.iconst 0, 0, 0, 0) := by decide +kernel
theorem gz_168_74 : mz_pg 168 74 = some (.putfield 11, 10, 2, 1215) := by decide +kernel
theorem gz_168_77 : mz_pg 168 77 = some (.iconst (-1), 0, 0, 0) := by decide +kernel
theorem gz_168_78 : mz_pg 168 78 = some (.ireturn, 0, 0, 0) := by decide +kernel
theorem gz_168_79 : mz_pg 168 79 = some (.aload_n 0, 0, 0, 0) := by decide +kernel
theorem gz_168_80 : mz_pg 168 80 = some (.invokevirtual 311, 1, 169, 1493) := by decide +kernel
theorem gz_168_83 : mz_pg 168 83 = some (.aload_n 0, 0, 0, 0) := by decide +kernel
theorem gz_168_84 : mz_pg 168 84 = some (.getfield 92, 10, 20, 1233) := by decide +kernel
theorem gz_168_87 : mz_pg 168 87 = some (.bipush 6, 0, 0, 0) := by decide +kernel
theorem gz_168_89 : mz_pg 168 89 = some (.iconst 0, 0, 0, 0) := by decide +kernel
theorem gz_168_90 : mz_pg 168 90 = some (.iastore, 0, 0, 0) := by decide +kernel
theorem gz_168_91 : mz_pg 168 91 = some (.iconst 0, 0, 0, 0) := by decide +kernel
theorem gz_168_92 : mz_pg 168 92 = some (.istore_n 3, 0, 0, 0) := by decide +kernel
theorem gz_168_93 : mz_pg 168 93 = some (.iload_n 3, 0, 0, 0) := by decide +kernel
theorem gz_168_94 : mz_pg 168 94 = some (.iconst 4, 0, 0, 0) := by decide +kernel
theorem gz_168_95 : mz_pg 168 95 = some (.if_icmp .ge 19, 0, 0, 0) := by decide +kernel
theorem gz_168_98 : mz_pg 168 98 = some (.aload_n 0, 0, 0, 0) := by decide +kernel
theorem gz_168_99 : mz_pg 168 99 = some (.getfield 110, 10, 26, 1239) := by decide +kernel
theorem gz_168_102 : mz_pg 168 102 = some (.bipush 24, 0, 0, 0) := by decide +kernel
theorem gz_168_104 : mz_pg 168 104 = some (.iload_n 3, 0, 0, 0) := by decide +kernel
theorem gz_168_105 : mz_pg 168 105 = some (.iadd, 0, 0, 0) := by decide +kernel
theorem gz_168_106 : mz_pg 168 106 = some (.iconst (-1), 0, 0, 0) := by decide +kernel
theorem gz_168_107 : mz_pg 168 107 = some (.iastore, 0, 0, 0) := by decide +kernel
theorem gz_168_108 : mz_pg 168 108 = some (.iinc 3 1, 0, 0, 0) := by decide +kernel
theorem gz_168_111 : mz_pg 168 111 = some (.goto (-18), 0, 0, 0) := by decide +kernel
theorem gz_168_114 : mz_pg 168 114 = some (.aload_n 0, 0, 0, 0) := by decide +kernel
theorem gz_168_115 : mz_pg 168 115 = some (.iload_n 1, 0, 0, 0) := by decide +kernel
theorem gz_168_116 : mz_pg 168 116 = some (.invokevirtual 314, 1, 174, 1511) := by decide +kernel
theorem gz_168_119 : mz_pg 168 119 = some (.aload_n 0, 0, 0, 0) := by decide +kernel
theorem gz_168_120 : mz_pg 168 120 = some (.getfield 226, 10, 8, 1221) := by decide +kernel
theorem gz_168_123 : mz_pg 168 123 = some (.ifCond .ne 22, 0, 0, 0) := by decide +kernel
theorem gz_168_126 : mz_pg 168 126 = some (.aload_n 0, 0, 0, 0) := by decide +kernel
theorem gz_168_127 : mz_pg 168 127 = some (.getfield 24, 10, 4, 1217) := by decide +kernel
theorem gz_168_130 : mz_pg 168 130 = some (.aload_n 0, 0, 0, 0) := by decide +kernel
theorem gz_168_131 : mz_pg 168 131 = some (.getfield 223, 10, 7, 1220) := by decide +kernel
theorem gz_168_134 : mz_pg 168 134 = some (.iaload, 0, 0, 0) := by decide +kernel
theorem gz_168_135 : mz_pg 168 135 = some (.ifCond .eq 10, 0, 0, 0) := by decide +kernel
theorem gz_168_138 : mz_pg 168 138 = some (.aload_n 0, 0, 0, 0) := by decide +kernel
theorem gz_168_139 : mz_pg 168 139 = some (.invokevirtual 317, 1, 185, 1544) := by decide +kernel
theorem gz_168_142 : mz_pg 168 142 = some (.goto (-23), 0, 0, 0) := by decide +kernel
theorem gz_168_145 : mz_pg 168 145 = some (.aload_n 0, 0, 0, 0) := by decide +kernel
theorem gz_168_146 : mz_pg 168 146 = some (.getfield 226, 10, 8, 1221) := by decide +kernel
theorem gz_168_149 : mz_pg 168 149 = some (.ifCond .ne 8, 0, 0, 0) := by decide +kernel
theorem gz_168_152 : mz_pg 168 152 = some (.aload_n 0, 0, 0, 0) := by decide +kernel
theorem gz_168_153 : mz_pg 168 153 = some (.iload_n 1, 0, 0, 0) := by decide +kernel
theorem gz_168_154 : mz_pg 168 154 = some (.invokevirtual 320, 1, 191, 1563) := by decide +kernel
theorem gz_168_157 : mz_pg 168 157 = some (.aload_n 0, 0, 0, 0) := by decide +kernel
theorem gz_168_158 : mz_pg 168 158 = some (.getfield 226, 10, 8, 1221) := by decide +kernel
theorem gz_168_161 : mz_pg 168 161 = some (.ireturn, 0, 0, 0) := by decide +kernel
theorem gz_169_0 : mz_pg 169 0 = some (.aload_n 0, 0, 0, 0) := by decide +kernel
theorem gz_169_1 : mz_pg 169 1 = some (.aload_n 0, 0, 0, 0) := by decide +kernel
theorem gz_169_2 : mz_pg 169 2 = some (.getfield 11, 10, 2, 1215) := by decide +kernel
theorem gz_169_5 : mz_pg 169 5 = some (.putfield 204, 10, 3, 1216) := by decide +kernel
theorem gz_169_8 : mz_pg 169 8 = some (.aload_n 0, 0, 0, 0) := by decide +kernel
theorem gz_169_9 : mz_pg 169 9 = some (.iconst 0, 0, 0, 0) := by decide +kernel
theorem gz_169_10 : mz_pg 169 10 = some (.putfield 11, 10, 2, 1215) := by decide +kernel
theorem gz_169_13 : mz_pg 169 13 = some (.iconst 0, 0, 0, 0) := by decide +kernel
theorem gz_169_14 : mz_pg 169 14 = some (.istore_n 1, 0, 0, 0) := by decide +kernel
theorem gz_169_15 : mz_pg 169 15 = some (.iconst 0, 0, 0, 0) := by decide +kernel
theorem gz_169_16 : mz_pg 169 16 = some (.istore_n 2, 0, 0, 0) := by decide +kernel
theorem gz_169_17 : mz_pg 169 17 = some (.iload_n 2, 0, 0, 0) := by decide +kernel
theorem gz_169_18 : mz_pg 169 18 = some (.aload_n 0, 0, 0, 0) := by decide +kernel
theorem gz_169_19 : mz_pg 169 19 = some (.getfield 204, 10, 3, 1216) := by decide +kernel
theorem gz_169_22 : mz_pg 169 22 = some (.if_icmp .ge 257, 0, 0, 0) := by decide +kernel
theorem gz_169_25 : mz_pg 169 25 = some (.aload_n 0, 0, 0, 0) := by decide +kernel
theorem gz_169_26 : mz_pg 169 26 = some (.getfield 14, 10, 1, 1214) := by decide +kernel
theorem gz_169_29 : mz_pg 169 29 = some (.iload_n 2, 0, 0, 0) := by decide +kernel
theorem gz_169_30 : mz_pg 169 30 = some (.iaload, 0, 0, 0) := by decide +kernel
theorem gz_169_31 : mz_pg 169 31 = some (.istore_n 3, 0, 0, 0) := by decide +kernel
theorem gz_169_32 : mz_pg 169 32 = some (.iload_n 3, 0, 0, 0) := by decide +kernel
theorem gz_169_33 : mz_pg 169 33 = some (.bipush 10, 0, 0, 0) := by decide +kernel
theorem gz_169_35 : mz_pg 169 35 = some (.if_icmp .eq 9, 0, 0, 0) := by decide +kernel
theorem gz_169_38 : mz_pg 169 38 = some (.iload_n 3, 0, 0, 0) := by decide +kernel
theorem gz_169_39 : mz_pg 169 39 = some (.bipush 32, 0, 0, 0) := by decide +kernel
theorem gz_169_41 : mz_pg 169 41 = some (.if_icmp .ne 9, 0, 0, 0) := by decide +kernel
theorem gz_169_44 : mz_pg 169 44 = some (.iinc 2 1, 0, 0, 0) := by decide +kernel
theorem gz_169_47 : mz_pg 169 47 = some (.goto (-30), 0, 0, 0) := by decide +kernel
theorem gz_169_50 : mz_pg 169 50 = some (.iload_n 2, 0, 0, 0) := by decide +kernel
theorem gz_169_51 : mz_pg 169 51 = some (.istore 4, 0, 0, 0) := by decide +kernel
theorem gz_169_53 : mz_pg 169 53 = some (.lconst 0, 0, 0, 0) := by decide +kernel
theorem gz_169_54 : mz_pg 169 54 = some (.lstore 5, 0, 0, 0) := by decide +kernel
theorem gz_169_56 : mz_pg 169 56 = some (.aload_n 0, 0, 0, 0) := by decide +kernel
theorem gz_169_57 : mz_pg 169 57 = some (.getfield 27, 10, 5, 1218) := by decide +kernel
theorem gz_169_60 : mz_pg 169 60 = some (.iload_n 1, 0, 0, 0) := by decide +kernel
theorem gz_169_61 : mz_pg 169 61 = some (.iload_n 2, 0, 0, 0) := by decide +kernel
theorem gz_169_62 : mz_pg 169 62 = some (.iastore, 0, 0, 0) := by decide +kernel
theorem gz_169_63 : mz_pg 169 63 = some (.iload_n 3, 0, 0, 0) := by decide +kernel
theorem gz_169_64 : mz_pg 169 64 = some (.invokestatic 200, 1, 170, 1496) := by decide +kernel
theorem gz_169_67 : mz_pg 169 67 = some (.ifCond .eq 85, 0, 0, 0) := by decide +kernel
theorem gz_169_70 : mz_pg 169 70 = some (.iload_n 2, 0, 0, 0) := by decide +kernel
theorem gz_169_71 : mz_pg 169 71 = some (.aload_n 0, 0, 0, 0) := by decide +kernel
theorem gz_169_72 : mz_pg 169 72 = some (.getfield 204, 10, 3, 1216) := by decide +kernel
theorem gz_169_75 : mz_pg 169 75 = some (.if_icmp .ge 54, 0, 0, 0) := by decide +kernel
theorem gz_169_78 : mz_pg 169 78 = some (.aload_n 0, 0, 0, 0) := by decide +kernel
theorem gz_169_79 : mz_pg 169 79 = some (.getfield 14, 10, 1, 1214) := by decide +kernel
theorem gz_169_82 : mz_pg 169 82 = some (.iload_n 2, 0, 0, 0) := by decide +kernel
theorem gz_169_83 : mz_pg 169 83 = some (.iaload, 0, 0, 0) := by decide +kernel
theorem gz_169_84 : mz_pg 169 84 = some (.invokestatic 200, 1, 170, 1496) := by decide +kernel
theorem gz_169_87 : mz_pg 169 87 = some (.ifCond .eq 42, 0, 0, 0) := by decide +kernel
theorem gz_169_90 : mz_pg 169 90 = some (.iload_n 2, 0, 0, 0) := by decide +kernel
theorem gz_169_91 : mz_pg 169 91 = some (.iload 4, 0, 0, 0) := by decide +kernel
theorem gz_169_93 : mz_pg 169 93 = some (.isub, 0, 0, 0) := by decide +kernel
theorem gz_169_94 : mz_pg 169 94 = some (.bipush 8, 0, 0, 0) := by decide +kernel
theorem gz_169_96 : mz_pg 169 96 = some (.if_icmp .ge 23, 0, 0, 0) := by decide +kernel
theorem gz_169_99 : mz_pg 169 99 = some (.ldc2_w 207, 37, 0, 1499) := by decide +kernel
theorem gz_169_102 : mz_pg 169 102 = some (.lload 5, 0, 0, 0) := by decide +kernel
theorem gz_169_104 : mz_pg 169 104 = some (.lmul, 0, 0, 0) := by decide +kernel
theorem gz_169_105 : mz_pg 169 105 = some (.aload_n 0, 0, 0, 0) := by decide +kernel
theorem gz_169_106 : mz_pg 169 106 = some (.getfield 14, 10, 1, 1214) := by decide +kernel
theorem gz_169_109 : mz_pg 169 109 = some (.iload_n 2, 0, 0, 0) := by decide +kernel
theorem gz_169_110 : mz_pg 169 110 = some (.iaload, 0, 0, 0) := by decide +kernel
theorem gz_169_111 : mz_pg 169 111 = some (.invokestatic 209, 1, 171, 1500) := by decide +kernel
theorem gz_169_114 : mz_pg 169 114 = some (.i2l, 0, 0, 0) := by decide +kernel
theorem gz_169_115 : mz_pg 169 115 = some (.ladd, 0, 0, 0) := by decide +kernel
theorem gz_169_116 : mz_pg 169 116 = some (.goto 5, 0, 0, 0) := by decide +kernel
theorem gz_169_119 : mz_pg 169 119 = some (.lload 5, 0, 0, 0) := by decide +kernel
theorem gz_169_121 : mz_pg 169 121 = some (.lstore 5, 0, 0, 0) := by decide +kernel
theorem gz_169_123 : mz_pg 169 123 = some (.iinc 2 1, 0, 0, 0) := by decide +kernel
theorem gz_169_126 : mz_pg 169 126 = some (.goto (-56), 0, 0, 0) := by decide +kernel
theorem gz_169_129 : mz_pg 169 129 = some (.aload_n 0, 0, 0, 0) := by decide +kernel
theorem gz_169_130 : mz_pg 169 130 = some (.getfield 24, 10, 4, 1217) := by decide +kernel
theorem gz_169_133 : mz_pg 169 133 = some (.iload_n 1, 0, 0, 0) := by decide +kernel
theorem gz_169_134 : mz_pg 169 134 = some (.iload_n 2, 0, 0, 0) := by decide +kernel
theorem gz_169_135 : mz_pg 169 135 = some (.iload 4, 0, 0, 0) := by decide +kernel
theorem gz_169_137 : mz_pg 169 137 = some (.isub, 0, 0, 0) := by decide +kernel
theorem gz_169_138 : mz_pg 169 138 = some (.bipush 8, 0, 0, 0) := by decide +kernel
theorem gz_169_140 : mz_pg 169 140 = some (.if_icmp .le 7, 0, 0, 0) := by decide +kernel
theorem gz_169_143 : mz_pg 169 143 = some (.iconst 4, 0, 0, 0) := by decide +kernel
theorem gz_169_144 : mz_pg 169 144 = some (.goto 4, 0, 0, 0) := by decide +kernel
theorem gz_169_147 : mz_pg 169 147 = some (.iconst 1, 0, 0, 0) := by decide +kernel
theorem gz_169_148 : mz_pg 169 148 = some (.iastore, 0, 0, 0) := by decide +kernel
theorem gz_169_149 : mz_pg 169 149 = some (.goto 116, 0, 0, 0) := by decide +kernel
theorem gz_169_152 : mz_pg 169 152 = some (.iload_n 3, 0, 0, 0) := by decide +kernel
theorem gz_169_153 : mz_pg 169 153 = some (.invokestatic 213, 1, 172, 1503) := by decide +kernel
theorem gz_169_156 : mz_pg 169 156 = some (.ifCond .eq 84, 0, 0, 0) := by decide +kernel
theorem gz_169_159 : mz_pg 169 159 = some (.iload_n 2, 0, 0, 0) := by decide +kernel
theorem gz_169_160 : mz_pg 169 160 = some (.aload_n 0, 0, 0, 0) := by decide +kernel
theorem gz_169_161 : mz_pg 169 161 = some (.getfield 204, 10, 3, 1216) := by decide +kernel
theorem gz_169_164 : mz_pg 169 164 = some (.if_icmp .ge 54, 0, 0, 0) := by decide +kernel
theorem gz_169_167 : mz_pg 169 167 = some (.aload_n 0, 0, 0, 0) := by decide +kernel
theorem gz_169_168 : mz_pg 169 168 = some (.getfield 14, 10, 1, 1214) := by decide +kernel
theorem gz_169_171 : mz_pg 169 171 = some (.iload_n 2, 0, 0, 0) := by decide +kernel
theorem gz_169_172 : mz_pg 169 172 = some (.iaload, 0, 0, 0) := by decide +kernel
theorem gz_169_173 : mz_pg 169 173 = some (.invokestatic 213, 1, 172, 1503) := by decide +kernel
theorem gz_169_176 : mz_pg 169 176 = some (.ifCond .eq 42, 0, 0, 0) := by decide +kernel
theorem gz_169_179 : mz_pg 169 179 = some (.iload_n 2, 0, 0, 0) := by decide +kernel
theorem gz_169_180 : mz_pg 169 180 = some (.iload 4, 0, 0, 0) := by decide +kernel
theorem gz_169_182 : mz_pg 169 182 = some (.isub, 0, 0, 0) := by decide +kernel
theorem gz_169_183 : mz_pg 169 183 = some (.iconst 3, 0, 0, 0) := by decide +kernel
theorem gz_169_184 : mz_pg 169 184 = some (.if_icmp .ge 24, 0, 0, 0) := by decide +kernel
theorem gz_169_187 : mz_pg 169 187 = some (.ldc2_w 216, 10, 0, 1506) := by decide +kernel
theorem gz_169_190 : mz_pg 169 190 = some (.lload 5, 0, 0, 0) := by decide +kernel
theorem gz_169_192 : mz_pg 169 192 = some (.lmul, 0, 0, 0) := by decide +kernel
theorem gz_169_193 : mz_pg 169 193 = some (.aload_n 0, 0, 0, 0) := by decide +kernel
theorem gz_169_194 : mz_pg 169 194 = some (.getfield 14, 10, 1, 1214) := by decide +kernel
theorem gz_169_197 : mz_pg 169 197 = some (.iload_n 2, 0, 0, 0) := by decide +kernel
theorem gz_169_198 : mz_pg 169 198 = some (.iaload, 0, 0, 0) := by decide +kernel
theorem gz_169_199 : mz_pg 169 199 = some (.i2l, 0, 0, 0) := by decide +kernel
theorem gz_169_200 : mz_pg 169 200 = some (.ladd, 0, 0, 0) := by decide +kernel
theorem gz_169_201 : mz_pg 169 201 = some (.ldc2_w 218, 48, 0, 1507) := by decide +kernel
theorem gz_169_204 : mz_pg 169 204 = some (.lsub, 0, 0, 0) := by decide +kernel
theorem gz_169_205 : mz_pg 169 205 = some (.goto 5, 0, 0, 0) := by decide +kernel
theorem gz_169_208 : mz_pg 169 208 = some (.lload 5, 0, 0, 0) := by decide +kernel
theorem gz_169_210 : mz_pg 169 210 = some (.lstore 5, 0, 0, 0) := by decide +kernel
theorem gz_169_212 : mz_pg 169 212 = some (.iinc 2 1, 0, 0, 0) := by decide +kernel
theorem gz_169_215 : mz_pg 169 215 = some (.goto (-56), 0, 0, 0) := by decide +kernel
theorem gz_169_218 : mz_pg 169 218 = some (.aload_n 0, 0, 0, 0) := by decide +kernel
theorem gz_169_219 : mz_pg 169 219 = some (.getfield 24, 10, 4, 1217) := by decide +kernel
theorem gz_169_222 : mz_pg 169 222 = some (.iload_n 1, 0, 0, 0) := by decide +kernel
theorem gz_169_223 : mz_pg 169 223 = some (.iload_n 2, 0, 0, 0) := by decide +kernel
theorem gz_169_224 : mz_pg 169 224 = some (.iload 4, 0, 0, 0) := by decide +kernel
theorem gz_169_226 : mz_pg 169 226 = some (.isub, 0, 0, 0) := by decide +kernel
theorem gz_169_227 : mz_pg 169 227 = some (.iconst 3, 0, 0, 0) := by decide +kernel
theorem gz_169_228 : mz_pg 169 228 = some (.if_icmp .le 7, 0, 0, 0) := by decide +kernel
theorem gz_169_231 : mz_pg 169 231 = some (.iconst 4, 0, 0, 0) := by decide +kernel
theorem gz_169_232 : mz_pg 169 232 = some (.goto 4, 0, 0, 0) := by decide +kernel
theorem gz_169_235 : mz_pg 169 235 = some (.iconst 2, 0, 0, 0) := by decide +kernel
theorem gz_169_236 : mz_pg 169 236 = some (.iastore, 0, 0, 0) := by decide +kernel
theorem gz_169_237 : mz_pg 169 237 = some (.goto 28, 0, 0, 0) := by decide +kernel
theorem gz_169_240 : mz_pg 169 240 = some (.iload_n 3, 0, 0, 0) := by decide +kernel
theorem gz_169_241 : mz_pg 169 241 = some (.i2l, 0, 0, 0) := by decide +kernel
theorem gz_169_242 : mz_pg 169 242 = some (.lstore 5, 0, 0, 0) := by decide +kernel
theorem gz_169_244 : mz_pg 169 244 = some (.aload_n 0, 0, 0, 0) := by decide +kernel
theorem gz_169_245 : mz_pg 169 245 = some (.getfield 24, 10, 4, 1217) := by decide +kernel
theorem gz_169_248 : mz_pg 169 248 = some (.iload_n 1, 0, 0, 0) := by decide +kernel
theorem gz_169_249 : mz_pg 169 249 = some (.iload_n 3, 0, 0, 0) := by decide +kernel
theorem gz_169_250 : mz_pg 169 250 = some (.invokestatic 220, 1, 173, 1508) := by decide +kernel
theorem gz_169_253 : mz_pg 169 253 = some (.ifCond .eq 7, 0, 0, 0) := by decide +kernel
theorem gz_169_256 : mz_pg 169 256 = some (.iconst 3, 0, 0, 0) := by decide +kernel
theorem gz_169_257 : mz_pg 169 257 = some (.goto 4, 0, 0, 0) := by decide +kernel
theorem gz_169_260 : mz_pg 169 260 = some (.iconst 4, 0, 0, 0) := by decide +kernel
theorem gz_169_261 : mz_pg 169 261 = some (.iastore, 0, 0, 0) := by decide +kernel
theorem gz_169_262 : mz_pg 169 262 = some (.iinc 2 1, 0, 0, 0) := by decide +kernel
theorem gz_169_265 : mz_pg 169 265 = some (.aload_n 0, 0, 0, 0) := by decide +kernel
theorem gz_169_266 : mz_pg 169 266 = some (.getfield 30, 10, 6, 1219) := by decide +kernel
theorem gz_169_269 : mz_pg 169 269 = some (.iload_n 1, 0, 0, 0) := by decide +kernel
theorem gz_169_270 : mz_pg 169 270 = some (.lload 5, 0, 0, 0) := by decide +kernel
theorem gz_169_272 : mz_pg 169 272 = some (.lastore, 0, 0, 0) := by decide +kernel
theorem gz_169_273 : mz_pg 169 273 = some (.iinc 1 1, 0, 0, 0) := by decide +kernel
theorem gz_169_276 : mz_pg 169 276 = some (.goto (-259), 0, 0, 0) := by decide +kernel
theorem gz_169_279 : mz_pg 169 279 = some (.aload_n 0, 0, 0, 0) := by decide +kernel
theorem gz_169_280 : mz_pg 169 280 = some (.getfield 24, 10, 4, 1217) := by decide +kernel
theorem gz_169_283 : mz_pg 169 283 = some (.iload_n 1, 0, 0, 0) := by decide +kernel
theorem gz_169_284 : mz_pg 169 284 = some (.iconst 0, 0, 0, 0) := by decide +kernel
theorem gz_169_285 : mz_pg 169 285 = some (.iastore, 0, 0, 0) := by decide +kernel
theorem gz_169_286 : mz_pg 169 286 = some (.aload_n 0, 0, 0, 0) := by decide +kernel
theorem gz_169_287 : mz_pg 169 287 = some (.getfield 27, 10, 5, 1218) := by decide +kernel
theorem gz_169_290 : mz_pg 169 290 = some (.iload_n 1, 0, 0, 0) := by decide +kernel
theorem gz_169_291 : mz_pg 169 291 = some (.aload_n 0, 0, 0, 0) := by decide +kernel
theorem gz_169_292 : mz_pg 169 292 = some (.getfield 204, 10, 3, 1216) := by decide +kernel
theorem gz_169_295 : mz_pg 169 295 = some (.iastore, 0, 0, 0) := by decide +kernel
theorem gz_169_296 : mz_pg 169 296 = some (.aload_n 0, 0, 0, 0) := by decide +kernel
theorem gz_169_297 : mz_pg 169 297 = some (.iconst 0, 0, 0, 0) := by decide +kernel
theorem gz_169_298 : mz_pg 169 298 = some (.putfield 223, 10, 7, 1220) := by decide +kernel
theorem gz_169_301 : mz_pg 169 301 = some (.aload_n 0, 0, 0, 0) := by decide +kernel
theorem gz_169_302 : mz_pg 169 302 = some (.iconst 0, 0, 0, 0) := by decide +kernel
theorem gz_169_303 : mz_pg 169 303 = some (.putfield 226, 10, 8, 1221) := by decide +kernel
theorem gz_169_306 : mz_pg 169 306 = some (.return_, 0, 0, 0) := by decide +kernel
theorem gz_170_0 : mz_pg 170 0 = some (.iload_n 0, 0, 0, 0) := by decide +kernel
theorem gz_170_1 : mz_pg 170 1 = some (.bipush 97, 0, 0, 0) := by decide +kernel
theorem gz_170_3 : mz_pg 170 3 = some (.if_icmp .lt 13, 0, 0, 0) := by decide +kernel
theorem gz_170_6 : mz_pg 170 6 = some (.iload_n 0, 0, 0, 0) := by decide +kernel
theorem gz_170_7 : mz_pg 170 7 = some (.bipush 122, 0, 0, 0) := by decide +kernel
theorem gz_170_9 : mz_pg 170 9 = some (.if_icmp .gt 7, 0, 0, 0) := by decide +kernel
theorem gz_170_12 : mz_pg 170 12 = some (.iconst 1, 0, 0, 0) := by decide +kernel
theorem gz_170_13 : mz_pg 170 13 = some (.goto 4, 0, 0, 0) := by decide +kernel
theorem gz_170_16 : mz_pg 170 16 = some (.iconst 0, 0, 0, 0) := by decide +kernel
theorem gz_170_17 : mz_pg 170 17 = some (.ireturn, 0, 0, 0) := by decide +kernel
theorem gz_171_0 : mz_pg 171 0 = some (.iload_n 0, 0, 0, 0) := by decide +kernel
theorem gz_171_1 : mz_pg 171 1 = some (.invokestatic 200, 1, 170, 1496) := by decide +kernel
theorem gz_171_4 : mz_pg 171 4 = some (.ifCond .eq 10, 0, 0, 0) := by decide +kernel
theorem gz_171_7 : mz_pg 171 7 = some (.iload_n 0, 0, 0, 0) := by decide +kernel
theorem gz_171_8 : mz_pg 171 8 = some (.bipush 96, 0, 0, 0) := by decide +kernel
theorem gz_171_10 : mz_pg 171 10 = some (.isub, 0, 0, 0) := by decide +kernel
theorem gz_171_11 : mz_pg 171 11 = some (.goto 7, 0, 0, 0) := by decide +kernel
theorem gz_171_14 : mz_pg 171 14 = some (.iload_n 0, 0, 0, 0) := by decide +kernel
theorem gz_171_15 : mz_pg 171 15 = some (.bipush 21, 0, 0, 0) := by decide +kernel
theorem gz_171_17 : mz_pg 171 17 = some (.isub, 0, 0, 0) := by decide +kernel
theorem gz_171_18 : mz_pg 171 18 = some (.ireturn, 0, 0, 0) := by decide +kernel
theorem gz_172_0 : mz_pg 172 0 = some (.iload_n 0, 0, 0, 0) := by decide +kernel
theorem gz_172_1 : mz_pg 172 1 = some (.bipush 48, 0, 0, 0) := by decide +kernel
theorem gz_172_3 : mz_pg 172 3 = some (.if_icmp .lt 13, 0, 0, 0) := by decide +kernel
theorem gz_172_6 : mz_pg 172 6 = some (.iload_n 0, 0, 0, 0) := by decide +kernel
theorem gz_172_7 : mz_pg 172 7 = some (.bipush 57, 0, 0, 0) := by decide +kernel
theorem gz_172_9 : mz_pg 172 9 = some (.if_icmp .gt 7, 0, 0, 0) := by decide +kernel
theorem gz_172_12 : mz_pg 172 12 = some (.iconst 1, 0, 0, 0) := by decide +kernel
theorem gz_172_13 : mz_pg 172 13 = some (.goto 4, 0, 0, 0) := by decide +kernel
theorem gz_172_16 : mz_pg 172 16 = some (.iconst 0, 0, 0, 0) := by decide +kernel
theorem gz_172_17 : mz_pg 172 17 = some (.ireturn, 0, 0, 0) := by decide +kernel
theorem gz_173_0 : mz_pg 173 0 = some (.iload_n 0, 0, 0, 0) := by decide +kernel
theorem gz_173_1 : mz_pg 173 1 = some (.bipush 59, 0, 0, 0) := by decide +kernel
theorem gz_173_3 : mz_pg 173 3 = some (.if_icmp .ne 7, 0, 0, 0) := by decide +kernel
theorem gz_173_6 : mz_pg 173 6 = some (.iconst 1, 0, 0, 0) := by decide +kernel
theorem gz_173_7 : mz_pg 173 7 = some (.goto 4, 0, 0, 0) := by decide +kernel
theorem gz_173_10 : mz_pg 173 10 = some (.iconst 0, 0, 0, 0) := by decide +kernel
theorem gz_173_11 : mz_pg 173 11 = some (.ireturn, 0, 0, 0) := by decide +kernel
theorem gz_174_0 : mz_pg 174 0 = some (.aload_n 0, 0, 0, 0) := by decide +kernel
theorem gz_174_1 : mz_pg 174 1 = some (.iconst 0, 0, 0, 0) := by decide +kernel
theorem gz_174_2 : mz_pg 174 2 = some (.invokevirtual 323, 1, 175, 1514) := by decide +kernel
theorem gz_174_5 : mz_pg 174 5 = some (.aload_n 0, 0, 0, 0) := by decide +kernel
theorem gz_174_6 : mz_pg 174 6 = some (.iconst 1, 0, 0, 0) := by decide +kernel
theorem gz_174_7 : mz_pg 174 7 = some (.invokevirtual 236, 1, 177, 1520) := by decide +kernel
theorem gz_174_10 : mz_pg 174 10 = some (.istore_n 2, 0, 0, 0) := by decide +kernel
theorem gz_174_11 : mz_pg 174 11 = some (.aload_n 0, 0, 0, 0) := by decide +kernel
theorem gz_174_12 : mz_pg 174 12 = some (.getfield 226, 10, 8, 1221) := by decide +kernel
theorem gz_174_15 : mz_pg 174 15 = some (.ifCond .ne 20, 0, 0, 0) := by decide +kernel
theorem gz_174_18 : mz_pg 174 18 = some (.iload_n 2, 0, 0, 0) := by decide +kernel
theorem gz_174_19 : mz_pg 174 19 = some (.ifCond .ne 16, 0, 0, 0) := by decide +kernel
theorem gz_174_22 : mz_pg 174 22 = some (.aload_n 0, 0, 0, 0) := by decide +kernel
theorem gz_174_23 : mz_pg 174 23 = some (.iconst 2, 0, 0, 0) := by decide +kernel
theorem gz_174_24 : mz_pg 174 24 = some (.invokevirtual 236, 1, 177, 1520) := by decide +kernel
theorem gz_174_27 : mz_pg 174 27 = some (.ifCond .ne 8, 0, 0, 0) := by decide +kernel
theorem gz_174_30 : mz_pg 174 30 = some (.aload_n 0, 0, 0, 0) := by decide +kernel
theorem gz_174_31 : mz_pg 174 31 = some (.iconst 1, 0, 0, 0) := by decide +kernel
theorem gz_174_32 : mz_pg 174 32 = some (.invokevirtual 232, 1, 178, 1523) := by decide +kernel
theorem gz_174_35 : mz_pg 174 35 = some (.aload_n 0, 0, 0, 0) := by decide +kernel
theorem gz_174_36 : mz_pg 174 36 = some (.getfield 226, 10, 8, 1221) := by decide +kernel
theorem gz_174_39 : mz_pg 174 39 = some (.ifCond .le 4, 0, 0, 0) := by decide +kernel
theorem gz_174_42 : mz_pg 174 42 = some (.return_, 0, 0, 0) := by decide +kernel
theorem gz_174_43 : mz_pg 174 43 = some (.aload_n 0, 0, 0, 0) := by decide +kernel
theorem gz_174_44 : mz_pg 174 44 = some (.dup, 0, 0, 0) := by decide +kernel
theorem gz_174_45 : mz_pg 174 45 = some (.getfield 223, 10, 7, 1220) := by decide +kernel
theorem gz_174_48 : mz_pg 174 48 = some (.iconst 1, 0, 0, 0) := by decide +kernel
theorem gz_174_49 : mz_pg 174 49 = some (.iadd, 0, 0, 0) := by decide +kernel
theorem gz_174_50 : mz_pg 174 50 = some (.putfield 223, 10, 7, 1220) := by decide +kernel
theorem gz_174_53 : mz_pg 174 53 = some (.aload_n 0, 0, 0, 0) := by decide +kernel
theorem gz_174_54 : mz_pg 174 54 = some (.getfield 24, 10, 4, 1217) := by decide +kernel
theorem gz_174_57 : mz_pg 174 57 = some (.aload_n 0, 0, 0, 0) := by decide +kernel
theorem gz_174_58 : mz_pg 174 58 = some (.getfield 223, 10, 7, 1220) := by decide +kernel
theorem gz_174_61 : mz_pg 174 61 = some (.iaload, 0, 0, 0) := by decide +kernel
theorem gz_174_62 : mz_pg 174 62 = some (.iconst 2, 0, 0, 0) := by decide +kernel
theorem gz_174_63 : mz_pg 174 63 = some (.if_icmp .eq 11, 0, 0, 0) := by decide +kernel
theorem gz_174_66 : mz_pg 174 66 = some (.aload_n 0, 0, 0, 0) := by decide +kernel
theorem gz_174_67 : mz_pg 174 67 = some (.iconst 1, 0, 0, 0) := by decide +kernel
theorem gz_174_68 : mz_pg 174 68 = some (.invokevirtual 232, 1, 178, 1523) := by decide +kernel
theorem gz_174_71 : mz_pg 174 71 = some (.goto 84, 0, 0, 0) := by decide +kernel
theorem gz_174_74 : mz_pg 174 74 = some (.aload_n 0, 0, 0, 0) := by decide +kernel
theorem gz_174_75 : mz_pg 174 75 = some (.getfield 30, 10, 6, 1219) := by decide +kernel
theorem gz_174_78 : mz_pg 174 78 = some (.aload_n 0, 0, 0, 0) := by decide +kernel
theorem gz_174_79 : mz_pg 174 79 = some (.getfield 223, 10, 7, 1220) := by decide +kernel
theorem gz_174_82 : mz_pg 174 82 = some (.laload, 0, 0, 0) := by decide +kernel
theorem gz_174_83 : mz_pg 174 83 = some (.iload_n 2, 0, 0, 0) := by decide +kernel
theorem gz_174_84 : mz_pg 174 84 = some (.ifCond .eq 7, 0, 0, 0) := by decide +kernel
theorem gz_174_87 : mz_pg 174 87 = some (.iconst 2, 0, 0, 0) := by decide +kernel
theorem gz_174_88 : mz_pg 174 88 = some (.goto 6, 0, 0, 0) := by decide +kernel
theorem gz_174_91 : mz_pg 174 91 = some (.iload_n 1, 0, 0, 0) := by decide +kernel
theorem gz_174_92 : mz_pg 174 92 = some (.iconst 1, 0, 0, 0) := by decide +kernel
theorem gz_174_93 : mz_pg 174 93 = some (.isub, 0, 0, 0) := by decide +kernel
theorem gz_174_94 : mz_pg 174 94 = some (.i2l, 0, 0, 0) := by decide +kernel
theorem gz_174_95 : mz_pg 174 95 = some (.lcmp, 0, 0, 0) := by decide +kernel
theorem gz_174_96 : mz_pg 174 96 = some (.ifCond .le 11, 0, 0, 0) := by decide +kernel
theorem gz_174_99 : mz_pg 174 99 = some (.aload_n 0, 0, 0, 0) := by decide +kernel
theorem gz_174_100 : mz_pg 174 100 = some (.iconst 4, 0, 0, 0) := by decide +kernel
theorem gz_174_101 : mz_pg 174 101 = some (.invokevirtual 232, 1, 178, 1523) := by decide +kernel
theorem gz_174_104 : mz_pg 174 104 = some (.goto 51, 0, 0, 0) := by decide +kernel
theorem gz_174_107 : mz_pg 174 107 = some (.iload_n 2, 0, 0, 0) := by decide +kernel
theorem gz_174_108 : mz_pg 174 108 = some (.ifCond .eq 24, 0, 0, 0) := by decide +kernel
theorem gz_174_111 : mz_pg 174 111 = some (.aload_n 0, 0, 0, 0) := by decide +kernel
theorem gz_174_112 : mz_pg 174 112 = some (.getfield 61, 10, 10, 1223) := by decide +kernel
theorem gz_174_115 : mz_pg 174 115 = some (.aload_n 0, 0, 0, 0) := by decide +kernel
theorem gz_174_116 : mz_pg 174 116 = some (.getfield 30, 10, 6, 1219) := by decide +kernel
theorem gz_174_119 : mz_pg 174 119 = some (.aload_n 0, 0, 0, 0) := by decide +kernel
theorem gz_174_120 : mz_pg 174 120 = some (.getfield 223, 10, 7, 1220) := by decide +kernel
theorem gz_174_123 : mz_pg 174 123 = some (.laload, 0, 0, 0) := by decide +kernel
theorem gz_174_124 : mz_pg 174 124 = some (.l2i, 0, 0, 0) := by decide +kernel
theorem gz_174_125 : mz_pg 174 125 = some (.iaload, 0, 0, 0) := by decide +kernel
theorem gz_174_126 : mz_pg 174 126 = some (.ifCond .ne 29, 0, 0, 0) := by decide +kernel
theorem gz_174_129 : mz_pg 174 129 = some (.goto 21, 0, 0, 0) := by decide +kernel
theorem gz_174_132 : mz_pg 174 132 = some (.aload_n 0, 0, 0, 0) := by decide +kernel
theorem gz_174_133 : mz_pg 174 133 = some (.getfield 83, 10, 17, 1230) := by decide +kernel
theorem gz_174_136 : mz_pg 174 136 = some (.aload_n 0, 0, 0, 0) := by decide +kernel
theorem gz_174_137 : mz_pg 174 137 = some (.getfield 30, 10, 6, 1219) := by decide +kernel
theorem gz_174_140 : mz_pg 174 140 = some (.aload_n 0, 0, 0, 0) := by decide +kernel
theorem gz_174_141 : mz_pg 174 141 = some (.getfield 223, 10, 7, 1220) := by decide +kernel
theorem gz_174_144 : mz_pg 174 144 = some (.laload, 0, 0, 0) := by decide +kernel
theorem gz_174_145 : mz_pg 174 145 = some (.l2i, 0, 0, 0) := by decide +kernel
theorem gz_174_146 : mz_pg 174 146 = some (.baload, 0, 0, 0) := by decide +kernel
theorem gz_174_147 : mz_pg 174 147 = some (.ifCond .ne 8, 0, 0, 0) := by decide +kernel
theorem gz_174_150 : mz_pg 174 150 = some (.aload_n 0, 0, 0, 0) := by decide +kernel
theorem gz_174_151 : mz_pg 174 151 = some (.iconst 2, 0, 0, 0) := by decide +kernel
theorem gz_174_152 : mz_pg 174 152 = some (.invokevirtual 232, 1, 178, 1523) := by decide +kernel
theorem gz_174_155 : mz_pg 174 155 = some (.aload_n 0, 0, 0, 0) := by decide +kernel
theorem gz_174_156 : mz_pg 174 156 = some (.getfield 226, 10, 8, 1221) := by decide +kernel
theorem gz_174_159 : mz_pg 174 159 = some (.ifCond .le 4, 0, 0, 0) := by decide +kernel
theorem gz_174_162 : mz_pg 174 162 = some (.return_, 0, 0, 0) := by decide +kernel
theorem gz_174_163 : mz_pg 174 163 = some (.aload_n 0, 0, 0, 0) := by decide +kernel
theorem gz_174_164 : mz_pg 174 164 = some (.getfield 86, 10, 18, 1231) := by decide +kernel
theorem gz_174_167 : mz_pg 174 167 = some (.bipush 6, 0, 0, 0) := by decide +kernel
theorem gz_174_169 : mz_pg 174 169 = some (.iload_n 2, 0, 0, 0) := by decide +kernel
theorem gz_174_170 : mz_pg 174 170 = some (.bastore, 0, 0, 0) := by decide +kernel
theorem gz_174_171 : mz_pg 174 171 = some (.aload_n 0, 0, 0, 0) := by decide +kernel
theorem gz_174_172 : mz_pg 174 172 = some (.getfield 89, 10, 19, 1232) := by decide +kernel
theorem gz_174_175 : mz_pg 174 175 = some (.bipush 6, 0, 0, 0) := by decide +kernel
theorem gz_174_177 : mz_pg 174 177 = some (.aload_n 0, 0, 0, 0) := by decide +kernel
theorem gz_174_178 : mz_pg 174 178 = some (.getfield 30, 10, 6, 1219) := by decide +kernel
theorem gz_174_181 : mz_pg 174 181 = some (.aload_n 0, 0, 0, 0) := by decide +kernel
theorem gz_174_182 : mz_pg 174 182 = some (.getfield 223, 10, 7, 1220) := by decide +kernel
theorem gz_174_185 : mz_pg 174 185 = some (.laload, 0, 0, 0) := by decide +kernel
theorem gz_174_186 : mz_pg 174 186 = some (.l2i, 0, 0, 0) := by decide +kernel
theorem gz_174_187 : mz_pg 174 187 = some (.iastore, 0, 0, 0) := by decide +kernel
theorem gz_174_188 : mz_pg 174 188 = some (.aload_n 0, 0, 0, 0) := by decide +kernel
theorem gz_174_189 : mz_pg 174 189 = some (.dup, 0, 0, 0) := by decide +kernel
theorem gz_174_190 : mz_pg 174 190 = some (.getfield 223, 10, 7, 1220) := by decide +kernel
theorem gz_174_193 : mz_pg 174 193 = some (.iconst 1, 0, 0, 0) := by decide +kernel
theorem gz_174_194 : mz_pg 174 194 = some (.iadd, 0, 0, 0) := by decide +kernel
theorem gz_174_195 : mz_pg 174 195 = some (.putfield 223, 10, 7, 1220) := by decide +kernel
theorem gz_174_198 : mz_pg 174 198 = some (.aload_n 0, 0, 0, 0) := by decide +kernel
theorem gz_174_199 : mz_pg 174 199 = some (.bipush 6, 0, 0, 0) := by decide +kernel
theorem gz_174_201 : mz_pg 174 201 = some (.invokevirtual 326, 1, 179, 1526) := by decide +kernel
theorem gz_174_204 : mz_pg 174 204 = some (.aload_n 0, 0, 0, 0) := by decide +kernel
theorem gz_174_205 : mz_pg 174 205 = some (.bipush 59, 0, 0, 0) := by decide +kernel
theorem gz_174_207 : mz_pg 174 207 = some (.invokevirtual 329, 1, 183, 1538) := by decide +kernel
theorem gz_174_210 : mz_pg 174 210 = some (.return_, 0, 0, 0) := by decide +kernel
theorem gz_175_0 : mz_pg 175 0 = some (.aload_n 0, 0, 0, 0) := by decide +kernel
theorem gz_175_1 : mz_pg 175 1 = some (.iload_n 1, 0, 0, 0) := by decide +kernel
theorem gz_175_2 : mz_pg 175 2 = some (.invokevirtual 239, 1, 176, 1517) := by decide +kernel
theorem gz_175_5 : mz_pg 175 5 = some (.ifCond .ne 8, 0, 0, 0) := by decide +kernel
theorem gz_175_8 : mz_pg 175 8 = some (.aload_n 0, 0, 0, 0) := by decide +kernel
theorem gz_175_9 : mz_pg 175 9 = some (.iconst 1, 0, 0, 0) := by decide +kernel
theorem gz_175_10 : mz_pg 175 10 = some (.invokevirtual 232, 1, 178, 1523) := by decide +kernel
theorem gz_175_13 : mz_pg 175 13 = some (.return_, 0, 0, 0) := by decide +kernel
theorem gz_176_0 : mz_pg 176 0 = some (.aload_n 0, 0, 0, 0) := by decide +kernel
theorem gz_176_1 : mz_pg 176 1 = some (.iload_n 1, 0, 0, 0) := by decide +kernel
theorem gz_176_2 : mz_pg 176 2 = some (.invokevirtual 236, 1, 177, 1520) := by decide +kernel
theorem gz_176_5 : mz_pg 176 5 = some (.istore_n 2, 0, 0, 0) := by decide +kernel
theorem gz_176_6 : mz_pg 176 6 = some (.aload_n 0, 0, 0, 0) := by decide +kernel
theorem gz_176_7 : mz_pg 176 7 = some (.dup, 0, 0, 0) := by decide +kernel
theorem gz_176_8 : mz_pg 176 8 = some (.getfield 223, 10, 7, 1220) := by decide +kernel
theorem gz_176_11 : mz_pg 176 11 = some (.iload_n 2, 0, 0, 0) := by decide +kernel
theorem gz_176_12 : mz_pg 176 12 = some (.ifCond .eq 7, 0, 0, 0) := by decide +kernel
theorem gz_176_15 : mz_pg 176 15 = some (.iconst 1, 0, 0, 0) := by decide +kernel
theorem gz_176_16 : mz_pg 176 16 = some (.goto 4, 0, 0, 0) := by decide +kernel
theorem gz_176_19 : mz_pg 176 19 = some (.iconst 0, 0, 0, 0) := by decide +kernel
theorem gz_176_20 : mz_pg 176 20 = some (.iadd, 0, 0, 0) := by decide +kernel
theorem gz_176_21 : mz_pg 176 21 = some (.putfield 223, 10, 7, 1220) := by decide +kernel
theorem gz_176_24 : mz_pg 176 24 = some (.iload_n 2, 0, 0, 0) := by decide +kernel
theorem gz_176_25 : mz_pg 176 25 = some (.ireturn, 0, 0, 0) := by decide +kernel
theorem gz_177_0 : mz_pg 177 0 = some (.aload_n 0, 0, 0, 0) := by decide +kernel
theorem gz_177_1 : mz_pg 177 1 = some (.getfield 226, 10, 8, 1221) := by decide +kernel
theorem gz_177_4 : mz_pg 177 4 = some (.ifCond .ne 39, 0, 0, 0) := by decide +kernel
theorem gz_177_7 : mz_pg 177 7 = some (.aload_n 0, 0, 0, 0) := by decide +kernel
theorem gz_177_8 : mz_pg 177 8 = some (.getfield 24, 10, 4, 1217) := by decide +kernel
theorem gz_177_11 : mz_pg 177 11 = some (.aload_n 0, 0, 0, 0) := by decide +kernel
theorem gz_177_12 : mz_pg 177 12 = some (.getfield 223, 10, 7, 1220) := by decide +kernel
theorem gz_177_15 : mz_pg 177 15 = some (.iaload, 0, 0, 0) := by decide +kernel
theorem gz_177_16 : mz_pg 177 16 = some (.iconst 1, 0, 0, 0) := by decide +kernel
theorem gz_177_17 : mz_pg 177 17 = some (.if_icmp .ne 26, 0, 0, 0) := by decide +kernel
theorem gz_177_20 : mz_pg 177 20 = some (.aload_n 0, 0, 0, 0) := by decide +kernel
theorem gz_177_21 : mz_pg 177 21 = some (.getfield 30, 10, 6, 1219) := by decide +kernel
theorem gz_177_24 : mz_pg 177 24 = some (.aload_n 0, 0, 0, 0) := by decide +kernel
theorem gz_177_25 : mz_pg 177 25 = some (.getfield 223, 10, 7, 1220) := by decide +kernel
theorem gz_177_28 : mz_pg 177 28 = some (.laload, 0, 0, 0) := by decide +kernel
theorem gz_177_29 : mz_pg 177 29 = some (.aload_n 0, 0, 0, 0) := by decide +kernel
theorem gz_177_30 : mz_pg 177 30 = some (.getfield 58, 10, 9, 1222) := by decide +kernel
theorem gz_177_33 : mz_pg 177 33 = some (.iload_n 1, 0, 0, 0) := by decide +kernel
theorem gz_177_34 : mz_pg 177 34 = some (.laload, 0, 0, 0) := by decide +kernel
theorem gz_177_35 : mz_pg 177 35 = some (.lcmp, 0, 0, 0) := by decide +kernel
theorem gz_177_36 : mz_pg 177 36 = some (.ifCond .ne 7, 0, 0, 0) := by decide +kernel
theorem gz_177_39 : mz_pg 177 39 = some (.iconst 1, 0, 0, 0) := by decide +kernel
theorem gz_177_40 : mz_pg 177 40 = some (.goto 4, 0, 0, 0) := by decide +kernel
theorem gz_177_43 : mz_pg 177 43 = some (.iconst 0, 0, 0, 0) := by decide +kernel
theorem gz_177_44 : mz_pg 177 44 = some (.ireturn, 0, 0, 0) := by decide +kernel
theorem gz_178_0 : mz_pg 178 0 = some (.aload_n 0, 0, 0, 0) := by decide +kernel
theorem gz_178_1 : mz_pg 178 1 = some (.getfield 226, 10, 8, 1221) := by decide +kernel
theorem gz_178_4 : mz_pg 178 4 = some (.ifCond .ne 21, 0, 0, 0) := by decide +kernel
theorem gz_178_7 : mz_pg 178 7 = some (.aload_n 0, 0, 0, 0) := by decide +kernel
theorem gz_178_8 : mz_pg 178 8 = some (.iload_n 1, 0, 0, 0) := by decide +kernel
theorem gz_178_9 : mz_pg 178 9 = some (.bipush 16, 0, 0, 0) := by decide +kernel
theorem gz_178_11 : mz_pg 178 11 = some (.aload_n 0, 0, 0, 0) := by decide +kernel
theorem gz_178_12 : mz_pg 178 12 = some (.getfield 27, 10, 5, 1218) := by decide +kernel
theorem gz_178_15 : mz_pg 178 15 = some (.aload_n 0, 0, 0, 0) := by decide +kernel
theorem gz_178_16 : mz_pg 178 16 = some (.getfield 223, 10, 7, 1220) := by decide +kernel
theorem gz_178_19 : mz_pg 178 19 = some (.iaload, 0, 0, 0) := by decide +kernel
theorem gz_178_20 : mz_pg 178 20 = some (.imul, 0, 0, 0) := by decide +kernel
theorem gz_178_21 : mz_pg 178 21 = some (.iadd, 0, 0, 0) := by decide +kernel
theorem gz_178_22 : mz_pg 178 22 = some (.putfield 226, 10, 8, 1221) := by decide +kernel
theorem gz_178_25 : mz_pg 178 25 = some (.return_, 0, 0, 0) := by decide +kernel
theorem gz_179_0 : mz_pg 179 0 = some (.aload_n 0, 0, 0, 0) := by decide +kernel
theorem gz_179_1 : mz_pg 179 1 = some (.iload_n 1, 0, 0, 0) := by decide +kernel
theorem gz_179_2 : mz_pg 179 2 = some (.invokevirtual 302, 1, 180, 1529) := by decide +kernel
theorem gz_179_5 : mz_pg 179 5 = some (.aload_n 0, 0, 0, 0) := by decide +kernel
theorem gz_179_6 : mz_pg 179 6 = some (.invokevirtual 305, 1, 181, 1532) := by decide +kernel
theorem gz_179_9 : mz_pg 179 9 = some (.iconst 0, 0, 0, 0) := by decide +kernel
theorem gz_179_10 : mz_pg 179 10 = some (.istore_n 2, 0, 0, 0) := by decide +kernel
theorem gz_179_11 : mz_pg 179 11 = some (.iload_n 2, 0, 0, 0) := by decide +kernel
theorem gz_179_12 : mz_pg 179 12 = some (.aload_n 0, 0, 0, 0) := by decide +kernel
theorem gz_179_13 : mz_pg 179 13 = some (.getfield 293, 10, 32, 1245) := by decide +kernel
theorem gz_179_16 : mz_pg 179 16 = some (.if_icmp .ge 47, 0, 0, 0) := by decide +kernel
theorem gz_179_19 : mz_pg 179 19 = some (.iconst 0, 0, 0, 0) := by decide +kernel
theorem gz_179_20 : mz_pg 179 20 = some (.istore_n 3, 0, 0, 0) := by decide +kernel
theorem gz_179_21 : mz_pg 179 21 = some (.iload_n 3, 0, 0, 0) := by decide +kernel
theorem gz_179_22 : mz_pg 179 22 = some (.aload_n 0, 0, 0, 0) := by decide +kernel
theorem gz_179_23 : mz_pg 179 23 = some (.getfield 92, 10, 20, 1233) := by decide +kernel
theorem gz_179_26 : mz_pg 179 26 = some (.aload_n 0, 0, 0, 0) := by decide +kernel
theorem gz_179_27 : mz_pg 179 27 = some (.getfield 122, 10, 31, 1244) := by decide +kernel
theorem gz_179_30 : mz_pg 179 30 = some (.iload_n 2, 0, 0, 0) := by decide +kernel
theorem gz_179_31 : mz_pg 179 31 = some (.iaload, 0, 0, 0) := by decide +kernel
theorem gz_179_32 : mz_pg 179 32 = some (.iaload, 0, 0, 0) := by decide +kernel
theorem gz_179_33 : mz_pg 179 33 = some (.if_icmp .ge 24, 0, 0, 0) := by decide +kernel
theorem gz_179_36 : mz_pg 179 36 = some (.aload_n 0, 0, 0, 0) := by decide +kernel
theorem gz_179_37 : mz_pg 179 37 = some (.bipush 6, 0, 0, 0) := by decide +kernel
theorem gz_179_39 : mz_pg 179 39 = some (.aload_n 0, 0, 0, 0) := by decide +kernel
theorem gz_179_40 : mz_pg 179 40 = some (.getfield 122, 10, 31, 1244) := by decide +kernel
theorem gz_179_43 : mz_pg 179 43 = some (.iload_n 2, 0, 0, 0) := by decide +kernel
theorem gz_179_44 : mz_pg 179 44 = some (.iaload, 0, 0, 0) := by decide +kernel
theorem gz_179_45 : mz_pg 179 45 = some (.imul, 0, 0, 0) := by decide +kernel
theorem gz_179_46 : mz_pg 179 46 = some (.iload_n 3, 0, 0, 0) := by decide +kernel
theorem gz_179_47 : mz_pg 179 47 = some (.iadd, 0, 0, 0) := by decide +kernel
theorem gz_179_48 : mz_pg 179 48 = some (.invokevirtual 308, 1, 182, 1535) := by decide +kernel
theorem gz_179_51 : mz_pg 179 51 = some (.iinc 3 1, 0, 0, 0) := by decide +kernel
theorem gz_179_54 : mz_pg 179 54 = some (.goto (-33), 0, 0, 0) := by decide +kernel
theorem gz_179_57 : mz_pg 179 57 = some (.iinc 2 1, 0, 0, 0) := by decide +kernel
theorem gz_179_60 : mz_pg 179 60 = some (.goto (-49), 0, 0, 0) := by decide +kernel
theorem gz_179_63 : mz_pg 179 63 = some (.return_, 0, 0, 0) := by decide +kernel
theorem gz_180_0 : mz_pg 180 0 = some (.iload_n 1, 0, 0, 0) := by decide +kernel
theorem gz_180_1 : mz_pg 180 1 = some (.istore_n 2, 0, 0, 0) := by decide +kernel
theorem gz_180_2 : mz_pg 180 2 = some (.aload_n 0, 0, 0, 0) := by decide +kernel
theorem gz_180_3 : mz_pg 180 3 = some (.iconst 0, 0, 0, 0) := by decide +kernel
theorem gz_180_4 : mz_pg 180 4 = some (.putfield 293, 10, 32, 1245) := by decide +kernel
theorem gz_180_7 : mz_pg 180 7 = some (.iload_n 2, 0, 0, 0) := by decide +kernel
theorem gz_180_8 : mz_pg 180 8 = some (.ifCond .lt 98, 0, 0, 0) := by decide +kernel
theorem gz_180_11 : mz_pg 180 11 = some (.aload_n 0, 0, 0, 0) := by decide +kernel
theorem gz_180_12 : mz_pg 180 12 = some (.getfield 293, 10, 32, 1245) := by decide +kernel
theorem gz_180_15 : mz_pg 180 15 = some (.istore_n 3, 0, 0, 0) := by decide +kernel
theorem gz_180_16 : mz_pg 180 16 = some (.iload_n 3, 0, 0, 0) := by decide +kernel
theorem gz_180_17 : mz_pg 180 17 = some (.ifCond .le 23, 0, 0, 0) := by decide +kernel
theorem gz_180_20 : mz_pg 180 20 = some (.aload_n 0, 0, 0, 0) := by decide +kernel
theorem gz_180_21 : mz_pg 180 21 = some (.getfield 122, 10, 31, 1244) := by decide +kernel
theorem gz_180_24 : mz_pg 180 24 = some (.iload_n 3, 0, 0, 0) := by decide +kernel
theorem gz_180_25 : mz_pg 180 25 = some (.aload_n 0, 0, 0, 0) := by decide +kernel
theorem gz_180_26 : mz_pg 180 26 = some (.getfield 122, 10, 31, 1244) := by decide +kernel
theorem gz_180_29 : mz_pg 180 29 = some (.iload_n 3, 0, 0, 0) := by decide +kernel
theorem gz_180_30 : mz_pg 180 30 = some (.iconst 1, 0, 0, 0) := by decide +kernel
theorem gz_180_31 : mz_pg 180 31 = some (.isub, 0, 0, 0) := by decide +kernel
theorem gz_180_32 : mz_pg 180 32 = some (.iaload, 0, 0, 0) := by decide +kernel
theorem gz_180_33 : mz_pg 180 33 = some (.iastore, 0, 0, 0) := by decide +kernel
theorem gz_180_34 : mz_pg 180 34 = some (.iinc 3 (-1), 0, 0, 0) := by decide +kernel
theorem gz_180_37 : mz_pg 180 37 = some (.goto (-21), 0, 0, 0) := by decide +kernel
theorem gz_180_40 : mz_pg 180 40 = some (.aload_n 0, 0, 0, 0) := by decide +kernel
theorem gz_180_41 : mz_pg 180 41 = some (.getfield 122, 10, 31, 1244) := by decide +kernel
theorem gz_180_44 : mz_pg 180 44 = some (.iconst 0, 0, 0, 0) := by decide +kernel
theorem gz_180_45 : mz_pg 180 45 = some (.iload_n 2, 0, 0, 0) := by decide +kernel
theorem gz_180_46 : mz_pg 180 46 = some (.iastore, 0, 0, 0) := by decide +kernel
theorem gz_180_47 : mz_pg 180 47 = some (.aload_n 0, 0, 0, 0) := by decide +kernel
theorem gz_180_48 : mz_pg 180 48 = some (.dup, 0, 0, 0) := by decide +kernel
theorem gz_180_49 : mz_pg 180 49 = some (.getfield 293, 10, 32, 1245) := by decide +kernel
theorem gz_180_52 : mz_pg 180 52 = some (.iconst 1, 0, 0, 0) := by decide +kernel
theorem gz_180_53 : mz_pg 180 53 = some (.iadd, 0, 0, 0) := by decide +kernel
theorem gz_180_54 : mz_pg 180 54 = some (.putfield 293, 10, 32, 1245) := by decide +kernel
theorem gz_180_57 : mz_pg 180 57 = some (.aload_n 0, 0, 0, 0) := by decide +kernel
theorem gz_180_58 : mz_pg 180 58 = some (.aload_n 0, 0, 0, 0) := by decide +kernel
theorem gz_180_59 : mz_pg 180 59 = some (.getfield 86, 10, 18, 1231) := by decide +kernel
theorem gz_180_62 : mz_pg 180 62 = some (.iload_n 2, 0, 0, 0) := by decide +kernel
theorem gz_180_63 : mz_pg 180 63 = some (.baload, 0, 0, 0) := by decide +kernel
theorem gz_180_64 : mz_pg 180 64 = some (.ifCond .eq 12, 0, 0, 0) := by decide +kernel
theorem gz_180_67 : mz_pg 180 67 = some (.aload_n 0, 0, 0, 0) := by decide +kernel
theorem gz_180_68 : mz_pg 180 68 = some (.getfield 89, 10, 19, 1232) := by decide +kernel
theorem gz_180_71 : mz_pg 180 71 = some (.iload_n 2, 0, 0, 0) := by decide +kernel
theorem gz_180_72 : mz_pg 180 72 = some (.iaload, 0, 0, 0) := by decide +kernel
theorem gz_180_73 : mz_pg 180 73 = some (.goto 7, 0, 0, 0) := by decide +kernel
theorem gz_180_76 : mz_pg 180 76 = some (.aload_n 0, 0, 0, 0) := by decide +kernel
theorem gz_180_77 : mz_pg 180 77 = some (.getfield 296, 10, 33, 1246) := by decide +kernel
theorem gz_180_80 : mz_pg 180 80 = some (.putfield 296, 10, 33, 1246) := by decide +kernel
theorem gz_180_83 : mz_pg 180 83 = some (.aload_n 0, 0, 0, 0) := by decide +kernel
theorem gz_180_84 : mz_pg 180 84 = some (.getfield 86, 10, 18, 1231) := by decide +kernel
theorem gz_180_87 : mz_pg 180 87 = some (.iload_n 2, 0, 0, 0) := by decide +kernel
theorem gz_180_88 : mz_pg 180 88 = some (.baload, 0, 0, 0) := by decide +kernel
theorem gz_180_89 : mz_pg 180 89 = some (.ifCond .eq 7, 0, 0, 0) := by decide +kernel
theorem gz_180_92 : mz_pg 180 92 = some (.iconst (-1), 0, 0, 0) := by decide +kernel
theorem gz_180_93 : mz_pg 180 93 = some (.goto 9, 0, 0, 0) := by decide +kernel
theorem gz_180_96 : mz_pg 180 96 = some (.aload_n 0, 0, 0, 0) := by decide +kernel
theorem gz_180_97 : mz_pg 180 97 = some (.getfield 89, 10, 19, 1232) := by decide +kernel
theorem gz_180_100 : mz_pg 180 100 = some (.iload_n 2, 0, 0, 0) := by decide +kernel
theorem gz_180_101 : mz_pg 180 101 = some (.iaload, 0, 0, 0) := by decide +kernel
theorem gz_180_102 : mz_pg 180 102 = some (.istore_n 2, 0, 0, 0) := by decide +kernel
theorem gz_180_103 : mz_pg 180 103 = some (.goto (-96), 0, 0, 0) := by decide +kernel
theorem gz_180_106 : mz_pg 180 106 = some (.return_, 0, 0, 0) := by decide +kernel
theorem gz_181_0 : mz_pg 181 0 = some (.aload_n 0, 0, 0, 0) := by decide +kernel
theorem gz_181_1 : mz_pg 181 1 = some (.aload_n 0, 0, 0, 0) := by decide +kernel
theorem gz_181_2 : mz_pg 181 2 = some (.getfield 61, 10, 10, 1223) := by decide +kernel
theorem gz_181_5 : mz_pg 181 5 = some (.aload_n 0, 0, 0, 0) := by decide +kernel
theorem gz_181_6 : mz_pg 181 6 = some (.getfield 296, 10, 33, 1246) := by decide +kernel
theorem gz_181_9 : mz_pg 181 9 = some (.iaload, 0, 0, 0) := by decide +kernel
theorem gz_181_10 : mz_pg 181 10 = some (.putfield 299, 10, 27, 1240) := by decide +kernel
theorem gz_181_13 : mz_pg 181 13 = some (.iconst 0, 0, 0, 0) := by decide +kernel
theorem gz_181_14 : mz_pg 181 14 = some (.istore_n 1, 0, 0, 0) := by decide +kernel
theorem gz_181_15 : mz_pg 181 15 = some (.iload_n 1, 0, 0, 0) := by decide +kernel
theorem gz_181_16 : mz_pg 181 16 = some (.aload_n 0, 0, 0, 0) := by decide +kernel
theorem gz_181_17 : mz_pg 181 17 = some (.getfield 299, 10, 27, 1240) := by decide +kernel
theorem gz_181_20 : mz_pg 181 20 = some (.if_icmp .ge 33, 0, 0, 0) := by decide +kernel
theorem gz_181_23 : mz_pg 181 23 = some (.aload_n 0, 0, 0, 0) := by decide +kernel
theorem gz_181_24 : mz_pg 181 24 = some (.getfield 113, 10, 28, 1241) := by decide +kernel
theorem gz_181_27 : mz_pg 181 27 = some (.iload_n 1, 0, 0, 0) := by decide +kernel
theorem gz_181_28 : mz_pg 181 28 = some (.aload_n 0, 0, 0, 0) := by decide +kernel
theorem gz_181_29 : mz_pg 181 29 = some (.getfield 296, 10, 33, 1246) := by decide +kernel
theorem gz_181_32 : mz_pg 181 32 = some (.iastore, 0, 0, 0) := by decide +kernel
theorem gz_181_33 : mz_pg 181 33 = some (.aload_n 0, 0, 0, 0) := by decide +kernel
theorem gz_181_34 : mz_pg 181 34 = some (.getfield 116, 10, 29, 1242) := by decide +kernel
theorem gz_181_37 : mz_pg 181 37 = some (.iload_n 1, 0, 0, 0) := by decide +kernel
theorem gz_181_38 : mz_pg 181 38 = some (.iload_n 1, 0, 0, 0) := by decide +kernel
theorem gz_181_39 : mz_pg 181 39 = some (.iastore, 0, 0, 0) := by decide +kernel
theorem gz_181_40 : mz_pg 181 40 = some (.aload_n 0, 0, 0, 0) := by decide +kernel
theorem gz_181_41 : mz_pg 181 41 = some (.getfield 119, 10, 30, 1243) := by decide +kernel
theorem gz_181_44 : mz_pg 181 44 = some (.iload_n 1, 0, 0, 0) := by decide +kernel
theorem gz_181_45 : mz_pg 181 45 = some (.iconst 1, 0, 0, 0) := by decide +kernel
theorem gz_181_46 : mz_pg 181 46 = some (.bastore, 0, 0, 0) := by decide +kernel
theorem gz_181_47 : mz_pg 181 47 = some (.iinc 1 1, 0, 0, 0) := by decide +kernel
theorem gz_181_50 : mz_pg 181 50 = some (.goto (-35), 0, 0, 0) := by decide +kernel
theorem gz_181_53 : mz_pg 181 53 = some (.return_, 0, 0, 0) := by decide +kernel
theorem gz_182_0 : mz_pg 182 0 = some (.aload_n 0, 0, 0, 0) := by decide +kernel
theorem gz_182_1 : mz_pg 182 1 = some (.getfield 95, 10, 21, 1234) := by decide +kernel
theorem gz_182_4 : mz_pg 182 4 = some (.iload_n 1, 0, 0, 0) := by decide +kernel
theorem gz_182_5 : mz_pg 182 5 = some (.iaload, 0, 0, 0) := by decide +kernel
theorem gz_182_6 : mz_pg 182 6 = some (.iconst 5, 0, 0, 0) := by decide +kernel
theorem gz_182_7 : mz_pg 182 7 = some (.if_icmp .ne 45, 0, 0, 0) := by decide +kernel
theorem gz_182_10 : mz_pg 182 10 = some (.aload_n 0, 0, 0, 0) := by decide +kernel
theorem gz_182_11 : mz_pg 182 11 = some (.iconst 2, 0, 0, 0) := by decide +kernel
theorem gz_182_12 : mz_pg 182 12 = some (.putfield 299, 10, 27, 1240) := by decide +kernel
theorem gz_182_15 : mz_pg 182 15 = some (.iconst 0, 0, 0, 0) := by decide +kernel
theorem gz_182_16 : mz_pg 182 16 = some (.istore_n 2, 0, 0, 0) := by decide +kernel
theorem gz_182_17 : mz_pg 182 17 = some (.iload_n 2, 0, 0, 0) := by decide +kernel
theorem gz_182_18 : mz_pg 182 18 = some (.iconst 2, 0, 0, 0) := by decide +kernel
theorem gz_182_19 : mz_pg 182 19 = some (.if_icmp .ge 30, 0, 0, 0) := by decide +kernel
theorem gz_182_22 : mz_pg 182 22 = some (.aload_n 0, 0, 0, 0) := by decide +kernel
theorem gz_182_23 : mz_pg 182 23 = some (.getfield 113, 10, 28, 1241) := by decide +kernel
theorem gz_182_26 : mz_pg 182 26 = some (.iload_n 2, 0, 0, 0) := by decide +kernel
theorem gz_182_27 : mz_pg 182 27 = some (.iconst (-1), 0, 0, 0) := by decide +kernel
theorem gz_182_28 : mz_pg 182 28 = some (.iastore, 0, 0, 0) := by decide +kernel
theorem gz_182_29 : mz_pg 182 29 = some (.aload_n 0, 0, 0, 0) := by decide +kernel
theorem gz_182_30 : mz_pg 182 30 = some (.getfield 116, 10, 29, 1242) := by decide +kernel
theorem gz_182_33 : mz_pg 182 33 = some (.iload_n 2, 0, 0, 0) := by decide +kernel
theorem gz_182_34 : mz_pg 182 34 = some (.iconst (-1), 0, 0, 0) := by decide +kernel
theorem gz_182_35 : mz_pg 182 35 = some (.iastore, 0, 0, 0) := by decide +kernel
theorem gz_182_36 : mz_pg 182 36 = some (.aload_n 0, 0, 0, 0) := by decide +kernel
theorem gz_182_37 : mz_pg 182 37 = some (.getfield 119, 10, 30, 1243) := by decide +kernel
theorem gz_182_40 : mz_pg 182 40 = some (.iload_n 2, 0, 0, 0) := by decide +kernel
theorem gz_182_41 : mz_pg 182 41 = some (.iconst 0, 0, 0, 0) := by decide +kernel
theorem gz_182_42 : mz_pg 182 42 = some (.bastore, 0, 0, 0) := by decide +kernel
theorem gz_182_43 : mz_pg 182 43 = some (.iinc 2 1, 0, 0, 0) := by decide +kernel
theorem gz_182_46 : mz_pg 182 46 = some (.goto (-29), 0, 0, 0) := by decide +kernel
theorem gz_182_49 : mz_pg 182 49 = some (.goto 238, 0, 0, 0) := by decide +kernel
theorem gz_182_52 : mz_pg 182 52 = some (.aload_n 0, 0, 0, 0) := by decide +kernel
theorem gz_182_53 : mz_pg 182 53 = some (.getfield 95, 10, 21, 1234) := by decide +kernel
theorem gz_182_56 : mz_pg 182 56 = some (.iload_n 1, 0, 0, 0) := by decide +kernel
theorem gz_182_57 : mz_pg 182 57 = some (.iaload, 0, 0, 0) := by decide +kernel
theorem gz_182_58 : mz_pg 182 58 = some (.iconst 4, 0, 0, 0) := by decide +kernel
theorem gz_182_59 : mz_pg 182 59 = some (.if_icmp .ne 74, 0, 0, 0) := by decide +kernel
theorem gz_182_62 : mz_pg 182 62 = some (.iconst 1, 0, 0, 0) := by decide +kernel
theorem gz_182_63 : mz_pg 182 63 = some (.istore_n 2, 0, 0, 0) := by decide +kernel
theorem gz_182_64 : mz_pg 182 64 = some (.iload_n 2, 0, 0, 0) := by decide +kernel
theorem gz_182_65 : mz_pg 182 65 = some (.aload_n 0, 0, 0, 0) := by decide +kernel
theorem gz_182_66 : mz_pg 182 66 = some (.getfield 61, 10, 10, 1223) := by decide +kernel
theorem gz_182_69 : mz_pg 182 69 = some (.aload_n 0, 0, 0, 0) := by decide +kernel
theorem gz_182_70 : mz_pg 182 70 = some (.getfield 101, 10, 23, 1236) := by decide +kernel
theorem gz_182_73 : mz_pg 182 73 = some (.iload_n 1, 0, 0, 0) := by decide +kernel
theorem gz_182_74 : mz_pg 182 74 = some (.iaload, 0, 0, 0) := by decide +kernel
theorem gz_182_75 : mz_pg 182 75 = some (.iaload, 0, 0, 0) := by decide +kernel
theorem gz_182_76 : mz_pg 182 76 = some (.if_icmp .ge 54, 0, 0, 0) := by decide +kernel
theorem gz_182_79 : mz_pg 182 79 = some (.aload_n 0, 0, 0, 0) := by decide +kernel
theorem gz_182_80 : mz_pg 182 80 = some (.getfield 113, 10, 28, 1241) := by decide +kernel
theorem gz_182_83 : mz_pg 182 83 = some (.aload_n 0, 0, 0, 0) := by decide +kernel
theorem gz_182_84 : mz_pg 182 84 = some (.getfield 299, 10, 27, 1240) := by decide +kernel
theorem gz_182_87 : mz_pg 182 87 = some (.aload_n 0, 0, 0, 0) := by decide +kernel
theorem gz_182_88 : mz_pg 182 88 = some (.getfield 101, 10, 23, 1236) := by decide +kernel
theorem gz_182_91 : mz_pg 182 91 = some (.iload_n 1, 0, 0, 0) := by decide +kernel
theorem gz_182_92 : mz_pg 182 92 = some (.iaload, 0, 0, 0) := by decide +kernel
theorem gz_182_93 : mz_pg 182 93 = some (.iastore, 0, 0, 0) := by decide +kernel
theorem gz_182_94 : mz_pg 182 94 = some (.aload_n 0, 0, 0, 0) := by decide +kernel
theorem gz_182_95 : mz_pg 182 95 = some (.getfield 116, 10, 29, 1242) := by decide +kernel
theorem gz_182_98 : mz_pg 182 98 = some (.aload_n 0, 0, 0, 0) := by decide +kernel
theorem gz_182_99 : mz_pg 182 99 = some (.getfield 299, 10, 27, 1240) := by decide +kernel
theorem gz_182_102 : mz_pg 182 102 = some (.iload_n 2, 0, 0, 0) := by decide +kernel
theorem gz_182_103 : mz_pg 182 103 = some (.iastore, 0, 0, 0) := by decide +kernel
theorem gz_182_104 : mz_pg 182 104 = some (.aload_n 0, 0, 0, 0) := by decide +kernel
theorem gz_182_105 : mz_pg 182 105 = some (.getfield 119, 10, 30, 1243) := by decide +kernel
theorem gz_182_108 : mz_pg 182 108 = some (.aload_n 0, 0, 0, 0) := by decide +kernel
theorem gz_182_109 : mz_pg 182 109 = some (.getfield 299, 10, 27, 1240) := by decide +kernel
theorem gz_182_112 : mz_pg 182 112 = some (.iconst 0, 0, 0, 0) := by decide +kernel
theorem gz_182_113 : mz_pg 182 113 = some (.bastore, 0, 0, 0) := by decide +kernel
theorem gz_182_114 : mz_pg 182 114 = some (.aload_n 0, 0, 0, 0) := by decide +kernel
theorem gz_182_115 : mz_pg 182 115 = some (.dup, 0, 0, 0) := by decide +kernel
theorem gz_182_116 : mz_pg 182 116 = some (.getfield 299, 10, 27, 1240) := by decide +kernel
theorem gz_182_119 : mz_pg 182 119 = some (.iconst 1, 0, 0, 0) := by decide +kernel
theorem gz_182_120 : mz_pg 182 120 = some (.iadd, 0, 0, 0) := by decide +kernel
theorem gz_182_121 : mz_pg 182 121 = some (.putfield 299, 10, 27, 1240) := by decide +kernel
theorem gz_182_124 : mz_pg 182 124 = some (.iinc 2 1, 0, 0, 0) := by decide +kernel
theorem gz_182_127 : mz_pg 182 127 = some (.goto (-63), 0, 0, 0) := by decide +kernel
theorem gz_182_130 : mz_pg 182 130 = some (.goto 157, 0, 0, 0) := by decide +kernel
theorem gz_182_133 : mz_pg 182 133 = some (.aload_n 0, 0, 0, 0) := by decide +kernel
theorem gz_182_134 : mz_pg 182 134 = some (.getfield 95, 10, 21, 1234) := by decide +kernel
theorem gz_182_137 : mz_pg 182 137 = some (.iload_n 1, 0, 0, 0) := by decide +kernel
theorem gz_182_138 : mz_pg 182 138 = some (.iaload, 0, 0, 0) := by decide +kernel
theorem gz_182_139 : mz_pg 182 139 = some (.iconst 3, 0, 0, 0) := by decide +kernel
theorem gz_182_140 : mz_pg 182 140 = some (.if_icmp .ne 147, 0, 0, 0) := by decide +kernel
theorem gz_182_143 : mz_pg 182 143 = some (.iconst 0, 0, 0, 0) := by decide +kernel
theorem gz_182_144 : mz_pg 182 144 = some (.istore_n 2, 0, 0, 0) := by decide +kernel
theorem gz_182_145 : mz_pg 182 145 = some (.iload_n 2, 0, 0, 0) := by decide +kernel
theorem gz_182_146 : mz_pg 182 146 = some (.aload_n 0, 0, 0, 0) := by decide +kernel
theorem gz_182_147 : mz_pg 182 147 = some (.getfield 299, 10, 27, 1240) := by decide +kernel
theorem gz_182_150 : mz_pg 182 150 = some (.if_icmp .ge 45, 0, 0, 0) := by decide +kernel
theorem gz_182_153 : mz_pg 182 153 = some (.aload_n 0, 0, 0, 0) := by decide +kernel
theorem gz_182_154 : mz_pg 182 154 = some (.getfield 125, 10, 34, 1247) := by decide +kernel
theorem gz_182_157 : mz_pg 182 157 = some (.iload_n 2, 0, 0, 0) := by decide +kernel
theorem gz_182_158 : mz_pg 182 158 = some (.aload_n 0, 0, 0, 0) := by decide +kernel
theorem gz_182_159 : mz_pg 182 159 = some (.getfield 113, 10, 28, 1241) := by decide +kernel
theorem gz_182_162 : mz_pg 182 162 = some (.iload_n 2, 0, 0, 0) := by decide +kernel
theorem gz_182_163 : mz_pg 182 163 = some (.iaload, 0, 0, 0) := by decide +kernel
theorem gz_182_164 : mz_pg 182 164 = some (.iastore, 0, 0, 0) := by decide +kernel
theorem gz_182_165 : mz_pg 182 165 = some (.aload_n 0, 0, 0, 0) := by decide +kernel
theorem gz_182_166 : mz_pg 182 166 = some (.getfield 128, 10, 35, 1248) := by decide +kernel
theorem gz_182_169 : mz_pg 182 169 = some (.iload_n 2, 0, 0, 0) := by decide +kernel
theorem gz_182_170 : mz_pg 182 170 = some (.aload_n 0, 0, 0, 0) := by decide +kernel
theorem gz_182_171 : mz_pg 182 171 = some (.getfield 116, 10, 29, 1242) := by decide +kernel
theorem gz_182_174 : mz_pg 182 174 = some (.iload_n 2, 0, 0, 0) := by decide +kernel
theorem gz_182_175 : mz_pg 182 175 = some (.iaload, 0, 0, 0) := by decide +kernel
theorem gz_182_176 : mz_pg 182 176 = some (.iastore, 0, 0, 0) := by decide +kernel
theorem gz_182_177 : mz_pg 182 177 = some (.aload_n 0, 0, 0, 0) := by decide +kernel
theorem gz_182_178 : mz_pg 182 178 = some (.getfield 131, 10, 36, 1249) := by decide +kernel
theorem gz_182_181 : mz_pg 182 181 = some (.iload_n 2, 0, 0, 0) := by decide +kernel
theorem gz_182_182 : mz_pg 182 182 = some (.aload_n 0, 0, 0, 0) := by decide +kernel
theorem gz_182_183 : mz_pg 182 183 = some (.getfield 119, 10, 30, 1243) := by decide +kernel
theorem gz_182_186 : mz_pg 182 186 = some (.iload_n 2, 0, 0, 0) := by decide +kernel
theorem gz_182_187 : mz_pg 182 187 = some (.baload, 0, 0, 0) := by decide +kernel
theorem gz_182_188 : mz_pg 182 188 = some (.bastore, 0, 0, 0) := by decide +kernel
theorem gz_182_189 : mz_pg 182 189 = some (.iinc 2 1, 0, 0, 0) := by decide +kernel
theorem gz_182_192 : mz_pg 182 192 = some (.goto (-47), 0, 0, 0) := by decide +kernel
theorem gz_182_195 : mz_pg 182 195 = some (.aload_n 0, 0, 0, 0) := by decide +kernel
theorem gz_182_196 : mz_pg 182 196 = some (.aload_n 0, 0, 0, 0) := by decide +kernel
theorem gz_182_197 : mz_pg 182 197 = some (.getfield 104, 10, 24, 1237) := by decide +kernel
theorem gz_182_200 : mz_pg 182 200 = some (.iload_n 1, 0, 0, 0) := by decide +kernel
theorem gz_182_201 : mz_pg 182 201 = some (.iaload, 0, 0, 0) := by decide +kernel
theorem gz_182_202 : mz_pg 182 202 = some (.putfield 299, 10, 27, 1240) := by decide +kernel
theorem gz_182_205 : mz_pg 182 205 = some (.iconst 0, 0, 0, 0) := by decide +kernel
theorem gz_182_206 : mz_pg 182 206 = some (.istore_n 2, 0, 0, 0) := by decide +kernel
theorem gz_182_207 : mz_pg 182 207 = some (.iload_n 2, 0, 0, 0) := by decide +kernel
theorem gz_182_208 : mz_pg 182 208 = some (.aload_n 0, 0, 0, 0) := by decide +kernel
theorem gz_182_209 : mz_pg 182 209 = some (.getfield 299, 10, 27, 1240) := by decide +kernel
theorem gz_182_212 : mz_pg 182 212 = some (.if_icmp .ge 75, 0, 0, 0) := by decide +kernel
theorem gz_182_215 : mz_pg 182 215 = some (.aload_n 0, 0, 0, 0) := by decide +kernel
theorem gz_182_216 : mz_pg 182 216 = some (.getfield 113, 10, 28, 1241) := by decide +kernel
theorem gz_182_219 : mz_pg 182 219 = some (.iload_n 2, 0, 0, 0) := by decide +kernel
theorem gz_182_220 : mz_pg 182 220 = some (.aload_n 0, 0, 0, 0) := by decide +kernel
theorem gz_182_221 : mz_pg 182 221 = some (.getfield 125, 10, 34, 1247) := by decide +kernel
theorem gz_182_224 : mz_pg 182 224 = some (.aload_n 0, 0, 0, 0) := by decide +kernel
theorem gz_182_225 : mz_pg 182 225 = some (.getfield 107, 10, 25, 1238) := by decide +kernel
theorem gz_182_228 : mz_pg 182 228 = some (.bipush 8, 0, 0, 0) := by decide +kernel
theorem gz_182_230 : mz_pg 182 230 = some (.iload_n 1, 0, 0, 0) := by decide +kernel
theorem gz_182_231 : mz_pg 182 231 = some (.imul, 0, 0, 0) := by decide +kernel
theorem gz_182_232 : mz_pg 182 232 = some (.iload_n 2, 0, 0, 0) := by decide +kernel
theorem gz_182_233 : mz_pg 182 233 = some (.iadd, 0, 0, 0) := by decide +kernel
theorem gz_182_234 : mz_pg 182 234 = some (.iaload, 0, 0, 0) := by decide +kernel
theorem gz_182_235 : mz_pg 182 235 = some (.iaload, 0, 0, 0) := by decide +kernel
theorem gz_182_236 : mz_pg 182 236 = some (.iastore, 0, 0, 0) := by decide +kernel
theorem gz_182_237 : mz_pg 182 237 = some (.aload_n 0, 0, 0, 0) := by decide +kernel
theorem gz_182_238 : mz_pg 182 238 = some (.getfield 116, 10, 29, 1242) := by decide +kernel
theorem gz_182_241 : mz_pg 182 241 = some (.iload_n 2, 0, 0, 0) := by decide +kernel
theorem gz_182_242 : mz_pg 182 242 = some (.aload_n 0, 0, 0, 0) := by decide +kernel
theorem gz_182_243 : mz_pg 182 243 = some (.getfield 128, 10, 35, 1248) := by decide +kernel
theorem gz_182_246 : mz_pg 182 246 = some (.aload_n 0, 0, 0, 0) := by decide +kernel
theorem gz_182_247 : mz_pg 182 247 = some (.getfield 107, 10, 25, 1238) := by decide +kernel
theorem gz_182_250 : mz_pg 182 250 = some (.bipush 8, 0, 0, 0) := by decide +kernel
theorem gz_182_252 : mz_pg 182 252 = some (.iload_n 1, 0, 0, 0) := by decide +kernel
theorem gz_182_253 : mz_pg 182 253 = some (.imul, 0, 0, 0) := by decide +kernel
theorem gz_182_254 : mz_pg 182 254 = some (.iload_n 2, 0, 0, 0) := by decide +kernel
theorem gz_182_255 : mz_pg 182 255 = some (.iadd, 0, 0, 0) := by decide +kernel
theorem gz_182_256 : mz_pg 182 256 = some (.iaload, 0, 0, 0) := by decide +kernel
theorem gz_182_257 : mz_pg 182 257 = some (.iaload, 0, 0, 0) := by decide +kernel
theorem gz_182_258 : mz_pg 182 258 = some (.iastore, 0, 0, 0) := by decide +kernel
theorem gz_182_259 : mz_pg 182 259 = some (.aload_n 0, 0, 0, 0) := by decide +kernel
theorem gz_182_260 : mz_pg 182 260 = some (.getfield 119, 10, 30, 1243) := by decide +kernel
theorem gz_182_263 : mz_pg 182 263 = some (.iload_n 2, 0, 0, 0) := by decide +kernel
theorem gz_182_264 : mz_pg 182 264 = some (.aload_n 0, 0, 0, 0) := by decide +kernel
theorem gz_182_265 : mz_pg 182 265 = some (.getfield 131, 10, 36, 1249) := by decide +kernel
theorem gz_182_268 : mz_pg 182 268 = some (.aload_n 0, 0, 0, 0) := by decide +kernel
theorem gz_182_269 : mz_pg 182 269 = some (.getfield 107, 10, 25, 1238) := by decide +kernel
theorem gz_182_272 : mz_pg 182 272 = some (.bipush 8, 0, 0, 0) := by decide +kernel
theorem gz_182_274 : mz_pg 182 274 = some (.iload_n 1, 0, 0, 0) := by decide +kernel
theorem gz_182_275 : mz_pg 182 275 = some (.imul, 0, 0, 0) := by decide +kernel
theorem gz_182_276 : mz_pg 182 276 = some (.iload_n 2, 0, 0, 0) := by decide +kernel
theorem gz_182_277 : mz_pg 182 277 = some (.iadd, 0, 0, 0) := by decide +kernel
theorem gz_182_278 : mz_pg 182 278 = some (.iaload, 0, 0, 0) := by decide +kernel
theorem gz_182_279 : mz_pg 182 279 = some (.baload, 0, 0, 0) := by decide +kernel
theorem gz_182_280 : mz_pg 182 280 = some (.bastore, 0, 0, 0) := by decide +kernel
theorem gz_182_281 : mz_pg 182 281 = some (.iinc 2 1, 0, 0, 0) := by decide +kernel
theorem gz_182_284 : mz_pg 182 284 = some (.goto (-77), 0, 0, 0) := by decide +kernel
theorem gz_182_287 : mz_pg 182 287 = some (.return_, 0, 0, 0) := by decide +kernel
theorem gz_183_0 : mz_pg 183 0 = some (.aload_n 0, 0, 0, 0) := by decide +kernel
theorem gz_183_1 : mz_pg 183 1 = some (.iload_n 1, 0, 0, 0) := by decide +kernel
theorem gz_183_2 : mz_pg 183 2 = some (.invokevirtual 229, 1, 184, 1541) := by decide +kernel
theorem gz_183_5 : mz_pg 183 5 = some (.ifCond .eq 16, 0, 0, 0) := by decide +kernel
theorem gz_183_8 : mz_pg 183 8 = some (.aload_n 0, 0, 0, 0) := by decide +kernel
theorem gz_183_9 : mz_pg 183 9 = some (.dup, 0, 0, 0) := by decide +kernel
theorem gz_183_10 : mz_pg 183 10 = some (.getfield 223, 10, 7, 1220) := by decide +kernel
theorem gz_183_13 : mz_pg 183 13 = some (.iconst 1, 0, 0, 0) := by decide +kernel
theorem gz_183_14 : mz_pg 183 14 = some (.iadd, 0, 0, 0) := by decide +kernel
theorem gz_183_15 : mz_pg 183 15 = some (.putfield 223, 10, 7, 1220) := by decide +kernel
theorem gz_183_18 : mz_pg 183 18 = some (.goto 8, 0, 0, 0) := by decide +kernel
theorem gz_183_21 : mz_pg 183 21 = some (.aload_n 0, 0, 0, 0) := by decide +kernel
theorem gz_183_22 : mz_pg 183 22 = some (.iconst 1, 0, 0, 0) := by decide +kernel
theorem gz_183_23 : mz_pg 183 23 = some (.invokevirtual 232, 1, 178, 1523) := by decide +kernel
theorem gz_183_26 : mz_pg 183 26 = some (.return_, 0, 0, 0) := by decide +kernel
theorem gz_184_0 : mz_pg 184 0 = some (.aload_n 0, 0, 0, 0) := by decide +kernel
theorem gz_184_1 : mz_pg 184 1 = some (.getfield 226, 10, 8, 1221) := by decide +kernel
theorem gz_184_4 : mz_pg 184 4 = some (.ifCond .ne 35, 0, 0, 0) := by decide +kernel
theorem gz_184_7 : mz_pg 184 7 = some (.aload_n 0, 0, 0, 0) := by decide +kernel
theorem gz_184_8 : mz_pg 184 8 = some (.getfield 24, 10, 4, 1217) := by decide +kernel
theorem gz_184_11 : mz_pg 184 11 = some (.aload_n 0, 0, 0, 0) := by decide +kernel
theorem gz_184_12 : mz_pg 184 12 = some (.getfield 223, 10, 7, 1220) := by decide +kernel
theorem gz_184_15 : mz_pg 184 15 = some (.iaload, 0, 0, 0) := by decide +kernel
theorem gz_184_16 : mz_pg 184 16 = some (.iconst 3, 0, 0, 0) := by decide +kernel
theorem gz_184_17 : mz_pg 184 17 = some (.if_icmp .ne 22, 0, 0, 0) := by decide +kernel
theorem gz_184_20 : mz_pg 184 20 = some (.aload_n 0, 0, 0, 0) := by decide +kernel
theorem gz_184_21 : mz_pg 184 21 = some (.getfield 30, 10, 6, 1219) := by decide +kernel
theorem gz_184_24 : mz_pg 184 24 = some (.aload_n 0, 0, 0, 0) := by decide +kernel
theorem gz_184_25 : mz_pg 184 25 = some (.getfield 223, 10, 7, 1220) := by decide +kernel
theorem gz_184_28 : mz_pg 184 28 = some (.laload, 0, 0, 0) := by decide +kernel
theorem gz_184_29 : mz_pg 184 29 = some (.iload_n 1, 0, 0, 0) := by decide +kernel
theorem gz_184_30 : mz_pg 184 30 = some (.i2l, 0, 0, 0) := by decide +kernel
theorem gz_184_31 : mz_pg 184 31 = some (.lcmp, 0, 0, 0) := by decide +kernel
theorem gz_184_32 : mz_pg 184 32 = some (.ifCond .ne 7, 0, 0, 0) := by decide +kernel
theorem gz_184_35 : mz_pg 184 35 = some (.iconst 1, 0, 0, 0) := by decide +kernel
theorem gz_184_36 : mz_pg 184 36 = some (.goto 4, 0, 0, 0) := by decide +kernel
theorem gz_184_39 : mz_pg 184 39 = some (.iconst 0, 0, 0, 0) := by decide +kernel
theorem gz_184_40 : mz_pg 184 40 = some (.ireturn, 0, 0, 0) := by decide +kernel
theorem gz_185_0 : mz_pg 185 0 = some (.aload_n 0, 0, 0, 0) := by decide +kernel
theorem gz_185_1 : mz_pg 185 1 = some (.iconst 3, 0, 0, 0) := by decide +kernel
theorem gz_185_2 : mz_pg 185 2 = some (.invokevirtual 236, 1, 177, 1520) := by decide +kernel
theorem gz_185_5 : mz_pg 185 5 = some (.istore_n 1, 0, 0, 0) := by decide +kernel
theorem gz_185_6 : mz_pg 185 6 = some (.aload_n 0, 0, 0, 0) := by decide +kernel
theorem gz_185_7 : mz_pg 185 7 = some (.bipush 7, 0, 0, 0) := by decide +kernel
theorem gz_185_9 : mz_pg 185 9 = some (.invokevirtual 236, 1, 177, 1520) := by decide +kernel
theorem gz_185_12 : mz_pg 185 12 = some (.istore_n 2, 0, 0, 0) := by decide +kernel
theorem gz_185_13 : mz_pg 185 13 = some (.aload_n 0, 0, 0, 0) := by decide +kernel
theorem gz_185_14 : mz_pg 185 14 = some (.bipush 8, 0, 0, 0) := by decide +kernel
theorem gz_185_16 : mz_pg 185 16 = some (.invokevirtual 236, 1, 177, 1520) := by decide +kernel
theorem gz_185_19 : mz_pg 185 19 = some (.istore_n 3, 0, 0, 0) := by decide +kernel
theorem gz_185_20 : mz_pg 185 20 = some (.aload_n 0, 0, 0, 0) := by decide +kernel
theorem gz_185_21 : mz_pg 185 21 = some (.bipush 11, 0, 0, 0) := by decide +kernel
theorem gz_185_23 : mz_pg 185 23 = some (.invokevirtual 236, 1, 177, 1520) := by decide +kernel
theorem gz_185_26 : mz_pg 185 26 = some (.istore 4, 0, 0, 0) := by decide +kernel
theorem gz_185_28 : mz_pg 185 28 = some (.iload_n 1, 0, 0, 0) := by decide +kernel
theorem gz_185_29 : mz_pg 185 29 = some (.ifCond .ne 33, 0, 0, 0) := by decide +kernel
theorem gz_185_32 : mz_pg 185 32 = some (.iload_n 2, 0, 0, 0) := by decide +kernel
theorem gz_185_33 : mz_pg 185 33 = some (.ifCond .ne 29, 0, 0, 0) := by decide +kernel
theorem gz_185_36 : mz_pg 185 36 = some (.iload_n 3, 0, 0, 0) := by decide +kernel
theorem gz_185_37 : mz_pg 185 37 = some (.ifCond .ne 25, 0, 0, 0) := by decide +kernel
theorem gz_185_40 : mz_pg 185 40 = some (.iload 4, 0, 0, 0) := by decide +kernel
theorem gz_185_42 : mz_pg 185 42 = some (.ifCond .ne 20, 0, 0, 0) := by decide +kernel
theorem gz_185_45 : mz_pg 185 45 = some (.aload_n 0, 0, 0, 0) := by decide +kernel
theorem gz_185_46 : mz_pg 185 46 = some (.bipush 10, 0, 0, 0) := by decide +kernel
theorem gz_185_48 : mz_pg 185 48 = some (.invokevirtual 236, 1, 177, 1520) := by decide +kernel
theorem gz_185_51 : mz_pg 185 51 = some (.ifCond .ne 11, 0, 0, 0) := by decide +kernel
theorem gz_185_54 : mz_pg 185 54 = some (.aload_n 0, 0, 0, 0) := by decide +kernel
theorem gz_185_55 : mz_pg 185 55 = some (.iconst 1, 0, 0, 0) := by decide +kernel
theorem gz_185_56 : mz_pg 185 56 = some (.invokevirtual 232, 1, 178, 1523) := by decide +kernel
theorem gz_185_59 : mz_pg 185 59 = some (.goto 29, 0, 0, 0) := by decide +kernel
theorem gz_185_62 : mz_pg 185 62 = some (.aload_n 0, 0, 0, 0) := by decide +kernel
theorem gz_185_63 : mz_pg 185 63 = some (.bipush 10, 0, 0, 0) := by decide +kernel
theorem gz_185_65 : mz_pg 185 65 = some (.invokevirtual 236, 1, 177, 1520) := by decide +kernel
theorem gz_185_68 : mz_pg 185 68 = some (.ifCond .ne 20, 0, 0, 0) := by decide +kernel
theorem gz_185_71 : mz_pg 185 71 = some (.aload_n 0, 0, 0, 0) := by decide +kernel
theorem gz_185_72 : mz_pg 185 72 = some (.getfield 92, 10, 20, 1233) := by decide +kernel
theorem gz_185_75 : mz_pg 185 75 = some (.bipush 6, 0, 0, 0) := by decide +kernel
theorem gz_185_77 : mz_pg 185 77 = some (.iaload, 0, 0, 0) := by decide +kernel
theorem gz_185_78 : mz_pg 185 78 = some (.bipush 6, 0, 0, 0) := by decide +kernel
theorem gz_185_80 : mz_pg 185 80 = some (.if_icmp .ne 8, 0, 0, 0) := by decide +kernel
theorem gz_185_83 : mz_pg 185 83 = some (.aload_n 0, 0, 0, 0) := by decide +kernel
theorem gz_185_84 : mz_pg 185 84 = some (.iconst 5, 0, 0, 0) := by decide +kernel
theorem gz_185_85 : mz_pg 185 85 = some (.invokevirtual 232, 1, 178, 1523) := by decide +kernel
theorem gz_185_88 : mz_pg 185 88 = some (.aload_n 0, 0, 0, 0) := by decide +kernel
theorem gz_185_89 : mz_pg 185 89 = some (.getfield 226, 10, 8, 1221) := by decide +kernel
theorem gz_185_92 : mz_pg 185 92 = some (.ifCond .le 4, 0, 0, 0) := by decide +kernel
theorem gz_185_95 : mz_pg 185 95 = some (.return_, 0, 0, 0) := by decide +kernel
theorem gz_185_96 : mz_pg 185 96 = some (.aload_n 0, 0, 0, 0) := by decide +kernel
theorem gz_185_97 : mz_pg 185 97 = some (.dup, 0, 0, 0) := by decide +kernel
theorem gz_185_98 : mz_pg 185 98 = some (.getfield 223, 10, 7, 1220) := by decide +kernel
theorem gz_185_101 : mz_pg 185 101 = some (.iconst 1, 0, 0, 0) := by decide +kernel
theorem gz_185_102 : mz_pg 185 102 = some (.iadd, 0, 0, 0) := by decide +kernel
theorem gz_185_103 : mz_pg 185 103 = some (.putfield 223, 10, 7, 1220) := by decide +kernel
theorem gz_185_106 : mz_pg 185 106 = some (.bipush 36, 0, 0, 0) := by decide +kernel
theorem gz_185_108 : mz_pg 185 108 = some (.aload_n 0, 0, 0, 0) := by decide +kernel
theorem gz_185_109 : mz_pg 185 109 = some (.getfield 92, 10, 20, 1233) := by decide +kernel
theorem gz_185_112 : mz_pg 185 112 = some (.bipush 6, 0, 0, 0) := by decide +kernel
theorem gz_185_114 : mz_pg 185 114 = some (.iaload, 0, 0, 0) := by decide +kernel
theorem gz_185_115 : mz_pg 185 115 = some (.iadd, 0, 0, 0) := by decide +kernel
theorem gz_185_116 : mz_pg 185 116 = some (.istore 5, 0, 0, 0) := by decide +kernel
theorem gz_185_118 : mz_pg 185 118 = some (.iload_n 1, 0, 0, 0) := by decide +kernel
theorem gz_185_119 : mz_pg 185 119 = some (.ifCond .eq 12, 0, 0, 0) := by decide +kernel
theorem gz_185_122 : mz_pg 185 122 = some (.aload_n 0, 0, 0, 0) := by decide +kernel
theorem gz_185_123 : mz_pg 185 123 = some (.iload 5, 0, 0, 0) := by decide +kernel
theorem gz_185_125 : mz_pg 185 125 = some (.invokevirtual 332, 1, 186, 1547) := by decide +kernel
theorem gz_185_128 : mz_pg 185 128 = some (.goto 100, 0, 0, 0) := by decide +kernel
theorem gz_185_131 : mz_pg 185 131 = some (.iload_n 2, 0, 0, 0) := by decide +kernel
theorem gz_185_132 : mz_pg 185 132 = some (.ifCond .eq 12, 0, 0, 0) := by decide +kernel
theorem gz_185_135 : mz_pg 185 135 = some (.aload_n 0, 0, 0, 0) := by decide +kernel
theorem gz_185_136 : mz_pg 185 136 = some (.iload 5, 0, 0, 0) := by decide +kernel
theorem gz_185_138 : mz_pg 185 138 = some (.invokevirtual 335, 1, 188, 1553) := by decide +kernel
theorem gz_185_141 : mz_pg 185 141 = some (.goto 87, 0, 0, 0) := by decide +kernel
theorem gz_185_144 : mz_pg 185 144 = some (.iload_n 3, 0, 0, 0) := by decide +kernel
theorem gz_185_145 : mz_pg 185 145 = some (.ifCond .eq 12, 0, 0, 0) := by decide +kernel
theorem gz_185_148 : mz_pg 185 148 = some (.aload_n 0, 0, 0, 0) := by decide +kernel
theorem gz_185_149 : mz_pg 185 149 = some (.iload 5, 0, 0, 0) := by decide +kernel
theorem gz_185_151 : mz_pg 185 151 = some (.invokevirtual 338, 1, 189, 1556) := by decide +kernel
theorem gz_185_154 : mz_pg 185 154 = some (.goto 74, 0, 0, 0) := by decide +kernel
theorem gz_185_157 : mz_pg 185 157 = some (.iload 4, 0, 0, 0) := by decide +kernel
theorem gz_185_159 : mz_pg 185 159 = some (.ifCond .eq 12, 0, 0, 0) := by decide +kernel
theorem gz_185_162 : mz_pg 185 162 = some (.aload_n 0, 0, 0, 0) := by decide +kernel
theorem gz_185_163 : mz_pg 185 163 = some (.iload 5, 0, 0, 0) := by decide +kernel
theorem gz_185_165 : mz_pg 185 165 = some (.invokevirtual 341, 1, 190, 1560) := by decide +kernel
theorem gz_185_168 : mz_pg 185 168 = some (.goto 60, 0, 0, 0) := by decide +kernel
theorem gz_185_171 : mz_pg 185 171 = some (.aload_n 0, 0, 0, 0) := by decide +kernel
theorem gz_185_172 : mz_pg 185 172 = some (.aload_n 0, 0, 0, 0) := by decide +kernel
theorem gz_185_173 : mz_pg 185 173 = some (.getfield 61, 10, 10, 1223) := by decide +kernel
theorem gz_185_176 : mz_pg 185 176 = some (.aload_n 0, 0, 0, 0) := by decide +kernel
theorem gz_185_177 : mz_pg 185 177 = some (.getfield 296, 10, 33, 1246) := by decide +kernel
theorem gz_185_180 : mz_pg 185 180 = some (.iaload, 0, 0, 0) := by decide +kernel
theorem gz_185_181 : mz_pg 185 181 = some (.iconst 1, 0, 0, 0) := by decide +kernel
theorem gz_185_182 : mz_pg 185 182 = some (.isub, 0, 0, 0) := by decide +kernel
theorem gz_185_183 : mz_pg 185 183 = some (.invokevirtual 344, 1, 187, 1550) := by decide +kernel
theorem gz_185_186 : mz_pg 185 186 = some (.istore 6, 0, 0, 0) := by decide +kernel
theorem gz_185_188 : mz_pg 185 188 = some (.aload_n 0, 0, 0, 0) := by decide +kernel
theorem gz_185_189 : mz_pg 185 189 = some (.bipush 19, 0, 0, 0) := by decide +kernel
theorem gz_185_191 : mz_pg 185 191 = some (.invokevirtual 344, 1, 187, 1550) := by decide +kernel
theorem gz_185_194 : mz_pg 185 194 = some (.istore 7, 0, 0, 0) := by decide +kernel
theorem gz_185_196 : mz_pg 185 196 = some (.aload_n 0, 0, 0, 0) := by decide +kernel
theorem gz_185_197 : mz_pg 185 197 = some (.getfield 110, 10, 26, 1239) := by decide +kernel
theorem gz_185_200 : mz_pg 185 200 = some (.bipush 24, 0, 0, 0) := by decide +kernel
theorem gz_185_202 : mz_pg 185 202 = some (.iload 6, 0, 0, 0) := by decide +kernel
theorem gz_185_204 : mz_pg 185 204 = some (.iadd, 0, 0, 0) := by decide +kernel
theorem gz_185_205 : mz_pg 185 205 = some (.aload_n 0, 0, 0, 0) := by decide +kernel
theorem gz_185_206 : mz_pg 185 206 = some (.getfield 226, 10, 8, 1221) := by decide +kernel
theorem gz_185_209 : mz_pg 185 209 = some (.ifCond .ne 8, 0, 0, 0) := by decide +kernel
theorem gz_185_212 : mz_pg 185 212 = some (.iload 7, 0, 0, 0) := by decide +kernel
theorem gz_185_214 : mz_pg 185 214 = some (.goto 13, 0, 0, 0) := by decide +kernel
theorem gz_185_217 : mz_pg 185 217 = some (.aload_n 0, 0, 0, 0) := by decide +kernel
theorem gz_185_218 : mz_pg 185 218 = some (.getfield 110, 10, 26, 1239) := by decide +kernel
theorem gz_185_221 : mz_pg 185 221 = some (.bipush 24, 0, 0, 0) := by decide +kernel
theorem gz_185_223 : mz_pg 185 223 = some (.iload 6, 0, 0, 0) := by decide +kernel
theorem gz_185_225 : mz_pg 185 225 = some (.iadd, 0, 0, 0) := by decide +kernel
theorem gz_185_226 : mz_pg 185 226 = some (.iaload, 0, 0, 0) := by decide +kernel
theorem gz_185_227 : mz_pg 185 227 = some (.iastore, 0, 0, 0) := by decide +kernel
theorem gz_185_228 : mz_pg 185 228 = some (.aload_n 0, 0, 0, 0) := by decide +kernel
theorem gz_185_229 : mz_pg 185 229 = some (.getfield 226, 10, 8, 1221) := by decide +kernel
theorem gz_185_232 : mz_pg 185 232 = some (.ifCond .ne 37, 0, 0, 0) := by decide +kernel
theorem gz_185_235 : mz_pg 185 235 = some (.iload_n 1, 0, 0, 0) := by decide +kernel
theorem gz_185_236 : mz_pg 185 236 = some (.ifCond .ne 16, 0, 0, 0) := by decide +kernel
theorem gz_185_239 : mz_pg 185 239 = some (.iload_n 2, 0, 0, 0) := by decide +kernel
theorem gz_185_240 : mz_pg 185 240 = some (.ifCond .ne 12, 0, 0, 0) := by decide +kernel
theorem gz_185_243 : mz_pg 185 243 = some (.iload_n 3, 0, 0, 0) := by decide +kernel
theorem gz_185_244 : mz_pg 185 244 = some (.ifCond .ne 8, 0, 0, 0) := by decide +kernel
theorem gz_185_247 : mz_pg 185 247 = some (.iload 4, 0, 0, 0) := by decide +kernel
theorem gz_185_249 : mz_pg 185 249 = some (.ifCond .eq 20, 0, 0, 0) := by decide +kernel
theorem gz_185_252 : mz_pg 185 252 = some (.aload_n 0, 0, 0, 0) := by decide +kernel
theorem gz_185_253 : mz_pg 185 253 = some (.iload 5, 0, 0, 0) := by decide +kernel
theorem gz_185_255 : mz_pg 185 255 = some (.invokevirtual 308, 1, 182, 1535) := by decide +kernel
theorem gz_185_258 : mz_pg 185 258 = some (.aload_n 0, 0, 0, 0) := by decide +kernel
theorem gz_185_259 : mz_pg 185 259 = some (.getfield 92, 10, 20, 1233) := by decide +kernel
theorem gz_185_262 : mz_pg 185 262 = some (.bipush 6, 0, 0, 0) := by decide +kernel
theorem gz_185_264 : mz_pg 185 264 = some (.dup2, 0, 0, 0) := by decide +kernel
theorem gz_185_265 : mz_pg 185 265 = some (.iaload, 0, 0, 0) := by decide +kernel
theorem gz_185_266 : mz_pg 185 266 = some (.iconst 1, 0, 0, 0) := by decide +kernel
theorem gz_185_267 : mz_pg 185 267 = some (.iadd, 0, 0, 0) := by decide +kernel
theorem gz_185_268 : mz_pg 185 268 = some (.iastore, 0, 0, 0) := by decide +kernel
theorem gz_185_269 : mz_pg 185 269 = some (.aload_n 0, 0, 0, 0) := by decide +kernel
theorem gz_185_270 : mz_pg 185 270 = some (.bipush 59, 0, 0, 0) := by decide +kernel
theorem gz_185_272 : mz_pg 185 272 = some (.invokevirtual 329, 1, 183, 1538) := by decide +kernel
theorem gz_185_275 : mz_pg 185 275 = some (.return_, 0, 0, 0) := by decide +kernel
theorem gz_186_0 : mz_pg 186 0 = some (.aload_n 0, 0, 0, 0) := by decide +kernel
theorem gz_186_1 : mz_pg 186 1 = some (.getfield 98, 10, 22, 1235) := by decide +kernel
theorem gz_186_4 : mz_pg 186 4 = some (.iload_n 1, 0, 0, 0) := by decide +kernel
theorem gz_186_5 : mz_pg 186 5 = some (.aload_n 0, 0, 0, 0) := by decide +kernel
theorem gz_186_6 : mz_pg 186 6 = some (.aload_n 0, 0, 0, 0) := by decide +kernel
theorem gz_186_7 : mz_pg 186 7 = some (.getfield 299, 10, 27, 1240) := by decide +kernel
theorem gz_186_10 : mz_pg 186 10 = some (.iconst 1, 0, 0, 0) := by decide +kernel
theorem gz_186_11 : mz_pg 186 11 = some (.isub, 0, 0, 0) := by decide +kernel
theorem gz_186_12 : mz_pg 186 12 = some (.invokevirtual 344, 1, 187, 1550) := by decide +kernel
theorem gz_186_15 : mz_pg 186 15 = some (.iastore, 0, 0, 0) := by decide +kernel
theorem gz_186_16 : mz_pg 186 16 = some (.iconst (-1), 0, 0, 0) := by decide +kernel
theorem gz_186_17 : mz_pg 186 17 = some (.istore_n 2, 0, 0, 0) := by decide +kernel
theorem gz_186_18 : mz_pg 186 18 = some (.iconst 0, 0, 0, 0) := by decide +kernel
theorem gz_186_19 : mz_pg 186 19 = some (.istore_n 3, 0, 0, 0) := by decide +kernel
theorem gz_186_20 : mz_pg 186 20 = some (.iload_n 3, 0, 0, 0) := by decide +kernel
theorem gz_186_21 : mz_pg 186 21 = some (.iconst 3, 0, 0, 0) := by decide +kernel
theorem gz_186_22 : mz_pg 186 22 = some (.if_icmp .ge 25, 0, 0, 0) := by decide +kernel
theorem gz_186_25 : mz_pg 186 25 = some (.aload_n 0, 0, 0, 0) := by decide +kernel
theorem gz_186_26 : mz_pg 186 26 = some (.iconst 4, 0, 0, 0) := by decide +kernel
theorem gz_186_27 : mz_pg 186 27 = some (.iload_n 3, 0, 0, 0) := by decide +kernel
theorem gz_186_28 : mz_pg 186 28 = some (.iadd, 0, 0, 0) := by decide +kernel
theorem gz_186_29 : mz_pg 186 29 = some (.invokevirtual 236, 1, 177, 1520) := by decide +kernel
theorem gz_186_32 : mz_pg 186 32 = some (.ifCond .eq 7, 0, 0, 0) := by decide +kernel
theorem gz_186_35 : mz_pg 186 35 = some (.iload_n 3, 0, 0, 0) := by decide +kernel
theorem gz_186_36 : mz_pg 186 36 = some (.goto 4, 0, 0, 0) := by decide +kernel
theorem gz_186_39 : mz_pg 186 39 = some (.iload_n 2, 0, 0, 0) := by decide +kernel
theorem gz_186_40 : mz_pg 186 40 = some (.istore_n 2, 0, 0, 0) := by decide +kernel
theorem gz_186_41 : mz_pg 186 41 = some (.iinc 3 1, 0, 0, 0) := by decide +kernel
theorem gz_186_44 : mz_pg 186 44 = some (.goto (-24), 0, 0, 0) := by decide +kernel
theorem gz_186_47 : mz_pg 186 47 = some (.iload_n 2, 0, 0, 0) := by decide +kernel
theorem gz_186_48 : mz_pg 186 48 = some (.ifCond .ge 9, 0, 0, 0) := by decide +kernel
theorem gz_186_51 : mz_pg 186 51 = some (.aload_n 0, 0, 0, 0) := by decide +kernel
theorem gz_186_52 : mz_pg 186 52 = some (.iconst 1, 0, 0, 0) := by decide +kernel
theorem gz_186_53 : mz_pg 186 53 = some (.invokevirtual 232, 1, 178, 1523) := by decide +kernel
theorem gz_186_56 : mz_pg 186 56 = some (.return_, 0, 0, 0) := by decide +kernel
theorem gz_186_57 : mz_pg 186 57 = some (.aload_n 0, 0, 0, 0) := by decide +kernel
theorem gz_186_58 : mz_pg 186 58 = some (.dup, 0, 0, 0) := by decide +kernel
theorem gz_186_59 : mz_pg 186 59 = some (.getfield 223, 10, 7, 1220) := by decide +kernel
theorem gz_186_62 : mz_pg 186 62 = some (.iconst 1, 0, 0, 0) := by decide +kernel
theorem gz_186_63 : mz_pg 186 63 = some (.iadd, 0, 0, 0) := by decide +kernel
theorem gz_186_64 : mz_pg 186 64 = some (.putfield 223, 10, 7, 1220) := by decide +kernel
theorem gz_186_67 : mz_pg 186 67 = some (.aload_n 0, 0, 0, 0) := by decide +kernel
theorem gz_186_68 : mz_pg 186 68 = some (.getfield 95, 10, 21, 1234) := by decide +kernel
theorem gz_186_71 : mz_pg 186 71 = some (.iload_n 1, 0, 0, 0) := by decide +kernel
theorem gz_186_72 : mz_pg 186 72 = some (.iload_n 2, 0, 0, 0) := by decide +kernel
theorem gz_186_73 : mz_pg 186 73 = some (.iastore, 0, 0, 0) := by decide +kernel
theorem gz_186_74 : mz_pg 186 74 = some (.aload_n 0, 0, 0, 0) := by decide +kernel
theorem gz_186_75 : mz_pg 186 75 = some (.getfield 101, 10, 23, 1236) := by decide +kernel
theorem gz_186_78 : mz_pg 186 78 = some (.iload_n 1, 0, 0, 0) := by decide +kernel
theorem gz_186_79 : mz_pg 186 79 = some (.aload_n 0, 0, 0, 0) := by decide +kernel
theorem gz_186_80 : mz_pg 186 80 = some (.sipush 199, 0, 0, 0) := by decide +kernel
theorem gz_186_83 : mz_pg 186 83 = some (.invokevirtual 344, 1, 187, 1550) := by decide +kernel
theorem gz_186_86 : mz_pg 186 86 = some (.iastore, 0, 0, 0) := by decide +kernel
theorem gz_186_87 : mz_pg 186 87 = some (.return_, 0, 0, 0) := by decide +kernel
theorem gz_187_0 : mz_pg 187 0 = some (.aload_n 0, 0, 0, 0) := by decide +kernel
theorem gz_187_1 : mz_pg 187 1 = some (.getfield 226, 10, 8, 1221) := by decide +kernel
theorem gz_187_4 : mz_pg 187 4 = some (.ifCond .ne 24, 0, 0, 0) := by decide +kernel
theorem gz_187_7 : mz_pg 187 7 = some (.aload_n 0, 0, 0, 0) := by decide +kernel
theorem gz_187_8 : mz_pg 187 8 = some (.getfield 24, 10, 4, 1217) := by decide +kernel
theorem gz_187_11 : mz_pg 187 11 = some (.aload_n 0, 0, 0, 0) := by decide +kernel
theorem gz_187_12 : mz_pg 187 12 = some (.getfield 223, 10, 7, 1220) := by decide +kernel
theorem gz_187_15 : mz_pg 187 15 = some (.iaload, 0, 0, 0) := by decide +kernel
theorem gz_187_16 : mz_pg 187 16 = some (.iconst 2, 0, 0, 0) := by decide +kernel
theorem gz_187_17 : mz_pg 187 17 = some (.if_icmp .eq 11, 0, 0, 0) := by decide +kernel
theorem gz_187_20 : mz_pg 187 20 = some (.aload_n 0, 0, 0, 0) := by decide +kernel
theorem gz_187_21 : mz_pg 187 21 = some (.iconst 1, 0, 0, 0) := by decide +kernel
theorem gz_187_22 : mz_pg 187 22 = some (.invokevirtual 232, 1, 178, 1523) := by decide +kernel
theorem gz_187_25 : mz_pg 187 25 = some (.goto 30, 0, 0, 0) := by decide +kernel
theorem gz_187_28 : mz_pg 187 28 = some (.aload_n 0, 0, 0, 0) := by decide +kernel
theorem gz_187_29 : mz_pg 187 29 = some (.getfield 226, 10, 8, 1221) := by decide +kernel
theorem gz_187_32 : mz_pg 187 32 = some (.ifCond .ne 23, 0, 0, 0) := by decide +kernel
theorem gz_187_35 : mz_pg 187 35 = some (.aload_n 0, 0, 0, 0) := by decide +kernel
theorem gz_187_36 : mz_pg 187 36 = some (.getfield 30, 10, 6, 1219) := by decide +kernel
theorem gz_187_39 : mz_pg 187 39 = some (.aload_n 0, 0, 0, 0) := by decide +kernel
theorem gz_187_40 : mz_pg 187 40 = some (.getfield 223, 10, 7, 1220) := by decide +kernel
theorem gz_187_43 : mz_pg 187 43 = some (.laload, 0, 0, 0) := by decide +kernel
theorem gz_187_44 : mz_pg 187 44 = some (.iload_n 1, 0, 0, 0) := by decide +kernel
theorem gz_187_45 : mz_pg 187 45 = some (.i2l, 0, 0, 0) := by decide +kernel
theorem gz_187_46 : mz_pg 187 46 = some (.lcmp, 0, 0, 0) := by decide +kernel
theorem gz_187_47 : mz_pg 187 47 = some (.ifCond .le 8, 0, 0, 0) := by decide +kernel
theorem gz_187_50 : mz_pg 187 50 = some (.aload_n 0, 0, 0, 0) := by decide +kernel
theorem gz_187_51 : mz_pg 187 51 = some (.iconst 4, 0, 0, 0) := by decide +kernel
theorem gz_187_52 : mz_pg 187 52 = some (.invokevirtual 232, 1, 178, 1523) := by decide +kernel
theorem gz_187_55 : mz_pg 187 55 = some (.aload_n 0, 0, 0, 0) := by decide +kernel
theorem gz_187_56 : mz_pg 187 56 = some (.getfield 226, 10, 8, 1221) := by decide +kernel
theorem gz_187_59 : mz_pg 187 59 = some (.ifCond .le 5, 0, 0, 0) := by decide +kernel
theorem gz_187_62 : mz_pg 187 62 = some (.iconst 0, 0, 0, 0) := by decide +kernel
theorem gz_187_63 : mz_pg 187 63 = some (.ireturn, 0, 0, 0) := by decide +kernel
theorem gz_187_64 : mz_pg 187 64 = some (.aload_n 0, 0, 0, 0) := by decide +kernel
theorem gz_187_65 : mz_pg 187 65 = some (.dup, 0, 0, 0) := by decide +kernel
theorem gz_187_66 : mz_pg 187 66 = some (.getfield 223, 10, 7, 1220) := by decide +kernel
theorem gz_187_69 : mz_pg 187 69 = some (.iconst 1, 0, 0, 0) := by decide +kernel
theorem gz_187_70 : mz_pg 187 70 = some (.iadd, 0, 0, 0) := by decide +kernel
theorem gz_187_71 : mz_pg 187 71 = some (.putfield 223, 10, 7, 1220) := by decide +kernel
theorem gz_187_74 : mz_pg 187 74 = some (.aload_n 0, 0, 0, 0) := by decide +kernel
theorem gz_187_75 : mz_pg 187 75 = some (.getfield 30, 10, 6, 1219) := by decide +kernel
theorem gz_187_78 : mz_pg 187 78 = some (.aload_n 0, 0, 0, 0) := by decide +kernel
theorem gz_187_79 : mz_pg 187 79 = some (.getfield 223, 10, 7, 1220) := by decide +kernel
theorem gz_187_82 : mz_pg 187 82 = some (.iconst 1, 0, 0, 0) := by decide +kernel
theorem gz_187_83 : mz_pg 187 83 = some (.isub, 0, 0, 0) := by decide +kernel
theorem gz_187_84 : mz_pg 187 84 = some (.laload, 0, 0, 0) := by decide +kernel
theorem gz_187_85 : mz_pg 187 85 = some (.l2i, 0, 0, 0) := by decide +kernel
theorem gz_187_86 : mz_pg 187 86 = some (.ireturn, 0, 0, 0) := by decide +kernel
theorem gz_188_0 : mz_pg 188 0 = some (.aload_n 0, 0, 0, 0) := by decide +kernel
theorem gz_188_1 : mz_pg 188 1 = some (.getfield 95, 10, 21, 1234) := by decide +kernel
theorem gz_188_4 : mz_pg 188 4 = some (.iload_n 1, 0, 0, 0) := by decide +kernel
theorem gz_188_5 : mz_pg 188 5 = some (.iconst 3, 0, 0, 0) := by decide +kernel
theorem gz_188_6 : mz_pg 188 6 = some (.iastore, 0, 0, 0) := by decide +kernel
theorem gz_188_7 : mz_pg 188 7 = some (.aload_n 0, 0, 0, 0) := by decide +kernel
theorem gz_188_8 : mz_pg 188 8 = some (.getfield 104, 10, 24, 1237) := by decide +kernel
theorem gz_188_11 : mz_pg 188 11 = some (.iload_n 1, 0, 0, 0) := by decide +kernel
theorem gz_188_12 : mz_pg 188 12 = some (.iconst 0, 0, 0, 0) := by decide +kernel
theorem gz_188_13 : mz_pg 188 13 = some (.iastore, 0, 0, 0) := by decide +kernel
theorem gz_188_14 : mz_pg 188 14 = some (.iconst 0, 0, 0, 0) := by decide +kernel
theorem gz_188_15 : mz_pg 188 15 = some (.istore_n 2, 0, 0, 0) := by decide +kernel
theorem gz_188_16 : mz_pg 188 16 = some (.iconst 1, 0, 0, 0) := by decide +kernel
theorem gz_188_17 : mz_pg 188 17 = some (.istore_n 3, 0, 0, 0) := by decide +kernel
theorem gz_188_18 : mz_pg 188 18 = some (.iload_n 3, 0, 0, 0) := by decide +kernel
theorem gz_188_19 : mz_pg 188 19 = some (.ifCond .eq 150, 0, 0, 0) := by decide +kernel
theorem gz_188_22 : mz_pg 188 22 = some (.aload_n 0, 0, 0, 0) := by decide +kernel
theorem gz_188_23 : mz_pg 188 23 = some (.getfield 226, 10, 8, 1221) := by decide +kernel
theorem gz_188_26 : mz_pg 188 26 = some (.ifCond .ne 57, 0, 0, 0) := by decide +kernel
theorem gz_188_29 : mz_pg 188 29 = some (.aload_n 0, 0, 0, 0) := by decide +kernel
theorem gz_188_30 : mz_pg 188 30 = some (.getfield 24, 10, 4, 1217) := by decide +kernel
theorem gz_188_33 : mz_pg 188 33 = some (.aload_n 0, 0, 0, 0) := by decide +kernel
theorem gz_188_34 : mz_pg 188 34 = some (.getfield 223, 10, 7, 1220) := by decide +kernel
theorem gz_188_37 : mz_pg 188 37 = some (.iaload, 0, 0, 0) := by decide +kernel
theorem gz_188_38 : mz_pg 188 38 = some (.iconst 2, 0, 0, 0) := by decide +kernel
theorem gz_188_39 : mz_pg 188 39 = some (.if_icmp .ne 44, 0, 0, 0) := by decide +kernel
theorem gz_188_42 : mz_pg 188 42 = some (.aload_n 0, 0, 0, 0) := by decide +kernel
theorem gz_188_43 : mz_pg 188 43 = some (.getfield 30, 10, 6, 1219) := by decide +kernel
theorem gz_188_46 : mz_pg 188 46 = some (.aload_n 0, 0, 0, 0) := by decide +kernel
theorem gz_188_47 : mz_pg 188 47 = some (.getfield 223, 10, 7, 1220) := by decide +kernel
theorem gz_188_50 : mz_pg 188 50 = some (.laload, 0, 0, 0) := by decide +kernel
theorem gz_188_51 : mz_pg 188 51 = some (.aload_n 0, 0, 0, 0) := by decide +kernel
theorem gz_188_52 : mz_pg 188 52 = some (.getfield 299, 10, 27, 1240) := by decide +kernel
theorem gz_188_55 : mz_pg 188 55 = some (.i2l, 0, 0, 0) := by decide +kernel
theorem gz_188_56 : mz_pg 188 56 = some (.lcmp, 0, 0, 0) := by decide +kernel
theorem gz_188_57 : mz_pg 188 57 = some (.ifCond .ge 26, 0, 0, 0) := by decide +kernel
theorem gz_188_60 : mz_pg 188 60 = some (.iload_n 2, 0, 0, 0) := by decide +kernel
theorem gz_188_61 : mz_pg 188 61 = some (.aload_n 0, 0, 0, 0) := by decide +kernel
theorem gz_188_62 : mz_pg 188 62 = some (.getfield 30, 10, 6, 1219) := by decide +kernel
theorem gz_188_65 : mz_pg 188 65 = some (.aload_n 0, 0, 0, 0) := by decide +kernel
theorem gz_188_66 : mz_pg 188 66 = some (.getfield 223, 10, 7, 1220) := by decide +kernel
theorem gz_188_69 : mz_pg 188 69 = some (.laload, 0, 0, 0) := by decide +kernel
theorem gz_188_70 : mz_pg 188 70 = some (.l2i, 0, 0, 0) := by decide +kernel
theorem gz_188_71 : mz_pg 188 71 = some (.ishr, 0, 0, 0) := by decide +kernel
theorem gz_188_72 : mz_pg 188 72 = some (.iconst 1, 0, 0, 0) := by decide +kernel
theorem gz_188_73 : mz_pg 188 73 = some (.iand, 0, 0, 0) := by decide +kernel
theorem gz_188_74 : mz_pg 188 74 = some (.iconst 1, 0, 0, 0) := by decide +kernel
theorem gz_188_75 : mz_pg 188 75 = some (.if_icmp .ne 8, 0, 0, 0) := by decide +kernel
theorem gz_188_78 : mz_pg 188 78 = some (.aload_n 0, 0, 0, 0) := by decide +kernel
theorem gz_188_79 : mz_pg 188 79 = some (.iconst 3, 0, 0, 0) := by decide +kernel
theorem gz_188_80 : mz_pg 188 80 = some (.invokevirtual 232, 1, 178, 1523) := by decide +kernel
theorem gz_188_83 : mz_pg 188 83 = some (.aload_n 0, 0, 0, 0) := by decide +kernel
theorem gz_188_84 : mz_pg 188 84 = some (.aload_n 0, 0, 0, 0) := by decide +kernel
theorem gz_188_85 : mz_pg 188 85 = some (.getfield 299, 10, 27, 1240) := by decide +kernel
theorem gz_188_88 : mz_pg 188 88 = some (.iconst 1, 0, 0, 0) := by decide +kernel
theorem gz_188_89 : mz_pg 188 89 = some (.isub, 0, 0, 0) := by decide +kernel
theorem gz_188_90 : mz_pg 188 90 = some (.invokevirtual 344, 1, 187, 1550) := by decide +kernel
theorem gz_188_93 : mz_pg 188 93 = some (.istore 4, 0, 0, 0) := by decide +kernel
theorem gz_188_95 : mz_pg 188 95 = some (.aload_n 0, 0, 0, 0) := by decide +kernel
theorem gz_188_96 : mz_pg 188 96 = some (.getfield 226, 10, 8, 1221) := by decide +kernel
theorem gz_188_99 : mz_pg 188 99 = some (.ifCond .ne 7, 0, 0, 0) := by decide +kernel
theorem gz_188_102 : mz_pg 188 102 = some (.iconst 1, 0, 0, 0) := by decide +kernel
theorem gz_188_103 : mz_pg 188 103 = some (.goto 4, 0, 0, 0) := by decide +kernel
theorem gz_188_106 : mz_pg 188 106 = some (.iconst 0, 0, 0, 0) := by decide +kernel
theorem gz_188_107 : mz_pg 188 107 = some (.istore_n 3, 0, 0, 0) := by decide +kernel
theorem gz_188_108 : mz_pg 188 108 = some (.iload_n 3, 0, 0, 0) := by decide +kernel
theorem gz_188_109 : mz_pg 188 109 = some (.ifCond .eq 57, 0, 0, 0) := by decide +kernel
theorem gz_188_112 : mz_pg 188 112 = some (.iload_n 2, 0, 0, 0) := by decide +kernel
theorem gz_188_113 : mz_pg 188 113 = some (.iconst 1, 0, 0, 0) := by decide +kernel
theorem gz_188_114 : mz_pg 188 114 = some (.iload 4, 0, 0, 0) := by decide +kernel
theorem gz_188_116 : mz_pg 188 116 = some (.ishl, 0, 0, 0) := by decide +kernel
theorem gz_188_117 : mz_pg 188 117 = some (.ior, 0, 0, 0) := by decide +kernel
theorem gz_188_118 : mz_pg 188 118 = some (.istore_n 2, 0, 0, 0) := by decide +kernel
theorem gz_188_119 : mz_pg 188 119 = some (.aload_n 0, 0, 0, 0) := by decide +kernel
theorem gz_188_120 : mz_pg 188 120 = some (.getfield 107, 10, 25, 1238) := by decide +kernel
theorem gz_188_123 : mz_pg 188 123 = some (.bipush 8, 0, 0, 0) := by decide +kernel
theorem gz_188_125 : mz_pg 188 125 = some (.iload_n 1, 0, 0, 0) := by decide +kernel
theorem gz_188_126 : mz_pg 188 126 = some (.imul, 0, 0, 0) := by decide +kernel
theorem gz_188_127 : mz_pg 188 127 = some (.aload_n 0, 0, 0, 0) := by decide +kernel
theorem gz_188_128 : mz_pg 188 128 = some (.getfield 104, 10, 24, 1237) := by decide +kernel
theorem gz_188_131 : mz_pg 188 131 = some (.iload_n 1, 0, 0, 0) := by decide +kernel
theorem gz_188_132 : mz_pg 188 132 = some (.iaload, 0, 0, 0) := by decide +kernel
theorem gz_188_133 : mz_pg 188 133 = some (.iadd, 0, 0, 0) := by decide +kernel
theorem gz_188_134 : mz_pg 188 134 = some (.iload 4, 0, 0, 0) := by decide +kernel
theorem gz_188_136 : mz_pg 188 136 = some (.iastore, 0, 0, 0) := by decide +kernel
theorem gz_188_137 : mz_pg 188 137 = some (.aload_n 0, 0, 0, 0) := by decide +kernel
theorem gz_188_138 : mz_pg 188 138 = some (.getfield 104, 10, 24, 1237) := by decide +kernel
theorem gz_188_141 : mz_pg 188 141 = some (.iload_n 1, 0, 0, 0) := by decide +kernel
theorem gz_188_142 : mz_pg 188 142 = some (.dup2, 0, 0, 0) := by decide +kernel
theorem gz_188_143 : mz_pg 188 143 = some (.iaload, 0, 0, 0) := by decide +kernel
theorem gz_188_144 : mz_pg 188 144 = some (.iconst 1, 0, 0, 0) := by decide +kernel
theorem gz_188_145 : mz_pg 188 145 = some (.iadd, 0, 0, 0) := by decide +kernel
theorem gz_188_146 : mz_pg 188 146 = some (.iastore, 0, 0, 0) := by decide +kernel
theorem gz_188_147 : mz_pg 188 147 = some (.aload_n 0, 0, 0, 0) := by decide +kernel
theorem gz_188_148 : mz_pg 188 148 = some (.getfield 24, 10, 4, 1217) := by decide +kernel
theorem gz_188_151 : mz_pg 188 151 = some (.aload_n 0, 0, 0, 0) := by decide +kernel
theorem gz_188_152 : mz_pg 188 152 = some (.getfield 223, 10, 7, 1220) := by decide +kernel
theorem gz_188_155 : mz_pg 188 155 = some (.iaload, 0, 0, 0) := by decide +kernel
theorem gz_188_156 : mz_pg 188 156 = some (.iconst 2, 0, 0, 0) := by decide +kernel
theorem gz_188_157 : mz_pg 188 157 = some (.if_icmp .ne 7, 0, 0, 0) := by decide +kernel
theorem gz_188_160 : mz_pg 188 160 = some (.iconst 1, 0, 0, 0) := by decide +kernel
theorem gz_188_161 : mz_pg 188 161 = some (.goto 4, 0, 0, 0) := by decide +kernel
theorem gz_188_164 : mz_pg 188 164 = some (.iconst 0, 0, 0, 0) := by decide +kernel
theorem gz_188_165 : mz_pg 188 165 = some (.istore_n 3, 0, 0, 0) := by decide +kernel
theorem gz_188_166 : mz_pg 188 166 = some (.goto (-148), 0, 0, 0) := by decide +kernel
theorem gz_188_169 : mz_pg 188 169 = some (.return_, 0, 0, 0) := by decide +kernel
theorem gz_189_0 : mz_pg 189 0 = some (.aload_n 0, 0, 0, 0) := by decide +kernel
theorem gz_189_1 : mz_pg 189 1 = some (.getfield 95, 10, 21, 1234) := by decide +kernel
theorem gz_189_4 : mz_pg 189 4 = some (.iload_n 1, 0, 0, 0) := by decide +kernel
theorem gz_189_5 : mz_pg 189 5 = some (.iconst 4, 0, 0, 0) := by decide +kernel
theorem gz_189_6 : mz_pg 189 6 = some (.iastore, 0, 0, 0) := by decide +kernel
theorem gz_189_7 : mz_pg 189 7 = some (.aload_n 0, 0, 0, 0) := by decide +kernel
theorem gz_189_8 : mz_pg 189 8 = some (.getfield 226, 10, 8, 1221) := by decide +kernel
theorem gz_189_11 : mz_pg 189 11 = some (.ifCond .ne 78, 0, 0, 0) := by decide +kernel
theorem gz_189_14 : mz_pg 189 14 = some (.aload_n 0, 0, 0, 0) := by decide +kernel
theorem gz_189_15 : mz_pg 189 15 = some (.getfield 24, 10, 4, 1217) := by decide +kernel
theorem gz_189_18 : mz_pg 189 18 = some (.aload_n 0, 0, 0, 0) := by decide +kernel
theorem gz_189_19 : mz_pg 189 19 = some (.getfield 223, 10, 7, 1220) := by decide +kernel
theorem gz_189_22 : mz_pg 189 22 = some (.iaload, 0, 0, 0) := by decide +kernel
theorem gz_189_23 : mz_pg 189 23 = some (.iconst 2, 0, 0, 0) := by decide +kernel
theorem gz_189_24 : mz_pg 189 24 = some (.if_icmp .ne 65, 0, 0, 0) := by decide +kernel
theorem gz_189_27 : mz_pg 189 27 = some (.aload_n 0, 0, 0, 0) := by decide +kernel
theorem gz_189_28 : mz_pg 189 28 = some (.getfield 30, 10, 6, 1219) := by decide +kernel
theorem gz_189_31 : mz_pg 189 31 = some (.aload_n 0, 0, 0, 0) := by decide +kernel
theorem gz_189_32 : mz_pg 189 32 = some (.getfield 223, 10, 7, 1220) := by decide +kernel
theorem gz_189_35 : mz_pg 189 35 = some (.laload, 0, 0, 0) := by decide +kernel
theorem gz_189_36 : mz_pg 189 36 = some (.ldc2_w 347, 2, 0, 1559) := by decide +kernel
theorem gz_189_39 : mz_pg 189 39 = some (.lcmp, 0, 0, 0) := by decide +kernel
theorem gz_189_40 : mz_pg 189 40 = some (.ifCond .gt 49, 0, 0, 0) := by decide +kernel
theorem gz_189_43 : mz_pg 189 43 = some (.aload_n 0, 0, 0, 0) := by decide +kernel
theorem gz_189_44 : mz_pg 189 44 = some (.getfield 61, 10, 10, 1223) := by decide +kernel
theorem gz_189_47 : mz_pg 189 47 = some (.aload_n 0, 0, 0, 0) := by decide +kernel
theorem gz_189_48 : mz_pg 189 48 = some (.getfield 30, 10, 6, 1219) := by decide +kernel
theorem gz_189_51 : mz_pg 189 51 = some (.aload_n 0, 0, 0, 0) := by decide +kernel
theorem gz_189_52 : mz_pg 189 52 = some (.getfield 223, 10, 7, 1220) := by decide +kernel
theorem gz_189_55 : mz_pg 189 55 = some (.laload, 0, 0, 0) := by decide +kernel
theorem gz_189_56 : mz_pg 189 56 = some (.l2i, 0, 0, 0) := by decide +kernel
theorem gz_189_57 : mz_pg 189 57 = some (.iaload, 0, 0, 0) := by decide +kernel
theorem gz_189_58 : mz_pg 189 58 = some (.istore_n 2, 0, 0, 0) := by decide +kernel
theorem gz_189_59 : mz_pg 189 59 = some (.iload_n 2, 0, 0, 0) := by decide +kernel
theorem gz_189_60 : mz_pg 189 60 = some (.ifCond .eq 16, 0, 0, 0) := by decide +kernel
theorem gz_189_63 : mz_pg 189 63 = some (.aload_n 0, 0, 0, 0) := by decide +kernel
theorem gz_189_64 : mz_pg 189 64 = some (.getfield 299, 10, 27, 1240) := by decide +kernel
theorem gz_189_67 : mz_pg 189 67 = some (.iload_n 2, 0, 0, 0) := by decide +kernel
theorem gz_189_68 : mz_pg 189 68 = some (.iadd, 0, 0, 0) := by decide +kernel
theorem gz_189_69 : mz_pg 189 69 = some (.iconst 1, 0, 0, 0) := by decide +kernel
theorem gz_189_70 : mz_pg 189 70 = some (.isub, 0, 0, 0) := by decide +kernel
theorem gz_189_71 : mz_pg 189 71 = some (.bipush 8, 0, 0, 0) := by decide +kernel
theorem gz_189_73 : mz_pg 189 73 = some (.if_icmp .le 16, 0, 0, 0) := by decide +kernel
theorem gz_189_76 : mz_pg 189 76 = some (.aload_n 0, 0, 0, 0) := by decide +kernel
theorem gz_189_77 : mz_pg 189 77 = some (.iload_n 2, 0, 0, 0) := by decide +kernel
theorem gz_189_78 : mz_pg 189 78 = some (.ifCond .ne 7, 0, 0, 0) := by decide +kernel
theorem gz_189_81 : mz_pg 189 81 = some (.iconst 2, 0, 0, 0) := by decide +kernel
theorem gz_189_82 : mz_pg 189 82 = some (.goto 4, 0, 0, 0) := by decide +kernel
theorem gz_189_85 : mz_pg 189 85 = some (.iconst 5, 0, 0, 0) := by decide +kernel
theorem gz_189_86 : mz_pg 189 86 = some (.invokevirtual 232, 1, 178, 1523) := by decide +kernel
theorem gz_189_89 : mz_pg 189 89 = some (.aload_n 0, 0, 0, 0) := by decide +kernel
theorem gz_189_90 : mz_pg 189 90 = some (.getfield 101, 10, 23, 1236) := by decide +kernel
theorem gz_189_93 : mz_pg 189 93 = some (.iload_n 1, 0, 0, 0) := by decide +kernel
theorem gz_189_94 : mz_pg 189 94 = some (.aload_n 0, 0, 0, 0) := by decide +kernel
theorem gz_189_95 : mz_pg 189 95 = some (.iconst 2, 0, 0, 0) := by decide +kernel
theorem gz_189_96 : mz_pg 189 96 = some (.invokevirtual 344, 1, 187, 1550) := by decide +kernel
theorem gz_189_99 : mz_pg 189 99 = some (.iastore, 0, 0, 0) := by decide +kernel
theorem gz_189_100 : mz_pg 189 100 = some (.aload_n 0, 0, 0, 0) := by decide +kernel
theorem gz_189_101 : mz_pg 189 101 = some (.bipush 9, 0, 0, 0) := by decide +kernel
theorem gz_189_103 : mz_pg 189 103 = some (.invokevirtual 323, 1, 175, 1514) := by decide +kernel
theorem gz_189_106 : mz_pg 189 106 = some (.aload_n 0, 0, 0, 0) := by decide +kernel
theorem gz_189_107 : mz_pg 189 107 = some (.getfield 98, 10, 22, 1235) := by decide +kernel
theorem gz_189_110 : mz_pg 189 110 = some (.iload_n 1, 0, 0, 0) := by decide +kernel
theorem gz_189_111 : mz_pg 189 111 = some (.aload_n 0, 0, 0, 0) := by decide +kernel
theorem gz_189_112 : mz_pg 189 112 = some (.aload_n 0, 0, 0, 0) := by decide +kernel
theorem gz_189_113 : mz_pg 189 113 = some (.getfield 299, 10, 27, 1240) := by decide +kernel
theorem gz_189_116 : mz_pg 189 116 = some (.iconst 1, 0, 0, 0) := by decide +kernel
theorem gz_189_117 : mz_pg 189 117 = some (.isub, 0, 0, 0) := by decide +kernel
theorem gz_189_118 : mz_pg 189 118 = some (.invokevirtual 344, 1, 187, 1550) := by decide +kernel
theorem gz_189_121 : mz_pg 189 121 = some (.iastore, 0, 0, 0) := by decide +kernel
theorem gz_189_122 : mz_pg 189 122 = some (.return_, 0, 0, 0) := by decide +kernel
theorem gz_190_0 : mz_pg 190 0 = some (.aload_n 0, 0, 0, 0) := by decide +kernel
theorem gz_190_1 : mz_pg 190 1 = some (.getfield 95, 10, 21, 1234) := by decide +kernel
theorem gz_190_4 : mz_pg 190 4 = some (.iload_n 1, 0, 0, 0) := by decide +kernel
theorem gz_190_5 : mz_pg 190 5 = some (.iconst 5, 0, 0, 0) := by decide +kernel
theorem gz_190_6 : mz_pg 190 6 = some (.iastore, 0, 0, 0) := by decide +kernel
theorem gz_190_7 : mz_pg 190 7 = some (.aload_n 0, 0, 0, 0) := by decide +kernel
theorem gz_190_8 : mz_pg 190 8 = some (.getfield 101, 10, 23, 1236) := by decide +kernel
theorem gz_190_11 : mz_pg 190 11 = some (.iload_n 1, 0, 0, 0) := by decide +kernel
theorem gz_190_12 : mz_pg 190 12 = some (.aload_n 0, 0, 0, 0) := by decide +kernel
theorem gz_190_13 : mz_pg 190 13 = some (.aload_n 0, 0, 0, 0) := by decide +kernel
theorem gz_190_14 : mz_pg 190 14 = some (.getfield 299, 10, 27, 1240) := by decide +kernel
theorem gz_190_17 : mz_pg 190 17 = some (.iconst 1, 0, 0, 0) := by decide +kernel
theorem gz_190_18 : mz_pg 190 18 = some (.isub, 0, 0, 0) := by decide +kernel
theorem gz_190_19 : mz_pg 190 19 = some (.invokevirtual 344, 1, 187, 1550) := by decide +kernel
theorem gz_190_22 : mz_pg 190 22 = some (.iastore, 0, 0, 0) := by decide +kernel
theorem gz_190_23 : mz_pg 190 23 = some (.aload_n 0, 0, 0, 0) := by decide +kernel
theorem gz_190_24 : mz_pg 190 24 = some (.bipush 9, 0, 0, 0) := by decide +kernel
theorem gz_190_26 : mz_pg 190 26 = some (.invokevirtual 323, 1, 175, 1514) := by decide +kernel
theorem gz_190_29 : mz_pg 190 29 = some (.aload_n 0, 0, 0, 0) := by decide +kernel
theorem gz_190_30 : mz_pg 190 30 = some (.getfield 226, 10, 8, 1221) := by decide +kernel
theorem gz_190_33 : mz_pg 190 33 = some (.ifCond .ne 41, 0, 0, 0) := by decide +kernel
theorem gz_190_36 : mz_pg 190 36 = some (.aload_n 0, 0, 0, 0) := by decide +kernel
theorem gz_190_37 : mz_pg 190 37 = some (.getfield 24, 10, 4, 1217) := by decide +kernel
theorem gz_190_40 : mz_pg 190 40 = some (.aload_n 0, 0, 0, 0) := by decide +kernel
theorem gz_190_41 : mz_pg 190 41 = some (.getfield 223, 10, 7, 1220) := by decide +kernel
theorem gz_190_44 : mz_pg 190 44 = some (.iaload, 0, 0, 0) := by decide +kernel
theorem gz_190_45 : mz_pg 190 45 = some (.iconst 2, 0, 0, 0) := by decide +kernel
theorem gz_190_46 : mz_pg 190 46 = some (.if_icmp .ne 28, 0, 0, 0) := by decide +kernel
theorem gz_190_49 : mz_pg 190 49 = some (.aload_n 0, 0, 0, 0) := by decide +kernel
theorem gz_190_50 : mz_pg 190 50 = some (.getfield 30, 10, 6, 1219) := by decide +kernel
theorem gz_190_53 : mz_pg 190 53 = some (.aload_n 0, 0, 0, 0) := by decide +kernel
theorem gz_190_54 : mz_pg 190 54 = some (.getfield 223, 10, 7, 1220) := by decide +kernel
theorem gz_190_57 : mz_pg 190 57 = some (.laload, 0, 0, 0) := by decide +kernel
theorem gz_190_58 : mz_pg 190 58 = some (.aload_n 0, 0, 0, 0) := by decide +kernel
theorem gz_190_59 : mz_pg 190 59 = some (.getfield 101, 10, 23, 1236) := by decide +kernel
theorem gz_190_62 : mz_pg 190 62 = some (.iload_n 1, 0, 0, 0) := by decide +kernel
theorem gz_190_63 : mz_pg 190 63 = some (.iaload, 0, 0, 0) := by decide +kernel
theorem gz_190_64 : mz_pg 190 64 = some (.i2l, 0, 0, 0) := by decide +kernel
theorem gz_190_65 : mz_pg 190 65 = some (.lcmp, 0, 0, 0) := by decide +kernel
theorem gz_190_66 : mz_pg 190 66 = some (.ifCond .ne 8, 0, 0, 0) := by decide +kernel
theorem gz_190_69 : mz_pg 190 69 = some (.aload_n 0, 0, 0, 0) := by decide +kernel
theorem gz_190_70 : mz_pg 190 70 = some (.iconst 3, 0, 0, 0) := by decide +kernel
theorem gz_190_71 : mz_pg 190 71 = some (.invokevirtual 232, 1, 178, 1523) := by decide +kernel
theorem gz_190_74 : mz_pg 190 74 = some (.aload_n 0, 0, 0, 0) := by decide +kernel
theorem gz_190_75 : mz_pg 190 75 = some (.getfield 98, 10, 22, 1235) := by decide +kernel
theorem gz_190_78 : mz_pg 190 78 = some (.iload_n 1, 0, 0, 0) := by decide +kernel
theorem gz_190_79 : mz_pg 190 79 = some (.aload_n 0, 0, 0, 0) := by decide +kernel
theorem gz_190_80 : mz_pg 190 80 = some (.aload_n 0, 0, 0, 0) := by decide +kernel
theorem gz_190_81 : mz_pg 190 81 = some (.getfield 299, 10, 27, 1240) := by decide +kernel
theorem gz_190_84 : mz_pg 190 84 = some (.iconst 1, 0, 0, 0) := by decide +kernel
theorem gz_190_85 : mz_pg 190 85 = some (.isub, 0, 0, 0) := by decide +kernel
theorem gz_190_86 : mz_pg 190 86 = some (.invokevirtual 344, 1, 187, 1550) := by decide +kernel
theorem gz_190_89 : mz_pg 190 89 = some (.iastore, 0, 0, 0) := by decide +kernel
theorem gz_190_90 : mz_pg 190 90 = some (.return_, 0, 0, 0) := by decide +kernel
theorem gz_191_0 : mz_pg 191 0 = some (.aload_n 0, 0, 0, 0) := by decide +kernel
theorem gz_191_1 : mz_pg 191 1 = some (.getfield 83, 10, 17, 1230) := by decide +kernel
theorem gz_191_4 : mz_pg 191 4 = some (.iload_n 1, 0, 0, 0) := by decide +kernel
theorem gz_191_5 : mz_pg 191 5 = some (.iconst 1, 0, 0, 0) := by decide +kernel
theorem gz_191_6 : mz_pg 191 6 = some (.bastore, 0, 0, 0) := by decide +kernel
theorem gz_191_7 : mz_pg 191 7 = some (.aload_n 0, 0, 0, 0) := by decide +kernel
theorem gz_191_8 : mz_pg 191 8 = some (.getfield 86, 10, 18, 1231) := by decide +kernel
theorem gz_191_11 : mz_pg 191 11 = some (.iload_n 1, 0, 0, 0) := by decide +kernel
theorem gz_191_12 : mz_pg 191 12 = some (.aload_n 0, 0, 0, 0) := by decide +kernel
theorem gz_191_13 : mz_pg 191 13 = some (.getfield 86, 10, 18, 1231) := by decide +kernel
theorem gz_191_16 : mz_pg 191 16 = some (.bipush 6, 0, 0, 0) := by decide +kernel
theorem gz_191_18 : mz_pg 191 18 = some (.baload, 0, 0, 0) := by decide +kernel
theorem gz_191_19 : mz_pg 191 19 = some (.bastore, 0, 0, 0) := by decide +kernel
theorem gz_191_20 : mz_pg 191 20 = some (.aload_n 0, 0, 0, 0) := by decide +kernel
theorem gz_191_21 : mz_pg 191 21 = some (.getfield 89, 10, 19, 1232) := by decide +kernel
theorem gz_191_24 : mz_pg 191 24 = some (.iload_n 1, 0, 0, 0) := by decide +kernel
theorem gz_191_25 : mz_pg 191 25 = some (.aload_n 0, 0, 0, 0) := by decide +kernel
theorem gz_191_26 : mz_pg 191 26 = some (.getfield 89, 10, 19, 1232) := by decide +kernel
theorem gz_191_29 : mz_pg 191 29 = some (.bipush 6, 0, 0, 0) := by decide +kernel
theorem gz_191_31 : mz_pg 191 31 = some (.iaload, 0, 0, 0) := by decide +kernel
theorem gz_191_32 : mz_pg 191 32 = some (.iastore, 0, 0, 0) := by decide +kernel
theorem gz_191_33 : mz_pg 191 33 = some (.aload_n 0, 0, 0, 0) := by decide +kernel
theorem gz_191_34 : mz_pg 191 34 = some (.getfield 92, 10, 20, 1233) := by decide +kernel
theorem gz_191_37 : mz_pg 191 37 = some (.iload_n 1, 0, 0, 0) := by decide +kernel
theorem gz_191_38 : mz_pg 191 38 = some (.aload_n 0, 0, 0, 0) := by decide +kernel
theorem gz_191_39 : mz_pg 191 39 = some (.getfield 92, 10, 20, 1233) := by decide +kernel
theorem gz_191_42 : mz_pg 191 42 = some (.bipush 6, 0, 0, 0) := by decide +kernel
theorem gz_191_44 : mz_pg 191 44 = some (.iaload, 0, 0, 0) := by decide +kernel
theorem gz_191_45 : mz_pg 191 45 = some (.iastore, 0, 0, 0) := by decide +kernel
theorem gz_191_46 : mz_pg 191 46 = some (.iconst 0, 0, 0, 0) := by decide +kernel
theorem gz_191_47 : mz_pg 191 47 = some (.istore_n 2, 0, 0, 0) := by decide +kernel
theorem gz_191_48 : mz_pg 191 48 = some (.iload_n 2, 0, 0, 0) := by decide +kernel
theorem gz_191_49 : mz_pg 191 49 = some (.bipush 6, 0, 0, 0) := by decide +kernel
theorem gz_191_51 : mz_pg 191 51 = some (.if_icmp .ge 115, 0, 0, 0) := by decide +kernel
theorem gz_191_54 : mz_pg 191 54 = some (.bipush 6, 0, 0, 0) := by decide +kernel
theorem gz_191_56 : mz_pg 191 56 = some (.iload_n 1, 0, 0, 0) := by decide +kernel
theorem gz_191_57 : mz_pg 191 57 = some (.imul, 0, 0, 0) := by decide +kernel
theorem gz_191_58 : mz_pg 191 58 = some (.iload_n 2, 0, 0, 0) := by decide +kernel
theorem gz_191_59 : mz_pg 191 59 = some (.iadd, 0, 0, 0) := by decide +kernel
theorem gz_191_60 : mz_pg 191 60 = some (.istore_n 3, 0, 0, 0) := by decide +kernel
theorem gz_191_61 : mz_pg 191 61 = some (.bipush 36, 0, 0, 0) := by decide +kernel
theorem gz_191_63 : mz_pg 191 63 = some (.iload_n 2, 0, 0, 0) := by decide +kernel
theorem gz_191_64 : mz_pg 191 64 = some (.iadd, 0, 0, 0) := by decide +kernel
theorem gz_191_65 : mz_pg 191 65 = some (.istore 4, 0, 0, 0) := by decide +kernel
theorem gz_191_67 : mz_pg 191 67 = some (.aload_n 0, 0, 0, 0) := by decide +kernel
theorem gz_191_68 : mz_pg 191 68 = some (.getfield 95, 10, 21, 1234) := by decide +kernel
theorem gz_191_71 : mz_pg 191 71 = some (.iload_n 3, 0, 0, 0) := by decide +kernel
theorem gz_191_72 : mz_pg 191 72 = some (.aload_n 0, 0, 0, 0) := by decide +kernel
theorem gz_191_73 : mz_pg 191 73 = some (.getfield 95, 10, 21, 1234) := by decide +kernel
theorem gz_191_76 : mz_pg 191 76 = some (.iload 4, 0, 0, 0) := by decide +kernel
theorem gz_191_78 : mz_pg 191 78 = some (.iaload, 0, 0, 0) := by decide +kernel
theorem gz_191_79 : mz_pg 191 79 = some (.iastore, 0, 0, 0) := by decide +kernel
theorem gz_191_80 : mz_pg 191 80 = some (.aload_n 0, 0, 0, 0) := by decide +kernel
theorem gz_191_81 : mz_pg 191 81 = some (.getfield 98, 10, 22, 1235) := by decide +kernel
theorem gz_191_84 : mz_pg 191 84 = some (.iload_n 3, 0, 0, 0) := by decide +kernel
theorem gz_191_85 : mz_pg 191 85 = some (.aload_n 0, 0, 0, 0) := by decide +kernel
theorem gz_191_86 : mz_pg 191 86 = some (.getfield 98, 10, 22, 1235) := by decide +kernel
theorem gz_191_89 : mz_pg 191 89 = some (.iload 4, 0, 0, 0) := by decide +kernel
theorem gz_191_91 : mz_pg 191 91 = some (.iaload, 0, 0, 0) := by decide +kernel
theorem gz_191_92 : mz_pg 191 92 = some (.iastore, 0, 0, 0) := by decide +kernel
theorem gz_191_93 : mz_pg 191 93 = some (.aload_n 0, 0, 0, 0) := by decide +kernel
theorem gz_191_94 : mz_pg 191 94 = some (.getfield 101, 10, 23, 1236) := by decide +kernel
theorem gz_191_97 : mz_pg 191 97 = some (.iload_n 3, 0, 0, 0) := by decide +kernel
theorem gz_191_98 : mz_pg 191 98 = some (.aload_n 0, 0, 0, 0) := by decide +kernel
theorem gz_191_99 : mz_pg 191 99 = some (.getfield 101, 10, 23, 1236) := by decide +kernel
theorem gz_191_102 : mz_pg 191 102 = some (.iload 4, 0, 0, 0) := by decide +kernel
theorem gz_191_104 : mz_pg 191 104 = some (.iaload, 0, 0, 0) := by decide +kernel
theorem gz_191_105 : mz_pg 191 105 = some (.iastore, 0, 0, 0) := by decide +kernel
theorem gz_191_106 : mz_pg 191 106 = some (.aload_n 0, 0, 0, 0) := by decide +kernel
theorem gz_191_107 : mz_pg 191 107 = some (.getfield 104, 10, 24, 1237) := by decide +kernel
theorem gz_191_110 : mz_pg 191 110 = some (.iload_n 3, 0, 0, 0) := by decide +kernel
theorem gz_191_111 : mz_pg 191 111 = some (.aload_n 0, 0, 0, 0) := by decide +kernel
theorem gz_191_112 : mz_pg 191 112 = some (.getfield 104, 10, 24, 1237) := by decide +kernel
theorem gz_191_115 : mz_pg 191 115 = some (.iload 4, 0, 0, 0) := by decide +kernel
theorem gz_191_117 : mz_pg 191 117 = some (.iaload, 0, 0, 0) := by decide +kernel
theorem gz_191_118 : mz_pg 191 118 = some (.iastore, 0, 0, 0) := by decide +kernel
theorem gz_191_119 : mz_pg 191 119 = some (.iconst 0, 0, 0, 0) := by decide +kernel
theorem gz_191_120 : mz_pg 191 120 = some (.istore 5, 0, 0, 0) := by decide +kernel
theorem gz_191_122 : mz_pg 191 122 = some (.iload 5, 0, 0, 0) := by decide +kernel
theorem gz_191_124 : mz_pg 191 124 = some (.bipush 8, 0, 0, 0) := by decide +kernel
theorem gz_191_126 : mz_pg 191 126 = some (.if_icmp .ge 34, 0, 0, 0) := by decide +kernel
theorem gz_191_129 : mz_pg 191 129 = some (.aload_n 0, 0, 0, 0) := by decide +kernel
theorem gz_191_130 : mz_pg 191 130 = some (.getfield 107, 10, 25, 1238) := by decide +kernel
theorem gz_191_133 : mz_pg 191 133 = some (.bipush 8, 0, 0, 0) := by decide +kernel
theorem gz_191_135 : mz_pg 191 135 = some (.iload_n 3, 0, 0, 0) := by decide +kernel
theorem gz_191_136 : mz_pg 191 136 = some (.imul, 0, 0, 0) := by decide +kernel
theorem gz_191_137 : mz_pg 191 137 = some (.iload 5, 0, 0, 0) := by decide +kernel
theorem gz_191_139 : mz_pg 191 139 = some (.iadd, 0, 0, 0) := by decide +kernel
theorem gz_191_140 : mz_pg 191 140 = some (.aload_n 0, 0, 0, 0) := by decide +kernel
theorem gz_191_141 : mz_pg 191 141 = some (.getfield 107, 10, 25, 1238) := by decide +kernel
theorem gz_191_144 : mz_pg 191 144 = some (.bipush 8, 0, 0, 0) := by decide +kernel
theorem gz_191_146 : mz_pg 191 146 = some (.iload 4, 0, 0, 0) := by decide +kernel
theorem gz_191_148 : mz_pg 191 148 = some (.imul, 0, 0, 0) := by decide +kernel
theorem gz_191_149 : mz_pg 191 149 = some (.iload 5, 0, 0, 0) := by decide +kernel
theorem gz_191_151 : mz_pg 191 151 = some (.iadd, 0, 0, 0) := by decide +kernel
theorem gz_191_152 : mz_pg 191 152 = some (.iaload, 0, 0, 0) := by decide +kernel
theorem gz_191_153 : mz_pg 191 153 = some (.iastore, 0, 0, 0) := by decide +kernel
theorem gz_191_154 : mz_pg 191 154 = some (.iinc 5 1, 0, 0, 0) := by decide +kernel
theorem gz_191_157 : mz_pg 191 157 = some (.goto (-35), 0, 0, 0) := by decide +kernel
theorem gz_191_160 : mz_pg 191 160 = some (.iinc 2 1, 0, 0, 0) := by decide +kernel
theorem gz_191_163 : mz_pg 191 163 = some (.goto (-115), 0, 0, 0) := by decide +kernel
theorem gz_191_166 : mz_pg 191 166 = some (.iconst 0, 0, 0, 0) := by decide +kernel
theorem gz_191_167 : mz_pg 191 167 = some (.istore_n 2, 0, 0, 0) := by decide +kernel
theorem gz_191_168 : mz_pg 191 168 = some (.iload_n 2, 0, 0, 0) := by decide +kernel
theorem gz_191_169 : mz_pg 191 169 = some (.iconst 4, 0, 0, 0) := by decide +kernel
theorem gz_191_170 : mz_pg 191 170 = some (.if_icmp .ge 28, 0, 0, 0) := by decide +kernel
theorem gz_191_173 : mz_pg 191 173 = some (.aload_n 0, 0, 0, 0) := by decide +kernel
theorem gz_191_174 : mz_pg 191 174 = some (.getfield 110, 10, 26, 1239) := by decide +kernel
theorem gz_191_177 : mz_pg 191 177 = some (.iconst 4, 0, 0, 0) := by decide +kernel
theorem gz_191_178 : mz_pg 191 178 = some (.iload_n 1, 0, 0, 0) := by decide +kernel
theorem gz_191_179 : mz_pg 191 179 = some (.imul, 0, 0, 0) := by decide +kernel
theorem gz_191_180 : mz_pg 191 180 = some (.iload_n 2, 0, 0, 0) := by decide +kernel
theorem gz_191_181 : mz_pg 191 181 = some (.iadd, 0, 0, 0) := by decide +kernel
theorem gz_191_182 : mz_pg 191 182 = some (.aload_n 0, 0, 0, 0) := by decide +kernel
theorem gz_191_183 : mz_pg 191 183 = some (.getfield 110, 10, 26, 1239) := by decide +kernel
theorem gz_191_186 : mz_pg 191 186 = some (.bipush 24, 0, 0, 0) := by decide +kernel
theorem gz_191_188 : mz_pg 191 188 = some (.iload_n 2, 0, 0, 0) := by decide +kernel
theorem gz_191_189 : mz_pg 191 189 = some (.iadd, 0, 0, 0) := by decide +kernel
theorem gz_191_190 : mz_pg 191 190 = some (.iaload, 0, 0, 0) := by decide +kernel
theorem gz_191_191 : mz_pg 191 191 = some (.iastore, 0, 0, 0) := by decide +kernel
theorem gz_191_192 : mz_pg 191 192 = some (.iinc 2 1, 0, 0, 0) := by decide +kernel
theorem gz_191_195 : mz_pg 191 195 = some (.goto (-27), 0, 0, 0) := by decide +kernel
theorem gz_191_198 : mz_pg 191 198 = some (.return_, 0, 0, 0) := by decide +kernel
theorem gz_192_0 : mz_pg 192 0 = some (.aload_n 0, 0, 0, 0) := by decide +kernel
theorem gz_192_1 : mz_pg 192 1 = some (.iconst 0, 0, 0, 0) := by decide +kernel
theorem gz_192_2 : mz_pg 192 2 = some (.putfield 1, 10, 0, 1213) := by decide +kernel
theorem gz_192_5 : mz_pg 192 5 = some (.aload_n 0, 0, 0, 0) := by decide +kernel
theorem gz_192_6 : mz_pg 192 6 = some (.iload_n 1, 0, 0, 0) := by decide +kernel
theorem gz_192_7 : mz_pg 192 7 = some (.invokevirtual 373, 1, 193, 1570) := by decide +kernel
theorem gz_192_10 : mz_pg 192 10 = some (.ifCond .ne 5, 0, 0, 0) := by decide +kernel
theorem gz_192_13 : mz_pg 192 13 = some (.iconst (-1), 0, 0, 0) := by decide +kernel
theorem gz_192_14 : mz_pg 192 14 = some (.ireturn, 0, 0, 0) := by decide +kernel
theorem gz_192_15 : mz_pg 192 15 = some (.aload_n 0, 0, 0, 0) := by decide +kernel
theorem gz_192_16 : mz_pg 192 16 = some (.iconst 0, 0, 0, 0) := by decide +kernel
theorem gz_192_17 : mz_pg 192 17 = some (.iload_n 1, 0, 0, 0) := by decide +kernel
theorem gz_192_18 : mz_pg 192 18 = some (.invokevirtual 376, 1, 194, 1573) := by decide +kernel
theorem gz_192_21 : mz_pg 192 21 = some (.iload_n 2, 0, 0, 0) := by decide +kernel
theorem gz_192_22 : mz_pg 192 22 = some (.iconst 0, 0, 0, 0) := by decide +kernel
theorem gz_192_23 : mz_pg 192 23 = some (.aload_n 0, 0, 0, 0) := by decide +kernel
theorem gz_192_24 : mz_pg 192 24 = some (.getfield 349, 10, 37, 1250) := by decide +kernel
theorem gz_192_27 : mz_pg 192 27 = some (.iconst 1, 0, 0, 0) := by decide +kernel
theorem gz_192_28 : mz_pg 192 28 = some (.isub, 0, 0, 0) := by decide +kernel
theorem gz_192_29 : mz_pg 192 29 = some (.invokestatic 250, 1, 147, 1419) := by decide +kernel
theorem gz_192_32 : mz_pg 192 32 = some (.ifCond .eq 31, 0, 0, 0) := by decide +kernel
theorem gz_192_35 : mz_pg 192 35 = some (.iload_n 3, 0, 0, 0) := by decide +kernel
theorem gz_192_36 : mz_pg 192 36 = some (.iconst 0, 0, 0, 0) := by decide +kernel
theorem gz_192_37 : mz_pg 192 37 = some (.aload_n 0, 0, 0, 0) := by decide +kernel
theorem gz_192_38 : mz_pg 192 38 = some (.getfield 299, 10, 27, 1240) := by decide +kernel
theorem gz_192_41 : mz_pg 192 41 = some (.iconst 1, 0, 0, 0) := by decide +kernel
theorem gz_192_42 : mz_pg 192 42 = some (.isub, 0, 0, 0) := by decide +kernel
theorem gz_192_43 : mz_pg 192 43 = some (.invokestatic 250, 1, 147, 1419) := by decide +kernel
theorem gz_192_46 : mz_pg 192 46 = some (.ifCond .eq 17, 0, 0, 0) := by decide +kernel
theorem gz_192_49 : mz_pg 192 49 = some (.aload_n 0, 0, 0, 0) := by decide +kernel
theorem gz_192_50 : mz_pg 192 50 = some (.getfield 137, 10, 39, 1252) := by decide +kernel
theorem gz_192_53 : mz_pg 192 53 = some (.bipush 8, 0, 0, 0) := by decide +kernel
theorem gz_192_55 : mz_pg 192 55 = some (.iload_n 2, 0, 0, 0) := by decide +kernel
theorem gz_192_56 : mz_pg 192 56 = some (.imul, 0, 0, 0) := by decide +kernel
theorem gz_192_57 : mz_pg 192 57 = some (.iload_n 3, 0, 0, 0) := by decide +kernel
theorem gz_192_58 : mz_pg 192 58 = some (.iadd, 0, 0, 0) := by decide +kernel
theorem gz_192_59 : mz_pg 192 59 = some (.iaload, 0, 0, 0) := by decide +kernel
theorem gz_192_60 : mz_pg 192 60 = some (.goto 4, 0, 0, 0) := by decide +kernel
theorem gz_192_63 : mz_pg 192 63 = some (.iconst (-1), 0, 0, 0) := by decide +kernel
theorem gz_192_64 : mz_pg 192 64 = some (.ireturn, 0, 0, 0) := by decide +kernel
theorem gz_193_0 : mz_pg 193 0 = some (.iload_n 1, 0, 0, 0) := by decide +kernel
theorem gz_193_1 : mz_pg 193 1 = some (.ifCond .lt 22, 0, 0, 0) := by decide +kernel
theorem gz_193_4 : mz_pg 193 4 = some (.iload_n 1, 0, 0, 0) := by decide +kernel
theorem gz_193_5 : mz_pg 193 5 = some (.bipush 6, 0, 0, 0) := by decide +kernel
theorem gz_193_7 : mz_pg 193 7 = some (.if_icmp .ge 16, 0, 0, 0) := by decide +kernel
theorem gz_193_10 : mz_pg 193 10 = some (.aload_n 0, 0, 0, 0) := by decide +kernel
theorem gz_193_11 : mz_pg 193 11 = some (.getfield 83, 10, 17, 1230) := by decide +kernel
theorem gz_193_14 : mz_pg 193 14 = some (.iload_n 1, 0, 0, 0) := by decide +kernel
theorem gz_193_15 : mz_pg 193 15 = some (.baload, 0, 0, 0) := by decide +kernel
theorem gz_193_16 : mz_pg 193 16 = some (.ifCond .eq 7, 0, 0, 0) := by decide +kernel
theorem gz_193_19 : mz_pg 193 19 = some (.iconst 1, 0, 0, 0) := by decide +kernel
theorem gz_193_20 : mz_pg 193 20 = some (.goto 4, 0, 0, 0) := by decide +kernel
theorem gz_193_23 : mz_pg 193 23 = some (.iconst 0, 0, 0, 0) := by decide +kernel
theorem gz_193_24 : mz_pg 193 24 = some (.ireturn, 0, 0, 0) := by decide +kernel
theorem gz_194_0 : mz_pg 194 0 = some (.aload_n 0, 0, 0, 0) := by decide +kernel
theorem gz_194_1 : mz_pg 194 1 = some (.iload_n 2, 0, 0, 0) := by decide +kernel
theorem gz_194_2 : mz_pg 194 2 = some (.invokevirtual 302, 1, 180, 1529) := by decide +kernel
theorem gz_194_5 : mz_pg 194 5 = some (.aload_n 0, 0, 0, 0) := by decide +kernel
theorem gz_194_6 : mz_pg 194 6 = some (.invokevirtual 305, 1, 181, 1532) := by decide +kernel
theorem gz_194_9 : mz_pg 194 9 = some (.aload_n 0, 0, 0, 0) := by decide +kernel
theorem gz_194_10 : mz_pg 194 10 = some (.iload_n 1, 0, 0, 0) := by decide +kernel
theorem gz_194_11 : mz_pg 194 11 = some (.invokevirtual 352, 1, 195, 1576) := by decide +kernel
theorem gz_194_14 : mz_pg 194 14 = some (.iconst 0, 0, 0, 0) := by decide +kernel
theorem gz_194_15 : mz_pg 194 15 = some (.istore_n 3, 0, 0, 0) := by decide +kernel
theorem gz_194_16 : mz_pg 194 16 = some (.iload_n 3, 0, 0, 0) := by decide +kernel
theorem gz_194_17 : mz_pg 194 17 = some (.aload_n 0, 0, 0, 0) := by decide +kernel
theorem gz_194_18 : mz_pg 194 18 = some (.getfield 293, 10, 32, 1245) := by decide +kernel
theorem gz_194_21 : mz_pg 194 21 = some (.if_icmp .ge 121, 0, 0, 0) := by decide +kernel
theorem gz_194_24 : mz_pg 194 24 = some (.iconst 0, 0, 0, 0) := by decide +kernel
theorem gz_194_25 : mz_pg 194 25 = some (.istore 4, 0, 0, 0) := by decide +kernel
theorem gz_194_27 : mz_pg 194 27 = some (.iload 4, 0, 0, 0) := by decide +kernel
theorem gz_194_29 : mz_pg 194 29 = some (.aload_n 0, 0, 0, 0) := by decide +kernel
theorem gz_194_30 : mz_pg 194 30 = some (.getfield 92, 10, 20, 1233) := by decide +kernel
theorem gz_194_33 : mz_pg 194 33 = some (.aload_n 0, 0, 0, 0) := by decide +kernel
theorem gz_194_34 : mz_pg 194 34 = some (.getfield 122, 10, 31, 1244) := by decide +kernel
theorem gz_194_37 : mz_pg 194 37 = some (.iload_n 3, 0, 0, 0) := by decide +kernel
theorem gz_194_38 : mz_pg 194 38 = some (.iaload, 0, 0, 0) := by decide +kernel
theorem gz_194_39 : mz_pg 194 39 = some (.iaload, 0, 0, 0) := by decide +kernel
theorem gz_194_40 : mz_pg 194 40 = some (.if_icmp .ge 96, 0, 0, 0) := by decide +kernel
theorem gz_194_43 : mz_pg 194 43 = some (.bipush 6, 0, 0, 0) := by decide +kernel
theorem gz_194_45 : mz_pg 194 45 = some (.aload_n 0, 0, 0, 0) := by decide +kernel
theorem gz_194_46 : mz_pg 194 46 = some (.getfield 122, 10, 31, 1244) := by decide +kernel
theorem gz_194_49 : mz_pg 194 49 = some (.iload_n 3, 0, 0, 0) := by decide +kernel
theorem gz_194_50 : mz_pg 194 50 = some (.iaload, 0, 0, 0) := by decide +kernel
theorem gz_194_51 : mz_pg 194 51 = some (.imul, 0, 0, 0) := by decide +kernel
theorem gz_194_52 : mz_pg 194 52 = some (.iload 4, 0, 0, 0) := by decide +kernel
theorem gz_194_54 : mz_pg 194 54 = some (.iadd, 0, 0, 0) := by decide +kernel
theorem gz_194_55 : mz_pg 194 55 = some (.istore 5, 0, 0, 0) := by decide +kernel
theorem gz_194_57 : mz_pg 194 57 = some (.iconst 0, 0, 0, 0) := by decide +kernel
theorem gz_194_58 : mz_pg 194 58 = some (.istore 6, 0, 0, 0) := by decide +kernel
theorem gz_194_60 : mz_pg 194 60 = some (.iconst 0, 0, 0, 0) := by decide +kernel
theorem gz_194_61 : mz_pg 194 61 = some (.istore 7, 0, 0, 0) := by decide +kernel
theorem gz_194_63 : mz_pg 194 63 = some (.iload 7, 0, 0, 0) := by decide +kernel
theorem gz_194_65 : mz_pg 194 65 = some (.aload_n 0, 0, 0, 0) := by decide +kernel
theorem gz_194_66 : mz_pg 194 66 = some (.getfield 349, 10, 37, 1250) := by decide +kernel
theorem gz_194_69 : mz_pg 194 69 = some (.if_icmp .ge 32, 0, 0, 0) := by decide +kernel
theorem gz_194_72 : mz_pg 194 72 = some (.aload_n 0, 0, 0, 0) := by decide +kernel
theorem gz_194_73 : mz_pg 194 73 = some (.iload_n 1, 0, 0, 0) := by decide +kernel
theorem gz_194_74 : mz_pg 194 74 = some (.iload 5, 0, 0, 0) := by decide +kernel
theorem gz_194_76 : mz_pg 194 76 = some (.iload 7, 0, 0, 0) := by decide +kernel
theorem gz_194_78 : mz_pg 194 78 = some (.invokevirtual 355, 1, 196, 1579) := by decide +kernel
theorem gz_194_81 : mz_pg 194 81 = some (.ifCond .eq 14, 0, 0, 0) := by decide +kernel
theorem gz_194_84 : mz_pg 194 84 = some (.aload_n 0, 0, 0, 0) := by decide +kernel
theorem gz_194_85 : mz_pg 194 85 = some (.iload 7, 0, 0, 0) := by decide +kernel
theorem gz_194_87 : mz_pg 194 87 = some (.iload 6, 0, 0, 0) := by decide +kernel
theorem gz_194_89 : mz_pg 194 89 = some (.invokevirtual 358, 1, 197, 1582) := by decide +kernel
theorem gz_194_92 : mz_pg 194 92 = some (.iinc 6 1, 0, 0, 0) := by decide +kernel
theorem gz_194_95 : mz_pg 194 95 = some (.iinc 7 1, 0, 0, 0) := by decide +kernel
theorem gz_194_98 : mz_pg 194 98 = some (.goto (-35), 0, 0, 0) := by decide +kernel
theorem gz_194_101 : mz_pg 194 101 = some (.aload_n 0, 0, 0, 0) := by decide +kernel
theorem gz_194_102 : mz_pg 194 102 = some (.iload 6, 0, 0, 0) := by decide +kernel
theorem gz_194_104 : mz_pg 194 104 = some (.putfield 349, 10, 37, 1250) := by decide +kernel
theorem gz_194_107 : mz_pg 194 107 = some (.aload_n 0, 0, 0, 0) := by decide +kernel
theorem gz_194_108 : mz_pg 194 108 = some (.getfield 95, 10, 21, 1234) := by decide +kernel
theorem gz_194_111 : mz_pg 194 111 = some (.iload 5, 0, 0, 0) := by decide +kernel
theorem gz_194_113 : mz_pg 194 113 = some (.iaload, 0, 0, 0) := by decide +kernel
theorem gz_194_114 : mz_pg 194 114 = some (.iconst 5, 0, 0, 0) := by decide +kernel
theorem gz_194_115 : mz_pg 194 115 = some (.if_icmp .ne 9, 0, 0, 0) := by decide +kernel
theorem gz_194_118 : mz_pg 194 118 = some (.aload_n 0, 0, 0, 0) := by decide +kernel
theorem gz_194_119 : mz_pg 194 119 = some (.iload 5, 0, 0, 0) := by decide +kernel
theorem gz_194_121 : mz_pg 194 121 = some (.invokevirtual 361, 1, 198, 1585) := by decide +kernel
theorem gz_194_124 : mz_pg 194 124 = some (.aload_n 0, 0, 0, 0) := by decide +kernel
theorem gz_194_125 : mz_pg 194 125 = some (.iload 5, 0, 0, 0) := by decide +kernel
theorem gz_194_127 : mz_pg 194 127 = some (.invokevirtual 308, 1, 182, 1535) := by decide +kernel
theorem gz_194_130 : mz_pg 194 130 = some (.iinc 4 1, 0, 0, 0) := by decide +kernel
theorem gz_194_133 : mz_pg 194 133 = some (.goto (-106), 0, 0, 0) := by decide +kernel
theorem gz_194_136 : mz_pg 194 136 = some (.iinc 3 1, 0, 0, 0) := by decide +kernel
theorem gz_194_139 : mz_pg 194 139 = some (.goto (-123), 0, 0, 0) := by decide +kernel
theorem gz_194_142 : mz_pg 194 142 = some (.aload_n 0, 0, 0, 0) := by decide +kernel
theorem gz_194_143 : mz_pg 194 143 = some (.invokevirtual 364, 1, 199, 1588) := by decide +kernel
theorem gz_194_146 : mz_pg 194 146 = some (.return_, 0, 0, 0) := by decide +kernel
theorem gz_195_0 : mz_pg 195 0 = some (.aload_n 0, 0, 0, 0) := by decide +kernel
theorem gz_195_1 : mz_pg 195 1 = some (.iconst 0, 0, 0, 0) := by decide +kernel
theorem gz_195_2 : mz_pg 195 2 = some (.putfield 349, 10, 37, 1250) := by decide +kernel
theorem gz_195_5 : mz_pg 195 5 = some (.iconst 0, 0, 0, 0) := by decide +kernel
theorem gz_195_6 : mz_pg 195 6 = some (.istore_n 2, 0, 0, 0) := by decide +kernel
theorem gz_195_7 : mz_pg 195 7 = some (.iload_n 2, 0, 0, 0) := by decide +kernel
theorem gz_195_8 : mz_pg 195 8 = some (.bipush 20, 0, 0, 0) := by decide +kernel
theorem gz_195_10 : mz_pg 195 10 = some (.if_icmp .ge 107, 0, 0, 0) := by decide +kernel
theorem gz_195_13 : mz_pg 195 13 = some (.aload_n 0, 0, 0, 0) := by decide +kernel
theorem gz_195_14 : mz_pg 195 14 = some (.getfield 77, 10, 15, 1228) := by decide +kernel
theorem gz_195_17 : mz_pg 195 17 = some (.iload_n 1, 0, 0, 0) := by decide +kernel
theorem gz_195_18 : mz_pg 195 18 = some (.aload_n 0, 0, 0, 0) := by decide +kernel
theorem gz_195_19 : mz_pg 195 19 = some (.getfield 296, 10, 33, 1246) := by decide +kernel
theorem gz_195_22 : mz_pg 195 22 = some (.iload_n 2, 0, 0, 0) := by decide +kernel
theorem gz_195_23 : mz_pg 195 23 = some (.invokestatic 242, 1, 150, 1429) := by decide +kernel
theorem gz_195_26 : mz_pg 195 26 = some (.baload, 0, 0, 0) := by decide +kernel
theorem gz_195_27 : mz_pg 195 27 = some (.ifCond .eq 84, 0, 0, 0) := by decide +kernel
theorem gz_195_30 : mz_pg 195 30 = some (.aload_n 0, 0, 0, 0) := by decide +kernel
theorem gz_195_31 : mz_pg 195 31 = some (.getfield 134, 10, 38, 1251) := by decide +kernel
theorem gz_195_34 : mz_pg 195 34 = some (.aload_n 0, 0, 0, 0) := by decide +kernel
theorem gz_195_35 : mz_pg 195 35 = some (.getfield 349, 10, 37, 1250) := by decide +kernel
theorem gz_195_38 : mz_pg 195 38 = some (.iload_n 2, 0, 0, 0) := by decide +kernel
theorem gz_195_39 : mz_pg 195 39 = some (.iastore, 0, 0, 0) := by decide +kernel
theorem gz_195_40 : mz_pg 195 40 = some (.iconst 0, 0, 0, 0) := by decide +kernel
theorem gz_195_41 : mz_pg 195 41 = some (.istore_n 3, 0, 0, 0) := by decide +kernel
theorem gz_195_42 : mz_pg 195 42 = some (.iload_n 3, 0, 0, 0) := by decide +kernel
theorem gz_195_43 : mz_pg 195 43 = some (.aload_n 0, 0, 0, 0) := by decide +kernel
theorem gz_195_44 : mz_pg 195 44 = some (.getfield 61, 10, 10, 1223) := by decide +kernel
theorem gz_195_47 : mz_pg 195 47 = some (.aload_n 0, 0, 0, 0) := by decide +kernel
theorem gz_195_48 : mz_pg 195 48 = some (.getfield 296, 10, 33, 1246) := by decide +kernel
theorem gz_195_51 : mz_pg 195 51 = some (.iaload, 0, 0, 0) := by decide +kernel
theorem gz_195_52 : mz_pg 195 52 = some (.if_icmp .ge 49, 0, 0, 0) := by decide +kernel
theorem gz_195_55 : mz_pg 195 55 = some (.aload_n 0, 0, 0, 0) := by decide +kernel
theorem gz_195_56 : mz_pg 195 56 = some (.getfield 137, 10, 39, 1252) := by decide +kernel
theorem gz_195_59 : mz_pg 195 59 = some (.bipush 8, 0, 0, 0) := by decide +kernel
theorem gz_195_61 : mz_pg 195 61 = some (.aload_n 0, 0, 0, 0) := by decide +kernel
theorem gz_195_62 : mz_pg 195 62 = some (.getfield 349, 10, 37, 1250) := by decide +kernel
theorem gz_195_65 : mz_pg 195 65 = some (.imul, 0, 0, 0) := by decide +kernel
theorem gz_195_66 : mz_pg 195 66 = some (.iload_n 3, 0, 0, 0) := by decide +kernel
theorem gz_195_67 : mz_pg 195 67 = some (.iadd, 0, 0, 0) := by decide +kernel
theorem gz_195_68 : mz_pg 195 68 = some (.aload_n 0, 0, 0, 0) := by decide +kernel
theorem gz_195_69 : mz_pg 195 69 = some (.iload_n 1, 0, 0, 0) := by decide +kernel
theorem gz_195_70 : mz_pg 195 70 = some (.aload_n 0, 0, 0, 0) := by decide +kernel
theorem gz_195_71 : mz_pg 195 71 = some (.getfield 296, 10, 33, 1246) := by decide +kernel
theorem gz_195_74 : mz_pg 195 74 = some (.iload_n 2, 0, 0, 0) := by decide +kernel
theorem gz_195_75 : mz_pg 195 75 = some (.iload_n 3, 0, 0, 0) := by decide +kernel
theorem gz_195_76 : mz_pg 195 76 = some (.invokevirtual 246, 1, 157, 1450) := by decide +kernel
theorem gz_195_79 : mz_pg 195 79 = some (.iastore, 0, 0, 0) := by decide +kernel
theorem gz_195_80 : mz_pg 195 80 = some (.aload_n 0, 0, 0, 0) := by decide +kernel
theorem gz_195_81 : mz_pg 195 81 = some (.getfield 140, 10, 40, 1253) := by decide +kernel
theorem gz_195_84 : mz_pg 195 84 = some (.bipush 8, 0, 0, 0) := by decide +kernel
theorem gz_195_86 : mz_pg 195 86 = some (.aload_n 0, 0, 0, 0) := by decide +kernel
theorem gz_195_87 : mz_pg 195 87 = some (.getfield 349, 10, 37, 1250) := by decide +kernel
theorem gz_195_90 : mz_pg 195 90 = some (.imul, 0, 0, 0) := by decide +kernel
theorem gz_195_91 : mz_pg 195 91 = some (.iload_n 3, 0, 0, 0) := by decide +kernel
theorem gz_195_92 : mz_pg 195 92 = some (.iadd, 0, 0, 0) := by decide +kernel
theorem gz_195_93 : mz_pg 195 93 = some (.iload_n 2, 0, 0, 0) := by decide +kernel
theorem gz_195_94 : mz_pg 195 94 = some (.iastore, 0, 0, 0) := by decide +kernel
theorem gz_195_95 : mz_pg 195 95 = some (.iinc 3 1, 0, 0, 0) := by decide +kernel
theorem gz_195_98 : mz_pg 195 98 = some (.goto (-56), 0, 0, 0) := by decide +kernel
theorem gz_195_101 : mz_pg 195 101 = some (.aload_n 0, 0, 0, 0) := by decide +kernel
theorem gz_195_102 : mz_pg 195 102 = some (.dup, 0, 0, 0) := by decide +kernel
theorem gz_195_103 : mz_pg 195 103 = some (.getfield 349, 10, 37, 1250) := by decide +kernel
theorem gz_195_106 : mz_pg 195 106 = some (.iconst 1, 0, 0, 0) := by decide +kernel
theorem gz_195_107 : mz_pg 195 107 = some (.iadd, 0, 0, 0) := by decide +kernel
theorem gz_195_108 : mz_pg 195 108 = some (.putfield 349, 10, 37, 1250) := by decide +kernel
theorem gz_195_111 : mz_pg 195 111 = some (.iinc 2 1, 0, 0, 0) := by decide +kernel
theorem gz_195_114 : mz_pg 195 114 = some (.goto (-107), 0, 0, 0) := by decide +kernel
theorem gz_195_117 : mz_pg 195 117 = some (.return_, 0, 0, 0) := by decide +kernel
theorem gz_196_0 : mz_pg 196 0 = some (.aload_n 0, 0, 0, 0) := by decide +kernel
theorem gz_196_1 : mz_pg 196 1 = some (.getfield 137, 10, 39, 1252) := by decide +kernel
theorem gz_196_4 : mz_pg 196 4 = some (.bipush 8, 0, 0, 0) := by decide +kernel
theorem gz_196_6 : mz_pg 196 6 = some (.iload_n 3, 0, 0, 0) := by decide +kernel
theorem gz_196_7 : mz_pg 196 7 = some (.imul, 0, 0, 0) := by decide +kernel
theorem gz_196_8 : mz_pg 196 8 = some (.aload_n 0, 0, 0, 0) := by decide +kernel
theorem gz_196_9 : mz_pg 196 9 = some (.getfield 98, 10, 22, 1235) := by decide +kernel
theorem gz_196_12 : mz_pg 196 12 = some (.iload_n 2, 0, 0, 0) := by decide +kernel
theorem gz_196_13 : mz_pg 196 13 = some (.iaload, 0, 0, 0) := by decide +kernel
theorem gz_196_14 : mz_pg 196 14 = some (.iadd, 0, 0, 0) := by decide +kernel
theorem gz_196_15 : mz_pg 196 15 = some (.iaload, 0, 0, 0) := by decide +kernel
theorem gz_196_16 : mz_pg 196 16 = some (.istore 4, 0, 0, 0) := by decide +kernel
theorem gz_196_18 : mz_pg 196 18 = some (.aload_n 0, 0, 0, 0) := by decide +kernel
theorem gz_196_19 : mz_pg 196 19 = some (.getfield 95, 10, 21, 1234) := by decide +kernel
theorem gz_196_22 : mz_pg 196 22 = some (.iload_n 2, 0, 0, 0) := by decide +kernel
theorem gz_196_23 : mz_pg 196 23 = some (.iaload, 0, 0, 0) := by decide +kernel
theorem gz_196_24 : mz_pg 196 24 = some (.tableswitch 227 0 5 #[40, 57, 74, 91, 227, 225], 0, 0, 0) := by decide +kernel
theorem gz_196_64 : mz_pg 196 64 = some (.iload 4, 0, 0, 0) := by decide +kernel
theorem gz_196_66 : mz_pg 196 66 = some (.aload_n 0, 0, 0, 0) := by decide +kernel
theorem gz_196_67 : mz_pg 196 67 = some (.getfield 101, 10, 23, 1236) := by decide +kernel
theorem gz_196_70 : mz_pg 196 70 = some (.iload_n 2, 0, 0, 0) := by decide +kernel
theorem gz_196_71 : mz_pg 196 71 = some (.iaload, 0, 0, 0) := by decide +kernel
theorem gz_196_72 : mz_pg 196 72 = some (.if_icmp .ge 7, 0, 0, 0) := by decide +kernel
theorem gz_196_75 : mz_pg 196 75 = some (.iconst 1, 0, 0, 0) := by decide +kernel
theorem gz_196_76 : mz_pg 196 76 = some (.goto 4, 0, 0, 0) := by decide +kernel
theorem gz_196_79 : mz_pg 196 79 = some (.iconst 0, 0, 0, 0) := by decide +kernel
theorem gz_196_80 : mz_pg 196 80 = some (.ireturn, 0, 0, 0) := by decide +kernel
theorem gz_196_81 : mz_pg 196 81 = some (.iload 4, 0, 0, 0) := by decide +kernel
theorem gz_196_83 : mz_pg 196 83 = some (.aload_n 0, 0, 0, 0) := by decide +kernel
theorem gz_196_84 : mz_pg 196 84 = some (.getfield 101, 10, 23, 1236) := by decide +kernel
theorem gz_196_87 : mz_pg 196 87 = some (.iload_n 2, 0, 0, 0) := by decide +kernel
theorem gz_196_88 : mz_pg 196 88 = some (.iaload, 0, 0, 0) := by decide +kernel
theorem gz_196_89 : mz_pg 196 89 = some (.if_icmp .ne 7, 0, 0, 0) := by decide +kernel
theorem gz_196_92 : mz_pg 196 92 = some (.iconst 1, 0, 0, 0) := by decide +kernel
theorem gz_196_93 : mz_pg 196 93 = some (.goto 4, 0, 0, 0) := by decide +kernel
theorem gz_196_96 : mz_pg 196 96 = some (.iconst 0, 0, 0, 0) := by decide +kernel
theorem gz_196_97 : mz_pg 196 97 = some (.ireturn, 0, 0, 0) := by decide +kernel
theorem gz_196_98 : mz_pg 196 98 = some (.iload 4, 0, 0, 0) := by decide +kernel
theorem gz_196_100 : mz_pg 196 100 = some (.aload_n 0, 0, 0, 0) := by decide +kernel
theorem gz_196_101 : mz_pg 196 101 = some (.getfield 101, 10, 23, 1236) := by decide +kernel
theorem gz_196_104 : mz_pg 196 104 = some (.iload_n 2, 0, 0, 0) := by decide +kernel
theorem gz_196_105 : mz_pg 196 105 = some (.iaload, 0, 0, 0) := by decide +kernel
theorem gz_196_106 : mz_pg 196 106 = some (.if_icmp .le 7, 0, 0, 0) := by decide +kernel
theorem gz_196_109 : mz_pg 196 109 = some (.iconst 1, 0, 0, 0) := by decide +kernel
theorem gz_196_110 : mz_pg 196 110 = some (.goto 4, 0, 0, 0) := by decide +kernel
theorem gz_196_113 : mz_pg 196 113 = some (.iconst 0, 0, 0, 0) := by decide +kernel
theorem gz_196_114 : mz_pg 196 114 = some (.ireturn, 0, 0, 0) := by decide +kernel
theorem gz_196_115 : mz_pg 196 115 = some (.iconst 0, 0, 0, 0) := by decide +kernel
theorem gz_196_116 : mz_pg 196 116 = some (.istore 5, 0, 0, 0) := by decide +kernel
theorem gz_196_118 : mz_pg 196 118 = some (.iload 5, 0, 0, 0) := by decide +kernel
theorem gz_196_120 : mz_pg 196 120 = some (.bipush 8, 0, 0, 0) := by decide +kernel
theorem gz_196_122 : mz_pg 196 122 = some (.if_icmp .ge 47, 0, 0, 0) := by decide +kernel
theorem gz_196_125 : mz_pg 196 125 = some (.aload_n 0, 0, 0, 0) := by decide +kernel
theorem gz_196_126 : mz_pg 196 126 = some (.getfield 143, 10, 41, 1254) := by decide +kernel
theorem gz_196_129 : mz_pg 196 129 = some (.iload 5, 0, 0, 0) := by decide +kernel
theorem gz_196_131 : mz_pg 196 131 = some (.aload_n 0, 0, 0, 0) := by decide +kernel
theorem gz_196_132 : mz_pg 196 132 = some (.getfield 137, 10, 39, 1252) := by decide +kernel
theorem gz_196_135 : mz_pg 196 135 = some (.bipush 8, 0, 0, 0) := by decide +kernel
theorem gz_196_137 : mz_pg 196 137 = some (.iload_n 3, 0, 0, 0) := by decide +kernel
theorem gz_196_138 : mz_pg 196 138 = some (.imul, 0, 0, 0) := by decide +kernel
theorem gz_196_139 : mz_pg 196 139 = some (.iload 5, 0, 0, 0) := by decide +kernel
theorem gz_196_141 : mz_pg 196 141 = some (.iadd, 0, 0, 0) := by decide +kernel
theorem gz_196_142 : mz_pg 196 142 = some (.iaload, 0, 0, 0) := by decide +kernel
theorem gz_196_143 : mz_pg 196 143 = some (.iastore, 0, 0, 0) := by decide +kernel
theorem gz_196_144 : mz_pg 196 144 = some (.aload_n 0, 0, 0, 0) := by decide +kernel
theorem gz_196_145 : mz_pg 196 145 = some (.getfield 146, 10, 42, 1255) := by decide +kernel
theorem gz_196_148 : mz_pg 196 148 = some (.iload 5, 0, 0, 0) := by decide +kernel
theorem gz_196_150 : mz_pg 196 150 = some (.aload_n 0, 0, 0, 0) := by decide +kernel
theorem gz_196_151 : mz_pg 196 151 = some (.getfield 140, 10, 40, 1253) := by decide +kernel
theorem gz_196_154 : mz_pg 196 154 = some (.bipush 8, 0, 0, 0) := by decide +kernel
theorem gz_196_156 : mz_pg 196 156 = some (.iload_n 3, 0, 0, 0) := by decide +kernel
theorem gz_196_157 : mz_pg 196 157 = some (.imul, 0, 0, 0) := by decide +kernel
theorem gz_196_158 : mz_pg 196 158 = some (.iload 5, 0, 0, 0) := by decide +kernel
theorem gz_196_160 : mz_pg 196 160 = some (.iadd, 0, 0, 0) := by decide +kernel
theorem gz_196_161 : mz_pg 196 161 = some (.iaload, 0, 0, 0) := by decide +kernel
theorem gz_196_162 : mz_pg 196 162 = some (.iastore, 0, 0, 0) := by decide +kernel
theorem gz_196_163 : mz_pg 196 163 = some (.iinc 5 1, 0, 0, 0) := by decide +kernel
theorem gz_196_166 : mz_pg 196 166 = some (.goto (-48), 0, 0, 0) := by decide +kernel
theorem gz_196_169 : mz_pg 196 169 = some (.iconst 0, 0, 0, 0) := by decide +kernel
theorem gz_196_170 : mz_pg 196 170 = some (.istore 5, 0, 0, 0) := by decide +kernel
theorem gz_196_172 : mz_pg 196 172 = some (.iload 5, 0, 0, 0) := by decide +kernel
theorem gz_196_174 : mz_pg 196 174 = some (.aload_n 0, 0, 0, 0) := by decide +kernel
theorem gz_196_175 : mz_pg 196 175 = some (.getfield 104, 10, 24, 1237) := by decide +kernel
theorem gz_196_178 : mz_pg 196 178 = some (.iload_n 2, 0, 0, 0) := by decide +kernel
theorem gz_196_179 : mz_pg 196 179 = some (.iaload, 0, 0, 0) := by decide +kernel
theorem gz_196_180 : mz_pg 196 180 = some (.if_icmp .ge 67, 0, 0, 0) := by decide +kernel
theorem gz_196_183 : mz_pg 196 183 = some (.aload_n 0, 0, 0, 0) := by decide +kernel
theorem gz_196_184 : mz_pg 196 184 = some (.getfield 137, 10, 39, 1252) := by decide +kernel
theorem gz_196_187 : mz_pg 196 187 = some (.bipush 8, 0, 0, 0) := by decide +kernel
theorem gz_196_189 : mz_pg 196 189 = some (.iload_n 3, 0, 0, 0) := by decide +kernel
theorem gz_196_190 : mz_pg 196 190 = some (.imul, 0, 0, 0) := by decide +kernel
theorem gz_196_191 : mz_pg 196 191 = some (.iload 5, 0, 0, 0) := by decide +kernel
theorem gz_196_193 : mz_pg 196 193 = some (.iadd, 0, 0, 0) := by decide +kernel
theorem gz_196_194 : mz_pg 196 194 = some (.aload_n 0, 0, 0, 0) := by decide +kernel
theorem gz_196_195 : mz_pg 196 195 = some (.getfield 143, 10, 41, 1254) := by decide +kernel
theorem gz_196_198 : mz_pg 196 198 = some (.aload_n 0, 0, 0, 0) := by decide +kernel
theorem gz_196_199 : mz_pg 196 199 = some (.getfield 107, 10, 25, 1238) := by decide +kernel
theorem gz_196_202 : mz_pg 196 202 = some (.bipush 8, 0, 0, 0) := by decide +kernel
theorem gz_196_204 : mz_pg 196 204 = some (.iload_n 2, 0, 0, 0) := by decide +kernel
theorem gz_196_205 : mz_pg 196 205 = some (.imul, 0, 0, 0) := by decide +kernel
theorem gz_196_206 : mz_pg 196 206 = some (.iload 5, 0, 0, 0) := by decide +kernel
theorem gz_196_208 : mz_pg 196 208 = some (.iadd, 0, 0, 0) := by decide +kernel
theorem gz_196_209 : mz_pg 196 209 = some (.iaload, 0, 0, 0) := by decide +kernel
theorem gz_196_210 : mz_pg 196 210 = some (.iaload, 0, 0, 0) := by decide +kernel
theorem gz_196_211 : mz_pg 196 211 = some (.iastore, 0, 0, 0) := by decide +kernel
theorem gz_196_212 : mz_pg 196 212 = some (.aload_n 0, 0, 0, 0) := by decide +kernel
theorem gz_196_213 : mz_pg 196 213 = some (.getfield 140, 10, 40, 1253) := by decide +kernel
theorem gz_196_216 : mz_pg 196 216 = some (.bipush 8, 0, 0, 0) := by decide +kernel
theorem gz_196_218 : mz_pg 196 218 = some (.iload_n 3, 0, 0, 0) := by decide +kernel
theorem gz_196_219 : mz_pg 196 219 = some (.imul, 0, 0, 0) := by decide +kernel
theorem gz_196_220 : mz_pg 196 220 = some (.iload 5, 0, 0, 0) := by decide +kernel
theorem gz_196_222 : mz_pg 196 222 = some (.iadd, 0, 0, 0) := by decide +kernel
theorem gz_196_223 : mz_pg 196 223 = some (.aload_n 0, 0, 0, 0) := by decide +kernel
theorem gz_196_224 : mz_pg 196 224 = some (.getfield 146, 10, 42, 1255) := by decide +kernel
theorem gz_196_227 : mz_pg 196 227 = some (.aload_n 0, 0, 0, 0) := by decide +kernel
theorem gz_196_228 : mz_pg 196 228 = some (.getfield 107, 10, 25, 1238) := by decide +kernel
theorem gz_196_231 : mz_pg 196 231 = some (.bipush 8, 0, 0, 0) := by decide +kernel
theorem gz_196_233 : mz_pg 196 233 = some (.iload_n 2, 0, 0, 0) := by decide +kernel
theorem gz_196_234 : mz_pg 196 234 = some (.imul, 0, 0, 0) := by decide +kernel
theorem gz_196_235 : mz_pg 196 235 = some (.iload 5, 0, 0, 0) := by decide +kernel
theorem gz_196_237 : mz_pg 196 237 = some (.iadd, 0, 0, 0) := by decide +kernel
theorem gz_196_238 : mz_pg 196 238 = some (.iaload, 0, 0, 0) := by decide +kernel
theorem gz_196_239 : mz_pg 196 239 = some (.iaload, 0, 0, 0) := by decide +kernel
theorem gz_196_240 : mz_pg 196 240 = some (.iastore, 0, 0, 0) := by decide +kernel
theorem gz_196_241 : mz_pg 196 241 = some (.iinc 5 1, 0, 0, 0) := by decide +kernel
theorem gz_196_244 : mz_pg 196 244 = some (.goto (-72), 0, 0, 0) := by decide +kernel
theorem gz_196_247 : mz_pg 196 247 = some (.iconst 1, 0, 0, 0) := by decide +kernel
theorem gz_196_248 : mz_pg 196 248 = some (.ireturn, 0, 0, 0) := by decide +kernel
theorem gz_196_249 : mz_pg 196 249 = some (.iconst 1, 0, 0, 0) := by decide +kernel
theorem gz_196_250 : mz_pg 196 250 = some (.ireturn, 0, 0, 0) := by decide +kernel
theorem gz_196_251 : mz_pg 196 251 = some (.iload 4, 0, 0, 0) := by decide +kernel
theorem gz_196_253 : mz_pg 196 253 = some (.bipush 19, 0, 0, 0) := by decide +kernel
theorem gz_196_255 : mz_pg 196 255 = some (.if_icmp .gt 23, 0, 0, 0) := by decide +kernel
theorem gz_196_258 : mz_pg 196 258 = some (.aload_n 0, 0, 0, 0) := by decide +kernel
theorem gz_196_259 : mz_pg 196 259 = some (.getfield 77, 10, 15, 1228) := by decide +kernel
theorem gz_196_262 : mz_pg 196 262 = some (.iload_n 1, 0, 0, 0) := by decide +kernel
theorem gz_196_263 : mz_pg 196 263 = some (.aload_n 0, 0, 0, 0) := by decide +kernel
theorem gz_196_264 : mz_pg 196 264 = some (.getfield 101, 10, 23, 1236) := by decide +kernel
theorem gz_196_267 : mz_pg 196 267 = some (.iload_n 2, 0, 0, 0) := by decide +kernel
theorem gz_196_268 : mz_pg 196 268 = some (.iaload, 0, 0, 0) := by decide +kernel
theorem gz_196_269 : mz_pg 196 269 = some (.iload 4, 0, 0, 0) := by decide +kernel
theorem gz_196_271 : mz_pg 196 271 = some (.invokestatic 242, 1, 150, 1429) := by decide +kernel
theorem gz_196_274 : mz_pg 196 274 = some (.baload, 0, 0, 0) := by decide +kernel
theorem gz_196_275 : mz_pg 196 275 = some (.ifCond .ne 5, 0, 0, 0) := by decide +kernel
theorem gz_196_278 : mz_pg 196 278 = some (.iconst 0, 0, 0, 0) := by decide +kernel
theorem gz_196_279 : mz_pg 196 279 = some (.ireturn, 0, 0, 0) := by decide +kernel
theorem gz_196_280 : mz_pg 196 280 = some (.iconst 1, 0, 0, 0) := by decide +kernel
theorem gz_196_281 : mz_pg 196 281 = some (.istore 5, 0, 0, 0) := by decide +kernel
theorem gz_196_283 : mz_pg 196 283 = some (.iload 5, 0, 0, 0) := by decide +kernel
theorem gz_196_285 : mz_pg 196 285 = some (.aload_n 0, 0, 0, 0) := by decide +kernel
theorem gz_196_286 : mz_pg 196 286 = some (.getfield 61, 10, 10, 1223) := by decide +kernel
theorem gz_196_289 : mz_pg 196 289 = some (.aload_n 0, 0, 0, 0) := by decide +kernel
theorem gz_196_290 : mz_pg 196 290 = some (.getfield 101, 10, 23, 1236) := by decide +kernel
theorem gz_196_293 : mz_pg 196 293 = some (.iload_n 2, 0, 0, 0) := by decide +kernel
theorem gz_196_294 : mz_pg 196 294 = some (.iaload, 0, 0, 0) := by decide +kernel
theorem gz_196_295 : mz_pg 196 295 = some (.iaload, 0, 0, 0) := by decide +kernel
theorem gz_196_296 : mz_pg 196 296 = some (.if_icmp .ge 64, 0, 0, 0) := by decide +kernel
theorem gz_196_299 : mz_pg 196 299 = some (.aload_n 0, 0, 0, 0) := by decide +kernel
theorem gz_196_300 : mz_pg 196 300 = some (.getfield 137, 10, 39, 1252) := by decide +kernel
theorem gz_196_303 : mz_pg 196 303 = some (.bipush 8, 0, 0, 0) := by decide +kernel
theorem gz_196_305 : mz_pg 196 305 = some (.iload_n 3, 0, 0, 0) := by decide +kernel
theorem gz_196_306 : mz_pg 196 306 = some (.imul, 0, 0, 0) := by decide +kernel
theorem gz_196_307 : mz_pg 196 307 = some (.aload_n 0, 0, 0, 0) := by decide +kernel
theorem gz_196_308 : mz_pg 196 308 = some (.getfield 299, 10, 27, 1240) := by decide +kernel
theorem gz_196_311 : mz_pg 196 311 = some (.iadd, 0, 0, 0) := by decide +kernel
theorem gz_196_312 : mz_pg 196 312 = some (.iload 5, 0, 0, 0) := by decide +kernel
theorem gz_196_314 : mz_pg 196 314 = some (.iadd, 0, 0, 0) := by decide +kernel
theorem gz_196_315 : mz_pg 196 315 = some (.iconst 1, 0, 0, 0) := by decide +kernel
theorem gz_196_316 : mz_pg 196 316 = some (.isub, 0, 0, 0) := by decide +kernel
theorem gz_196_317 : mz_pg 196 317 = some (.aload_n 0, 0, 0, 0) := by decide +kernel
theorem gz_196_318 : mz_pg 196 318 = some (.iload_n 1, 0, 0, 0) := by decide +kernel
theorem gz_196_319 : mz_pg 196 319 = some (.aload_n 0, 0, 0, 0) := by decide +kernel
theorem gz_196_320 : mz_pg 196 320 = some (.getfield 101, 10, 23, 1236) := by decide +kernel
theorem gz_196_323 : mz_pg 196 323 = some (.iload_n 2, 0, 0, 0) := by decide +kernel
theorem gz_196_324 : mz_pg 196 324 = some (.iaload, 0, 0, 0) := by decide +kernel
theorem gz_196_325 : mz_pg 196 325 = some (.iload 4, 0, 0, 0) := by decide +kernel
theorem gz_196_327 : mz_pg 196 327 = some (.iload 5, 0, 0, 0) := by decide +kernel
theorem gz_196_329 : mz_pg 196 329 = some (.invokevirtual 246, 1, 157, 1450) := by decide +kernel
theorem gz_196_332 : mz_pg 196 332 = some (.iastore, 0, 0, 0) := by decide +kernel
theorem gz_196_333 : mz_pg 196 333 = some (.aload_n 0, 0, 0, 0) := by decide +kernel
theorem gz_196_334 : mz_pg 196 334 = some (.getfield 140, 10, 40, 1253) := by decide +kernel
theorem gz_196_337 : mz_pg 196 337 = some (.bipush 8, 0, 0, 0) := by decide +kernel
theorem gz_196_339 : mz_pg 196 339 = some (.iload_n 3, 0, 0, 0) := by decide +kernel
theorem gz_196_340 : mz_pg 196 340 = some (.imul, 0, 0, 0) := by decide +kernel
theorem gz_196_341 : mz_pg 196 341 = some (.aload_n 0, 0, 0, 0) := by decide +kernel
theorem gz_196_342 : mz_pg 196 342 = some (.getfield 299, 10, 27, 1240) := by decide +kernel
theorem gz_196_345 : mz_pg 196 345 = some (.iadd, 0, 0, 0) := by decide +kernel
theorem gz_196_346 : mz_pg 196 346 = some (.iload 5, 0, 0, 0) := by decide +kernel
theorem gz_196_348 : mz_pg 196 348 = some (.iadd, 0, 0, 0) := by decide +kernel
theorem gz_196_349 : mz_pg 196 349 = some (.iconst 1, 0, 0, 0) := by decide +kernel
theorem gz_196_350 : mz_pg 196 350 = some (.isub, 0, 0, 0) := by decide +kernel
theorem gz_196_351 : mz_pg 196 351 = some (.iload 4, 0, 0, 0) := by decide +kernel
theorem gz_196_353 : mz_pg 196 353 = some (.iastore, 0, 0, 0) := by decide +kernel
theorem gz_196_354 : mz_pg 196 354 = some (.iinc 5 1, 0, 0, 0) := by decide +kernel
theorem gz_196_357 : mz_pg 196 357 = some (.goto (-74), 0, 0, 0) := by decide +kernel
theorem gz_196_360 : mz_pg 196 360 = some (.iconst 1, 0, 0, 0) := by decide +kernel
theorem gz_196_361 : mz_pg 196 361 = some (.ireturn, 0, 0, 0) := by decide +kernel
theorem gz_197_0 : mz_pg 197 0 = some (.aload_n 0, 0, 0, 0) := by decide +kernel
theorem gz_197_1 : mz_pg 197 1 = some (.getfield 134, 10, 38, 1251) := by decide +kernel
theorem gz_197_4 : mz_pg 197 4 = some (.iload_n 2, 0, 0, 0) := by decide +kernel
theorem gz_197_5 : mz_pg 197 5 = some (.aload_n 0, 0, 0, 0) := by decide +kernel
theorem gz_197_6 : mz_pg 197 6 = some (.getfield 134, 10, 38, 1251) := by decide +kernel
theorem gz_197_9 : mz_pg 197 9 = some (.iload_n 1, 0, 0, 0) := by decide +kernel
theorem gz_197_10 : mz_pg 197 10 = some (.iaload, 0, 0, 0) := by decide +kernel
theorem gz_197_11 : mz_pg 197 11 = some (.iastore, 0, 0, 0) := by decide +kernel
theorem gz_197_12 : mz_pg 197 12 = some (.iconst 0, 0, 0, 0) := by decide +kernel
theorem gz_197_13 : mz_pg 197 13 = some (.istore_n 3, 0, 0, 0) := by decide +kernel
theorem gz_197_14 : mz_pg 197 14 = some (.iload_n 3, 0, 0, 0) := by decide +kernel
theorem gz_197_15 : mz_pg 197 15 = some (.bipush 8, 0, 0, 0) := by decide +kernel
theorem gz_197_17 : mz_pg 197 17 = some (.if_icmp .ge 53, 0, 0, 0) := by decide +kernel
theorem gz_197_20 : mz_pg 197 20 = some (.aload_n 0, 0, 0, 0) := by decide +kernel
theorem gz_197_21 : mz_pg 197 21 = some (.getfield 137, 10, 39, 1252) := by decide +kernel
theorem gz_197_24 : mz_pg 197 24 = some (.bipush 8, 0, 0, 0) := by decide +kernel
theorem gz_197_26 : mz_pg 197 26 = some (.iload_n 2, 0, 0, 0) := by decide +kernel
theorem gz_197_27 : mz_pg 197 27 = some (.imul, 0, 0, 0) := by decide +kernel
theorem gz_197_28 : mz_pg 197 28 = some (.iload_n 3, 0, 0, 0) := by decide +kernel
theorem gz_197_29 : mz_pg 197 29 = some (.iadd, 0, 0, 0) := by decide +kernel
theorem gz_197_30 : mz_pg 197 30 = some (.aload_n 0, 0, 0, 0) := by decide +kernel
theorem gz_197_31 : mz_pg 197 31 = some (.getfield 137, 10, 39, 1252) := by decide +kernel
theorem gz_197_34 : mz_pg 197 34 = some (.bipush 8, 0, 0, 0) := by decide +kernel
theorem gz_197_36 : mz_pg 197 36 = some (.iload_n 1, 0, 0, 0) := by decide +kernel
theorem gz_197_37 : mz_pg 197 37 = some (.imul, 0, 0, 0) := by decide +kernel
theorem gz_197_38 : mz_pg 197 38 = some (.iload_n 3, 0, 0, 0) := by decide +kernel
theorem gz_197_39 : mz_pg 197 39 = some (.iadd, 0, 0, 0) := by decide +kernel
theorem gz_197_40 : mz_pg 197 40 = some (.iaload, 0, 0, 0) := by decide +kernel
theorem gz_197_41 : mz_pg 197 41 = some (.iastore, 0, 0, 0) := by decide +kernel
theorem gz_197_42 : mz_pg 197 42 = some (.aload_n 0, 0, 0, 0) := by decide +kernel
theorem gz_197_43 : mz_pg 197 43 = some (.getfield 140, 10, 40, 1253) := by decide +kernel
theorem gz_197_46 : mz_pg 197 46 = some (.bipush 8, 0, 0, 0) := by decide +kernel
theorem gz_197_48 : mz_pg 197 48 = some (.iload_n 2, 0, 0, 0) := by decide +kernel
theorem gz_197_49 : mz_pg 197 49 = some (.imul, 0, 0, 0) := by decide +kernel
theorem gz_197_50 : mz_pg 197 50 = some (.iload_n 3, 0, 0, 0) := by decide +kernel
theorem gz_197_51 : mz_pg 197 51 = some (.iadd, 0, 0, 0) := by decide +kernel
theorem gz_197_52 : mz_pg 197 52 = some (.aload_n 0, 0, 0, 0) := by decide +kernel
theorem gz_197_53 : mz_pg 197 53 = some (.getfield 140, 10, 40, 1253) := by decide +kernel
theorem gz_197_56 : mz_pg 197 56 = some (.bipush 8, 0, 0, 0) := by decide +kernel
theorem gz_197_58 : mz_pg 197 58 = some (.iload_n 1, 0, 0, 0) := by decide +kernel
theorem gz_197_59 : mz_pg 197 59 = some (.imul, 0, 0, 0) := by decide +kernel
theorem gz_197_60 : mz_pg 197 60 = some (.iload_n 3, 0, 0, 0) := by decide +kernel
theorem gz_197_61 : mz_pg 197 61 = some (.iadd, 0, 0, 0) := by decide +kernel
theorem gz_197_62 : mz_pg 197 62 = some (.iaload, 0, 0, 0) := by decide +kernel
theorem gz_197_63 : mz_pg 197 63 = some (.iastore, 0, 0, 0) := by decide +kernel
theorem gz_197_64 : mz_pg 197 64 = some (.iinc 3 1, 0, 0, 0) := by decide +kernel
theorem gz_197_67 : mz_pg 197 67 = some (.goto (-53), 0, 0, 0) := by decide +kernel
theorem gz_197_70 : mz_pg 197 70 = some (.return_, 0, 0, 0) := by decide +kernel
theorem gz_198_0 : mz_pg 198 0 = some (.iconst 0, 0, 0, 0) := by decide +kernel
theorem gz_198_1 : mz_pg 198 1 = some (.istore_n 2, 0, 0, 0) := by decide +kernel
theorem gz_198_2 : mz_pg 198 2 = some (.iconst 0, 0, 0, 0) := by decide +kernel
theorem gz_198_3 : mz_pg 198 3 = some (.istore_n 3, 0, 0, 0) := by decide +kernel
theorem gz_198_4 : mz_pg 198 4 = some (.iload_n 3, 0, 0, 0) := by decide +kernel
theorem gz_198_5 : mz_pg 198 5 = some (.aload_n 0, 0, 0, 0) := by decide +kernel
theorem gz_198_6 : mz_pg 198 6 = some (.getfield 349, 10, 37, 1250) := by decide +kernel
theorem gz_198_9 : mz_pg 198 9 = some (.if_icmp .ge 104, 0, 0, 0) := by decide +kernel
theorem gz_198_12 : mz_pg 198 12 = some (.aload_n 0, 0, 0, 0) := by decide +kernel
theorem gz_198_13 : mz_pg 198 13 = some (.getfield 137, 10, 39, 1252) := by decide +kernel
theorem gz_198_16 : mz_pg 198 16 = some (.bipush 8, 0, 0, 0) := by decide +kernel
theorem gz_198_18 : mz_pg 198 18 = some (.iload_n 3, 0, 0, 0) := by decide +kernel
theorem gz_198_19 : mz_pg 198 19 = some (.imul, 0, 0, 0) := by decide +kernel
theorem gz_198_20 : mz_pg 198 20 = some (.aload_n 0, 0, 0, 0) := by decide +kernel
theorem gz_198_21 : mz_pg 198 21 = some (.getfield 98, 10, 22, 1235) := by decide +kernel
theorem gz_198_24 : mz_pg 198 24 = some (.iload_n 1, 0, 0, 0) := by decide +kernel
theorem gz_198_25 : mz_pg 198 25 = some (.iaload, 0, 0, 0) := by decide +kernel
theorem gz_198_26 : mz_pg 198 26 = some (.iadd, 0, 0, 0) := by decide +kernel
theorem gz_198_27 : mz_pg 198 27 = some (.iaload, 0, 0, 0) := by decide +kernel
theorem gz_198_28 : mz_pg 198 28 = some (.istore 4, 0, 0, 0) := by decide +kernel
theorem gz_198_30 : mz_pg 198 30 = some (.iconst 0, 0, 0, 0) := by decide +kernel
theorem gz_198_31 : mz_pg 198 31 = some (.istore 5, 0, 0, 0) := by decide +kernel
theorem gz_198_33 : mz_pg 198 33 = some (.iload 5, 0, 0, 0) := by decide +kernel
theorem gz_198_35 : mz_pg 198 35 = some (.iload_n 2, 0, 0, 0) := by decide +kernel
theorem gz_198_36 : mz_pg 198 36 = some (.if_icmp .ge 21, 0, 0, 0) := by decide +kernel
theorem gz_198_39 : mz_pg 198 39 = some (.aload_n 0, 0, 0, 0) := by decide +kernel
theorem gz_198_40 : mz_pg 198 40 = some (.getfield 149, 10, 43, 1256) := by decide +kernel
theorem gz_198_43 : mz_pg 198 43 = some (.iload 5, 0, 0, 0) := by decide +kernel
theorem gz_198_45 : mz_pg 198 45 = some (.iaload, 0, 0, 0) := by decide +kernel
theorem gz_198_46 : mz_pg 198 46 = some (.iload 4, 0, 0, 0) := by decide +kernel
theorem gz_198_48 : mz_pg 198 48 = some (.if_icmp .eq 9, 0, 0, 0) := by decide +kernel
theorem gz_198_51 : mz_pg 198 51 = some (.iinc 5 1, 0, 0, 0) := by decide +kernel
theorem gz_198_54 : mz_pg 198 54 = some (.goto (-21), 0, 0, 0) := by decide +kernel
theorem gz_198_57 : mz_pg 198 57 = some (.iload 5, 0, 0, 0) := by decide +kernel
theorem gz_198_59 : mz_pg 198 59 = some (.iload_n 2, 0, 0, 0) := by decide +kernel
theorem gz_198_60 : mz_pg 198 60 = some (.if_icmp .ne 21, 0, 0, 0) := by decide +kernel
theorem gz_198_63 : mz_pg 198 63 = some (.aload_n 0, 0, 0, 0) := by decide +kernel
theorem gz_198_64 : mz_pg 198 64 = some (.getfield 149, 10, 43, 1256) := by decide +kernel
theorem gz_198_67 : mz_pg 198 67 = some (.iload_n 2, 0, 0, 0) := by decide +kernel
theorem gz_198_68 : mz_pg 198 68 = some (.iload 4, 0, 0, 0) := by decide +kernel
theorem gz_198_70 : mz_pg 198 70 = some (.iastore, 0, 0, 0) := by decide +kernel
theorem gz_198_71 : mz_pg 198 71 = some (.aload_n 0, 0, 0, 0) := by decide +kernel
theorem gz_198_72 : mz_pg 198 72 = some (.getfield 152, 10, 44, 1257) := by decide +kernel
theorem gz_198_75 : mz_pg 198 75 = some (.iload_n 2, 0, 0, 0) := by decide +kernel
theorem gz_198_76 : mz_pg 198 76 = some (.iconst 0, 0, 0, 0) := by decide +kernel
theorem gz_198_77 : mz_pg 198 77 = some (.iastore, 0, 0, 0) := by decide +kernel
theorem gz_198_78 : mz_pg 198 78 = some (.iinc 2 1, 0, 0, 0) := by decide +kernel
theorem gz_198_81 : mz_pg 198 81 = some (.aload_n 0, 0, 0, 0) := by decide +kernel
theorem gz_198_82 : mz_pg 198 82 = some (.getfield 152, 10, 44, 1257) := by decide +kernel
theorem gz_198_85 : mz_pg 198 85 = some (.iload 5, 0, 0, 0) := by decide +kernel
theorem gz_198_87 : mz_pg 198 87 = some (.dup2, 0, 0, 0) := by decide +kernel
theorem gz_198_88 : mz_pg 198 88 = some (.iaload, 0, 0, 0) := by decide +kernel
theorem gz_198_89 : mz_pg 198 89 = some (.aload_n 0, 0, 0, 0) := by decide +kernel
theorem gz_198_90 : mz_pg 198 90 = some (.getfield 137, 10, 39, 1252) := by decide +kernel
theorem gz_198_93 : mz_pg 198 93 = some (.bipush 8, 0, 0, 0) := by decide +kernel
theorem gz_198_95 : mz_pg 198 95 = some (.iload_n 3, 0, 0, 0) := by decide +kernel
theorem gz_198_96 : mz_pg 198 96 = some (.imul, 0, 0, 0) := by decide +kernel
theorem gz_198_97 : mz_pg 198 97 = some (.aload_n 0, 0, 0, 0) := by decide +kernel
theorem gz_198_98 : mz_pg 198 98 = some (.getfield 101, 10, 23, 1236) := by decide +kernel
theorem gz_198_101 : mz_pg 198 101 = some (.iload_n 1, 0, 0, 0) := by decide +kernel
theorem gz_198_102 : mz_pg 198 102 = some (.iaload, 0, 0, 0) := by decide +kernel
theorem gz_198_103 : mz_pg 198 103 = some (.iadd, 0, 0, 0) := by decide +kernel
theorem gz_198_104 : mz_pg 198 104 = some (.iaload, 0, 0, 0) := by decide +kernel
theorem gz_198_105 : mz_pg 198 105 = some (.iadd, 0, 0, 0) := by decide +kernel
theorem gz_198_106 : mz_pg 198 106 = some (.iastore, 0, 0, 0) := by decide +kernel
theorem gz_198_107 : mz_pg 198 107 = some (.iinc 3 1, 0, 0, 0) := by decide +kernel
theorem gz_198_110 : mz_pg 198 110 = some (.goto (-106), 0, 0, 0) := by decide +kernel
theorem gz_198_113 : mz_pg 198 113 = some (.aload_n 0, 0, 0, 0) := by decide +kernel
theorem gz_198_114 : mz_pg 198 114 = some (.iload_n 2, 0, 0, 0) := by decide +kernel
theorem gz_198_115 : mz_pg 198 115 = some (.putfield 349, 10, 37, 1250) := by decide +kernel
theorem gz_198_118 : mz_pg 198 118 = some (.iconst 0, 0, 0, 0) := by decide +kernel
theorem gz_198_119 : mz_pg 198 119 = some (.istore_n 3, 0, 0, 0) := by decide +kernel
theorem gz_198_120 : mz_pg 198 120 = some (.iload_n 3, 0, 0, 0) := by decide +kernel
theorem gz_198_121 : mz_pg 198 121 = some (.iload_n 2, 0, 0, 0) := by decide +kernel
theorem gz_198_122 : mz_pg 198 122 = some (.if_icmp .ge 48, 0, 0, 0) := by decide +kernel
theorem gz_198_125 : mz_pg 198 125 = some (.aload_n 0, 0, 0, 0) := by decide +kernel
theorem gz_198_126 : mz_pg 198 126 = some (.getfield 134, 10, 38, 1251) := by decide +kernel
theorem gz_198_129 : mz_pg 198 129 = some (.iload_n 3, 0, 0, 0) := by decide +kernel
theorem gz_198_130 : mz_pg 198 130 = some (.iload_n 3, 0, 0, 0) := by decide +kernel
theorem gz_198_131 : mz_pg 198 131 = some (.iastore, 0, 0, 0) := by decide +kernel
theorem gz_198_132 : mz_pg 198 132 = some (.aload_n 0, 0, 0, 0) := by decide +kernel
theorem gz_198_133 : mz_pg 198 133 = some (.getfield 137, 10, 39, 1252) := by decide +kernel
theorem gz_198_136 : mz_pg 198 136 = some (.bipush 8, 0, 0, 0) := by decide +kernel
theorem gz_198_138 : mz_pg 198 138 = some (.iload_n 3, 0, 0, 0) := by decide +kernel
theorem gz_198_139 : mz_pg 198 139 = some (.imul, 0, 0, 0) := by decide +kernel
theorem gz_198_140 : mz_pg 198 140 = some (.aload_n 0, 0, 0, 0) := by decide +kernel
theorem gz_198_141 : mz_pg 198 141 = some (.getfield 149, 10, 43, 1256) := by decide +kernel
theorem gz_198_144 : mz_pg 198 144 = some (.iload_n 3, 0, 0, 0) := by decide +kernel
theorem gz_198_145 : mz_pg 198 145 = some (.iaload, 0, 0, 0) := by decide +kernel
theorem gz_198_146 : mz_pg 198 146 = some (.iastore, 0, 0, 0) := by decide +kernel
theorem gz_198_147 : mz_pg 198 147 = some (.aload_n 0, 0, 0, 0) := by decide +kernel
theorem gz_198_148 : mz_pg 198 148 = some (.getfield 137, 10, 39, 1252) := by decide +kernel
theorem gz_198_151 : mz_pg 198 151 = some (.bipush 8, 0, 0, 0) := by decide +kernel
theorem gz_198_153 : mz_pg 198 153 = some (.iload_n 3, 0, 0, 0) := by decide +kernel
theorem gz_198_154 : mz_pg 198 154 = some (.imul, 0, 0, 0) := by decide +kernel
theorem gz_198_155 : mz_pg 198 155 = some (.iconst 1, 0, 0, 0) := by decide +kernel
theorem gz_198_156 : mz_pg 198 156 = some (.iadd, 0, 0, 0) := by decide +kernel
theorem gz_198_157 : mz_pg 198 157 = some (.aload_n 0, 0, 0, 0) := by decide +kernel
theorem gz_198_158 : mz_pg 198 158 = some (.getfield 152, 10, 44, 1257) := by decide +kernel
theorem gz_198_161 : mz_pg 198 161 = some (.iload_n 3, 0, 0, 0) := by decide +kernel
theorem gz_198_162 : mz_pg 198 162 = some (.iaload, 0, 0, 0) := by decide +kernel
theorem gz_198_163 : mz_pg 198 163 = some (.iastore, 0, 0, 0) := by decide +kernel
theorem gz_198_164 : mz_pg 198 164 = some (.iinc 3 1, 0, 0, 0) := by decide +kernel
theorem gz_198_167 : mz_pg 198 167 = some (.goto (-47), 0, 0, 0) := by decide +kernel
theorem gz_198_170 : mz_pg 198 170 = some (.return_, 0, 0, 0) := by decide +kernel
theorem gz_199_0 : mz_pg 199 0 = some (.iconst 0, 0, 0, 0) := by decide +kernel
theorem gz_199_1 : mz_pg 199 1 = some (.istore_n 1, 0, 0, 0) := by decide +kernel
theorem gz_199_2 : mz_pg 199 2 = some (.iload_n 1, 0, 0, 0) := by decide +kernel
theorem gz_199_3 : mz_pg 199 3 = some (.aload_n 0, 0, 0, 0) := by decide +kernel
theorem gz_199_4 : mz_pg 199 4 = some (.getfield 349, 10, 37, 1250) := by decide +kernel
theorem gz_199_7 : mz_pg 199 7 = some (.if_icmp .ge 42, 0, 0, 0) := by decide +kernel
theorem gz_199_10 : mz_pg 199 10 = some (.iload_n 1, 0, 0, 0) := by decide +kernel
theorem gz_199_11 : mz_pg 199 11 = some (.iconst 1, 0, 0, 0) := by decide +kernel
theorem gz_199_12 : mz_pg 199 12 = some (.iadd, 0, 0, 0) := by decide +kernel
theorem gz_199_13 : mz_pg 199 13 = some (.istore_n 2, 0, 0, 0) := by decide +kernel
theorem gz_199_14 : mz_pg 199 14 = some (.iload_n 2, 0, 0, 0) := by decide +kernel
theorem gz_199_15 : mz_pg 199 15 = some (.aload_n 0, 0, 0, 0) := by decide +kernel
theorem gz_199_16 : mz_pg 199 16 = some (.getfield 349, 10, 37, 1250) := by decide +kernel
theorem gz_199_19 : mz_pg 199 19 = some (.if_icmp .ge 24, 0, 0, 0) := by decide +kernel
theorem gz_199_22 : mz_pg 199 22 = some (.aload_n 0, 0, 0, 0) := by decide +kernel
theorem gz_199_23 : mz_pg 199 23 = some (.iload_n 2, 0, 0, 0) := by decide +kernel
theorem gz_199_24 : mz_pg 199 24 = some (.iload_n 1, 0, 0, 0) := by decide +kernel
theorem gz_199_25 : mz_pg 199 25 = some (.invokevirtual 367, 1, 200, 1591) := by decide +kernel
theorem gz_199_28 : mz_pg 199 28 = some (.ifCond .eq 9, 0, 0, 0) := by decide +kernel
theorem gz_199_31 : mz_pg 199 31 = some (.aload_n 0, 0, 0, 0) := by decide +kernel
theorem gz_199_32 : mz_pg 199 32 = some (.iload_n 1, 0, 0, 0) := by decide +kernel
theorem gz_199_33 : mz_pg 199 33 = some (.iload_n 2, 0, 0, 0) := by decide +kernel
theorem gz_199_34 : mz_pg 199 34 = some (.invokevirtual 370, 1, 201, 1594) := by decide +kernel
theorem gz_199_37 : mz_pg 199 37 = some (.iinc 2 1, 0, 0, 0) := by decide +kernel
theorem gz_199_40 : mz_pg 199 40 = some (.goto (-26), 0, 0, 0) := by decide +kernel
theorem gz_199_43 : mz_pg 199 43 = some (.iinc 1 1, 0, 0, 0) := by decide +kernel
theorem gz_199_46 : mz_pg 199 46 = some (.goto (-44), 0, 0, 0) := by decide +kernel
theorem gz_199_49 : mz_pg 199 49 = some (.return_, 0, 0, 0) := by decide +kernel
theorem gz_200_0 : mz_pg 200 0 = some (.iconst 0, 0, 0, 0) := by decide +kernel
theorem gz_200_1 : mz_pg 200 1 = some (.istore_n 3, 0, 0, 0) := by decide +kernel
theorem gz_200_2 : mz_pg 200 2 = some (.iload_n 3, 0, 0, 0) := by decide +kernel
theorem gz_200_3 : mz_pg 200 3 = some (.aload_n 0, 0, 0, 0) := by decide +kernel
theorem gz_200_4 : mz_pg 200 4 = some (.getfield 299, 10, 27, 1240) := by decide +kernel
theorem gz_200_7 : mz_pg 200 7 = some (.if_icmp .ge 65, 0, 0, 0) := by decide +kernel
theorem gz_200_10 : mz_pg 200 10 = some (.aload_n 0, 0, 0, 0) := by decide +kernel
theorem gz_200_11 : mz_pg 200 11 = some (.getfield 137, 10, 39, 1252) := by decide +kernel
theorem gz_200_14 : mz_pg 200 14 = some (.bipush 8, 0, 0, 0) := by decide +kernel
theorem gz_200_16 : mz_pg 200 16 = some (.iload_n 1, 0, 0, 0) := by decide +kernel
theorem gz_200_17 : mz_pg 200 17 = some (.imul, 0, 0, 0) := by decide +kernel
theorem gz_200_18 : mz_pg 200 18 = some (.iload_n 3, 0, 0, 0) := by decide +kernel
theorem gz_200_19 : mz_pg 200 19 = some (.iadd, 0, 0, 0) := by decide +kernel
theorem gz_200_20 : mz_pg 200 20 = some (.iaload, 0, 0, 0) := by decide +kernel
theorem gz_200_21 : mz_pg 200 21 = some (.aload_n 0, 0, 0, 0) := by decide +kernel
theorem gz_200_22 : mz_pg 200 22 = some (.getfield 137, 10, 39, 1252) := by decide +kernel
theorem gz_200_25 : mz_pg 200 25 = some (.bipush 8, 0, 0, 0) := by decide +kernel
theorem gz_200_27 : mz_pg 200 27 = some (.iload_n 2, 0, 0, 0) := by decide +kernel
theorem gz_200_28 : mz_pg 200 28 = some (.imul, 0, 0, 0) := by decide +kernel
theorem gz_200_29 : mz_pg 200 29 = some (.iload_n 3, 0, 0, 0) := by decide +kernel
theorem gz_200_30 : mz_pg 200 30 = some (.iadd, 0, 0, 0) := by decide +kernel
theorem gz_200_31 : mz_pg 200 31 = some (.iaload, 0, 0, 0) := by decide +kernel
theorem gz_200_32 : mz_pg 200 32 = some (.if_icmp .eq 34, 0, 0, 0) := by decide +kernel
theorem gz_200_35 : mz_pg 200 35 = some (.aload_n 0, 0, 0, 0) := by decide +kernel
theorem gz_200_36 : mz_pg 200 36 = some (.getfield 137, 10, 39, 1252) := by decide +kernel
theorem gz_200_39 : mz_pg 200 39 = some (.bipush 8, 0, 0, 0) := by decide +kernel
theorem gz_200_41 : mz_pg 200 41 = some (.iload_n 1, 0, 0, 0) := by decide +kernel
theorem gz_200_42 : mz_pg 200 42 = some (.imul, 0, 0, 0) := by decide +kernel
theorem gz_200_43 : mz_pg 200 43 = some (.iload_n 3, 0, 0, 0) := by decide +kernel
theorem gz_200_44 : mz_pg 200 44 = some (.iadd, 0, 0, 0) := by decide +kernel
theorem gz_200_45 : mz_pg 200 45 = some (.iaload, 0, 0, 0) := by decide +kernel
theorem gz_200_46 : mz_pg 200 46 = some (.aload_n 0, 0, 0, 0) := by decide +kernel
theorem gz_200_47 : mz_pg 200 47 = some (.getfield 137, 10, 39, 1252) := by decide +kernel
theorem gz_200_50 : mz_pg 200 50 = some (.bipush 8, 0, 0, 0) := by decide +kernel
theorem gz_200_52 : mz_pg 200 52 = some (.iload_n 2, 0, 0, 0) := by decide +kernel
theorem gz_200_53 : mz_pg 200 53 = some (.imul, 0, 0, 0) := by decide +kernel
theorem gz_200_54 : mz_pg 200 54 = some (.iload_n 3, 0, 0, 0) := by decide +kernel
theorem gz_200_55 : mz_pg 200 55 = some (.iadd, 0, 0, 0) := by decide +kernel
theorem gz_200_56 : mz_pg 200 56 = some (.iaload, 0, 0, 0) := by decide +kernel
theorem gz_200_57 : mz_pg 200 57 = some (.if_icmp .ge 7, 0, 0, 0) := by decide +kernel
theorem gz_200_60 : mz_pg 200 60 = some (.iconst 1, 0, 0, 0) := by decide +kernel
theorem gz_200_61 : mz_pg 200 61 = some (.goto 4, 0, 0, 0) := by decide +kernel
theorem gz_200_64 : mz_pg 200 64 = some (.iconst 0, 0, 0, 0) := by decide +kernel
theorem gz_200_65 : mz_pg 200 65 = some (.ireturn, 0, 0, 0) := by decide +kernel
theorem gz_200_66 : mz_pg 200 66 = some (.iinc 3 1, 0, 0, 0) := by decide +kernel
theorem gz_200_69 : mz_pg 200 69 = some (.goto (-67), 0, 0, 0) := by decide +kernel
theorem gz_200_72 : mz_pg 200 72 = some (.aload_n 0, 0, 0, 0) := by decide +kernel
theorem gz_200_73 : mz_pg 200 73 = some (.getfield 134, 10, 38, 1251) := by decide +kernel
theorem gz_200_76 : mz_pg 200 76 = some (.iload_n 1, 0, 0, 0) := by decide +kernel
theorem gz_200_77 : mz_pg 200 77 = some (.iaload, 0, 0, 0) := by decide +kernel
theorem gz_200_78 : mz_pg 200 78 = some (.aload_n 0, 0, 0, 0) := by decide +kernel
theorem gz_200_79 : mz_pg 200 79 = some (.getfield 134, 10, 38, 1251) := by decide +kernel
theorem gz_200_82 : mz_pg 200 82 = some (.iload_n 2, 0, 0, 0) := by decide +kernel
theorem gz_200_83 : mz_pg 200 83 = some (.iaload, 0, 0, 0) := by decide +kernel
theorem gz_200_84 : mz_pg 200 84 = some (.if_icmp .ge 7, 0, 0, 0) := by decide +kernel
theorem gz_200_87 : mz_pg 200 87 = some (.iconst 1, 0, 0, 0) := by decide +kernel
theorem gz_200_88 : mz_pg 200 88 = some (.goto 4, 0, 0, 0) := by decide +kernel
theorem gz_200_91 : mz_pg 200 91 = some (.iconst 0, 0, 0, 0) := by decide +kernel
theorem gz_200_92 : mz_pg 200 92 = some (.ireturn, 0, 0, 0) := by decide +kernel
theorem gz_201_0 : mz_pg 201 0 = some (.aload_n 0, 0, 0, 0) := by decide +kernel
theorem gz_201_1 : mz_pg 201 1 = some (.getfield 134, 10, 38, 1251) := by decide +kernel
theorem gz_201_4 : mz_pg 201 4 = some (.iload_n 1, 0, 0, 0) := by decide +kernel
theorem gz_201_5 : mz_pg 201 5 = some (.iaload, 0, 0, 0) := by decide +kernel
theorem gz_201_6 : mz_pg 201 6 = some (.istore_n 3, 0, 0, 0) := by decide +kernel
theorem gz_201_7 : mz_pg 201 7 = some (.aload_n 0, 0, 0, 0) := by decide +kernel
theorem gz_201_8 : mz_pg 201 8 = some (.getfield 134, 10, 38, 1251) := by decide +kernel
theorem gz_201_11 : mz_pg 201 11 = some (.iload_n 1, 0, 0, 0) := by decide +kernel
theorem gz_201_12 : mz_pg 201 12 = some (.aload_n 0, 0, 0, 0) := by decide +kernel
theorem gz_201_13 : mz_pg 201 13 = some (.getfield 134, 10, 38, 1251) := by decide +kernel
theorem gz_201_16 : mz_pg 201 16 = some (.iload_n 2, 0, 0, 0) := by decide +kernel
theorem gz_201_17 : mz_pg 201 17 = some (.iaload, 0, 0, 0) := by decide +kernel
theorem gz_201_18 : mz_pg 201 18 = some (.iastore, 0, 0, 0) := by decide +kernel
theorem gz_201_19 : mz_pg 201 19 = some (.aload_n 0, 0, 0, 0) := by decide +kernel
theorem gz_201_20 : mz_pg 201 20 = some (.getfield 134, 10, 38, 1251) := by decide +kernel
theorem gz_201_23 : mz_pg 201 23 = some (.iload_n 2, 0, 0, 0) := by decide +kernel
theorem gz_201_24 : mz_pg 201 24 = some (.iload_n 3, 0, 0, 0) := by decide +kernel
theorem gz_201_25 : mz_pg 201 25 = some (.iastore, 0, 0, 0) := by decide +kernel
theorem gz_201_26 : mz_pg 201 26 = some (.iconst 0, 0, 0, 0) := by decide +kernel
theorem gz_201_27 : mz_pg 201 27 = some (.istore 4, 0, 0, 0) := by decide +kernel
theorem gz_201_29 : mz_pg 201 29 = some (.iload 4, 0, 0, 0) := by decide +kernel
theorem gz_201_31 : mz_pg 201 31 = some (.bipush 8, 0, 0, 0) := by decide +kernel
theorem gz_201_33 : mz_pg 201 33 = some (.if_icmp .ge 113, 0, 0, 0) := by decide +kernel
theorem gz_201_36 : mz_pg 201 36 = some (.aload_n 0, 0, 0, 0) := by decide +kernel
theorem gz_201_37 : mz_pg 201 37 = some (.getfield 137, 10, 39, 1252) := by decide +kernel
theorem gz_201_40 : mz_pg 201 40 = some (.bipush 8, 0, 0, 0) := by decide +kernel
theorem gz_201_42 : mz_pg 201 42 = some (.iload_n 1, 0, 0, 0) := by decide +kernel
theorem gz_201_43 : mz_pg 201 43 = some (.imul, 0, 0, 0) := by decide +kernel
theorem gz_201_44 : mz_pg 201 44 = some (.iload 4, 0, 0, 0) := by decide +kernel
theorem gz_201_46 : mz_pg 201 46 = some (.iadd, 0, 0, 0) := by decide +kernel
theorem gz_201_47 : mz_pg 201 47 = some (.iaload, 0, 0, 0) := by decide +kernel
theorem gz_201_48 : mz_pg 201 48 = some (.istore 5, 0, 0, 0) := by decide +kernel
theorem gz_201_50 : mz_pg 201 50 = some (.aload_n 0, 0, 0, 0) := by decide +kernel
theorem gz_201_51 : mz_pg 201 51 = some (.getfield 140, 10, 40, 1253) := by decide +kernel
theorem gz_201_54 : mz_pg 201 54 = some (.bipush 8, 0, 0, 0) := by decide +kernel
theorem gz_201_56 : mz_pg 201 56 = some (.iload_n 1, 0, 0, 0) := by decide +kernel
theorem gz_201_57 : mz_pg 201 57 = some (.imul, 0, 0, 0) := by decide +kernel
theorem gz_201_58 : mz_pg 201 58 = some (.iload 4, 0, 0, 0) := by decide +kernel
theorem gz_201_60 : mz_pg 201 60 = some (.iadd, 0, 0, 0) := by decide +kernel
theorem gz_201_61 : mz_pg 201 61 = some (.iaload, 0, 0, 0) := by decide +kernel
theorem gz_201_62 : mz_pg 201 62 = some (.istore 6, 0, 0, 0) := by decide +kernel
theorem gz_201_64 : mz_pg 201 64 = some (.aload_n 0, 0, 0, 0) := by decide +kernel
theorem gz_201_65 : mz_pg 201 65 = some (.getfield 137, 10, 39, 1252) := by decide +kernel
theorem gz_201_68 : mz_pg 201 68 = some (.bipush 8, 0, 0, 0) := by decide +kernel
theorem gz_201_70 : mz_pg 201 70 = some (.iload_n 1, 0, 0, 0) := by decide +kernel
theorem gz_201_71 : mz_pg 201 71 = some (.imul, 0, 0, 0) := by decide +kernel
theorem gz_201_72 : mz_pg 201 72 = some (.iload 4, 0, 0, 0) := by decide +kernel
theorem gz_201_74 : mz_pg 201 74 = some (.iadd, 0, 0, 0) := by decide +kernel
theorem gz_201_75 : mz_pg 201 75 = some (.aload_n 0, 0, 0, 0) := by decide +kernel
theorem gz_201_76 : mz_pg 201 76 = some (.getfield 137, 10, 39, 1252) := by decide +kernel
theorem gz_201_79 : mz_pg 201 79 = some (.bipush 8, 0, 0, 0) := by decide +kernel
theorem gz_201_81 : mz_pg 201 81 = some (.iload_n 2, 0, 0, 0) := by decide +kernel
theorem gz_201_82 : mz_pg 201 82 = some (.imul, 0, 0, 0) := by decide +kernel
theorem gz_201_83 : mz_pg 201 83 = some (.iload 4, 0, 0, 0) := by decide +kernel
theorem gz_201_85 : mz_pg 201 85 = some (.iadd, 0, 0, 0) := by decide +kernel
theorem gz_201_86 : mz_pg 201 86 = some (.iaload, 0, 0, 0) := by decide +kernel
theorem gz_201_87 : mz_pg 201 87 = some (.iastore, 0, 0, 0) := by decide +kernel
theorem gz_201_88 : mz_pg 201 88 = some (.aload_n 0, 0, 0, 0) := by decide +kernel
theorem gz_201_89 : mz_pg 201 89 = some (.getfield 140, 10, 40, 1253) := by decide +kernel
theorem gz_201_92 : mz_pg 201 92 = some (.bipush 8, 0, 0, 0) := by decide +kernel
theorem gz_201_94 : mz_pg 201 94 = some (.iload_n 1, 0, 0, 0) := by decide +kernel
theorem gz_201_95 : mz_pg 201 95 = some (.imul, 0, 0, 0) := by decide +kernel
theorem gz_201_96 : mz_pg 201 96 = some (.iload 4, 0, 0, 0) := by decide +kernel
theorem gz_201_98 : mz_pg 201 98 = some (.iadd, 0, 0, 0) := by decide +kernel
theorem gz_201_99 : mz_pg 201 99 = some (.aload_n 0, 0, 0, 0) := by decide +kernel
theorem gz_201_100 : mz_pg 201 100 = some (.getfield 140, 10, 40, 1253) := by decide +kernel
theorem gz_201_103 : mz_pg 201 103 = some (.bipush 8, 0, 0, 0) := by decide +kernel
theorem gz_201_105 : mz_pg 201 105 = some (.iload_n 2, 0, 0, 0) := by decide +kernel
theorem gz_201_106 : mz_pg 201 106 = some (.imul, 0, 0, 0) := by decide +kernel
theorem gz_201_107 : mz_pg 201 107 = some (.iload 4, 0, 0, 0) := by decide +kernel
theorem gz_201_109 : mz_pg 201 109 = some (.iadd, 0, 0, 0) := by decide +kernel
theorem gz_201_110 : mz_pg 201 110 = some (.iaload, 0, 0, 0) := by decide +kernel
theorem gz_201_111 : mz_pg 201 111 = some (.iastore, 0, 0, 0) := by decide +kernel
theorem gz_201_112 : mz_pg 201 112 = some (.aload_n 0, 0, 0, 0) := by decide +kernel
theorem gz_201_113 : mz_pg 201 113 = some (.getfield 137, 10, 39, 1252) := by decide +kernel
theorem gz_201_116 : mz_pg 201 116 = some (.bipush 8, 0, 0, 0) := by decide +kernel
theorem gz_201_118 : mz_pg 201 118 = some (.iload_n 2, 0, 0, 0) := by decide +kernel
theorem gz_201_119 : mz_pg 201 119 = some (.imul, 0, 0, 0) := by decide +kernel
theorem gz_201_120 : mz_pg 201 120 = some (.iload 4, 0, 0, 0) := by decide +kernel
theorem gz_201_122 : mz_pg 201 122 = some (.iadd, 0, 0, 0) := by decide +kernel
theorem gz_201_123 : mz_pg 201 123 = some (.iload 5, 0, 0, 0) := by decide +kernel
theorem gz_201_125 : mz_pg 201 125 = some (.iastore, 0, 0, 0) := by decide +kernel
theorem gz_201_126 : mz_pg 201 126 = some (.aload_n 0, 0, 0, 0) := by decide +kernel
theorem gz_201_127 : mz_pg 201 127 = some (.getfield 140, 10, 40, 1253) := by decide +kernel
theorem gz_201_130 : mz_pg 201 130 = some (.bipush 8, 0, 0, 0) := by decide +kernel
theorem gz_201_132 : mz_pg 201 132 = some (.iload_n 2, 0, 0, 0) := by decide +kernel
theorem gz_201_133 : mz_pg 201 133 = some (.imul, 0, 0, 0) := by decide +kernel
theorem gz_201_134 : mz_pg 201 134 = some (.iload 4, 0, 0, 0) := by decide +kernel
theorem gz_201_136 : mz_pg 201 136 = some (.iadd, 0, 0, 0) := by decide +kernel
theorem gz_201_137 : mz_pg 201 137 = some (.iload 6, 0, 0, 0) := by decide +kernel
theorem gz_201_139 : mz_pg 201 139 = some (.iastore, 0, 0, 0) := by decide +kernel
theorem gz_201_140 : mz_pg 201 140 = some (.iinc 4 1, 0, 0, 0) := by decide +kernel
theorem gz_201_143 : mz_pg 201 143 = some (.goto (-114), 0, 0, 0) := by decide +kernel
theorem gz_201_146 : mz_pg 201 146 = some (.return_, 0, 0, 0) := by decide +kernel
theorem gz_202_0 : mz_pg 202 0 = some (.aload_n 0, 0, 0, 0) := by decide +kernel
theorem gz_202_1 : mz_pg 202 1 = some (.iconst 0, 0, 0, 0) := by decide +kernel
theorem gz_202_2 : mz_pg 202 2 = some (.putfield 1, 10, 0, 1213) := by decide +kernel
theorem gz_202_5 : mz_pg 202 5 = some (.aload_n 0, 0, 0, 0) := by decide +kernel
theorem gz_202_6 : mz_pg 202 6 = some (.iload_n 1, 0, 0, 0) := by decide +kernel
theorem gz_202_7 : mz_pg 202 7 = some (.invokevirtual 373, 1, 193, 1570) := by decide +kernel
theorem gz_202_10 : mz_pg 202 10 = some (.ifCond .eq 13, 0, 0, 0) := by decide +kernel
theorem gz_202_13 : mz_pg 202 13 = some (.iload 4, 0, 0, 0) := by decide +kernel
theorem gz_202_15 : mz_pg 202 15 = some (.iconst 0, 0, 0, 0) := by decide +kernel
theorem gz_202_16 : mz_pg 202 16 = some (.iconst 2, 0, 0, 0) := by decide +kernel
theorem gz_202_17 : mz_pg 202 17 = some (.invokestatic 250, 1, 147, 1419) := by decide +kernel
theorem gz_202_20 : mz_pg 202 20 = some (.ifCond .ne 5, 0, 0, 0) := by decide +kernel
theorem gz_202_23 : mz_pg 202 23 = some (.iconst (-1), 0, 0, 0) := by decide +kernel
theorem gz_202_24 : mz_pg 202 24 = some (.ireturn, 0, 0, 0) := by decide +kernel
theorem gz_202_25 : mz_pg 202 25 = some (.aload_n 0, 0, 0, 0) := by decide +kernel
theorem gz_202_26 : mz_pg 202 26 = some (.iconst 0, 0, 0, 0) := by decide +kernel
theorem gz_202_27 : mz_pg 202 27 = some (.iload_n 1, 0, 0, 0) := by decide +kernel
theorem gz_202_28 : mz_pg 202 28 = some (.invokevirtual 376, 1, 194, 1573) := by decide +kernel
theorem gz_202_31 : mz_pg 202 31 = some (.iload_n 2, 0, 0, 0) := by decide +kernel
theorem gz_202_32 : mz_pg 202 32 = some (.iconst 0, 0, 0, 0) := by decide +kernel
theorem gz_202_33 : mz_pg 202 33 = some (.aload_n 0, 0, 0, 0) := by decide +kernel
theorem gz_202_34 : mz_pg 202 34 = some (.getfield 349, 10, 37, 1250) := by decide +kernel
theorem gz_202_37 : mz_pg 202 37 = some (.iconst 1, 0, 0, 0) := by decide +kernel
theorem gz_202_38 : mz_pg 202 38 = some (.isub, 0, 0, 0) := by decide +kernel
theorem gz_202_39 : mz_pg 202 39 = some (.invokestatic 250, 1, 147, 1419) := by decide +kernel
theorem gz_202_42 : mz_pg 202 42 = some (.ifCond .eq 17, 0, 0, 0) := by decide +kernel
theorem gz_202_45 : mz_pg 202 45 = some (.iload_n 3, 0, 0, 0) := by decide +kernel
theorem gz_202_46 : mz_pg 202 46 = some (.iconst 0, 0, 0, 0) := by decide +kernel
theorem gz_202_47 : mz_pg 202 47 = some (.aload_n 0, 0, 0, 0) := by decide +kernel
theorem gz_202_48 : mz_pg 202 48 = some (.getfield 299, 10, 27, 1240) := by decide +kernel
theorem gz_202_51 : mz_pg 202 51 = some (.iconst 1, 0, 0, 0) := by decide +kernel
theorem gz_202_52 : mz_pg 202 52 = some (.isub, 0, 0, 0) := by decide +kernel
theorem gz_202_53 : mz_pg 202 53 = some (.invokestatic 250, 1, 147, 1419) := by decide +kernel
theorem gz_202_56 : mz_pg 202 56 = some (.ifCond .ne 5, 0, 0, 0) := by decide +kernel
theorem gz_202_59 : mz_pg 202 59 = some (.iconst (-1), 0, 0, 0) := by decide +kernel
theorem gz_202_60 : mz_pg 202 60 = some (.ireturn, 0, 0, 0) := by decide +kernel
theorem gz_202_61 : mz_pg 202 61 = some (.iload 4, 0, 0, 0) := by decide +kernel
theorem gz_202_63 : mz_pg 202 63 = some (.ifCond .eq 12, 0, 0, 0) := by decide +kernel
theorem gz_202_66 : mz_pg 202 66 = some (.aload_n 0, 0, 0, 0) := by decide +kernel
theorem gz_202_67 : mz_pg 202 67 = some (.getfield 113, 10, 28, 1241) := by decide +kernel
theorem gz_202_70 : mz_pg 202 70 = some (.iload_n 3, 0, 0, 0) := by decide +kernel
theorem gz_202_71 : mz_pg 202 71 = some (.iaload, 0, 0, 0) := by decide +kernel
theorem gz_202_72 : mz_pg 202 72 = some (.ifCond .ge 12, 0, 0, 0) := by decide +kernel
theorem gz_202_75 : mz_pg 202 75 = some (.aload_n 0, 0, 0, 0) := by decide +kernel
theorem gz_202_76 : mz_pg 202 76 = some (.getfield 113, 10, 28, 1241) := by decide +kernel
theorem gz_202_79 : mz_pg 202 79 = some (.iload_n 3, 0, 0, 0) := by decide +kernel
theorem gz_202_80 : mz_pg 202 80 = some (.iaload, 0, 0, 0) := by decide +kernel
theorem gz_202_81 : mz_pg 202 81 = some (.goto 29, 0, 0, 0) := by decide +kernel
theorem gz_202_84 : mz_pg 202 84 = some (.iload 4, 0, 0, 0) := by decide +kernel
theorem gz_202_86 : mz_pg 202 86 = some (.iconst 1, 0, 0, 0) := by decide +kernel
theorem gz_202_87 : mz_pg 202 87 = some (.if_icmp .ne 17, 0, 0, 0) := by decide +kernel
theorem gz_202_90 : mz_pg 202 90 = some (.aload_n 0, 0, 0, 0) := by decide +kernel
theorem gz_202_91 : mz_pg 202 91 = some (.getfield 140, 10, 40, 1253) := by decide +kernel
theorem gz_202_94 : mz_pg 202 94 = some (.bipush 8, 0, 0, 0) := by decide +kernel
theorem gz_202_96 : mz_pg 202 96 = some (.iload_n 2, 0, 0, 0) := by decide +kernel
theorem gz_202_97 : mz_pg 202 97 = some (.imul, 0, 0, 0) := by decide +kernel
theorem gz_202_98 : mz_pg 202 98 = some (.iload_n 3, 0, 0, 0) := by decide +kernel
theorem gz_202_99 : mz_pg 202 99 = some (.iadd, 0, 0, 0) := by decide +kernel
theorem gz_202_100 : mz_pg 202 100 = some (.iaload, 0, 0, 0) := by decide +kernel
theorem gz_202_101 : mz_pg 202 101 = some (.goto 9, 0, 0, 0) := by decide +kernel
theorem gz_202_104 : mz_pg 202 104 = some (.aload_n 0, 0, 0, 0) := by decide +kernel
theorem gz_202_105 : mz_pg 202 105 = some (.getfield 116, 10, 29, 1242) := by decide +kernel
theorem gz_202_108 : mz_pg 202 108 = some (.iload_n 3, 0, 0, 0) := by decide +kernel
theorem gz_202_109 : mz_pg 202 109 = some (.iaload, 0, 0, 0) := by decide +kernel
theorem gz_202_110 : mz_pg 202 110 = some (.ireturn, 0, 0, 0) := by decide +kernel
theorem gz_203_0 : mz_pg 203 0 = some (.aload_n 0, 0, 0, 0) := by decide +kernel
theorem gz_203_1 : mz_pg 203 1 = some (.iconst 0, 0, 0, 0) := by decide +kernel
theorem gz_203_2 : mz_pg 203 2 = some (.putfield 1, 10, 0, 1213) := by decide +kernel
theorem gz_203_5 : mz_pg 203 5 = some (.aload_n 0, 0, 0, 0) := by decide +kernel
theorem gz_203_6 : mz_pg 203 6 = some (.iload_n 1, 0, 0, 0) := by decide +kernel
theorem gz_203_7 : mz_pg 203 7 = some (.invokevirtual 373, 1, 193, 1570) := by decide +kernel
theorem gz_203_10 : mz_pg 203 10 = some (.ifCond .eq 12, 0, 0, 0) := by decide +kernel
theorem gz_203_13 : mz_pg 203 13 = some (.iload_n 2, 0, 0, 0) := by decide +kernel
theorem gz_203_14 : mz_pg 203 14 = some (.iconst 0, 0, 0, 0) := by decide +kernel
theorem gz_203_15 : mz_pg 203 15 = some (.iconst 4, 0, 0, 0) := by decide +kernel
theorem gz_203_16 : mz_pg 203 16 = some (.invokestatic 250, 1, 147, 1419) := by decide +kernel
theorem gz_203_19 : mz_pg 203 19 = some (.ifCond .ne 5, 0, 0, 0) := by decide +kernel
theorem gz_203_22 : mz_pg 203 22 = some (.iconst (-1), 0, 0, 0) := by decide +kernel
theorem gz_203_23 : mz_pg 203 23 = some (.ireturn, 0, 0, 0) := by decide +kernel
theorem gz_203_24 : mz_pg 203 24 = some (.aload_n 0, 0, 0, 0) := by decide +kernel
theorem gz_203_25 : mz_pg 203 25 = some (.iconst 0, 0, 0, 0) := by decide +kernel
theorem gz_203_26 : mz_pg 203 26 = some (.iload_n 1, 0, 0, 0) := by decide +kernel
theorem gz_203_27 : mz_pg 203 27 = some (.invokevirtual 376, 1, 194, 1573) := by decide +kernel
theorem gz_203_30 : mz_pg 203 30 = some (.iload_n 2, 0, 0, 0) := by decide +kernel
theorem gz_203_31 : mz_pg 203 31 = some (.tableswitch 50 0 3 #[29, 34, 39, 45], 0, 0, 0) := by decide +kernel
theorem gz_203_60 : mz_pg 203 60 = some (.aload_n 0, 0, 0, 0) := by decide +kernel
theorem gz_203_61 : mz_pg 203 61 = some (.getfield 349, 10, 37, 1250) := by decide +kernel
theorem gz_203_64 : mz_pg 203 64 = some (.ireturn, 0, 0, 0) := by decide +kernel
theorem gz_203_65 : mz_pg 203 65 = some (.aload_n 0, 0, 0, 0) := by decide +kernel
theorem gz_203_66 : mz_pg 203 66 = some (.getfield 299, 10, 27, 1240) := by decide +kernel
theorem gz_203_69 : mz_pg 203 69 = some (.ireturn, 0, 0, 0) := by decide +kernel
theorem gz_203_70 : mz_pg 203 70 = some (.aload_n 0, 0, 0, 0) := by decide +kernel
theorem gz_203_71 : mz_pg 203 71 = some (.iload_n 1, 0, 0, 0) := by decide +kernel
theorem gz_203_72 : mz_pg 203 72 = some (.invokevirtual 379, 1, 204, 1605) := by decide +kernel
theorem gz_203_75 : mz_pg 203 75 = some (.ireturn, 0, 0, 0) := by decide +kernel
theorem gz_203_76 : mz_pg 203 76 = some (.aload_n 0, 0, 0, 0) := by decide +kernel
theorem gz_203_77 : mz_pg 203 77 = some (.getfield 296, 10, 33, 1246) := by decide +kernel
theorem gz_203_80 : mz_pg 203 80 = some (.ireturn, 0, 0, 0) := by decide +kernel
theorem gz_203_81 : mz_pg 203 81 = some (.aload_n 0, 0, 0, 0) := by decide +kernel
theorem gz_203_82 : mz_pg 203 82 = some (.iload_n 1, 0, 0, 0) := by decide +kernel
theorem gz_203_83 : mz_pg 203 83 = some (.invokevirtual 382, 1, 205, 1608) := by decide +kernel
theorem gz_203_86 : mz_pg 203 86 = some (.ireturn, 0, 0, 0) := by decide +kernel
theorem gz_204_0 : mz_pg 204 0 = some (.aload_n 0, 0, 0, 0) := by decide +kernel
theorem gz_204_1 : mz_pg 204 1 = some (.iload_n 1, 0, 0, 0) := by decide +kernel
theorem gz_204_2 : mz_pg 204 2 = some (.invokevirtual 302, 1, 180, 1529) := by decide +kernel
theorem gz_204_5 : mz_pg 204 5 = some (.iconst 0, 0, 0, 0) := by decide +kernel
theorem gz_204_6 : mz_pg 204 6 = some (.istore_n 2, 0, 0, 0) := by decide +kernel
theorem gz_204_7 : mz_pg 204 7 = some (.iconst 0, 0, 0, 0) := by decide +kernel
theorem gz_204_8 : mz_pg 204 8 = some (.istore_n 3, 0, 0, 0) := by decide +kernel
theorem gz_204_9 : mz_pg 204 9 = some (.iload_n 3, 0, 0, 0) := by decide +kernel
theorem gz_204_10 : mz_pg 204 10 = some (.aload_n 0, 0, 0, 0) := by decide +kernel
theorem gz_204_11 : mz_pg 204 11 = some (.getfield 293, 10, 32, 1245) := by decide +kernel
theorem gz_204_14 : mz_pg 204 14 = some (.if_icmp .ge 23, 0, 0, 0) := by decide +kernel
theorem gz_204_17 : mz_pg 204 17 = some (.iload_n 2, 0, 0, 0) := by decide +kernel
theorem gz_204_18 : mz_pg 204 18 = some (.aload_n 0, 0, 0, 0) := by decide +kernel
theorem gz_204_19 : mz_pg 204 19 = some (.getfield 92, 10, 20, 1233) := by decide +kernel
theorem gz_204_22 : mz_pg 204 22 = some (.aload_n 0, 0, 0, 0) := by decide +kernel
theorem gz_204_23 : mz_pg 204 23 = some (.getfield 122, 10, 31, 1244) := by decide +kernel
theorem gz_204_26 : mz_pg 204 26 = some (.iload_n 3, 0, 0, 0) := by decide +kernel
theorem gz_204_27 : mz_pg 204 27 = some (.iaload, 0, 0, 0) := by decide +kernel
theorem gz_204_28 : mz_pg 204 28 = some (.iaload, 0, 0, 0) := by decide +kernel
theorem gz_204_29 : mz_pg 204 29 = some (.iadd, 0, 0, 0) := by decide +kernel
theorem gz_204_30 : mz_pg 204 30 = some (.istore_n 2, 0, 0, 0) := by decide +kernel
theorem gz_204_31 : mz_pg 204 31 = some (.iinc 3 1, 0, 0, 0) := by decide +kernel
theorem gz_204_34 : mz_pg 204 34 = some (.goto (-25), 0, 0, 0) := by decide +kernel
theorem gz_204_37 : mz_pg 204 37 = some (.iload_n 2, 0, 0, 0) := by decide +kernel
theorem gz_204_38 : mz_pg 204 38 = some (.ireturn, 0, 0, 0) := by decide +kernel
theorem gz_205_0 : mz_pg 205 0 = some (.aload_n 0, 0, 0, 0) := by decide +kernel
theorem gz_205_1 : mz_pg 205 1 = some (.iload_n 1, 0, 0, 0) := by decide +kernel
theorem gz_205_2 : mz_pg 205 2 = some (.invokevirtual 302, 1, 180, 1529) := by decide +kernel
theorem gz_205_5 : mz_pg 205 5 = some (.iconst 1, 0, 0, 0) := by decide +kernel
theorem gz_205_6 : mz_pg 205 6 = some (.aload_n 0, 0, 0, 0) := by decide +kernel
theorem gz_205_7 : mz_pg 205 7 = some (.getfield 296, 10, 33, 1246) := by decide +kernel
theorem gz_205_10 : mz_pg 205 10 = some (.ishl, 0, 0, 0) := by decide +kernel
theorem gz_205_11 : mz_pg 205 11 = some (.istore_n 2, 0, 0, 0) := by decide +kernel
theorem gz_205_12 : mz_pg 205 12 = some (.iconst 0, 0, 0, 0) := by decide +kernel
theorem gz_205_13 : mz_pg 205 13 = some (.istore_n 3, 0, 0, 0) := by decide +kernel
theorem gz_205_14 : mz_pg 205 14 = some (.iload_n 3, 0, 0, 0) := by decide +kernel
theorem gz_205_15 : mz_pg 205 15 = some (.aload_n 0, 0, 0, 0) := by decide +kernel
theorem gz_205_16 : mz_pg 205 16 = some (.getfield 293, 10, 32, 1245) := by decide +kernel
theorem gz_205_19 : mz_pg 205 19 = some (.if_icmp .ge 75, 0, 0, 0) := by decide +kernel
theorem gz_205_22 : mz_pg 205 22 = some (.iconst 0, 0, 0, 0) := by decide +kernel
theorem gz_205_23 : mz_pg 205 23 = some (.istore 4, 0, 0, 0) := by decide +kernel
theorem gz_205_25 : mz_pg 205 25 = some (.iload 4, 0, 0, 0) := by decide +kernel
theorem gz_205_27 : mz_pg 205 27 = some (.aload_n 0, 0, 0, 0) := by decide +kernel
theorem gz_205_28 : mz_pg 205 28 = some (.getfield 92, 10, 20, 1233) := by decide +kernel
theorem gz_205_31 : mz_pg 205 31 = some (.aload_n 0, 0, 0, 0) := by decide +kernel
theorem gz_205_32 : mz_pg 205 32 = some (.getfield 122, 10, 31, 1244) := by decide +kernel
theorem gz_205_35 : mz_pg 205 35 = some (.iload_n 3, 0, 0, 0) := by decide +kernel
theorem gz_205_36 : mz_pg 205 36 = some (.iaload, 0, 0, 0) := by decide +kernel
theorem gz_205_37 : mz_pg 205 37 = some (.iaload, 0, 0, 0) := by decide +kernel
theorem gz_205_38 : mz_pg 205 38 = some (.if_icmp .ge 50, 0, 0, 0) := by decide +kernel
theorem gz_205_41 : mz_pg 205 41 = some (.bipush 6, 0, 0, 0) := by decide +kernel
theorem gz_205_43 : mz_pg 205 43 = some (.aload_n 0, 0, 0, 0) := by decide +kernel
theorem gz_205_44 : mz_pg 205 44 = some (.getfield 122, 10, 31, 1244) := by decide +kernel
theorem gz_205_47 : mz_pg 205 47 = some (.iload_n 3, 0, 0, 0) := by decide +kernel
theorem gz_205_48 : mz_pg 205 48 = some (.iaload, 0, 0, 0) := by decide +kernel
theorem gz_205_49 : mz_pg 205 49 = some (.imul, 0, 0, 0) := by decide +kernel
theorem gz_205_50 : mz_pg 205 50 = some (.iload 4, 0, 0, 0) := by decide +kernel
theorem gz_205_52 : mz_pg 205 52 = some (.iadd, 0, 0, 0) := by decide +kernel
theorem gz_205_53 : mz_pg 205 53 = some (.istore 5, 0, 0, 0) := by decide +kernel
theorem gz_205_55 : mz_pg 205 55 = some (.iload_n 2, 0, 0, 0) := by decide +kernel
theorem gz_205_56 : mz_pg 205 56 = some (.aload_n 0, 0, 0, 0) := by decide +kernel
theorem gz_205_57 : mz_pg 205 57 = some (.getfield 95, 10, 21, 1234) := by decide +kernel
theorem gz_205_60 : mz_pg 205 60 = some (.iload 5, 0, 0, 0) := by decide +kernel
theorem gz_205_62 : mz_pg 205 62 = some (.iaload, 0, 0, 0) := by decide +kernel
theorem gz_205_63 : mz_pg 205 63 = some (.iconst 4, 0, 0, 0) := by decide +kernel
theorem gz_205_64 : mz_pg 205 64 = some (.if_icmp .ne 15, 0, 0, 0) := by decide +kernel
theorem gz_205_67 : mz_pg 205 67 = some (.iconst 1, 0, 0, 0) := by decide +kernel
theorem gz_205_68 : mz_pg 205 68 = some (.aload_n 0, 0, 0, 0) := by decide +kernel
theorem gz_205_69 : mz_pg 205 69 = some (.getfield 101, 10, 23, 1236) := by decide +kernel
theorem gz_205_72 : mz_pg 205 72 = some (.iload 5, 0, 0, 0) := by decide +kernel
theorem gz_205_74 : mz_pg 205 74 = some (.iaload, 0, 0, 0) := by decide +kernel
theorem gz_205_75 : mz_pg 205 75 = some (.ishl, 0, 0, 0) := by decide +kernel
theorem gz_205_76 : mz_pg 205 76 = some (.goto 4, 0, 0, 0) := by decide +kernel
theorem gz_205_79 : mz_pg 205 79 = some (.iconst 0, 0, 0, 0) := by decide +kernel
theorem gz_205_80 : mz_pg 205 80 = some (.ior, 0, 0, 0) := by decide +kernel
theorem gz_205_81 : mz_pg 205 81 = some (.istore_n 2, 0, 0, 0) := by decide +kernel
theorem gz_205_82 : mz_pg 205 82 = some (.iinc 4 1, 0, 0, 0) := by decide +kernel
theorem gz_205_85 : mz_pg 205 85 = some (.goto (-60), 0, 0, 0) := by decide +kernel
theorem gz_205_88 : mz_pg 205 88 = some (.iinc 3 1, 0, 0, 0) := by decide +kernel
theorem gz_205_91 : mz_pg 205 91 = some (.goto (-77), 0, 0, 0) := by decide +kernel
theorem gz_205_94 : mz_pg 205 94 = some (.iload_n 2, 0, 0, 0) := by decide +kernel
theorem gz_205_95 : mz_pg 205 95 = some (.ireturn, 0, 0, 0) := by decide +kernel
theorem gz_206_0 : mz_pg 206 0 = some (.aload_n 0, 0, 0, 0) := by decide +kernel
theorem gz_206_1 : mz_pg 206 1 = some (.iconst 0, 0, 0, 0) := by decide +kernel
theorem gz_206_2 : mz_pg 206 2 = some (.putfield 1, 10, 0, 1213) := by decide +kernel
theorem gz_206_5 : mz_pg 206 5 = some (.iload_n 1, 0, 0, 0) := by decide +kernel
theorem gz_206_6 : mz_pg 206 6 = some (.iconst 0, 0, 0, 0) := by decide +kernel
theorem gz_206_7 : mz_pg 206 7 = some (.bipush 7, 0, 0, 0) := by decide +kernel
theorem gz_206_9 : mz_pg 206 9 = some (.invokestatic 250, 1, 147, 1419) := by decide +kernel
theorem gz_206_12 : mz_pg 206 12 = some (.ifCond .eq 13, 0, 0, 0) := by decide +kernel
theorem gz_206_15 : mz_pg 206 15 = some (.iload_n 2, 0, 0, 0) := by decide +kernel
theorem gz_206_16 : mz_pg 206 16 = some (.iconst 0, 0, 0, 0) := by decide +kernel
theorem gz_206_17 : mz_pg 206 17 = some (.bipush 19, 0, 0, 0) := by decide +kernel
theorem gz_206_19 : mz_pg 206 19 = some (.invokestatic 250, 1, 147, 1419) := by decide +kernel
theorem gz_206_22 : mz_pg 206 22 = some (.ifCond .ne 5, 0, 0, 0) := by decide +kernel
theorem gz_206_25 : mz_pg 206 25 = some (.iconst 0, 0, 0, 0) := by decide +kernel
theorem gz_206_26 : mz_pg 206 26 = some (.ireturn, 0, 0, 0) := by decide +kernel
theorem gz_206_27 : mz_pg 206 27 = some (.aload_n 0, 0, 0, 0) := by decide +kernel
theorem gz_206_28 : mz_pg 206 28 = some (.getfield 155, 10, 45, 1258) := by decide +kernel
theorem gz_206_31 : mz_pg 206 31 = some (.iload_n 1, 0, 0, 0) := by decide +kernel
theorem gz_206_32 : mz_pg 206 32 = some (.iload_n 2, 0, 0, 0) := by decide +kernel
theorem gz_206_33 : mz_pg 206 33 = some (.iastore, 0, 0, 0) := by decide +kernel
theorem gz_206_34 : mz_pg 206 34 = some (.iconst 1, 0, 0, 0) := by decide +kernel
theorem gz_206_35 : mz_pg 206 35 = some (.ireturn, 0, 0, 0) := by decide +kernel
theorem gz_207_0 : mz_pg 207 0 = some (.aload_n 0, 0, 0, 0) := by decide +kernel
theorem gz_207_1 : mz_pg 207 1 = some (.iconst 0, 0, 0, 0) := by decide +kernel
theorem gz_207_2 : mz_pg 207 2 = some (.putfield 1, 10, 0, 1213) := by decide +kernel
theorem gz_207_5 : mz_pg 207 5 = some (.aload_n 0, 0, 0, 0) := by decide +kernel
theorem gz_207_6 : mz_pg 207 6 = some (.iconst 0, 0, 0, 0) := by decide +kernel
theorem gz_207_7 : mz_pg 207 7 = some (.iload_n 1, 0, 0, 0) := by decide +kernel
theorem gz_207_8 : mz_pg 207 8 = some (.iload_n 2, 0, 0, 0) := by decide +kernel
theorem gz_207_9 : mz_pg 207 9 = some (.iload_n 3, 0, 0, 0) := by decide +kernel
theorem gz_207_10 : mz_pg 207 10 = some (.iload 4, 0, 0, 0) := by decide +kernel
theorem gz_207_12 : mz_pg 207 12 = some (.iload 5, 0, 0, 0) := by decide +kernel
theorem gz_207_14 : mz_pg 207 14 = some (.invokevirtual 424, 1, 208, 1619) := by decide +kernel
theorem gz_207_17 : mz_pg 207 17 = some (.ifCond .ne 5, 0, 0, 0) := by decide +kernel
theorem gz_207_20 : mz_pg 207 20 = some (.iconst (-1), 0, 0, 0) := by decide +kernel
theorem gz_207_21 : mz_pg 207 21 = some (.ireturn, 0, 0, 0) := by decide +kernel
theorem gz_207_22 : mz_pg 207 22 = some (.aload_n 0, 0, 0, 0) := by decide +kernel
theorem gz_207_23 : mz_pg 207 23 = some (.iconst 0, 0, 0, 0) := by decide +kernel
theorem gz_207_24 : mz_pg 207 24 = some (.iload_n 1, 0, 0, 0) := by decide +kernel
theorem gz_207_25 : mz_pg 207 25 = some (.iload_n 2, 0, 0, 0) := by decide +kernel
theorem gz_207_26 : mz_pg 207 26 = some (.iload_n 3, 0, 0, 0) := by decide +kernel
theorem gz_207_27 : mz_pg 207 27 = some (.iload 4, 0, 0, 0) := by decide +kernel
theorem gz_207_29 : mz_pg 207 29 = some (.iload 5, 0, 0, 0) := by decide +kernel
theorem gz_207_31 : mz_pg 207 31 = some (.invokevirtual 428, 1, 209, 1622) := by decide +kernel
theorem gz_207_34 : mz_pg 207 34 = some (.aload_n 0, 0, 0, 0) := by decide +kernel
theorem gz_207_35 : mz_pg 207 35 = some (.getfield 394, 10, 48, 1261) := by decide +kernel
theorem gz_207_38 : mz_pg 207 38 = some (.ireturn, 0, 0, 0) := by decide +kernel
theorem gz_208_0 : mz_pg 208 0 = some (.aload_n 0, 0, 0, 0) := by decide +kernel
theorem gz_208_1 : mz_pg 208 1 = some (.iload_n 2, 0, 0, 0) := by decide +kernel
theorem gz_208_2 : mz_pg 208 2 = some (.invokevirtual 373, 1, 193, 1570) := by decide +kernel
theorem gz_208_5 : mz_pg 208 5 = some (.ifCond .eq 12, 0, 0, 0) := by decide +kernel
theorem gz_208_8 : mz_pg 208 8 = some (.iload_n 3, 0, 0, 0) := by decide +kernel
theorem gz_208_9 : mz_pg 208 9 = some (.iconst 0, 0, 0, 0) := by decide +kernel
theorem gz_208_10 : mz_pg 208 10 = some (.iconst 2, 0, 0, 0) := by decide +kernel
theorem gz_208_11 : mz_pg 208 11 = some (.invokestatic 250, 1, 147, 1419) := by decide +kernel
theorem gz_208_14 : mz_pg 208 14 = some (.ifCond .ne 5, 0, 0, 0) := by decide +kernel
theorem gz_208_17 : mz_pg 208 17 = some (.iconst 0, 0, 0, 0) := by decide +kernel
theorem gz_208_18 : mz_pg 208 18 = some (.ireturn, 0, 0, 0) := by decide +kernel
theorem gz_208_19 : mz_pg 208 19 = some (.aload_n 0, 0, 0, 0) := by decide +kernel
theorem gz_208_20 : mz_pg 208 20 = some (.iload_n 1, 0, 0, 0) := by decide +kernel
theorem gz_208_21 : mz_pg 208 21 = some (.iload_n 2, 0, 0, 0) := by decide +kernel
theorem gz_208_22 : mz_pg 208 22 = some (.invokevirtual 376, 1, 194, 1573) := by decide +kernel
theorem gz_208_25 : mz_pg 208 25 = some (.iload_n 3, 0, 0, 0) := by decide +kernel
theorem gz_208_26 : mz_pg 208 26 = some (.iconst 2, 0, 0, 0) := by decide +kernel
theorem gz_208_27 : mz_pg 208 27 = some (.if_icmp .eq 18, 0, 0, 0) := by decide +kernel
theorem gz_208_30 : mz_pg 208 30 = some (.iload 4, 0, 0, 0) := by decide +kernel
theorem gz_208_32 : mz_pg 208 32 = some (.iconst 0, 0, 0, 0) := by decide +kernel
theorem gz_208_33 : mz_pg 208 33 = some (.aload_n 0, 0, 0, 0) := by decide +kernel
theorem gz_208_34 : mz_pg 208 34 = some (.getfield 349, 10, 37, 1250) := by decide +kernel
theorem gz_208_37 : mz_pg 208 37 = some (.iconst 1, 0, 0, 0) := by decide +kernel
theorem gz_208_38 : mz_pg 208 38 = some (.isub, 0, 0, 0) := by decide +kernel
theorem gz_208_39 : mz_pg 208 39 = some (.invokestatic 250, 1, 147, 1419) := by decide +kernel
theorem gz_208_42 : mz_pg 208 42 = some (.ifCond .eq 7, 0, 0, 0) := by decide +kernel
theorem gz_208_45 : mz_pg 208 45 = some (.iconst 1, 0, 0, 0) := by decide +kernel
theorem gz_208_46 : mz_pg 208 46 = some (.goto 4, 0, 0, 0) := by decide +kernel
theorem gz_208_49 : mz_pg 208 49 = some (.iconst 0, 0, 0, 0) := by decide +kernel
theorem gz_208_50 : mz_pg 208 50 = some (.istore 7, 0, 0, 0) := by decide +kernel
theorem gz_208_52 : mz_pg 208 52 = some (.iload 7, 0, 0, 0) := by decide +kernel
theorem gz_208_54 : mz_pg 208 54 = some (.ifCond .eq 38, 0, 0, 0) := by decide +kernel
theorem gz_208_57 : mz_pg 208 57 = some (.iload_n 3, 0, 0, 0) := by decide +kernel
theorem gz_208_58 : mz_pg 208 58 = some (.ifCond .gt 30, 0, 0, 0) := by decide +kernel
theorem gz_208_61 : mz_pg 208 61 = some (.iload 5, 0, 0, 0) := by decide +kernel
theorem gz_208_63 : mz_pg 208 63 = some (.iconst 0, 0, 0, 0) := by decide +kernel
theorem gz_208_64 : mz_pg 208 64 = some (.aload_n 0, 0, 0, 0) := by decide +kernel
theorem gz_208_65 : mz_pg 208 65 = some (.getfield 299, 10, 27, 1240) := by decide +kernel
theorem gz_208_68 : mz_pg 208 68 = some (.iconst 1, 0, 0, 0) := by decide +kernel
theorem gz_208_69 : mz_pg 208 69 = some (.isub, 0, 0, 0) := by decide +kernel
theorem gz_208_70 : mz_pg 208 70 = some (.invokestatic 250, 1, 147, 1419) := by decide +kernel
theorem gz_208_73 : mz_pg 208 73 = some (.ifCond .eq 19, 0, 0, 0) := by decide +kernel
theorem gz_208_76 : mz_pg 208 76 = some (.iload 6, 0, 0, 0) := by decide +kernel
theorem gz_208_78 : mz_pg 208 78 = some (.iconst 0, 0, 0, 0) := by decide +kernel
theorem gz_208_79 : mz_pg 208 79 = some (.sipush 199, 0, 0, 0) := by decide +kernel
theorem gz_208_82 : mz_pg 208 82 = some (.invokestatic 250, 1, 147, 1419) := by decide +kernel
theorem gz_208_85 : mz_pg 208 85 = some (.ifCond .eq 7, 0, 0, 0) := by decide +kernel
theorem gz_208_88 : mz_pg 208 88 = some (.iconst 1, 0, 0, 0) := by decide +kernel
theorem gz_208_89 : mz_pg 208 89 = some (.goto 4, 0, 0, 0) := by decide +kernel
theorem gz_208_92 : mz_pg 208 92 = some (.iconst 0, 0, 0, 0) := by decide +kernel
theorem gz_208_93 : mz_pg 208 93 = some (.ireturn, 0, 0, 0) := by decide +kernel
theorem gz_209_0 : mz_pg 209 0 = some (.aload_n 0, 0, 0, 0) := by decide +kernel
theorem gz_209_1 : mz_pg 209 1 = some (.iload_n 1, 0, 0, 0) := by decide +kernel
theorem gz_209_2 : mz_pg 209 2 = some (.iload_n 2, 0, 0, 0) := by decide +kernel
theorem gz_209_3 : mz_pg 209 3 = some (.invokevirtual 376, 1, 194, 1573) := by decide +kernel
theorem gz_209_6 : mz_pg 209 6 = some (.aload_n 0, 0, 0, 0) := by decide +kernel
theorem gz_209_7 : mz_pg 209 7 = some (.iload_n 3, 0, 0, 0) := by decide +kernel
theorem gz_209_8 : mz_pg 209 8 = some (.iload 4, 0, 0, 0) := by decide +kernel
theorem gz_209_10 : mz_pg 209 10 = some (.iload 5, 0, 0, 0) := by decide +kernel
theorem gz_209_12 : mz_pg 209 12 = some (.iload 6, 0, 0, 0) := by decide +kernel
theorem gz_209_14 : mz_pg 209 14 = some (.invokevirtual 403, 1, 210, 1625) := by decide +kernel
theorem gz_209_17 : mz_pg 209 17 = some (.aload_n 0, 0, 0, 0) := by decide +kernel
theorem gz_209_18 : mz_pg 209 18 = some (.iconst 0, 0, 0, 0) := by decide +kernel
theorem gz_209_19 : mz_pg 209 19 = some (.putfield 394, 10, 48, 1261) := by decide +kernel
theorem gz_209_22 : mz_pg 209 22 = some (.aload_n 0, 0, 0, 0) := by decide +kernel
theorem gz_209_23 : mz_pg 209 23 = some (.iload_n 1, 0, 0, 0) := by decide +kernel
theorem gz_209_24 : mz_pg 209 24 = some (.iload_n 2, 0, 0, 0) := by decide +kernel
theorem gz_209_25 : mz_pg 209 25 = some (.invokevirtual 407, 1, 213, 1634) := by decide +kernel
theorem gz_209_28 : mz_pg 209 28 = some (.ifCond .eq 12, 0, 0, 0) := by decide +kernel
theorem gz_209_31 : mz_pg 209 31 = some (.aload_n 0, 0, 0, 0) := by decide +kernel
theorem gz_209_32 : mz_pg 209 32 = some (.iconst 0, 0, 0, 0) := by decide +kernel
theorem gz_209_33 : mz_pg 209 33 = some (.iconst (-1), 0, 0, 0) := by decide +kernel
theorem gz_209_34 : mz_pg 209 34 = some (.iconst (-1), 0, 0, 0) := by decide +kernel
theorem gz_209_35 : mz_pg 209 35 = some (.iconst (-1), 0, 0, 0) := by decide +kernel
theorem gz_209_36 : mz_pg 209 36 = some (.iconst (-1), 0, 0, 0) := by decide +kernel
theorem gz_209_37 : mz_pg 209 37 = some (.invokevirtual 410, 1, 214, 1637) := by decide +kernel
theorem gz_209_40 : mz_pg 209 40 = some (.aload_n 0, 0, 0, 0) := by decide +kernel
theorem gz_209_41 : mz_pg 209 41 = some (.iload_n 2, 0, 0, 0) := by decide +kernel
theorem gz_209_42 : mz_pg 209 42 = some (.invokevirtual 382, 1, 205, 1608) := by decide +kernel
theorem gz_209_45 : mz_pg 209 45 = some (.istore 7, 0, 0, 0) := by decide +kernel
theorem gz_209_47 : mz_pg 209 47 = some (.aload_n 0, 0, 0, 0) := by decide +kernel
theorem gz_209_48 : mz_pg 209 48 = some (.iload_n 1, 0, 0, 0) := by decide +kernel
theorem gz_209_49 : mz_pg 209 49 = some (.bipush 8, 0, 0, 0) := by decide +kernel
theorem gz_209_51 : mz_pg 209 51 = some (.invokevirtual 263, 1, 152, 1435) := by decide +kernel
theorem gz_209_54 : mz_pg 209 54 = some (.iconst 0, 0, 0, 0) := by decide +kernel
theorem gz_209_55 : mz_pg 209 55 = some (.istore 8, 0, 0, 0) := by decide +kernel
theorem gz_209_57 : mz_pg 209 57 = some (.iload 8, 0, 0, 0) := by decide +kernel
theorem gz_209_59 : mz_pg 209 59 = some (.bipush 60, 0, 0, 0) := by decide +kernel
theorem gz_209_61 : mz_pg 209 61 = some (.if_icmp .ge 72, 0, 0, 0) := by decide +kernel
theorem gz_209_64 : mz_pg 209 64 = some (.iload 8, 0, 0, 0) := by decide +kernel
theorem gz_209_66 : mz_pg 209 66 = some (.bipush 20, 0, 0, 0) := by decide +kernel
theorem gz_209_68 : mz_pg 209 68 = some (.idiv, 0, 0, 0) := by decide +kernel
theorem gz_209_69 : mz_pg 209 69 = some (.istore 9, 0, 0, 0) := by decide +kernel
theorem gz_209_71 : mz_pg 209 71 = some (.iconst 1, 0, 0, 0) := by decide +kernel
theorem gz_209_72 : mz_pg 209 72 = some (.istore 10, 0, 0, 0) := by decide +kernel
theorem gz_209_74 : mz_pg 209 74 = some (.iload 10, 0, 0, 0) := by decide +kernel
theorem gz_209_76 : mz_pg 209 76 = some (.aload_n 0, 0, 0, 0) := by decide +kernel
theorem gz_209_77 : mz_pg 209 77 = some (.getfield 61, 10, 10, 1223) := by decide +kernel
theorem gz_209_80 : mz_pg 209 80 = some (.iload 9, 0, 0, 0) := by decide +kernel
theorem gz_209_82 : mz_pg 209 82 = some (.iaload, 0, 0, 0) := by decide +kernel
theorem gz_209_83 : mz_pg 209 83 = some (.if_icmp .ge 44, 0, 0, 0) := by decide +kernel
theorem gz_209_86 : mz_pg 209 86 = some (.iload 7, 0, 0, 0) := by decide +kernel
theorem gz_209_88 : mz_pg 209 88 = some (.iload 9, 0, 0, 0) := by decide +kernel
theorem gz_209_90 : mz_pg 209 90 = some (.ishr, 0, 0, 0) := by decide +kernel
theorem gz_209_91 : mz_pg 209 91 = some (.iconst 1, 0, 0, 0) := by decide +kernel
theorem gz_209_92 : mz_pg 209 92 = some (.iand, 0, 0, 0) := by decide +kernel
theorem gz_209_93 : mz_pg 209 93 = some (.iconst 1, 0, 0, 0) := by decide +kernel
theorem gz_209_94 : mz_pg 209 94 = some (.if_icmp .ne 33, 0, 0, 0) := by decide +kernel
theorem gz_209_97 : mz_pg 209 97 = some (.aload_n 0, 0, 0, 0) := by decide +kernel
theorem gz_209_98 : mz_pg 209 98 = some (.getfield 77, 10, 15, 1228) := by decide +kernel
theorem gz_209_101 : mz_pg 209 101 = some (.bipush 60, 0, 0, 0) := by decide +kernel
theorem gz_209_103 : mz_pg 209 103 = some (.iload_n 1, 0, 0, 0) := by decide +kernel
theorem gz_209_104 : mz_pg 209 104 = some (.imul, 0, 0, 0) := by decide +kernel
theorem gz_209_105 : mz_pg 209 105 = some (.iload 8, 0, 0, 0) := by decide +kernel
theorem gz_209_107 : mz_pg 209 107 = some (.iadd, 0, 0, 0) := by decide +kernel
theorem gz_209_108 : mz_pg 209 108 = some (.baload, 0, 0, 0) := by decide +kernel
theorem gz_209_109 : mz_pg 209 109 = some (.ifCond .eq 18, 0, 0, 0) := by decide +kernel
theorem gz_209_112 : mz_pg 209 112 = some (.aload_n 0, 0, 0, 0) := by decide +kernel
theorem gz_209_113 : mz_pg 209 113 = some (.iload_n 2, 0, 0, 0) := by decide +kernel
theorem gz_209_114 : mz_pg 209 114 = some (.iload 8, 0, 0, 0) := by decide +kernel
theorem gz_209_116 : mz_pg 209 116 = some (.iload 10, 0, 0, 0) := by decide +kernel
theorem gz_209_118 : mz_pg 209 118 = some (.invokevirtual 414, 1, 215, 1640) := by decide +kernel
theorem gz_209_121 : mz_pg 209 121 = some (.iinc 10 1, 0, 0, 0) := by decide +kernel
theorem gz_209_124 : mz_pg 209 124 = some (.goto (-50), 0, 0, 0) := by decide +kernel
theorem gz_209_127 : mz_pg 209 127 = some (.iinc 8 1, 0, 0, 0) := by decide +kernel
theorem gz_209_130 : mz_pg 209 130 = some (.goto (-73), 0, 0, 0) := by decide +kernel
theorem gz_209_133 : mz_pg 209 133 = some (.iconst 0, 0, 0, 0) := by decide +kernel
theorem gz_209_134 : mz_pg 209 134 = some (.istore 8, 0, 0, 0) := by decide +kernel
theorem gz_209_136 : mz_pg 209 136 = some (.iload 8, 0, 0, 0) := by decide +kernel
theorem gz_209_138 : mz_pg 209 138 = some (.bipush 60, 0, 0, 0) := by decide +kernel
theorem gz_209_140 : mz_pg 209 140 = some (.if_icmp .ge 98, 0, 0, 0) := by decide +kernel
theorem gz_209_143 : mz_pg 209 143 = some (.iload 7, 0, 0, 0) := by decide +kernel
theorem gz_209_145 : mz_pg 209 145 = some (.iload 8, 0, 0, 0) := by decide +kernel
theorem gz_209_147 : mz_pg 209 147 = some (.bipush 20, 0, 0, 0) := by decide +kernel
theorem gz_209_149 : mz_pg 209 149 = some (.idiv, 0, 0, 0) := by decide +kernel
theorem gz_209_150 : mz_pg 209 150 = some (.ishr, 0, 0, 0) := by decide +kernel
theorem gz_209_151 : mz_pg 209 151 = some (.iconst 1, 0, 0, 0) := by decide +kernel
theorem gz_209_152 : mz_pg 209 152 = some (.iand, 0, 0, 0) := by decide +kernel
theorem gz_209_153 : mz_pg 209 153 = some (.iconst 1, 0, 0, 0) := by decide +kernel
theorem gz_209_154 : mz_pg 209 154 = some (.if_icmp .ne 78, 0, 0, 0) := by decide +kernel
theorem gz_209_157 : mz_pg 209 157 = some (.aload_n 0, 0, 0, 0) := by decide +kernel
theorem gz_209_158 : mz_pg 209 158 = some (.getfield 77, 10, 15, 1228) := by decide +kernel
theorem gz_209_161 : mz_pg 209 161 = some (.bipush 60, 0, 0, 0) := by decide +kernel
theorem gz_209_163 : mz_pg 209 163 = some (.iload_n 1, 0, 0, 0) := by decide +kernel
theorem gz_209_164 : mz_pg 209 164 = some (.imul, 0, 0, 0) := by decide +kernel
theorem gz_209_165 : mz_pg 209 165 = some (.iload 8, 0, 0, 0) := by decide +kernel
theorem gz_209_167 : mz_pg 209 167 = some (.iadd, 0, 0, 0) := by decide +kernel
theorem gz_209_168 : mz_pg 209 168 = some (.baload, 0, 0, 0) := by decide +kernel
end MGZ3
