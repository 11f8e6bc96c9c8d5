/-! what stands where (printed by wip/gen/gy.py) -/
section MGZ0
theorem is_0 : my_is 9 0 := by unfold my_is; decide +kernel
theorem is_1 : my_is 3 1 := by unfold my_is; decide +kernel
theorem is_2 : my_is 25 2 := by unfold my_is; decide +kernel
theorem is_3 : my_is 26 3 := by unfold my_is; decide +kernel
theorem is_4 : my_is 27 4 := by unfold my_is; decide +kernel
theorem is_5 : my_is 28 5 := by unfold my_is; decide +kernel
theorem is_6 : my_is 29 6 := by unfold my_is; decide +kernel
theorem is_7 : my_is 6 7 := by unfold my_is; decide +kernel
theorem is_8 : my_is 30 8 := by unfold my_is; decide +kernel
theorem is_9 : my_is 31 9 := by unfold my_is; decide +kernel
theorem is_10 : my_is 6 10 := by unfold my_is; decide +kernel
theorem is_11 : my_is 30 11 := by unfold my_is; decide +kernel
theorem is_12 : my_is 31 12 := by unfold my_is; decide +kernel
theorem is_13 : my_is 20 13 := by unfold my_is; decide +kernel
theorem is_14 : my_is 6 14 := by unfold my_is; decide +kernel
theorem is_15 : my_is 30 15 := by unfold my_is; decide +kernel
theorem is_16 : my_is 31 16 := by unfold my_is; decide +kernel
theorem is_17 : my_is 6 17 := by unfold my_is; decide +kernel
theorem is_18 : my_is 30 18 := by unfold my_is; decide +kernel
theorem is_19 : my_is 31 19 := by unfold my_is; decide +kernel
theorem is_20 : my_is 6 20 := by unfold my_is; decide +kernel
theorem is_21 : my_is 30 21 := by unfold my_is; decide +kernel
theorem is_22 : my_is 31 22 := by unfold my_is; decide +kernel
theorem is_23 : my_is 6 23 := by unfold my_is; decide +kernel
theorem is_24 : my_is 30 24 := by unfold my_is; decide +kernel
theorem is_25 : my_is 31 25 := by unfold my_is; decide +kernel
theorem is_26 : my_is 21 26 := by unfold my_is; decide +kernel
theorem is_27 : my_is 22 27 := by unfold my_is; decide +kernel
theorem is_28 : my_is 4 28 := by unfold my_is; decide +kernel
theorem is_29 : my_is 32 29 := by unfold my_is; decide +kernel
theorem is_30 : my_is 33 30 := by unfold my_is; decide +kernel
theorem is_31 : my_is 34 31 := by unfold my_is; decide +kernel
theorem is_32 : my_is 35 32 := by unfold my_is; decide +kernel
theorem is_33 : my_is 36 33 := by unfold my_is; decide +kernel
theorem is_34 : my_is 37 34 := by unfold my_is; decide +kernel
theorem is_35 : my_is 38 35 := by unfold my_is; decide +kernel
theorem is_36 : my_is 39 36 := by unfold my_is; decide +kernel
theorem is_37 : my_is 4 37 := by unfold my_is; decide +kernel
theorem is_38 : my_is 32 38 := by unfold my_is; decide +kernel
theorem is_39 : my_is 33 39 := by unfold my_is; decide +kernel
theorem is_40 : my_is 34 40 := by unfold my_is; decide +kernel
theorem is_41 : my_is 35 41 := by unfold my_is; decide +kernel
theorem is_42 : my_is 36 42 := by unfold my_is; decide +kernel
theorem is_43 : my_is 37 43 := by unfold my_is; decide +kernel
theorem is_44 : my_is 38 44 := by unfold my_is; decide +kernel
theorem is_45 : my_is 39 45 := by unfold my_is; decide +kernel
theorem is_46 : my_is 4 46 := by unfold my_is; decide +kernel
theorem is_47 : my_is 32 47 := by unfold my_is; decide +kernel
theorem is_48 : my_is 33 48 := by unfold my_is; decide +kernel
theorem is_49 : my_is 34 49 := by unfold my_is; decide +kernel
theorem is_50 : my_is 35 50 := by unfold my_is; decide +kernel
theorem is_51 : my_is 36 51 := by unfold my_is; decide +kernel
theorem is_52 : my_is 37 52 := by unfold my_is; decide +kernel
theorem is_53 : my_is 38 53 := by unfold my_is; decide +kernel
theorem is_54 : my_is 39 54 := by unfold my_is; decide +kernel
theorem is_55 : my_is 4 55 := by unfold my_is; decide +kernel
theorem is_56 : my_is 32 56 := by unfold my_is; decide +kernel
theorem is_57 : my_is 33 57 := by unfold my_is; decide +kernel
theorem is_58 : my_is 34 58 := by unfold my_is; decide +kernel
theorem is_59 : my_is 35 59 := by unfold my_is; decide +kernel
theorem is_60 : my_is 36 60 := by unfold my_is; decide +kernel
theorem is_61 : my_is 37 61 := by unfold my_is; decide +kernel
theorem is_62 : my_is 38 62 := by unfold my_is; decide +kernel
theorem is_63 : my_is 39 63 := by unfold my_is; decide +kernel
theorem is_64 : my_is 4 64 := by unfold my_is; decide +kernel
theorem is_65 : my_is 32 65 := by unfold my_is; decide +kernel
theorem is_66 : my_is 33 66 := by unfold my_is; decide +kernel
theorem is_67 : my_is 34 67 := by unfold my_is; decide +kernel
theorem is_68 : my_is 35 68 := by unfold my_is; decide +kernel
theorem is_69 : my_is 36 69 := by unfold my_is; decide +kernel
theorem is_70 : my_is 37 70 := by unfold my_is; decide +kernel
theorem is_71 : my_is 38 71 := by unfold my_is; decide +kernel
theorem is_72 : my_is 39 72 := by unfold my_is; decide +kernel
theorem is_73 : my_is 4 73 := by unfold my_is; decide +kernel
theorem is_74 : my_is 32 74 := by unfold my_is; decide +kernel
theorem is_75 : my_is 33 75 := by unfold my_is; decide +kernel
theorem is_76 : my_is 34 76 := by unfold my_is; decide +kernel
theorem is_77 : my_is 35 77 := by unfold my_is; decide +kernel
theorem is_78 : my_is 36 78 := by unfold my_is; decide +kernel
theorem is_79 : my_is 37 79 := by unfold my_is; decide +kernel
theorem is_80 : my_is 38 80 := by unfold my_is; decide +kernel
theorem is_81 : my_is 39 81 := by unfold my_is; decide +kernel
theorem is_82 : my_is 5 82 := by unfold my_is; decide +kernel
theorem is_83 : my_is 4 83 := by unfold my_is; decide +kernel
theorem is_84 : my_is 32 84 := by unfold my_is; decide +kernel
theorem is_85 : my_is 33 85 := by unfold my_is; decide +kernel
theorem is_86 : my_is 34 86 := by unfold my_is; decide +kernel
theorem is_87 : my_is 35 87 := by unfold my_is; decide +kernel
theorem is_88 : my_is 36 88 := by unfold my_is; decide +kernel
theorem is_89 : my_is 37 89 := by unfold my_is; decide +kernel
theorem is_90 : my_is 38 90 := by unfold my_is; decide +kernel
theorem is_91 : my_is 39 91 := by unfold my_is; decide +kernel
theorem is_92 : my_is 40 92 := by unfold my_is; decide +kernel
theorem is_93 : my_is 23 93 := by unfold my_is; decide +kernel
theorem is_94 : my_is 2 94 := by unfold my_is; decide +kernel
theorem is_95 : my_is 6 95 := by unfold my_is; decide +kernel
theorem is_96 : my_is 30 96 := by unfold my_is; decide +kernel
theorem is_97 : my_is 31 97 := by unfold my_is; decide +kernel
theorem is_98 : my_is 8 98 := by unfold my_is; decide +kernel
theorem is_99 : my_is 42 99 := by unfold my_is; decide +kernel
theorem is_100 : my_is 43 100 := by unfold my_is; decide +kernel
theorem is_101 : my_is 44 101 := by unfold my_is; decide +kernel
theorem is_102 : my_is 8 102 := by unfold my_is; decide +kernel
theorem is_103 : my_is 42 103 := by unfold my_is; decide +kernel
theorem is_104 : my_is 43 104 := by unfold my_is; decide +kernel
theorem is_105 : my_is 44 105 := by unfold my_is; decide +kernel
theorem is_106 : my_is 8 106 := by unfold my_is; decide +kernel
theorem is_107 : my_is 42 107 := by unfold my_is; decide +kernel
theorem is_108 : my_is 43 108 := by unfold my_is; decide +kernel
theorem is_109 : my_is 44 109 := by unfold my_is; decide +kernel
theorem is_110 : my_is 41 110 := by unfold my_is; decide +kernel
theorem is_111 : my_is 7 111 := by unfold my_is; decide +kernel
theorem is_112 : my_is 7 112 := by unfold my_is; decide +kernel
theorem is_113 : my_is 7 113 := by unfold my_is; decide +kernel
theorem is_114 : my_is 1 114 := by unfold my_is; decide +kernel
theorem is_115 : my_is 8 115 := by unfold my_is; decide +kernel
theorem is_116 : my_is 42 116 := by unfold my_is; decide +kernel
theorem is_117 : my_is 43 117 := by unfold my_is; decide +kernel
theorem is_118 : my_is 44 118 := by unfold my_is; decide +kernel
theorem is_119 : my_is 45 119 := by unfold my_is; decide +kernel
theorem is_120 : my_is 0 120 := by unfold my_is; decide +kernel
theorem is_121 : my_is 46 121 := by unfold my_is; decide +kernel
theorem is_122 : my_is 47 122 := by unfold my_is; decide +kernel
theorem is_123 : my_is 48 123 := by unfold my_is; decide +kernel
theorem is_124 : my_is 49 124 := by unfold my_is; decide +kernel
theorem is_125 : my_is 50 125 := by unfold my_is; decide +kernel
theorem is_126 : my_is 6 126 := by unfold my_is; decide +kernel
theorem is_127 : my_is 30 127 := by unfold my_is; decide +kernel
theorem is_128 : my_is 31 128 := by unfold my_is; decide +kernel
theorem is_129 : my_is 6 129 := by unfold my_is; decide +kernel
theorem is_130 : my_is 30 130 := by unfold my_is; decide +kernel
theorem is_131 : my_is 31 131 := by unfold my_is; decide +kernel
theorem is_132 : my_is 6 132 := by unfold my_is; decide +kernel
theorem is_133 : my_is 30 133 := by unfold my_is; decide +kernel
theorem is_134 : my_is 31 134 := by unfold my_is; decide +kernel
theorem is_135 : my_is 6 135 := by unfold my_is; decide +kernel
theorem is_136 : my_is 30 136 := by unfold my_is; decide +kernel
theorem is_137 : my_is 31 137 := by unfold my_is; decide +kernel
theorem is_138 : my_is 6 138 := by unfold my_is; decide +kernel
theorem is_139 : my_is 30 139 := by unfold my_is; decide +kernel
theorem is_140 : my_is 31 140 := by unfold my_is; decide +kernel
theorem is_141 : my_is 6 141 := by unfold my_is; decide +kernel
theorem is_142 : my_is 30 142 := by unfold my_is; decide +kernel
theorem is_143 : my_is 31 143 := by unfold my_is; decide +kernel
theorem is_144 : my_is 24 144 := by unfold my_is; decide +kernel
theorem is_145 : my_is 6 145 := by unfold my_is; decide +kernel
theorem is_146 : my_is 30 146 := by unfold my_is; decide +kernel
theorem is_147 : my_is 31 147 := by unfold my_is; decide +kernel
theorem is_148 : my_is 6 148 := by unfold my_is; decide +kernel
theorem is_149 : my_is 30 149 := by unfold my_is; decide +kernel
theorem is_150 : my_is 31 150 := by unfold my_is; decide +kernel
theorem is_151 : my_is 10 151 := by unfold my_is; decide +kernel
theorem is_152 : my_is 51 152 := by unfold my_is; decide +kernel
theorem is_153 : my_is 52 153 := by unfold my_is; decide +kernel
theorem is_154 : my_is 53 154 := by unfold my_is; decide +kernel
theorem is_155 : my_is 54 155 := by unfold my_is; decide +kernel
theorem is_156 : my_is 55 156 := by unfold my_is; decide +kernel
theorem is_157 : my_is 56 157 := by unfold my_is; decide +kernel
theorem is_158 : my_is 57 158 := by unfold my_is; decide +kernel
theorem is_159 : my_is 58 159 := by unfold my_is; decide +kernel
theorem is_160 : my_is 59 160 := by unfold my_is; decide +kernel
theorem is_161 : my_is 60 161 := by unfold my_is; decide +kernel
theorem is_162 : my_is 61 162 := by unfold my_is; decide +kernel
theorem is_163 : my_is 62 163 := by unfold my_is; decide +kernel
theorem is_164 : my_is 63 164 := by unfold my_is; decide +kernel
theorem is_165 : my_is 64 165 := by unfold my_is; decide +kernel
theorem is_166 : my_is 65 166 := by unfold my_is; decide +kernel
theorem is_167 : my_is 66 167 := by unfold my_is; decide +kernel
theorem is_168 : my_is 67 168 := by unfold my_is; decide +kernel
theorem is_169 : my_is 68 169 := by unfold my_is; decide +kernel
theorem is_170 : my_is 69 170 := by unfold my_is; decide +kernel
theorem is_171 : my_is 70 171 := by unfold my_is; decide +kernel
theorem is_172 : my_is 71 172 := by unfold my_is; decide +kernel
theorem is_173 : my_is 72 173 := by unfold my_is; decide +kernel
theorem is_174 : my_is 73 174 := by unfold my_is; decide +kernel
theorem is_175 : my_is 74 175 := by unfold my_is; decide +kernel
theorem is_176 : my_is 75 176 := by unfold my_is; decide +kernel
theorem is_177 : my_is 76 177 := by unfold my_is; decide +kernel
theorem is_178 : my_is 77 178 := by unfold my_is; decide +kernel
theorem is_179 : my_is 78 179 := by unfold my_is; decide +kernel
theorem is_180 : my_is 79 180 := by unfold my_is; decide +kernel
theorem is_181 : my_is 80 181 := by unfold my_is; decide +kernel
theorem is_182 : my_is 81 182 := by unfold my_is; decide +kernel
theorem is_183 : my_is 82 183 := by unfold my_is; decide +kernel
theorem is_184 : my_is 83 184 := by unfold my_is; decide +kernel
theorem is_185 : my_is 84 185 := by unfold my_is; decide +kernel
theorem is_186 : my_is 85 186 := by unfold my_is; decide +kernel
theorem is_187 : my_is 86 187 := by unfold my_is; decide +kernel
theorem is_188 : my_is 87 188 := by unfold my_is; decide +kernel
theorem is_189 : my_is 88 189 := by unfold my_is; decide +kernel
theorem is_190 : my_is 89 190 := by unfold my_is; decide +kernel
theorem is_191 : my_is 90 191 := by unfold my_is; decide +kernel
theorem is_192 : my_is 91 192 := by unfold my_is; decide +kernel
theorem is_193 : my_is 92 193 := by unfold my_is; decide +kernel
theorem is_194 : my_is 93 194 := by unfold my_is; decide +kernel
theorem is_195 : my_is 94 195 := by unfold my_is; decide +kernel
theorem is_196 : my_is 95 196 := by unfold my_is; decide +kernel
theorem is_197 : my_is 96 197 := by unfold my_is; decide +kernel
theorem is_198 : my_is 97 198 := by unfold my_is; decide +kernel
theorem is_199 : my_is 98 199 := by unfold my_is; decide +kernel
theorem is_200 : my_is 99 200 := by unfold my_is; decide +kernel
theorem is_201 : my_is 100 201 := by unfold my_is; decide +kernel
theorem is_202 : my_is 101 202 := by unfold my_is; decide +kernel
theorem is_203 : my_is 102 203 := by unfold my_is; decide +kernel
theorem ix_4_1 {x : Int} (hx : my_is 4 x) : my_is 32 (x + 1) := my_isOff (δ := 1) hx (by decide +kernel)
theorem ix_4_2 {x : Int} (hx : my_is 4 x) : my_is 33 (x + 2) := my_isOff (δ := 2) hx (by decide +kernel)
theorem ix_4_3 {x : Int} (hx : my_is 4 x) : my_is 34 (x + 3) := my_isOff (δ := 3) hx (by decide +kernel)
theorem ix_4_4 {x : Int} (hx : my_is 4 x) : my_is 35 (x + 4) := my_isOff (δ := 4) hx (by decide +kernel)
theorem ix_4_5 {x : Int} (hx : my_is 4 x) : my_is 36 (x + 5) := my_isOff (δ := 5) hx (by decide +kernel)
theorem ix_4_6 {x : Int} (hx : my_is 4 x) : my_is 37 (x + 6) := my_isOff (δ := 6) hx (by decide +kernel)
theorem ix_4_7 {x : Int} (hx : my_is 4 x) : my_is 38 (x + 7) := my_isOff (δ := 7) hx (by decide +kernel)
theorem ix_4_8 {x : Int} (hx : my_is 4 x) : my_is 39 (x + 8) := my_isOff (δ := 8) hx (by decide +kernel)
theorem ix_6_1 {x : Int} (hx : my_is 6 x) : my_is 30 (x + 1) := my_isOff (δ := 1) hx (by decide +kernel)
theorem ix_6_2 {x : Int} (hx : my_is 6 x) : my_is 31 (x + 2) := my_isOff (δ := 2) hx (by decide +kernel)
theorem ix_8_1 {x : Int} (hx : my_is 8 x) : my_is 42 (x + 1) := my_isOff (δ := 1) hx (by decide +kernel)
theorem ix_8_2 {x : Int} (hx : my_is 8 x) : my_is 43 (x + 2) := my_isOff (δ := 2) hx (by decide +kernel)
theorem ix_8_3 {x : Int} (hx : my_is 8 x) : my_is 44 (x + 3) := my_isOff (δ := 3) hx (by decide +kernel)
theorem gz_0_0 : mz_pg 0 0 = some (.new 8, 9, 0, 130) := by decide +kernel
theorem gz_0_3 : mz_pg 0 3 = some (.dup, 0, 0, 0) := by decide +kernel
theorem gz_0_4 : mz_pg 0 4 = some (.invokespecial 15, 1, 1, 132) := by decide +kernel
theorem gz_0_7 : mz_pg 0 7 = some (.astore_n 1, 0, 0, 0) := by decide +kernel
theorem gz_0_8 : mz_pg 0 8 = some (.new 16, 10, 0, 1196) := by decide +kernel
theorem gz_0_11 : mz_pg 0 11 = some (.dup, 0, 0, 0) := by decide +kernel
theorem gz_0_12 : mz_pg 0 12 = some (.invokespecial 18, 1, 145, 1197) := by decide +kernel
theorem gz_0_15 : mz_pg 0 15 = some (.astore_n 2, 0, 0, 0) := by decide +kernel
theorem gz_0_16 : mz_pg 0 16 = some (.iconst 1, 0, 0, 0) := by decide +kernel
theorem gz_0_17 : mz_pg 0 17 = some (.newarray .long, 2, 0, 348) := by decide +kernel
theorem gz_0_19 : mz_pg 0 19 = some (.astore_n 3, 0, 0, 0) := by decide +kernel
theorem gz_0_20 : mz_pg 0 20 = some (.iconst 0, 0, 0, 0) := by decide +kernel
theorem gz_0_21 : mz_pg 0 21 = some (.istore 4, 0, 0, 0) := by decide +kernel
theorem gz_0_23 : mz_pg 0 23 = some (.iload 4, 0, 0, 0) := by decide +kernel
theorem gz_0_25 : mz_pg 0 25 = some (.aload_n 0, 0, 0, 0) := by decide +kernel
theorem gz_0_26 : mz_pg 0 26 = some (.arraylength, 0, 0, 0) := by decide +kernel
theorem gz_0_27 : mz_pg 0 27 = some (.bipush 8, 0, 0, 0) := by decide +kernel
theorem gz_0_29 : mz_pg 0 29 = some (.isub, 0, 0, 0) := by decide +kernel
theorem gz_0_30 : mz_pg 0 30 = some (.if_icmp .gt 1854, 0, 0, 0) := by decide +kernel
theorem gz_0_33 : mz_pg 0 33 = some (.aload_n 0, 0, 0, 0) := by decide +kernel
theorem gz_0_34 : mz_pg 0 34 = some (.iload 4, 0, 0, 0) := by decide +kernel
theorem gz_0_36 : mz_pg 0 36 = some (.iaload, 0, 0, 0) := by decide +kernel
theorem gz_0_37 : mz_pg 0 37 = some (.bipush 31, 0, 0, 0) := by decide +kernel
theorem gz_0_39 : mz_pg 0 39 = some (.iand, 0, 0, 0) := by decide +kernel
theorem gz_0_40 : mz_pg 0 40 = some (.tableswitch 1838 0 28 #[132, 169, 242, 279, 340, 389, 454, 601, 626, 678, 727, 788, 825, 862, 935, 1036, 1109, 1196, 1269, 1342, 1403, 1490, 1527, 1588, 1613, 1650, 1699, 1760, 1813], 0, 0, 0) := by decide +kernel
theorem gz_0_172 : mz_pg 0 172 = some (.aload_n 1, 0, 0, 0) := by decide +kernel
theorem gz_0_173 : mz_pg 0 173 = some (.aload_n 0, 0, 0, 0) := by decide +kernel
theorem gz_0_174 : mz_pg 0 174 = some (.iload 4, 0, 0, 0) := by decide +kernel
theorem gz_0_176 : mz_pg 0 176 = some (.iconst 1, 0, 0, 0) := by decide +kernel
theorem gz_0_177 : mz_pg 0 177 = some (.iadd, 0, 0, 0) := by decide +kernel
theorem gz_0_178 : mz_pg 0 178 = some (.iaload, 0, 0, 0) := by decide +kernel
theorem gz_0_179 : mz_pg 0 179 = some (.aload_n 0, 0, 0, 0) := by decide +kernel
theorem gz_0_180 : mz_pg 0 180 = some (.iload 4, 0, 0, 0) := by decide +kernel
theorem gz_0_182 : mz_pg 0 182 = some (.iconst 2, 0, 0, 0) := by decide +kernel
theorem gz_0_183 : mz_pg 0 183 = some (.iadd, 0, 0, 0) := by decide +kernel
theorem gz_0_184 : mz_pg 0 184 = some (.iaload, 0, 0, 0) := by decide +kernel
theorem gz_0_185 : mz_pg 0 185 = some (.invokevirtual 19, 1, 12, 574) := by decide +kernel
theorem gz_0_188 : mz_pg 0 188 = some (.pop, 0, 0, 0) := by decide +kernel
theorem gz_0_189 : mz_pg 0 189 = some (.aload_n 2, 0, 0, 0) := by decide +kernel
theorem gz_0_190 : mz_pg 0 190 = some (.aload_n 0, 0, 0, 0) := by decide +kernel
theorem gz_0_191 : mz_pg 0 191 = some (.iload 4, 0, 0, 0) := by decide +kernel
theorem gz_0_193 : mz_pg 0 193 = some (.iconst 1, 0, 0, 0) := by decide +kernel
theorem gz_0_194 : mz_pg 0 194 = some (.iadd, 0, 0, 0) := by decide +kernel
theorem gz_0_195 : mz_pg 0 195 = some (.iaload, 0, 0, 0) := by decide +kernel
theorem gz_0_196 : mz_pg 0 196 = some (.aload_n 0, 0, 0, 0) := by decide +kernel
theorem gz_0_197 : mz_pg 0 197 = some (.iload 4, 0, 0, 0) := by decide +kernel
theorem gz_0_199 : mz_pg 0 199 = some (.iconst 2, 0, 0, 0) := by decide +kernel
theorem gz_0_200 : mz_pg 0 200 = some (.iadd, 0, 0, 0) := by decide +kernel
theorem gz_0_201 : mz_pg 0 201 = some (.iaload, 0, 0, 0) := by decide +kernel
theorem gz_0_202 : mz_pg 0 202 = some (.invokevirtual 23, 1, 146, 1415) := by decide +kernel
theorem gz_0_205 : mz_pg 0 205 = some (.pop, 0, 0, 0) := by decide +kernel
theorem gz_0_206 : mz_pg 0 206 = some (.goto 1672, 0, 0, 0) := by decide +kernel
theorem gz_0_209 : mz_pg 0 209 = some (.aload_n 1, 0, 0, 0) := by decide +kernel
theorem gz_0_210 : mz_pg 0 210 = some (.aload_n 0, 0, 0, 0) := by decide +kernel
theorem gz_0_211 : mz_pg 0 211 = some (.iload 4, 0, 0, 0) := by decide +kernel
theorem gz_0_213 : mz_pg 0 213 = some (.iconst 1, 0, 0, 0) := by decide +kernel
theorem gz_0_214 : mz_pg 0 214 = some (.iadd, 0, 0, 0) := by decide +kernel
theorem gz_0_215 : mz_pg 0 215 = some (.iaload, 0, 0, 0) := by decide +kernel
theorem gz_0_216 : mz_pg 0 216 = some (.aload_n 0, 0, 0, 0) := by decide +kernel
theorem gz_0_217 : mz_pg 0 217 = some (.iload 4, 0, 0, 0) := by decide +kernel
theorem gz_0_219 : mz_pg 0 219 = some (.iconst 2, 0, 0, 0) := by decide +kernel
theorem gz_0_220 : mz_pg 0 220 = some (.iadd, 0, 0, 0) := by decide +kernel
theorem gz_0_221 : mz_pg 0 221 = some (.iaload, 0, 0, 0) := by decide +kernel
theorem gz_0_222 : mz_pg 0 222 = some (.aload_n 0, 0, 0, 0) := by decide +kernel
theorem gz_0_223 : mz_pg 0 223 = some (.iload 4, 0, 0, 0) := by decide +kernel
theorem gz_0_225 : mz_pg 0 225 = some (.iconst 3, 0, 0, 0) := by decide +kernel
theorem gz_0_226 : mz_pg 0 226 = some (.iadd, 0, 0, 0) := by decide +kernel
theorem gz_0_227 : mz_pg 0 227 = some (.iaload, 0, 0, 0) := by decide +kernel
theorem gz_0_228 : mz_pg 0 228 = some (.aload_n 0, 0, 0, 0) := by decide +kernel
theorem gz_0_229 : mz_pg 0 229 = some (.iload 4, 0, 0, 0) := by decide +kernel
theorem gz_0_231 : mz_pg 0 231 = some (.iconst 4, 0, 0, 0) := by decide +kernel
theorem gz_0_232 : mz_pg 0 232 = some (.iadd, 0, 0, 0) := by decide +kernel
theorem gz_0_233 : mz_pg 0 233 = some (.iaload, 0, 0, 0) := by decide +kernel
theorem gz_0_234 : mz_pg 0 234 = some (.aload_n 0, 0, 0, 0) := by decide +kernel
theorem gz_0_235 : mz_pg 0 235 = some (.iload 4, 0, 0, 0) := by decide +kernel
theorem gz_0_237 : mz_pg 0 237 = some (.iconst 5, 0, 0, 0) := by decide +kernel
theorem gz_0_238 : mz_pg 0 238 = some (.iadd, 0, 0, 0) := by decide +kernel
theorem gz_0_239 : mz_pg 0 239 = some (.iaload, 0, 0, 0) := by decide +kernel
theorem gz_0_240 : mz_pg 0 240 = some (.invokevirtual 24, 1, 14, 582) := by decide +kernel
theorem gz_0_243 : mz_pg 0 243 = some (.aload_n 2, 0, 0, 0) := by decide +kernel
theorem gz_0_244 : mz_pg 0 244 = some (.aload_n 0, 0, 0, 0) := by decide +kernel
theorem gz_0_245 : mz_pg 0 245 = some (.iload 4, 0, 0, 0) := by decide +kernel
theorem gz_0_247 : mz_pg 0 247 = some (.iconst 1, 0, 0, 0) := by decide +kernel
theorem gz_0_248 : mz_pg 0 248 = some (.iadd, 0, 0, 0) := by decide +kernel
theorem gz_0_249 : mz_pg 0 249 = some (.iaload, 0, 0, 0) := by decide +kernel
theorem gz_0_250 : mz_pg 0 250 = some (.aload_n 0, 0, 0, 0) := by decide +kernel
theorem gz_0_251 : mz_pg 0 251 = some (.iload 4, 0, 0, 0) := by decide +kernel
theorem gz_0_253 : mz_pg 0 253 = some (.iconst 2, 0, 0, 0) := by decide +kernel
theorem gz_0_254 : mz_pg 0 254 = some (.iadd, 0, 0, 0) := by decide +kernel
theorem gz_0_255 : mz_pg 0 255 = some (.iaload, 0, 0, 0) := by decide +kernel
theorem gz_0_256 : mz_pg 0 256 = some (.aload_n 0, 0, 0, 0) := by decide +kernel
theorem gz_0_257 : mz_pg 0 257 = some (.iload 4, 0, 0, 0) := by decide +kernel
theorem gz_0_259 : mz_pg 0 259 = some (.iconst 3, 0, 0, 0) := by decide +kernel
theorem gz_0_260 : mz_pg 0 260 = some (.iadd, 0, 0, 0) := by decide +kernel
theorem gz_0_261 : mz_pg 0 261 = some (.iaload, 0, 0, 0) := by decide +kernel
theorem gz_0_262 : mz_pg 0 262 = some (.aload_n 0, 0, 0, 0) := by decide +kernel
theorem gz_0_263 : mz_pg 0 263 = some (.iload 4, 0, 0, 0) := by decide +kernel
theorem gz_0_265 : mz_pg 0 265 = some (.iconst 4, 0, 0, 0) := by decide +kernel
theorem gz_0_266 : mz_pg 0 266 = some (.iadd, 0, 0, 0) := by decide +kernel
theorem gz_0_267 : mz_pg 0 267 = some (.iaload, 0, 0, 0) := by decide +kernel
theorem gz_0_268 : mz_pg 0 268 = some (.aload_n 0, 0, 0, 0) := by decide +kernel
theorem gz_0_269 : mz_pg 0 269 = some (.iload 4, 0, 0, 0) := by decide +kernel
theorem gz_0_271 : mz_pg 0 271 = some (.iconst 5, 0, 0, 0) := by decide +kernel
theorem gz_0_272 : mz_pg 0 272 = some (.iadd, 0, 0, 0) := by decide +kernel
theorem gz_0_273 : mz_pg 0 273 = some (.iaload, 0, 0, 0) := by decide +kernel
theorem gz_0_274 : mz_pg 0 274 = some (.invokevirtual 28, 1, 148, 1422) := by decide +kernel
theorem gz_0_277 : mz_pg 0 277 = some (.if_icmp .eq 1601, 0, 0, 0) := by decide +kernel
theorem gz_0_280 : mz_pg 0 280 = some (.iconst 0, 0, 0, 0) := by decide +kernel
theorem gz_0_281 : mz_pg 0 281 = some (.ireturn, 0, 0, 0) := by decide +kernel
theorem gz_0_282 : mz_pg 0 282 = some (.aload_n 1, 0, 0, 0) := by decide +kernel
theorem gz_0_283 : mz_pg 0 283 = some (.aload_n 0, 0, 0, 0) := by decide +kernel
theorem gz_0_284 : mz_pg 0 284 = some (.iload 4, 0, 0, 0) := by decide +kernel
theorem gz_0_286 : mz_pg 0 286 = some (.iconst 1, 0, 0, 0) := by decide +kernel
theorem gz_0_287 : mz_pg 0 287 = some (.iadd, 0, 0, 0) := by decide +kernel
theorem gz_0_288 : mz_pg 0 288 = some (.iaload, 0, 0, 0) := by decide +kernel
theorem gz_0_289 : mz_pg 0 289 = some (.aload_n 0, 0, 0, 0) := by decide +kernel
theorem gz_0_290 : mz_pg 0 290 = some (.iload 4, 0, 0, 0) := by decide +kernel
theorem gz_0_292 : mz_pg 0 292 = some (.iconst 2, 0, 0, 0) := by decide +kernel
theorem gz_0_293 : mz_pg 0 293 = some (.iadd, 0, 0, 0) := by decide +kernel
theorem gz_0_294 : mz_pg 0 294 = some (.iaload, 0, 0, 0) := by decide +kernel
theorem gz_0_295 : mz_pg 0 295 = some (.invokevirtual 29, 1, 24, 622) := by decide +kernel
theorem gz_0_298 : mz_pg 0 298 = some (.pop, 0, 0, 0) := by decide +kernel
theorem gz_0_299 : mz_pg 0 299 = some (.aload_n 2, 0, 0, 0) := by decide +kernel
theorem gz_0_300 : mz_pg 0 300 = some (.aload_n 0, 0, 0, 0) := by decide +kernel
theorem gz_0_301 : mz_pg 0 301 = some (.iload 4, 0, 0, 0) := by decide +kernel
theorem gz_0_303 : mz_pg 0 303 = some (.iconst 1, 0, 0, 0) := by decide +kernel
theorem gz_0_304 : mz_pg 0 304 = some (.iadd, 0, 0, 0) := by decide +kernel
theorem gz_0_305 : mz_pg 0 305 = some (.iaload, 0, 0, 0) := by decide +kernel
theorem gz_0_306 : mz_pg 0 306 = some (.aload_n 0, 0, 0, 0) := by decide +kernel
theorem gz_0_307 : mz_pg 0 307 = some (.iload 4, 0, 0, 0) := by decide +kernel
theorem gz_0_309 : mz_pg 0 309 = some (.iconst 2, 0, 0, 0) := by decide +kernel
theorem gz_0_310 : mz_pg 0 310 = some (.iadd, 0, 0, 0) := by decide +kernel
theorem gz_0_311 : mz_pg 0 311 = some (.iaload, 0, 0, 0) := by decide +kernel
theorem gz_0_312 : mz_pg 0 312 = some (.invokevirtual 32, 1, 158, 1453) := by decide +kernel
theorem gz_0_315 : mz_pg 0 315 = some (.pop, 0, 0, 0) := by decide +kernel
theorem gz_0_316 : mz_pg 0 316 = some (.goto 1562, 0, 0, 0) := by decide +kernel
theorem gz_0_319 : mz_pg 0 319 = some (.aload_n 1, 0, 0, 0) := by decide +kernel
theorem gz_0_320 : mz_pg 0 320 = some (.aload_n 0, 0, 0, 0) := by decide +kernel
theorem gz_0_321 : mz_pg 0 321 = some (.iload 4, 0, 0, 0) := by decide +kernel
theorem gz_0_323 : mz_pg 0 323 = some (.iconst 1, 0, 0, 0) := by decide +kernel
theorem gz_0_324 : mz_pg 0 324 = some (.iadd, 0, 0, 0) := by decide +kernel
theorem gz_0_325 : mz_pg 0 325 = some (.iaload, 0, 0, 0) := by decide +kernel
theorem gz_0_326 : mz_pg 0 326 = some (.aload_n 0, 0, 0, 0) := by decide +kernel
theorem gz_0_327 : mz_pg 0 327 = some (.iload 4, 0, 0, 0) := by decide +kernel
theorem gz_0_329 : mz_pg 0 329 = some (.iconst 2, 0, 0, 0) := by decide +kernel
theorem gz_0_330 : mz_pg 0 330 = some (.iadd, 0, 0, 0) := by decide +kernel
theorem gz_0_331 : mz_pg 0 331 = some (.iaload, 0, 0, 0) := by decide +kernel
theorem gz_0_332 : mz_pg 0 332 = some (.aload_n 0, 0, 0, 0) := by decide +kernel
theorem gz_0_333 : mz_pg 0 333 = some (.iload 4, 0, 0, 0) := by decide +kernel
theorem gz_0_335 : mz_pg 0 335 = some (.iconst 3, 0, 0, 0) := by decide +kernel
theorem gz_0_336 : mz_pg 0 336 = some (.iadd, 0, 0, 0) := by decide +kernel
theorem gz_0_337 : mz_pg 0 337 = some (.iaload, 0, 0, 0) := by decide +kernel
theorem gz_0_338 : mz_pg 0 338 = some (.aload_n 0, 0, 0, 0) := by decide +kernel
theorem gz_0_339 : mz_pg 0 339 = some (.iload 4, 0, 0, 0) := by decide +kernel
theorem gz_0_341 : mz_pg 0 341 = some (.iconst 4, 0, 0, 0) := by decide +kernel
theorem gz_0_342 : mz_pg 0 342 = some (.iadd, 0, 0, 0) := by decide +kernel
theorem gz_0_343 : mz_pg 0 343 = some (.iaload, 0, 0, 0) := by decide +kernel
theorem gz_0_344 : mz_pg 0 344 = some (.invokevirtual 33, 1, 26, 630) := by decide +kernel
theorem gz_0_347 : mz_pg 0 347 = some (.pop, 0, 0, 0) := by decide +kernel
theorem gz_0_348 : mz_pg 0 348 = some (.aload_n 2, 0, 0, 0) := by decide +kernel
theorem gz_0_349 : mz_pg 0 349 = some (.aload_n 0, 0, 0, 0) := by decide +kernel
theorem gz_0_350 : mz_pg 0 350 = some (.iload 4, 0, 0, 0) := by decide +kernel
theorem gz_0_352 : mz_pg 0 352 = some (.iconst 1, 0, 0, 0) := by decide +kernel
theorem gz_0_353 : mz_pg 0 353 = some (.iadd, 0, 0, 0) := by decide +kernel
theorem gz_0_354 : mz_pg 0 354 = some (.iaload, 0, 0, 0) := by decide +kernel
theorem gz_0_355 : mz_pg 0 355 = some (.aload_n 0, 0, 0, 0) := by decide +kernel
theorem gz_0_356 : mz_pg 0 356 = some (.iload 4, 0, 0, 0) := by decide +kernel
theorem gz_0_358 : mz_pg 0 358 = some (.iconst 2, 0, 0, 0) := by decide +kernel
theorem gz_0_359 : mz_pg 0 359 = some (.iadd, 0, 0, 0) := by decide +kernel
theorem gz_0_360 : mz_pg 0 360 = some (.iaload, 0, 0, 0) := by decide +kernel
theorem gz_0_361 : mz_pg 0 361 = some (.aload_n 0, 0, 0, 0) := by decide +kernel
theorem gz_0_362 : mz_pg 0 362 = some (.iload 4, 0, 0, 0) := by decide +kernel
theorem gz_0_364 : mz_pg 0 364 = some (.iconst 3, 0, 0, 0) := by decide +kernel
theorem gz_0_365 : mz_pg 0 365 = some (.iadd, 0, 0, 0) := by decide +kernel
theorem gz_0_366 : mz_pg 0 366 = some (.iaload, 0, 0, 0) := by decide +kernel
theorem gz_0_367 : mz_pg 0 367 = some (.aload_n 0, 0, 0, 0) := by decide +kernel
theorem gz_0_368 : mz_pg 0 368 = some (.iload 4, 0, 0, 0) := by decide +kernel
theorem gz_0_370 : mz_pg 0 370 = some (.iconst 4, 0, 0, 0) := by decide +kernel
theorem gz_0_371 : mz_pg 0 371 = some (.iadd, 0, 0, 0) := by decide +kernel
theorem gz_0_372 : mz_pg 0 372 = some (.iaload, 0, 0, 0) := by decide +kernel
theorem gz_0_373 : mz_pg 0 373 = some (.invokevirtual 37, 1, 160, 1460) := by decide +kernel
theorem gz_0_376 : mz_pg 0 376 = some (.pop, 0, 0, 0) := by decide +kernel
theorem gz_0_377 : mz_pg 0 377 = some (.goto 1501, 0, 0, 0) := by decide +kernel
theorem gz_0_380 : mz_pg 0 380 = some (.aload_n 1, 0, 0, 0) := by decide +kernel
theorem gz_0_381 : mz_pg 0 381 = some (.aload_n 0, 0, 0, 0) := by decide +kernel
theorem gz_0_382 : mz_pg 0 382 = some (.iload 4, 0, 0, 0) := by decide +kernel
theorem gz_0_384 : mz_pg 0 384 = some (.iconst 1, 0, 0, 0) := by decide +kernel
theorem gz_0_385 : mz_pg 0 385 = some (.iadd, 0, 0, 0) := by decide +kernel
theorem gz_0_386 : mz_pg 0 386 = some (.iaload, 0, 0, 0) := by decide +kernel
theorem gz_0_387 : mz_pg 0 387 = some (.aload_n 0, 0, 0, 0) := by decide +kernel
theorem gz_0_388 : mz_pg 0 388 = some (.iload 4, 0, 0, 0) := by decide +kernel
theorem gz_0_390 : mz_pg 0 390 = some (.iconst 2, 0, 0, 0) := by decide +kernel
theorem gz_0_391 : mz_pg 0 391 = some (.iadd, 0, 0, 0) := by decide +kernel
theorem gz_0_392 : mz_pg 0 392 = some (.iaload, 0, 0, 0) := by decide +kernel
theorem gz_0_393 : mz_pg 0 393 = some (.aload_n 0, 0, 0, 0) := by decide +kernel
theorem gz_0_394 : mz_pg 0 394 = some (.iload 4, 0, 0, 0) := by decide +kernel
theorem gz_0_396 : mz_pg 0 396 = some (.iconst 3, 0, 0, 0) := by decide +kernel
theorem gz_0_397 : mz_pg 0 397 = some (.iadd, 0, 0, 0) := by decide +kernel
theorem gz_0_398 : mz_pg 0 398 = some (.iaload, 0, 0, 0) := by decide +kernel
theorem gz_0_399 : mz_pg 0 399 = some (.invokevirtual 38, 1, 30, 646) := by decide +kernel
theorem gz_0_402 : mz_pg 0 402 = some (.pop, 0, 0, 0) := by decide +kernel
theorem gz_0_403 : mz_pg 0 403 = some (.aload_n 2, 0, 0, 0) := by decide +kernel
theorem gz_0_404 : mz_pg 0 404 = some (.aload_n 0, 0, 0, 0) := by decide +kernel
theorem gz_0_405 : mz_pg 0 405 = some (.iload 4, 0, 0, 0) := by decide +kernel
theorem gz_0_407 : mz_pg 0 407 = some (.iconst 1, 0, 0, 0) := by decide +kernel
theorem gz_0_408 : mz_pg 0 408 = some (.iadd, 0, 0, 0) := by decide +kernel
theorem gz_0_409 : mz_pg 0 409 = some (.iaload, 0, 0, 0) := by decide +kernel
theorem gz_0_410 : mz_pg 0 410 = some (.aload_n 0, 0, 0, 0) := by decide +kernel
theorem gz_0_411 : mz_pg 0 411 = some (.iload 4, 0, 0, 0) := by decide +kernel
theorem gz_0_413 : mz_pg 0 413 = some (.iconst 2, 0, 0, 0) := by decide +kernel
theorem gz_0_414 : mz_pg 0 414 = some (.iadd, 0, 0, 0) := by decide +kernel
theorem gz_0_415 : mz_pg 0 415 = some (.iaload, 0, 0, 0) := by decide +kernel
theorem gz_0_416 : mz_pg 0 416 = some (.aload_n 0, 0, 0, 0) := by decide +kernel
theorem gz_0_417 : mz_pg 0 417 = some (.iload 4, 0, 0, 0) := by decide +kernel
theorem gz_0_419 : mz_pg 0 419 = some (.iconst 3, 0, 0, 0) := by decide +kernel
theorem gz_0_420 : mz_pg 0 420 = some (.iadd, 0, 0, 0) := by decide +kernel
theorem gz_0_421 : mz_pg 0 421 = some (.iaload, 0, 0, 0) := by decide +kernel
theorem gz_0_422 : mz_pg 0 422 = some (.invokevirtual 42, 1, 165, 1477) := by decide +kernel
theorem gz_0_425 : mz_pg 0 425 = some (.pop, 0, 0, 0) := by decide +kernel
theorem gz_0_426 : mz_pg 0 426 = some (.goto 1452, 0, 0, 0) := by decide +kernel
theorem gz_0_429 : mz_pg 0 429 = some (.aload_n 1, 0, 0, 0) := by decide +kernel
theorem gz_0_430 : mz_pg 0 430 = some (.aload_n 0, 0, 0, 0) := by decide +kernel
theorem gz_0_431 : mz_pg 0 431 = some (.iload 4, 0, 0, 0) := by decide +kernel
theorem gz_0_433 : mz_pg 0 433 = some (.iconst 1, 0, 0, 0) := by decide +kernel
theorem gz_0_434 : mz_pg 0 434 = some (.iadd, 0, 0, 0) := by decide +kernel
theorem gz_0_435 : mz_pg 0 435 = some (.iaload, 0, 0, 0) := by decide +kernel
theorem gz_0_436 : mz_pg 0 436 = some (.aload_n 0, 0, 0, 0) := by decide +kernel
theorem gz_0_437 : mz_pg 0 437 = some (.iload 4, 0, 0, 0) := by decide +kernel
theorem gz_0_439 : mz_pg 0 439 = some (.iconst 2, 0, 0, 0) := by decide +kernel
theorem gz_0_440 : mz_pg 0 440 = some (.iadd, 0, 0, 0) := by decide +kernel
theorem gz_0_441 : mz_pg 0 441 = some (.iaload, 0, 0, 0) := by decide +kernel
theorem gz_0_442 : mz_pg 0 442 = some (.aload_n 0, 0, 0, 0) := by decide +kernel
theorem gz_0_443 : mz_pg 0 443 = some (.iload 4, 0, 0, 0) := by decide +kernel
theorem gz_0_445 : mz_pg 0 445 = some (.iconst 3, 0, 0, 0) := by decide +kernel
theorem gz_0_446 : mz_pg 0 446 = some (.iadd, 0, 0, 0) := by decide +kernel
theorem gz_0_447 : mz_pg 0 447 = some (.iaload, 0, 0, 0) := by decide +kernel
theorem gz_0_448 : mz_pg 0 448 = some (.ifCond .eq 7, 0, 0, 0) := by decide +kernel
theorem gz_0_451 : mz_pg 0 451 = some (.iconst 1, 0, 0, 0) := by decide +kernel
theorem gz_0_452 : mz_pg 0 452 = some (.goto 4, 0, 0, 0) := by decide +kernel
theorem gz_0_455 : mz_pg 0 455 = some (.iconst 0, 0, 0, 0) := by decide +kernel
theorem gz_0_456 : mz_pg 0 456 = some (.invokevirtual 43, 1, 31, 650) := by decide +kernel
theorem gz_0_459 : mz_pg 0 459 = some (.pop, 0, 0, 0) := by decide +kernel
theorem gz_0_460 : mz_pg 0 460 = some (.aload_n 2, 0, 0, 0) := by decide +kernel
theorem gz_0_461 : mz_pg 0 461 = some (.aload_n 0, 0, 0, 0) := by decide +kernel
theorem gz_0_462 : mz_pg 0 462 = some (.iload 4, 0, 0, 0) := by decide +kernel
theorem gz_0_464 : mz_pg 0 464 = some (.iconst 1, 0, 0, 0) := by decide +kernel
theorem gz_0_465 : mz_pg 0 465 = some (.iadd, 0, 0, 0) := by decide +kernel
theorem gz_0_466 : mz_pg 0 466 = some (.iaload, 0, 0, 0) := by decide +kernel
theorem gz_0_467 : mz_pg 0 467 = some (.aload_n 0, 0, 0, 0) := by decide +kernel
theorem gz_0_468 : mz_pg 0 468 = some (.iload 4, 0, 0, 0) := by decide +kernel
theorem gz_0_470 : mz_pg 0 470 = some (.iconst 2, 0, 0, 0) := by decide +kernel
theorem gz_0_471 : mz_pg 0 471 = some (.iadd, 0, 0, 0) := by decide +kernel
theorem gz_0_472 : mz_pg 0 472 = some (.iaload, 0, 0, 0) := by decide +kernel
theorem gz_0_473 : mz_pg 0 473 = some (.aload_n 0, 0, 0, 0) := by decide +kernel
theorem gz_0_474 : mz_pg 0 474 = some (.iload 4, 0, 0, 0) := by decide +kernel
theorem gz_0_476 : mz_pg 0 476 = some (.iconst 3, 0, 0, 0) := by decide +kernel
theorem gz_0_477 : mz_pg 0 477 = some (.iadd, 0, 0, 0) := by decide +kernel
theorem gz_0_478 : mz_pg 0 478 = some (.iaload, 0, 0, 0) := by decide +kernel
theorem gz_0_479 : mz_pg 0 479 = some (.ifCond .eq 7, 0, 0, 0) := by decide +kernel
theorem gz_0_482 : mz_pg 0 482 = some (.iconst 1, 0, 0, 0) := by decide +kernel
theorem gz_0_483 : mz_pg 0 483 = some (.goto 4, 0, 0, 0) := by decide +kernel
theorem gz_0_486 : mz_pg 0 486 = some (.iconst 0, 0, 0, 0) := by decide +kernel
theorem gz_0_487 : mz_pg 0 487 = some (.invokevirtual 47, 1, 166, 1481) := by decide +kernel
theorem gz_0_490 : mz_pg 0 490 = some (.pop, 0, 0, 0) := by decide +kernel
theorem gz_0_491 : mz_pg 0 491 = some (.goto 1387, 0, 0, 0) := by decide +kernel
theorem gz_0_494 : mz_pg 0 494 = some (.aload_n 1, 0, 0, 0) := by decide +kernel
theorem gz_0_495 : mz_pg 0 495 = some (.aload_n 0, 0, 0, 0) := by decide +kernel
theorem gz_0_496 : mz_pg 0 496 = some (.iload 4, 0, 0, 0) := by decide +kernel
theorem gz_0_498 : mz_pg 0 498 = some (.iconst 1, 0, 0, 0) := by decide +kernel
theorem gz_0_499 : mz_pg 0 499 = some (.iadd, 0, 0, 0) := by decide +kernel
theorem gz_0_500 : mz_pg 0 500 = some (.iaload, 0, 0, 0) := by decide +kernel
theorem gz_0_501 : mz_pg 0 501 = some (.i2l, 0, 0, 0) := by decide +kernel
theorem gz_0_502 : mz_pg 0 502 = some (.bipush 32, 0, 0, 0) := by decide +kernel
theorem gz_0_504 : mz_pg 0 504 = some (.lshl, 0, 0, 0) := by decide +kernel
theorem gz_0_505 : mz_pg 0 505 = some (.aload_n 0, 0, 0, 0) := by decide +kernel
theorem gz_0_506 : mz_pg 0 506 = some (.iload 4, 0, 0, 0) := by decide +kernel
theorem gz_0_508 : mz_pg 0 508 = some (.iconst 2, 0, 0, 0) := by decide +kernel
theorem gz_0_509 : mz_pg 0 509 = some (.iadd, 0, 0, 0) := by decide +kernel
theorem gz_0_510 : mz_pg 0 510 = some (.iaload, 0, 0, 0) := by decide +kernel
theorem gz_0_511 : mz_pg 0 511 = some (.i2l, 0, 0, 0) := by decide +kernel
theorem gz_0_512 : mz_pg 0 512 = some (.ldc2_w 48, 4294967295, 0, 1759) := by decide +kernel
theorem gz_0_515 : mz_pg 0 515 = some (.land, 0, 0, 0) := by decide +kernel
theorem gz_0_516 : mz_pg 0 516 = some (.lor, 0, 0, 0) := by decide +kernel
theorem gz_0_517 : mz_pg 0 517 = some (.aload_n 0, 0, 0, 0) := by decide +kernel
theorem gz_0_518 : mz_pg 0 518 = some (.iload 4, 0, 0, 0) := by decide +kernel
theorem gz_0_520 : mz_pg 0 520 = some (.iconst 3, 0, 0, 0) := by decide +kernel
theorem gz_0_521 : mz_pg 0 521 = some (.iadd, 0, 0, 0) := by decide +kernel
theorem gz_0_522 : mz_pg 0 522 = some (.iaload, 0, 0, 0) := by decide +kernel
theorem gz_0_523 : mz_pg 0 523 = some (.i2l, 0, 0, 0) := by decide +kernel
theorem gz_0_524 : mz_pg 0 524 = some (.bipush 32, 0, 0, 0) := by decide +kernel
theorem gz_0_526 : mz_pg 0 526 = some (.lshl, 0, 0, 0) := by decide +kernel
theorem gz_0_527 : mz_pg 0 527 = some (.aload_n 0, 0, 0, 0) := by decide +kernel
theorem gz_0_528 : mz_pg 0 528 = some (.iload 4, 0, 0, 0) := by decide +kernel
theorem gz_0_530 : mz_pg 0 530 = some (.iconst 4, 0, 0, 0) := by decide +kernel
theorem gz_0_531 : mz_pg 0 531 = some (.iadd, 0, 0, 0) := by decide +kernel
theorem gz_0_532 : mz_pg 0 532 = some (.iaload, 0, 0, 0) := by decide +kernel
theorem gz_0_533 : mz_pg 0 533 = some (.i2l, 0, 0, 0) := by decide +kernel
theorem gz_0_534 : mz_pg 0 534 = some (.ldc2_w 48, 4294967295, 0, 1759) := by decide +kernel
theorem gz_0_537 : mz_pg 0 537 = some (.land, 0, 0, 0) := by decide +kernel
theorem gz_0_538 : mz_pg 0 538 = some (.lor, 0, 0, 0) := by decide +kernel
theorem gz_0_539 : mz_pg 0 539 = some (.aload_n 0, 0, 0, 0) := by decide +kernel
theorem gz_0_540 : mz_pg 0 540 = some (.iload 4, 0, 0, 0) := by decide +kernel
theorem gz_0_542 : mz_pg 0 542 = some (.iconst 5, 0, 0, 0) := by decide +kernel
theorem gz_0_543 : mz_pg 0 543 = some (.iadd, 0, 0, 0) := by decide +kernel
theorem gz_0_544 : mz_pg 0 544 = some (.iaload, 0, 0, 0) := by decide +kernel
theorem gz_0_545 : mz_pg 0 545 = some (.i2l, 0, 0, 0) := by decide +kernel
theorem gz_0_546 : mz_pg 0 546 = some (.bipush 32, 0, 0, 0) := by decide +kernel
theorem gz_0_548 : mz_pg 0 548 = some (.lshl, 0, 0, 0) := by decide +kernel
theorem gz_0_549 : mz_pg 0 549 = some (.aload_n 0, 0, 0, 0) := by decide +kernel
theorem gz_0_550 : mz_pg 0 550 = some (.iload 4, 0, 0, 0) := by decide +kernel
theorem gz_0_552 : mz_pg 0 552 = some (.bipush 6, 0, 0, 0) := by decide +kernel
theorem gz_0_554 : mz_pg 0 554 = some (.iadd, 0, 0, 0) := by decide +kernel
theorem gz_0_555 : mz_pg 0 555 = some (.iaload, 0, 0, 0) := by decide +kernel
theorem gz_0_556 : mz_pg 0 556 = some (.i2l, 0, 0, 0) := by decide +kernel
theorem gz_0_557 : mz_pg 0 557 = some (.ldc2_w 48, 4294967295, 0, 1759) := by decide +kernel
theorem gz_0_560 : mz_pg 0 560 = some (.land, 0, 0, 0) := by decide +kernel
theorem gz_0_561 : mz_pg 0 561 = some (.lor, 0, 0, 0) := by decide +kernel
theorem gz_0_562 : mz_pg 0 562 = some (.invokevirtual 50, 1, 32, 654) := by decide +kernel
theorem gz_0_565 : mz_pg 0 565 = some (.pop, 0, 0, 0) := by decide +kernel
theorem gz_0_566 : mz_pg 0 566 = some (.aload_n 2, 0, 0, 0) := by decide +kernel
theorem gz_0_567 : mz_pg 0 567 = some (.aload_n 0, 0, 0, 0) := by decide +kernel
theorem gz_0_568 : mz_pg 0 568 = some (.iload 4, 0, 0, 0) := by decide +kernel
theorem gz_0_570 : mz_pg 0 570 = some (.iconst 1, 0, 0, 0) := by decide +kernel
theorem gz_0_571 : mz_pg 0 571 = some (.iadd, 0, 0, 0) := by decide +kernel
theorem gz_0_572 : mz_pg 0 572 = some (.iaload, 0, 0, 0) := by decide +kernel
theorem gz_0_573 : mz_pg 0 573 = some (.i2l, 0, 0, 0) := by decide +kernel
theorem gz_0_574 : mz_pg 0 574 = some (.bipush 32, 0, 0, 0) := by decide +kernel
theorem gz_0_576 : mz_pg 0 576 = some (.lshl, 0, 0, 0) := by decide +kernel
theorem gz_0_577 : mz_pg 0 577 = some (.aload_n 0, 0, 0, 0) := by decide +kernel
theorem gz_0_578 : mz_pg 0 578 = some (.iload 4, 0, 0, 0) := by decide +kernel
theorem gz_0_580 : mz_pg 0 580 = some (.iconst 2, 0, 0, 0) := by decide +kernel
theorem gz_0_581 : mz_pg 0 581 = some (.iadd, 0, 0, 0) := by decide +kernel
theorem gz_0_582 : mz_pg 0 582 = some (.iaload, 0, 0, 0) := by decide +kernel
theorem gz_0_583 : mz_pg 0 583 = some (.i2l, 0, 0, 0) := by decide +kernel
theorem gz_0_584 : mz_pg 0 584 = some (.ldc2_w 48, 4294967295, 0, 1759) := by decide +kernel
theorem gz_0_587 : mz_pg 0 587 = some (.land, 0, 0, 0) := by decide +kernel
theorem gz_0_588 : mz_pg 0 588 = some (.lor, 0, 0, 0) := by decide +kernel
theorem gz_0_589 : mz_pg 0 589 = some (.aload_n 0, 0, 0, 0) := by decide +kernel
theorem gz_0_590 : mz_pg 0 590 = some (.iload 4, 0, 0, 0) := by decide +kernel
theorem gz_0_592 : mz_pg 0 592 = some (.iconst 3, 0, 0, 0) := by decide +kernel
theorem gz_0_593 : mz_pg 0 593 = some (.iadd, 0, 0, 0) := by decide +kernel
theorem gz_0_594 : mz_pg 0 594 = some (.iaload, 0, 0, 0) := by decide +kernel
theorem gz_0_595 : mz_pg 0 595 = some (.i2l, 0, 0, 0) := by decide +kernel
theorem gz_0_596 : mz_pg 0 596 = some (.bipush 32, 0, 0, 0) := by decide +kernel
theorem gz_0_598 : mz_pg 0 598 = some (.lshl, 0, 0, 0) := by decide +kernel
theorem gz_0_599 : mz_pg 0 599 = some (.aload_n 0, 0, 0, 0) := by decide +kernel
theorem gz_0_600 : mz_pg 0 600 = some (.iload 4, 0, 0, 0) := by decide +kernel
theorem gz_0_602 : mz_pg 0 602 = some (.iconst 4, 0, 0, 0) := by decide +kernel
theorem gz_0_603 : mz_pg 0 603 = some (.iadd, 0, 0, 0) := by decide +kernel
theorem gz_0_604 : mz_pg 0 604 = some (.iaload, 0, 0, 0) := by decide +kernel
theorem gz_0_605 : mz_pg 0 605 = some (.i2l, 0, 0, 0) := by decide +kernel
theorem gz_0_606 : mz_pg 0 606 = some (.ldc2_w 48, 4294967295, 0, 1759) := by decide +kernel
theorem gz_0_609 : mz_pg 0 609 = some (.land, 0, 0, 0) := by decide +kernel
theorem gz_0_610 : mz_pg 0 610 = some (.lor, 0, 0, 0) := by decide +kernel
theorem gz_0_611 : mz_pg 0 611 = some (.aload_n 0, 0, 0, 0) := by decide +kernel
theorem gz_0_612 : mz_pg 0 612 = some (.iload 4, 0, 0, 0) := by decide +kernel
theorem gz_0_614 : mz_pg 0 614 = some (.iconst 5, 0, 0, 0) := by decide +kernel
theorem gz_0_615 : mz_pg 0 615 = some (.iadd, 0, 0, 0) := by decide +kernel
theorem gz_0_616 : mz_pg 0 616 = some (.iaload, 0, 0, 0) := by decide +kernel
theorem gz_0_617 : mz_pg 0 617 = some (.i2l, 0, 0, 0) := by decide +kernel
theorem gz_0_618 : mz_pg 0 618 = some (.bipush 32, 0, 0, 0) := by decide +kernel
theorem gz_0_620 : mz_pg 0 620 = some (.lshl, 0, 0, 0) := by decide +kernel
theorem gz_0_621 : mz_pg 0 621 = some (.aload_n 0, 0, 0, 0) := by decide +kernel
theorem gz_0_622 : mz_pg 0 622 = some (.iload 4, 0, 0, 0) := by decide +kernel
theorem gz_0_624 : mz_pg 0 624 = some (.bipush 6, 0, 0, 0) := by decide +kernel
theorem gz_0_626 : mz_pg 0 626 = some (.iadd, 0, 0, 0) := by decide +kernel
theorem gz_0_627 : mz_pg 0 627 = some (.iaload, 0, 0, 0) := by decide +kernel
theorem gz_0_628 : mz_pg 0 628 = some (.i2l, 0, 0, 0) := by decide +kernel
theorem gz_0_629 : mz_pg 0 629 = some (.ldc2_w 48, 4294967295, 0, 1759) := by decide +kernel
theorem gz_0_632 : mz_pg 0 632 = some (.land, 0, 0, 0) := by decide +kernel
theorem gz_0_633 : mz_pg 0 633 = some (.lor, 0, 0, 0) := by decide +kernel
theorem gz_0_634 : mz_pg 0 634 = some (.invokevirtual 54, 1, 143, 1188) := by decide +kernel
theorem gz_0_637 : mz_pg 0 637 = some (.pop, 0, 0, 0) := by decide +kernel
theorem gz_0_638 : mz_pg 0 638 = some (.goto 1240, 0, 0, 0) := by decide +kernel
theorem gz_0_641 : mz_pg 0 641 = some (.aload_n 1, 0, 0, 0) := by decide +kernel
theorem gz_0_642 : mz_pg 0 642 = some (.aload_n 0, 0, 0, 0) := by decide +kernel
theorem gz_0_643 : mz_pg 0 643 = some (.iload 4, 0, 0, 0) := by decide +kernel
theorem gz_0_645 : mz_pg 0 645 = some (.iconst 1, 0, 0, 0) := by decide +kernel
theorem gz_0_646 : mz_pg 0 646 = some (.iadd, 0, 0, 0) := by decide +kernel
theorem gz_0_647 : mz_pg 0 647 = some (.iaload, 0, 0, 0) := by decide +kernel
theorem gz_0_648 : mz_pg 0 648 = some (.invokevirtual 55, 1, 34, 662) := by decide +kernel
theorem gz_0_651 : mz_pg 0 651 = some (.pop, 0, 0, 0) := by decide +kernel
theorem gz_0_652 : mz_pg 0 652 = some (.aload_n 2, 0, 0, 0) := by decide +kernel
theorem gz_0_653 : mz_pg 0 653 = some (.aload_n 0, 0, 0, 0) := by decide +kernel
theorem gz_0_654 : mz_pg 0 654 = some (.iload 4, 0, 0, 0) := by decide +kernel
theorem gz_0_656 : mz_pg 0 656 = some (.iconst 1, 0, 0, 0) := by decide +kernel
theorem gz_0_657 : mz_pg 0 657 = some (.iadd, 0, 0, 0) := by decide +kernel
theorem gz_0_658 : mz_pg 0 658 = some (.iaload, 0, 0, 0) := by decide +kernel
theorem gz_0_659 : mz_pg 0 659 = some (.invokevirtual 59, 1, 168, 1489) := by decide +kernel
theorem gz_0_662 : mz_pg 0 662 = some (.pop, 0, 0, 0) := by decide +kernel
theorem gz_0_663 : mz_pg 0 663 = some (.goto 1215, 0, 0, 0) := by decide +kernel
theorem gz_0_666 : mz_pg 0 666 = some (.aload_n 1, 0, 0, 0) := by decide +kernel
theorem gz_0_667 : mz_pg 0 667 = some (.aload_n 0, 0, 0, 0) := by decide +kernel
theorem gz_0_668 : mz_pg 0 668 = some (.iload 4, 0, 0, 0) := by decide +kernel
theorem gz_0_670 : mz_pg 0 670 = some (.iconst 1, 0, 0, 0) := by decide +kernel
theorem gz_0_671 : mz_pg 0 671 = some (.iadd, 0, 0, 0) := by decide +kernel
theorem gz_0_672 : mz_pg 0 672 = some (.iaload, 0, 0, 0) := by decide +kernel
theorem gz_0_673 : mz_pg 0 673 = some (.aload_n 0, 0, 0, 0) := by decide +kernel
theorem gz_0_674 : mz_pg 0 674 = some (.iload 4, 0, 0, 0) := by decide +kernel
theorem gz_0_676 : mz_pg 0 676 = some (.iconst 2, 0, 0, 0) := by decide +kernel
theorem gz_0_677 : mz_pg 0 677 = some (.iadd, 0, 0, 0) := by decide +kernel
theorem gz_0_678 : mz_pg 0 678 = some (.iaload, 0, 0, 0) := by decide +kernel
theorem gz_0_679 : mz_pg 0 679 = some (.aload_n 0, 0, 0, 0) := by decide +kernel
theorem gz_0_680 : mz_pg 0 680 = some (.iload 4, 0, 0, 0) := by decide +kernel
theorem gz_0_682 : mz_pg 0 682 = some (.iconst 3, 0, 0, 0) := by decide +kernel
theorem gz_0_683 : mz_pg 0 683 = some (.iadd, 0, 0, 0) := by decide +kernel
theorem gz_0_684 : mz_pg 0 684 = some (.iaload, 0, 0, 0) := by decide +kernel
theorem gz_0_685 : mz_pg 0 685 = some (.aload_n 3, 0, 0, 0) := by decide +kernel
theorem gz_0_689 : mz_pg 0 689 = some (.istore 5, 0, 0, 0) := by decide +kernel
theorem gz_0_691 : mz_pg 0 691 = some (.aload_n 2, 0, 0, 0) := by decide +kernel
theorem gz_0_692 : mz_pg 0 692 = some (.aload_n 0, 0, 0, 0) := by decide +kernel
theorem gz_0_693 : mz_pg 0 693 = some (.iload 4, 0, 0, 0) := by decide +kernel
theorem gz_0_695 : mz_pg 0 695 = some (.iconst 1, 0, 0, 0) := by decide +kernel
theorem gz_0_696 : mz_pg 0 696 = some (.iadd, 0, 0, 0) := by decide +kernel
theorem gz_0_697 : mz_pg 0 697 = some (.iaload, 0, 0, 0) := by decide +kernel
theorem gz_0_698 : mz_pg 0 698 = some (.aload_n 0, 0, 0, 0) := by decide +kernel
theorem gz_0_699 : mz_pg 0 699 = some (.iload 4, 0, 0, 0) := by decide +kernel
theorem gz_0_701 : mz_pg 0 701 = some (.iconst 2, 0, 0, 0) := by decide +kernel
theorem gz_0_702 : mz_pg 0 702 = some (.iadd, 0, 0, 0) := by decide +kernel
theorem gz_0_703 : mz_pg 0 703 = some (.iaload, 0, 0, 0) := by decide +kernel
theorem gz_0_704 : mz_pg 0 704 = some (.aload_n 0, 0, 0, 0) := by decide +kernel
theorem gz_0_705 : mz_pg 0 705 = some (.iload 4, 0, 0, 0) := by decide +kernel
theorem gz_0_707 : mz_pg 0 707 = some (.iconst 3, 0, 0, 0) := by decide +kernel
theorem gz_0_708 : mz_pg 0 708 = some (.iadd, 0, 0, 0) := by decide +kernel
theorem gz_0_709 : mz_pg 0 709 = some (.iaload, 0, 0, 0) := by decide +kernel
theorem gz_0_710 : mz_pg 0 710 = some (.invokevirtual 65, 1, 167, 1485) := by decide +kernel
theorem gz_0_713 : mz_pg 0 713 = some (.istore 6, 0, 0, 0) := by decide +kernel
theorem gz_0_715 : mz_pg 0 715 = some (.goto 1163, 0, 0, 0) := by decide +kernel
theorem gz_0_718 : mz_pg 0 718 = some (.aload_n 1, 0, 0, 0) := by decide +kernel
theorem gz_0_719 : mz_pg 0 719 = some (.aload_n 0, 0, 0, 0) := by decide +kernel
theorem gz_0_720 : mz_pg 0 720 = some (.iload 4, 0, 0, 0) := by decide +kernel
theorem gz_0_722 : mz_pg 0 722 = some (.iconst 1, 0, 0, 0) := by decide +kernel
theorem gz_0_723 : mz_pg 0 723 = some (.iadd, 0, 0, 0) := by decide +kernel
theorem gz_0_724 : mz_pg 0 724 = some (.iaload, 0, 0, 0) := by decide +kernel
theorem gz_0_725 : mz_pg 0 725 = some (.aload_n 0, 0, 0, 0) := by decide +kernel
theorem gz_0_726 : mz_pg 0 726 = some (.iload 4, 0, 0, 0) := by decide +kernel
theorem gz_0_728 : mz_pg 0 728 = some (.iconst 2, 0, 0, 0) := by decide +kernel
theorem gz_0_729 : mz_pg 0 729 = some (.iadd, 0, 0, 0) := by decide +kernel
theorem gz_0_730 : mz_pg 0 730 = some (.iaload, 0, 0, 0) := by decide +kernel
theorem gz_0_731 : mz_pg 0 731 = some (.aload_n 0, 0, 0, 0) := by decide +kernel
theorem gz_0_732 : mz_pg 0 732 = some (.iload 4, 0, 0, 0) := by decide +kernel
theorem gz_0_734 : mz_pg 0 734 = some (.iconst 3, 0, 0, 0) := by decide +kernel
theorem gz_0_735 : mz_pg 0 735 = some (.iadd, 0, 0, 0) := by decide +kernel
theorem gz_0_736 : mz_pg 0 736 = some (.iaload, 0, 0, 0) := by decide +kernel
theorem gz_0_737 : mz_pg 0 737 = some (.invokevirtual 66, 1, 64, 807) := by decide +kernel
theorem gz_0_740 : mz_pg 0 740 = some (.pop, 0, 0, 0) := by decide +kernel
theorem gz_0_741 : mz_pg 0 741 = some (.aload_n 2, 0, 0, 0) := by decide +kernel
theorem gz_0_742 : mz_pg 0 742 = some (.aload_n 0, 0, 0, 0) := by decide +kernel
theorem gz_0_743 : mz_pg 0 743 = some (.iload 4, 0, 0, 0) := by decide +kernel
theorem gz_0_745 : mz_pg 0 745 = some (.iconst 1, 0, 0, 0) := by decide +kernel
theorem gz_0_746 : mz_pg 0 746 = some (.iadd, 0, 0, 0) := by decide +kernel
theorem gz_0_747 : mz_pg 0 747 = some (.iaload, 0, 0, 0) := by decide +kernel
theorem gz_0_748 : mz_pg 0 748 = some (.aload_n 0, 0, 0, 0) := by decide +kernel
theorem gz_0_749 : mz_pg 0 749 = some (.iload 4, 0, 0, 0) := by decide +kernel
theorem gz_0_751 : mz_pg 0 751 = some (.iconst 2, 0, 0, 0) := by decide +kernel
theorem gz_0_752 : mz_pg 0 752 = some (.iadd, 0, 0, 0) := by decide +kernel
theorem gz_0_753 : mz_pg 0 753 = some (.iaload, 0, 0, 0) := by decide +kernel
theorem gz_0_754 : mz_pg 0 754 = some (.aload_n 0, 0, 0, 0) := by decide +kernel
theorem gz_0_755 : mz_pg 0 755 = some (.iload 4, 0, 0, 0) := by decide +kernel
theorem gz_0_757 : mz_pg 0 757 = some (.iconst 3, 0, 0, 0) := by decide +kernel
theorem gz_0_758 : mz_pg 0 758 = some (.iadd, 0, 0, 0) := by decide +kernel
theorem gz_0_759 : mz_pg 0 759 = some (.iaload, 0, 0, 0) := by decide +kernel
theorem gz_0_760 : mz_pg 0 760 = some (.invokevirtual 69, 1, 192, 1566) := by decide +kernel
theorem gz_0_763 : mz_pg 0 763 = some (.pop, 0, 0, 0) := by decide +kernel
theorem gz_0_764 : mz_pg 0 764 = some (.goto 1114, 0, 0, 0) := by decide +kernel
theorem gz_0_767 : mz_pg 0 767 = some (.aload_n 1, 0, 0, 0) := by decide +kernel
theorem gz_0_768 : mz_pg 0 768 = some (.aload_n 0, 0, 0, 0) := by decide +kernel
theorem gz_0_769 : mz_pg 0 769 = some (.iload 4, 0, 0, 0) := by decide +kernel
theorem gz_0_771 : mz_pg 0 771 = some (.iconst 1, 0, 0, 0) := by decide +kernel
theorem gz_0_772 : mz_pg 0 772 = some (.iadd, 0, 0, 0) := by decide +kernel
theorem gz_0_773 : mz_pg 0 773 = some (.iaload, 0, 0, 0) := by decide +kernel
theorem gz_0_774 : mz_pg 0 774 = some (.aload_n 0, 0, 0, 0) := by decide +kernel
theorem gz_0_775 : mz_pg 0 775 = some (.iload 4, 0, 0, 0) := by decide +kernel
theorem gz_0_777 : mz_pg 0 777 = some (.iconst 2, 0, 0, 0) := by decide +kernel
theorem gz_0_778 : mz_pg 0 778 = some (.iadd, 0, 0, 0) := by decide +kernel
theorem gz_0_779 : mz_pg 0 779 = some (.iaload, 0, 0, 0) := by decide +kernel
theorem gz_0_780 : mz_pg 0 780 = some (.aload_n 0, 0, 0, 0) := by decide +kernel
theorem gz_0_781 : mz_pg 0 781 = some (.iload 4, 0, 0, 0) := by decide +kernel
theorem gz_0_783 : mz_pg 0 783 = some (.iconst 3, 0, 0, 0) := by decide +kernel
theorem gz_0_784 : mz_pg 0 784 = some (.iadd, 0, 0, 0) := by decide +kernel
theorem gz_0_785 : mz_pg 0 785 = some (.iaload, 0, 0, 0) := by decide +kernel
theorem gz_0_786 : mz_pg 0 786 = some (.aload_n 0, 0, 0, 0) := by decide +kernel
theorem gz_0_787 : mz_pg 0 787 = some (.iload 4, 0, 0, 0) := by decide +kernel
theorem gz_0_789 : mz_pg 0 789 = some (.iconst 4, 0, 0, 0) := by decide +kernel
theorem gz_0_790 : mz_pg 0 790 = some (.iadd, 0, 0, 0) := by decide +kernel
theorem gz_0_791 : mz_pg 0 791 = some (.iaload, 0, 0, 0) := by decide +kernel
theorem gz_0_792 : mz_pg 0 792 = some (.invokevirtual 70, 1, 82, 873) := by decide +kernel
theorem gz_0_795 : mz_pg 0 795 = some (.pop, 0, 0, 0) := by decide +kernel
theorem gz_0_796 : mz_pg 0 796 = some (.aload_n 2, 0, 0, 0) := by decide +kernel
theorem gz_0_797 : mz_pg 0 797 = some (.aload_n 0, 0, 0, 0) := by decide +kernel
theorem gz_0_798 : mz_pg 0 798 = some (.iload 4, 0, 0, 0) := by decide +kernel
theorem gz_0_800 : mz_pg 0 800 = some (.iconst 1, 0, 0, 0) := by decide +kernel
theorem gz_0_801 : mz_pg 0 801 = some (.iadd, 0, 0, 0) := by decide +kernel
theorem gz_0_802 : mz_pg 0 802 = some (.iaload, 0, 0, 0) := by decide +kernel
theorem gz_0_803 : mz_pg 0 803 = some (.aload_n 0, 0, 0, 0) := by decide +kernel
theorem gz_0_804 : mz_pg 0 804 = some (.iload 4, 0, 0, 0) := by decide +kernel
theorem gz_0_806 : mz_pg 0 806 = some (.iconst 2, 0, 0, 0) := by decide +kernel
theorem gz_0_807 : mz_pg 0 807 = some (.iadd, 0, 0, 0) := by decide +kernel
theorem gz_0_808 : mz_pg 0 808 = some (.iaload, 0, 0, 0) := by decide +kernel
theorem gz_0_809 : mz_pg 0 809 = some (.aload_n 0, 0, 0, 0) := by decide +kernel
theorem gz_0_810 : mz_pg 0 810 = some (.iload 4, 0, 0, 0) := by decide +kernel
theorem gz_0_812 : mz_pg 0 812 = some (.iconst 3, 0, 0, 0) := by decide +kernel
theorem gz_0_813 : mz_pg 0 813 = some (.iadd, 0, 0, 0) := by decide +kernel
theorem gz_0_814 : mz_pg 0 814 = some (.iaload, 0, 0, 0) := by decide +kernel
theorem gz_0_815 : mz_pg 0 815 = some (.aload_n 0, 0, 0, 0) := by decide +kernel
theorem gz_0_816 : mz_pg 0 816 = some (.iload 4, 0, 0, 0) := by decide +kernel
theorem gz_0_818 : mz_pg 0 818 = some (.iconst 4, 0, 0, 0) := by decide +kernel
theorem gz_0_819 : mz_pg 0 819 = some (.iadd, 0, 0, 0) := by decide +kernel
theorem gz_0_820 : mz_pg 0 820 = some (.iaload, 0, 0, 0) := by decide +kernel
theorem gz_0_821 : mz_pg 0 821 = some (.invokevirtual 74, 1, 202, 1597) := by decide +kernel
theorem gz_0_824 : mz_pg 0 824 = some (.pop, 0, 0, 0) := by decide +kernel
theorem gz_0_825 : mz_pg 0 825 = some (.goto 1053, 0, 0, 0) := by decide +kernel
theorem gz_0_828 : mz_pg 0 828 = some (.aload_n 1, 0, 0, 0) := by decide +kernel
theorem gz_0_829 : mz_pg 0 829 = some (.aload_n 0, 0, 0, 0) := by decide +kernel
theorem gz_0_830 : mz_pg 0 830 = some (.iload 4, 0, 0, 0) := by decide +kernel
theorem gz_0_832 : mz_pg 0 832 = some (.iconst 1, 0, 0, 0) := by decide +kernel
theorem gz_0_833 : mz_pg 0 833 = some (.iadd, 0, 0, 0) := by decide +kernel
theorem gz_0_834 : mz_pg 0 834 = some (.iaload, 0, 0, 0) := by decide +kernel
theorem gz_0_835 : mz_pg 0 835 = some (.aload_n 0, 0, 0, 0) := by decide +kernel
theorem gz_0_836 : mz_pg 0 836 = some (.iload 4, 0, 0, 0) := by decide +kernel
theorem gz_0_838 : mz_pg 0 838 = some (.iconst 2, 0, 0, 0) := by decide +kernel
theorem gz_0_839 : mz_pg 0 839 = some (.iadd, 0, 0, 0) := by decide +kernel
theorem gz_0_840 : mz_pg 0 840 = some (.iaload, 0, 0, 0) := by decide +kernel
theorem gz_0_841 : mz_pg 0 841 = some (.invokevirtual 75, 1, 84, 881) := by decide +kernel
theorem gz_0_844 : mz_pg 0 844 = some (.pop, 0, 0, 0) := by decide +kernel
theorem gz_0_845 : mz_pg 0 845 = some (.aload_n 2, 0, 0, 0) := by decide +kernel
theorem gz_0_846 : mz_pg 0 846 = some (.aload_n 0, 0, 0, 0) := by decide +kernel
theorem gz_0_847 : mz_pg 0 847 = some (.iload 4, 0, 0, 0) := by decide +kernel
theorem gz_0_849 : mz_pg 0 849 = some (.iconst 1, 0, 0, 0) := by decide +kernel
theorem gz_0_850 : mz_pg 0 850 = some (.iadd, 0, 0, 0) := by decide +kernel
theorem gz_0_851 : mz_pg 0 851 = some (.iaload, 0, 0, 0) := by decide +kernel
theorem gz_0_852 : mz_pg 0 852 = some (.aload_n 0, 0, 0, 0) := by decide +kernel
theorem gz_0_853 : mz_pg 0 853 = some (.iload 4, 0, 0, 0) := by decide +kernel
theorem gz_0_855 : mz_pg 0 855 = some (.iconst 2, 0, 0, 0) := by decide +kernel
theorem gz_0_856 : mz_pg 0 856 = some (.iadd, 0, 0, 0) := by decide +kernel
theorem gz_0_857 : mz_pg 0 857 = some (.iaload, 0, 0, 0) := by decide +kernel
theorem gz_0_858 : mz_pg 0 858 = some (.invokevirtual 79, 1, 203, 1601) := by decide +kernel
theorem gz_0_861 : mz_pg 0 861 = some (.pop, 0, 0, 0) := by decide +kernel
theorem gz_0_862 : mz_pg 0 862 = some (.goto 1016, 0, 0, 0) := by decide +kernel
theorem gz_0_865 : mz_pg 0 865 = some (.aload_n 1, 0, 0, 0) := by decide +kernel
theorem gz_0_866 : mz_pg 0 866 = some (.aload_n 0, 0, 0, 0) := by decide +kernel
theorem gz_0_867 : mz_pg 0 867 = some (.iload 4, 0, 0, 0) := by decide +kernel
theorem gz_0_869 : mz_pg 0 869 = some (.iconst 1, 0, 0, 0) := by decide +kernel
theorem gz_0_870 : mz_pg 0 870 = some (.iadd, 0, 0, 0) := by decide +kernel
theorem gz_0_871 : mz_pg 0 871 = some (.iaload, 0, 0, 0) := by decide +kernel
theorem gz_0_872 : mz_pg 0 872 = some (.aload_n 0, 0, 0, 0) := by decide +kernel
theorem gz_0_873 : mz_pg 0 873 = some (.iload 4, 0, 0, 0) := by decide +kernel
theorem gz_0_875 : mz_pg 0 875 = some (.iconst 2, 0, 0, 0) := by decide +kernel
theorem gz_0_876 : mz_pg 0 876 = some (.iadd, 0, 0, 0) := by decide +kernel
theorem gz_0_877 : mz_pg 0 877 = some (.iaload, 0, 0, 0) := by decide +kernel
theorem gz_0_878 : mz_pg 0 878 = some (.invokevirtual 80, 1, 85, 885) := by decide +kernel
theorem gz_0_881 : mz_pg 0 881 = some (.pop, 0, 0, 0) := by decide +kernel
theorem gz_0_882 : mz_pg 0 882 = some (.aload_n 2, 0, 0, 0) := by decide +kernel
theorem gz_0_883 : mz_pg 0 883 = some (.aload_n 0, 0, 0, 0) := by decide +kernel
theorem gz_0_884 : mz_pg 0 884 = some (.iload 4, 0, 0, 0) := by decide +kernel
theorem gz_0_886 : mz_pg 0 886 = some (.iconst 1, 0, 0, 0) := by decide +kernel
theorem gz_0_887 : mz_pg 0 887 = some (.iadd, 0, 0, 0) := by decide +kernel
theorem gz_0_888 : mz_pg 0 888 = some (.iaload, 0, 0, 0) := by decide +kernel
theorem gz_0_889 : mz_pg 0 889 = some (.aload_n 0, 0, 0, 0) := by decide +kernel
theorem gz_0_890 : mz_pg 0 890 = some (.iload 4, 0, 0, 0) := by decide +kernel
theorem gz_0_892 : mz_pg 0 892 = some (.iconst 2, 0, 0, 0) := by decide +kernel
theorem gz_0_893 : mz_pg 0 893 = some (.iadd, 0, 0, 0) := by decide +kernel
theorem gz_0_894 : mz_pg 0 894 = some (.iaload, 0, 0, 0) := by decide +kernel
theorem gz_0_895 : mz_pg 0 895 = some (.invokevirtual 83, 1, 206, 1611) := by decide +kernel
theorem gz_0_898 : mz_pg 0 898 = some (.pop, 0, 0, 0) := by decide +kernel
theorem gz_0_899 : mz_pg 0 899 = some (.goto 979, 0, 0, 0) := by decide +kernel
theorem gz_0_902 : mz_pg 0 902 = some (.aload_n 1, 0, 0, 0) := by decide +kernel
theorem gz_0_903 : mz_pg 0 903 = some (.aload_n 0, 0, 0, 0) := by decide +kernel
theorem gz_0_904 : mz_pg 0 904 = some (.iload 4, 0, 0, 0) := by decide +kernel
theorem gz_0_906 : mz_pg 0 906 = some (.iconst 1, 0, 0, 0) := by decide +kernel
theorem gz_0_907 : mz_pg 0 907 = some (.iadd, 0, 0, 0) := by decide +kernel
theorem gz_0_908 : mz_pg 0 908 = some (.iaload, 0, 0, 0) := by decide +kernel
theorem gz_0_909 : mz_pg 0 909 = some (.aload_n 0, 0, 0, 0) := by decide +kernel
theorem gz_0_910 : mz_pg 0 910 = some (.iload 4, 0, 0, 0) := by decide +kernel
theorem gz_0_912 : mz_pg 0 912 = some (.iconst 2, 0, 0, 0) := by decide +kernel
theorem gz_0_913 : mz_pg 0 913 = some (.iadd, 0, 0, 0) := by decide +kernel
theorem gz_0_914 : mz_pg 0 914 = some (.iaload, 0, 0, 0) := by decide +kernel
theorem gz_0_915 : mz_pg 0 915 = some (.aload_n 0, 0, 0, 0) := by decide +kernel
theorem gz_0_916 : mz_pg 0 916 = some (.iload 4, 0, 0, 0) := by decide +kernel
theorem gz_0_918 : mz_pg 0 918 = some (.iconst 3, 0, 0, 0) := by decide +kernel
theorem gz_0_919 : mz_pg 0 919 = some (.iadd, 0, 0, 0) := by decide +kernel
theorem gz_0_920 : mz_pg 0 920 = some (.iaload, 0, 0, 0) := by decide +kernel
theorem gz_0_921 : mz_pg 0 921 = some (.aload_n 0, 0, 0, 0) := by decide +kernel
theorem gz_0_922 : mz_pg 0 922 = some (.iload 4, 0, 0, 0) := by decide +kernel
theorem gz_0_924 : mz_pg 0 924 = some (.iconst 4, 0, 0, 0) := by decide +kernel
theorem gz_0_925 : mz_pg 0 925 = some (.iadd, 0, 0, 0) := by decide +kernel
theorem gz_0_926 : mz_pg 0 926 = some (.iaload, 0, 0, 0) := by decide +kernel
theorem gz_0_927 : mz_pg 0 927 = some (.aload_n 0, 0, 0, 0) := by decide +kernel
theorem gz_0_928 : mz_pg 0 928 = some (.iload 4, 0, 0, 0) := by decide +kernel
theorem gz_0_930 : mz_pg 0 930 = some (.iconst 5, 0, 0, 0) := by decide +kernel
theorem gz_0_931 : mz_pg 0 931 = some (.iadd, 0, 0, 0) := by decide +kernel
theorem gz_0_932 : mz_pg 0 932 = some (.iaload, 0, 0, 0) := by decide +kernel
theorem gz_0_933 : mz_pg 0 933 = some (.invokevirtual 84, 1, 86, 889) := by decide +kernel
theorem gz_0_936 : mz_pg 0 936 = some (.pop, 0, 0, 0) := by decide +kernel
theorem gz_0_937 : mz_pg 0 937 = some (.aload_n 2, 0, 0, 0) := by decide +kernel
theorem gz_0_938 : mz_pg 0 938 = some (.aload_n 0, 0, 0, 0) := by decide +kernel
theorem gz_0_939 : mz_pg 0 939 = some (.iload 4, 0, 0, 0) := by decide +kernel
theorem gz_0_941 : mz_pg 0 941 = some (.iconst 1, 0, 0, 0) := by decide +kernel
theorem gz_0_942 : mz_pg 0 942 = some (.iadd, 0, 0, 0) := by decide +kernel
theorem gz_0_943 : mz_pg 0 943 = some (.iaload, 0, 0, 0) := by decide +kernel
theorem gz_0_944 : mz_pg 0 944 = some (.aload_n 0, 0, 0, 0) := by decide +kernel
theorem gz_0_945 : mz_pg 0 945 = some (.iload 4, 0, 0, 0) := by decide +kernel
theorem gz_0_947 : mz_pg 0 947 = some (.iconst 2, 0, 0, 0) := by decide +kernel
theorem gz_0_948 : mz_pg 0 948 = some (.iadd, 0, 0, 0) := by decide +kernel
theorem gz_0_949 : mz_pg 0 949 = some (.iaload, 0, 0, 0) := by decide +kernel
theorem gz_0_950 : mz_pg 0 950 = some (.aload_n 0, 0, 0, 0) := by decide +kernel
theorem gz_0_951 : mz_pg 0 951 = some (.iload 4, 0, 0, 0) := by decide +kernel
theorem gz_0_953 : mz_pg 0 953 = some (.iconst 3, 0, 0, 0) := by decide +kernel
theorem gz_0_954 : mz_pg 0 954 = some (.iadd, 0, 0, 0) := by decide +kernel
theorem gz_0_955 : mz_pg 0 955 = some (.iaload, 0, 0, 0) := by decide +kernel
theorem gz_0_956 : mz_pg 0 956 = some (.aload_n 0, 0, 0, 0) := by decide +kernel
theorem gz_0_957 : mz_pg 0 957 = some (.iload 4, 0, 0, 0) := by decide +kernel
theorem gz_0_959 : mz_pg 0 959 = some (.iconst 4, 0, 0, 0) := by decide +kernel
theorem gz_0_960 : mz_pg 0 960 = some (.iadd, 0, 0, 0) := by decide +kernel
theorem gz_0_961 : mz_pg 0 961 = some (.iaload, 0, 0, 0) := by decide +kernel
theorem gz_0_962 : mz_pg 0 962 = some (.aload_n 0, 0, 0, 0) := by decide +kernel
theorem gz_0_963 : mz_pg 0 963 = some (.iload 4, 0, 0, 0) := by decide +kernel
theorem gz_0_965 : mz_pg 0 965 = some (.iconst 5, 0, 0, 0) := by decide +kernel
theorem gz_0_966 : mz_pg 0 966 = some (.iadd, 0, 0, 0) := by decide +kernel
theorem gz_0_967 : mz_pg 0 967 = some (.iaload, 0, 0, 0) := by decide +kernel
theorem gz_0_968 : mz_pg 0 968 = some (.invokevirtual 88, 1, 207, 1615) := by decide +kernel
theorem gz_0_971 : mz_pg 0 971 = some (.pop, 0, 0, 0) := by decide +kernel
theorem gz_0_972 : mz_pg 0 972 = some (.goto 906, 0, 0, 0) := by decide +kernel
theorem gz_0_975 : mz_pg 0 975 = some (.aload_n 1, 0, 0, 0) := by decide +kernel
theorem gz_0_976 : mz_pg 0 976 = some (.aload_n 0, 0, 0, 0) := by decide +kernel
theorem gz_0_977 : mz_pg 0 977 = some (.iload 4, 0, 0, 0) := by decide +kernel
theorem gz_0_979 : mz_pg 0 979 = some (.iconst 1, 0, 0, 0) := by decide +kernel
theorem gz_0_980 : mz_pg 0 980 = some (.iadd, 0, 0, 0) := by decide +kernel
theorem gz_0_981 : mz_pg 0 981 = some (.iaload, 0, 0, 0) := by decide +kernel
theorem gz_0_982 : mz_pg 0 982 = some (.aload_n 0, 0, 0, 0) := by decide +kernel
theorem gz_0_983 : mz_pg 0 983 = some (.iload 4, 0, 0, 0) := by decide +kernel
theorem gz_0_985 : mz_pg 0 985 = some (.iconst 2, 0, 0, 0) := by decide +kernel
theorem gz_0_986 : mz_pg 0 986 = some (.iadd, 0, 0, 0) := by decide +kernel
theorem gz_0_987 : mz_pg 0 987 = some (.iaload, 0, 0, 0) := by decide +kernel
theorem gz_0_988 : mz_pg 0 988 = some (.aload_n 0, 0, 0, 0) := by decide +kernel
theorem gz_0_989 : mz_pg 0 989 = some (.iload 4, 0, 0, 0) := by decide +kernel
theorem gz_0_991 : mz_pg 0 991 = some (.iconst 3, 0, 0, 0) := by decide +kernel
theorem gz_0_992 : mz_pg 0 992 = some (.iadd, 0, 0, 0) := by decide +kernel
theorem gz_0_993 : mz_pg 0 993 = some (.iaload, 0, 0, 0) := by decide +kernel
theorem gz_0_994 : mz_pg 0 994 = some (.aload_n 0, 0, 0, 0) := by decide +kernel
theorem gz_0_995 : mz_pg 0 995 = some (.iload 4, 0, 0, 0) := by decide +kernel
theorem gz_0_997 : mz_pg 0 997 = some (.iconst 4, 0, 0, 0) := by decide +kernel
theorem gz_0_998 : mz_pg 0 998 = some (.iadd, 0, 0, 0) := by decide +kernel
theorem gz_0_999 : mz_pg 0 999 = some (.iaload, 0, 0, 0) := by decide +kernel
theorem gz_0_1000 : mz_pg 0 1000 = some (.aload_n 0, 0, 0, 0) := by decide +kernel
theorem gz_0_1001 : mz_pg 0 1001 = some (.iload 4, 0, 0, 0) := by decide +kernel
theorem gz_0_1003 : mz_pg 0 1003 = some (.iconst 5, 0, 0, 0) := by decide +kernel
theorem gz_0_1004 : mz_pg 0 1004 = some (.iadd, 0, 0, 0) := by decide +kernel
theorem gz_0_1005 : mz_pg 0 1005 = some (.iaload, 0, 0, 0) := by decide +kernel
theorem gz_0_1006 : mz_pg 0 1006 = some (.aload_n 0, 0, 0, 0) := by decide +kernel
theorem gz_0_1007 : mz_pg 0 1007 = some (.iload 4, 0, 0, 0) := by decide +kernel
theorem gz_0_1009 : mz_pg 0 1009 = some (.bipush 6, 0, 0, 0) := by decide +kernel
theorem gz_0_1011 : mz_pg 0 1011 = some (.iadd, 0, 0, 0) := by decide +kernel
theorem gz_0_1012 : mz_pg 0 1012 = some (.iaload, 0, 0, 0) := by decide +kernel
theorem gz_0_1013 : mz_pg 0 1013 = some (.aload_n 0, 0, 0, 0) := by decide +kernel
theorem gz_0_1014 : mz_pg 0 1014 = some (.iload 4, 0, 0, 0) := by decide +kernel
theorem gz_0_1016 : mz_pg 0 1016 = some (.bipush 7, 0, 0, 0) := by decide +kernel
theorem gz_0_1018 : mz_pg 0 1018 = some (.iadd, 0, 0, 0) := by decide +kernel
theorem gz_0_1019 : mz_pg 0 1019 = some (.iaload, 0, 0, 0) := by decide +kernel
theorem gz_0_1020 : mz_pg 0 1020 = some (.invokevirtual 89, 1, 108, 979) := by decide +kernel
theorem gz_0_1023 : mz_pg 0 1023 = some (.pop, 0, 0, 0) := by decide +kernel
theorem gz_0_1024 : mz_pg 0 1024 = some (.aload_n 2, 0, 0, 0) := by decide +kernel
theorem gz_0_1025 : mz_pg 0 1025 = some (.aload_n 0, 0, 0, 0) := by decide +kernel
theorem gz_0_1026 : mz_pg 0 1026 = some (.iload 4, 0, 0, 0) := by decide +kernel
theorem gz_0_1028 : mz_pg 0 1028 = some (.iconst 1, 0, 0, 0) := by decide +kernel
theorem gz_0_1029 : mz_pg 0 1029 = some (.iadd, 0, 0, 0) := by decide +kernel
theorem gz_0_1030 : mz_pg 0 1030 = some (.iaload, 0, 0, 0) := by decide +kernel
theorem gz_0_1031 : mz_pg 0 1031 = some (.aload_n 0, 0, 0, 0) := by decide +kernel
theorem gz_0_1032 : mz_pg 0 1032 = some (.iload 4, 0, 0, 0) := by decide +kernel
theorem gz_0_1034 : mz_pg 0 1034 = some (.iconst 2, 0, 0, 0) := by decide +kernel
theorem gz_0_1035 : mz_pg 0 1035 = some (.iadd, 0, 0, 0) := by decide +kernel
theorem gz_0_1036 : mz_pg 0 1036 = some (.iaload, 0, 0, 0) := by decide +kernel
theorem gz_0_1037 : mz_pg 0 1037 = some (.aload_n 0, 0, 0, 0) := by decide +kernel
theorem gz_0_1038 : mz_pg 0 1038 = some (.iload 4, 0, 0, 0) := by decide +kernel
theorem gz_0_1040 : mz_pg 0 1040 = some (.iconst 3, 0, 0, 0) := by decide +kernel
theorem gz_0_1041 : mz_pg 0 1041 = some (.iadd, 0, 0, 0) := by decide +kernel
theorem gz_0_1042 : mz_pg 0 1042 = some (.iaload, 0, 0, 0) := by decide +kernel
theorem gz_0_1043 : mz_pg 0 1043 = some (.aload_n 0, 0, 0, 0) := by decide +kernel
theorem gz_0_1044 : mz_pg 0 1044 = some (.iload 4, 0, 0, 0) := by decide +kernel
theorem gz_0_1046 : mz_pg 0 1046 = some (.iconst 4, 0, 0, 0) := by decide +kernel
theorem gz_0_1047 : mz_pg 0 1047 = some (.iadd, 0, 0, 0) := by decide +kernel
theorem gz_0_1048 : mz_pg 0 1048 = some (.iaload, 0, 0, 0) := by decide +kernel
theorem gz_0_1049 : mz_pg 0 1049 = some (.aload_n 0, 0, 0, 0) := by decide +kernel
theorem gz_0_1050 : mz_pg 0 1050 = some (.iload 4, 0, 0, 0) := by decide +kernel
theorem gz_0_1052 : mz_pg 0 1052 = some (.iconst 5, 0, 0, 0) := by decide +kernel
theorem gz_0_1053 : mz_pg 0 1053 = some (.iadd, 0, 0, 0) := by decide +kernel
theorem gz_0_1054 : mz_pg 0 1054 = some (.iaload, 0, 0, 0) := by decide +kernel
theorem gz_0_1055 : mz_pg 0 1055 = some (.aload_n 0, 0, 0, 0) := by decide +kernel
theorem gz_0_1056 : mz_pg 0 1056 = some (.iload 4, 0, 0, 0) := by decide +kernel
theorem gz_0_1058 : mz_pg 0 1058 = some (.bipush 6, 0, 0, 0) := by decide +kernel
theorem gz_0_1060 : mz_pg 0 1060 = some (.iadd, 0, 0, 0) := by decide +kernel
theorem gz_0_1061 : mz_pg 0 1061 = some (.iaload, 0, 0, 0) := by decide +kernel
theorem gz_0_1062 : mz_pg 0 1062 = some (.aload_n 0, 0, 0, 0) := by decide +kernel
theorem gz_0_1063 : mz_pg 0 1063 = some (.iload 4, 0, 0, 0) := by decide +kernel
theorem gz_0_1065 : mz_pg 0 1065 = some (.bipush 7, 0, 0, 0) := by decide +kernel
theorem gz_0_1067 : mz_pg 0 1067 = some (.iadd, 0, 0, 0) := by decide +kernel
theorem gz_0_1068 : mz_pg 0 1068 = some (.iaload, 0, 0, 0) := by decide +kernel
theorem gz_0_1069 : mz_pg 0 1069 = some (.invokevirtual 93, 1, 219, 1652) := by decide +kernel
theorem gz_0_1072 : mz_pg 0 1072 = some (.pop, 0, 0, 0) := by decide +kernel
theorem gz_0_1073 : mz_pg 0 1073 = some (.goto 805, 0, 0, 0) := by decide +kernel
theorem gz_0_1076 : mz_pg 0 1076 = some (.aload_n 1, 0, 0, 0) := by decide +kernel
theorem gz_0_1077 : mz_pg 0 1077 = some (.aload_n 0, 0, 0, 0) := by decide +kernel
theorem gz_0_1078 : mz_pg 0 1078 = some (.iload 4, 0, 0, 0) := by decide +kernel
theorem gz_0_1080 : mz_pg 0 1080 = some (.iconst 1, 0, 0, 0) := by decide +kernel
theorem gz_0_1081 : mz_pg 0 1081 = some (.iadd, 0, 0, 0) := by decide +kernel
theorem gz_0_1082 : mz_pg 0 1082 = some (.iaload, 0, 0, 0) := by decide +kernel
theorem gz_0_1083 : mz_pg 0 1083 = some (.aload_n 0, 0, 0, 0) := by decide +kernel
theorem gz_0_1084 : mz_pg 0 1084 = some (.iload 4, 0, 0, 0) := by decide +kernel
theorem gz_0_1086 : mz_pg 0 1086 = some (.iconst 2, 0, 0, 0) := by decide +kernel
theorem gz_0_1087 : mz_pg 0 1087 = some (.iadd, 0, 0, 0) := by decide +kernel
theorem gz_0_1088 : mz_pg 0 1088 = some (.iaload, 0, 0, 0) := by decide +kernel
theorem gz_0_1089 : mz_pg 0 1089 = some (.aload_n 0, 0, 0, 0) := by decide +kernel
theorem gz_0_1090 : mz_pg 0 1090 = some (.iload 4, 0, 0, 0) := by decide +kernel
theorem gz_0_1092 : mz_pg 0 1092 = some (.iconst 3, 0, 0, 0) := by decide +kernel
theorem gz_0_1093 : mz_pg 0 1093 = some (.iadd, 0, 0, 0) := by decide +kernel
theorem gz_0_1094 : mz_pg 0 1094 = some (.iaload, 0, 0, 0) := by decide +kernel
theorem gz_0_1095 : mz_pg 0 1095 = some (.aload_n 0, 0, 0, 0) := by decide +kernel
theorem gz_0_1096 : mz_pg 0 1096 = some (.iload 4, 0, 0, 0) := by decide +kernel
theorem gz_0_1098 : mz_pg 0 1098 = some (.iconst 4, 0, 0, 0) := by decide +kernel
theorem gz_0_1099 : mz_pg 0 1099 = some (.iadd, 0, 0, 0) := by decide +kernel
theorem gz_0_1100 : mz_pg 0 1100 = some (.iaload, 0, 0, 0) := by decide +kernel
theorem gz_0_1101 : mz_pg 0 1101 = some (.aload_n 0, 0, 0, 0) := by decide +kernel
theorem gz_0_1102 : mz_pg 0 1102 = some (.iload 4, 0, 0, 0) := by decide +kernel
theorem gz_0_1104 : mz_pg 0 1104 = some (.iconst 5, 0, 0, 0) := by decide +kernel
theorem gz_0_1105 : mz_pg 0 1105 = some (.iadd, 0, 0, 0) := by decide +kernel
theorem gz_0_1106 : mz_pg 0 1106 = some (.iaload, 0, 0, 0) := by decide +kernel
theorem gz_0_1107 : mz_pg 0 1107 = some (.invokevirtual 94, 1, 109, 983) := by decide +kernel
theorem gz_0_1110 : mz_pg 0 1110 = some (.pop, 0, 0, 0) := by decide +kernel
theorem gz_0_1111 : mz_pg 0 1111 = some (.aload_n 2, 0, 0, 0) := by decide +kernel
theorem gz_0_1112 : mz_pg 0 1112 = some (.aload_n 0, 0, 0, 0) := by decide +kernel
theorem gz_0_1113 : mz_pg 0 1113 = some (.iload 4, 0, 0, 0) := by decide +kernel
theorem gz_0_1115 : mz_pg 0 1115 = some (.iconst 1, 0, 0, 0) := by decide +kernel
theorem gz_0_1116 : mz_pg 0 1116 = some (.iadd, 0, 0, 0) := by decide +kernel
theorem gz_0_1117 : mz_pg 0 1117 = some (.iaload, 0, 0, 0) := by decide +kernel
theorem gz_0_1118 : mz_pg 0 1118 = some (.aload_n 0, 0, 0, 0) := by decide +kernel
theorem gz_0_1119 : mz_pg 0 1119 = some (.iload 4, 0, 0, 0) := by decide +kernel
theorem gz_0_1121 : mz_pg 0 1121 = some (.iconst 2, 0, 0, 0) := by decide +kernel
theorem gz_0_1122 : mz_pg 0 1122 = some (.iadd, 0, 0, 0) := by decide +kernel
theorem gz_0_1123 : mz_pg 0 1123 = some (.iaload, 0, 0, 0) := by decide +kernel
theorem gz_0_1124 : mz_pg 0 1124 = some (.aload_n 0, 0, 0, 0) := by decide +kernel
theorem gz_0_1125 : mz_pg 0 1125 = some (.iload 4, 0, 0, 0) := by decide +kernel
theorem gz_0_1127 : mz_pg 0 1127 = some (.iconst 3, 0, 0, 0) := by decide +kernel
theorem gz_0_1128 : mz_pg 0 1128 = some (.iadd, 0, 0, 0) := by decide +kernel
theorem gz_0_1129 : mz_pg 0 1129 = some (.iaload, 0, 0, 0) := by decide +kernel
theorem gz_0_1130 : mz_pg 0 1130 = some (.aload_n 0, 0, 0, 0) := by decide +kernel
theorem gz_0_1131 : mz_pg 0 1131 = some (.iload 4, 0, 0, 0) := by decide +kernel
theorem gz_0_1133 : mz_pg 0 1133 = some (.iconst 4, 0, 0, 0) := by decide +kernel
theorem gz_0_1134 : mz_pg 0 1134 = some (.iadd, 0, 0, 0) := by decide +kernel
theorem gz_0_1135 : mz_pg 0 1135 = some (.iaload, 0, 0, 0) := by decide +kernel
theorem gz_0_1136 : mz_pg 0 1136 = some (.aload_n 0, 0, 0, 0) := by decide +kernel
theorem gz_0_1137 : mz_pg 0 1137 = some (.iload 4, 0, 0, 0) := by decide +kernel
theorem gz_0_1139 : mz_pg 0 1139 = some (.iconst 5, 0, 0, 0) := by decide +kernel
theorem gz_0_1140 : mz_pg 0 1140 = some (.iadd, 0, 0, 0) := by decide +kernel
theorem gz_0_1141 : mz_pg 0 1141 = some (.iaload, 0, 0, 0) := by decide +kernel
theorem gz_0_1142 : mz_pg 0 1142 = some (.invokevirtual 97, 1, 228, 1682) := by decide +kernel
theorem gz_0_1145 : mz_pg 0 1145 = some (.pop, 0, 0, 0) := by decide +kernel
theorem gz_0_1146 : mz_pg 0 1146 = some (.goto 732, 0, 0, 0) := by decide +kernel
theorem gz_0_1149 : mz_pg 0 1149 = some (.aload_n 1, 0, 0, 0) := by decide +kernel
theorem gz_0_1150 : mz_pg 0 1150 = some (.aload_n 0, 0, 0, 0) := by decide +kernel
theorem gz_0_1151 : mz_pg 0 1151 = some (.iload 4, 0, 0, 0) := by decide +kernel
theorem gz_0_1153 : mz_pg 0 1153 = some (.iconst 1, 0, 0, 0) := by decide +kernel
theorem gz_0_1154 : mz_pg 0 1154 = some (.iadd, 0, 0, 0) := by decide +kernel
theorem gz_0_1155 : mz_pg 0 1155 = some (.iaload, 0, 0, 0) := by decide +kernel
theorem gz_0_1156 : mz_pg 0 1156 = some (.aload_n 0, 0, 0, 0) := by decide +kernel
theorem gz_0_1157 : mz_pg 0 1157 = some (.iload 4, 0, 0, 0) := by decide +kernel
theorem gz_0_1159 : mz_pg 0 1159 = some (.iconst 2, 0, 0, 0) := by decide +kernel
theorem gz_0_1160 : mz_pg 0 1160 = some (.iadd, 0, 0, 0) := by decide +kernel
theorem gz_0_1161 : mz_pg 0 1161 = some (.iaload, 0, 0, 0) := by decide +kernel
theorem gz_0_1162 : mz_pg 0 1162 = some (.aload_n 0, 0, 0, 0) := by decide +kernel
theorem gz_0_1163 : mz_pg 0 1163 = some (.iload 4, 0, 0, 0) := by decide +kernel
theorem gz_0_1165 : mz_pg 0 1165 = some (.iconst 3, 0, 0, 0) := by decide +kernel
theorem gz_0_1166 : mz_pg 0 1166 = some (.iadd, 0, 0, 0) := by decide +kernel
theorem gz_0_1167 : mz_pg 0 1167 = some (.iaload, 0, 0, 0) := by decide +kernel
theorem gz_0_1168 : mz_pg 0 1168 = some (.aload_n 0, 0, 0, 0) := by decide +kernel
theorem gz_0_1169 : mz_pg 0 1169 = some (.iload 4, 0, 0, 0) := by decide +kernel
theorem gz_0_1171 : mz_pg 0 1171 = some (.iconst 4, 0, 0, 0) := by decide +kernel
theorem gz_0_1172 : mz_pg 0 1172 = some (.iadd, 0, 0, 0) := by decide +kernel
theorem gz_0_1173 : mz_pg 0 1173 = some (.iaload, 0, 0, 0) := by decide +kernel
theorem gz_0_1174 : mz_pg 0 1174 = some (.aload_n 0, 0, 0, 0) := by decide +kernel
theorem gz_0_1175 : mz_pg 0 1175 = some (.iload 4, 0, 0, 0) := by decide +kernel
theorem gz_0_1177 : mz_pg 0 1177 = some (.iconst 5, 0, 0, 0) := by decide +kernel
theorem gz_0_1178 : mz_pg 0 1178 = some (.iadd, 0, 0, 0) := by decide +kernel
theorem gz_0_1179 : mz_pg 0 1179 = some (.iaload, 0, 0, 0) := by decide +kernel
theorem gz_0_1180 : mz_pg 0 1180 = some (.aload_n 0, 0, 0, 0) := by decide +kernel
theorem gz_0_1181 : mz_pg 0 1181 = some (.iload 4, 0, 0, 0) := by decide +kernel
theorem gz_0_1183 : mz_pg 0 1183 = some (.bipush 6, 0, 0, 0) := by decide +kernel
theorem gz_0_1185 : mz_pg 0 1185 = some (.iadd, 0, 0, 0) := by decide +kernel
theorem gz_0_1186 : mz_pg 0 1186 = some (.iaload, 0, 0, 0) := by decide +kernel
theorem gz_0_1187 : mz_pg 0 1187 = some (.invokevirtual 98, 1, 112, 998) := by decide +kernel
theorem gz_0_1190 : mz_pg 0 1190 = some (.pop, 0, 0, 0) := by decide +kernel
theorem gz_0_1191 : mz_pg 0 1191 = some (.aload_n 2, 0, 0, 0) := by decide +kernel
theorem gz_0_1192 : mz_pg 0 1192 = some (.aload_n 0, 0, 0, 0) := by decide +kernel
theorem gz_0_1193 : mz_pg 0 1193 = some (.iload 4, 0, 0, 0) := by decide +kernel
theorem gz_0_1195 : mz_pg 0 1195 = some (.iconst 1, 0, 0, 0) := by decide +kernel
theorem gz_0_1196 : mz_pg 0 1196 = some (.iadd, 0, 0, 0) := by decide +kernel
theorem gz_0_1197 : mz_pg 0 1197 = some (.iaload, 0, 0, 0) := by decide +kernel
theorem gz_0_1198 : mz_pg 0 1198 = some (.aload_n 0, 0, 0, 0) := by decide +kernel
theorem gz_0_1199 : mz_pg 0 1199 = some (.iload 4, 0, 0, 0) := by decide +kernel
theorem gz_0_1201 : mz_pg 0 1201 = some (.iconst 2, 0, 0, 0) := by decide +kernel
theorem gz_0_1202 : mz_pg 0 1202 = some (.iadd, 0, 0, 0) := by decide +kernel
theorem gz_0_1203 : mz_pg 0 1203 = some (.iaload, 0, 0, 0) := by decide +kernel
theorem gz_0_1204 : mz_pg 0 1204 = some (.aload_n 0, 0, 0, 0) := by decide +kernel
theorem gz_0_1205 : mz_pg 0 1205 = some (.iload 4, 0, 0, 0) := by decide +kernel
theorem gz_0_1207 : mz_pg 0 1207 = some (.iconst 3, 0, 0, 0) := by decide +kernel
theorem gz_0_1208 : mz_pg 0 1208 = some (.iadd, 0, 0, 0) := by decide +kernel
theorem gz_0_1209 : mz_pg 0 1209 = some (.iaload, 0, 0, 0) := by decide +kernel
theorem gz_0_1210 : mz_pg 0 1210 = some (.aload_n 0, 0, 0, 0) := by decide +kernel
theorem gz_0_1211 : mz_pg 0 1211 = some (.iload 4, 0, 0, 0) := by decide +kernel
theorem gz_0_1213 : mz_pg 0 1213 = some (.iconst 4, 0, 0, 0) := by decide +kernel
theorem gz_0_1214 : mz_pg 0 1214 = some (.iadd, 0, 0, 0) := by decide +kernel
theorem gz_0_1215 : mz_pg 0 1215 = some (.iaload, 0, 0, 0) := by decide +kernel
theorem gz_0_1216 : mz_pg 0 1216 = some (.aload_n 0, 0, 0, 0) := by decide +kernel
theorem gz_0_1217 : mz_pg 0 1217 = some (.iload 4, 0, 0, 0) := by decide +kernel
theorem gz_0_1219 : mz_pg 0 1219 = some (.iconst 5, 0, 0, 0) := by decide +kernel
theorem gz_0_1220 : mz_pg 0 1220 = some (.iadd, 0, 0, 0) := by decide +kernel
theorem gz_0_1221 : mz_pg 0 1221 = some (.iaload, 0, 0, 0) := by decide +kernel
theorem gz_0_1222 : mz_pg 0 1222 = some (.aload_n 0, 0, 0, 0) := by decide +kernel
theorem gz_0_1223 : mz_pg 0 1223 = some (.iload 4, 0, 0, 0) := by decide +kernel
theorem gz_0_1225 : mz_pg 0 1225 = some (.bipush 6, 0, 0, 0) := by decide +kernel
theorem gz_0_1227 : mz_pg 0 1227 = some (.iadd, 0, 0, 0) := by decide +kernel
theorem gz_0_1228 : mz_pg 0 1228 = some (.iaload, 0, 0, 0) := by decide +kernel
theorem gz_0_1229 : mz_pg 0 1229 = some (.invokevirtual 102, 1, 224, 1669) := by decide +kernel
theorem gz_0_1232 : mz_pg 0 1232 = some (.pop, 0, 0, 0) := by decide +kernel
theorem gz_0_1233 : mz_pg 0 1233 = some (.goto 645, 0, 0, 0) := by decide +kernel
theorem gz_0_1236 : mz_pg 0 1236 = some (.aload_n 1, 0, 0, 0) := by decide +kernel
theorem gz_0_1237 : mz_pg 0 1237 = some (.aload_n 0, 0, 0, 0) := by decide +kernel
theorem gz_0_1238 : mz_pg 0 1238 = some (.iload 4, 0, 0, 0) := by decide +kernel
theorem gz_0_1240 : mz_pg 0 1240 = some (.iconst 1, 0, 0, 0) := by decide +kernel
theorem gz_0_1241 : mz_pg 0 1241 = some (.iadd, 0, 0, 0) := by decide +kernel
theorem gz_0_1242 : mz_pg 0 1242 = some (.iaload, 0, 0, 0) := by decide +kernel
theorem gz_0_1243 : mz_pg 0 1243 = some (.aload_n 0, 0, 0, 0) := by decide +kernel
theorem gz_0_1244 : mz_pg 0 1244 = some (.iload 4, 0, 0, 0) := by decide +kernel
theorem gz_0_1246 : mz_pg 0 1246 = some (.iconst 2, 0, 0, 0) := by decide +kernel
theorem gz_0_1247 : mz_pg 0 1247 = some (.iadd, 0, 0, 0) := by decide +kernel
theorem gz_0_1248 : mz_pg 0 1248 = some (.iaload, 0, 0, 0) := by decide +kernel
theorem gz_0_1249 : mz_pg 0 1249 = some (.aload_n 0, 0, 0, 0) := by decide +kernel
theorem gz_0_1250 : mz_pg 0 1250 = some (.iload 4, 0, 0, 0) := by decide +kernel
theorem gz_0_1252 : mz_pg 0 1252 = some (.iconst 3, 0, 0, 0) := by decide +kernel
theorem gz_0_1253 : mz_pg 0 1253 = some (.iadd, 0, 0, 0) := by decide +kernel
theorem gz_0_1254 : mz_pg 0 1254 = some (.iaload, 0, 0, 0) := by decide +kernel
theorem gz_0_1255 : mz_pg 0 1255 = some (.aload_n 0, 0, 0, 0) := by decide +kernel
theorem gz_0_1256 : mz_pg 0 1256 = some (.iload 4, 0, 0, 0) := by decide +kernel
theorem gz_0_1258 : mz_pg 0 1258 = some (.iconst 4, 0, 0, 0) := by decide +kernel
theorem gz_0_1259 : mz_pg 0 1259 = some (.iadd, 0, 0, 0) := by decide +kernel
theorem gz_0_1260 : mz_pg 0 1260 = some (.iaload, 0, 0, 0) := by decide +kernel
theorem gz_0_1261 : mz_pg 0 1261 = some (.aload_n 0, 0, 0, 0) := by decide +kernel
theorem gz_0_1262 : mz_pg 0 1262 = some (.iload 4, 0, 0, 0) := by decide +kernel
theorem gz_0_1264 : mz_pg 0 1264 = some (.iconst 5, 0, 0, 0) := by decide +kernel
theorem gz_0_1265 : mz_pg 0 1265 = some (.iadd, 0, 0, 0) := by decide +kernel
theorem gz_0_1266 : mz_pg 0 1266 = some (.iaload, 0, 0, 0) := by decide +kernel
theorem gz_0_1267 : mz_pg 0 1267 = some (.invokevirtual 103, 1, 113, 1003) := by decide +kernel
theorem gz_0_1270 : mz_pg 0 1270 = some (.pop, 0, 0, 0) := by decide +kernel
theorem gz_0_1271 : mz_pg 0 1271 = some (.aload_n 2, 0, 0, 0) := by decide +kernel
theorem gz_0_1272 : mz_pg 0 1272 = some (.aload_n 0, 0, 0, 0) := by decide +kernel
theorem gz_0_1273 : mz_pg 0 1273 = some (.iload 4, 0, 0, 0) := by decide +kernel
theorem gz_0_1275 : mz_pg 0 1275 = some (.iconst 1, 0, 0, 0) := by decide +kernel
theorem gz_0_1276 : mz_pg 0 1276 = some (.iadd, 0, 0, 0) := by decide +kernel
theorem gz_0_1277 : mz_pg 0 1277 = some (.iaload, 0, 0, 0) := by decide +kernel
theorem gz_0_1278 : mz_pg 0 1278 = some (.aload_n 0, 0, 0, 0) := by decide +kernel
theorem gz_0_1279 : mz_pg 0 1279 = some (.iload 4, 0, 0, 0) := by decide +kernel
theorem gz_0_1281 : mz_pg 0 1281 = some (.iconst 2, 0, 0, 0) := by decide +kernel
theorem gz_0_1282 : mz_pg 0 1282 = some (.iadd, 0, 0, 0) := by decide +kernel
theorem gz_0_1283 : mz_pg 0 1283 = some (.iaload, 0, 0, 0) := by decide +kernel
theorem gz_0_1284 : mz_pg 0 1284 = some (.aload_n 0, 0, 0, 0) := by decide +kernel
theorem gz_0_1285 : mz_pg 0 1285 = some (.iload 4, 0, 0, 0) := by decide +kernel
theorem gz_0_1287 : mz_pg 0 1287 = some (.iconst 3, 0, 0, 0) := by decide +kernel
theorem gz_0_1288 : mz_pg 0 1288 = some (.iadd, 0, 0, 0) := by decide +kernel
theorem gz_0_1289 : mz_pg 0 1289 = some (.iaload, 0, 0, 0) := by decide +kernel
theorem gz_0_1290 : mz_pg 0 1290 = some (.aload_n 0, 0, 0, 0) := by decide +kernel
theorem gz_0_1291 : mz_pg 0 1291 = some (.iload 4, 0, 0, 0) := by decide +kernel
theorem gz_0_1293 : mz_pg 0 1293 = some (.iconst 4, 0, 0, 0) := by decide +kernel
theorem gz_0_1294 : mz_pg 0 1294 = some (.iadd, 0, 0, 0) := by decide +kernel
theorem gz_0_1295 : mz_pg 0 1295 = some (.iaload, 0, 0, 0) := by decide +kernel
theorem gz_0_1296 : mz_pg 0 1296 = some (.aload_n 0, 0, 0, 0) := by decide +kernel
theorem gz_0_1297 : mz_pg 0 1297 = some (.iload 4, 0, 0, 0) := by decide +kernel
theorem gz_0_1299 : mz_pg 0 1299 = some (.iconst 5, 0, 0, 0) := by decide +kernel
theorem gz_0_1300 : mz_pg 0 1300 = some (.iadd, 0, 0, 0) := by decide +kernel
theorem gz_0_1301 : mz_pg 0 1301 = some (.iaload, 0, 0, 0) := by decide +kernel
theorem gz_0_1302 : mz_pg 0 1302 = some (.invokevirtual 106, 1, 222, 1662) := by decide +kernel
theorem gz_0_1305 : mz_pg 0 1305 = some (.pop, 0, 0, 0) := by decide +kernel
theorem gz_0_1306 : mz_pg 0 1306 = some (.goto 572, 0, 0, 0) := by decide +kernel
theorem gz_0_1309 : mz_pg 0 1309 = some (.aload_n 1, 0, 0, 0) := by decide +kernel
theorem gz_0_1310 : mz_pg 0 1310 = some (.aload_n 0, 0, 0, 0) := by decide +kernel
theorem gz_0_1311 : mz_pg 0 1311 = some (.iload 4, 0, 0, 0) := by decide +kernel
theorem gz_0_1313 : mz_pg 0 1313 = some (.iconst 1, 0, 0, 0) := by decide +kernel
theorem gz_0_1314 : mz_pg 0 1314 = some (.iadd, 0, 0, 0) := by decide +kernel
theorem gz_0_1315 : mz_pg 0 1315 = some (.iaload, 0, 0, 0) := by decide +kernel
theorem gz_0_1316 : mz_pg 0 1316 = some (.aload_n 0, 0, 0, 0) := by decide +kernel
theorem gz_0_1317 : mz_pg 0 1317 = some (.iload 4, 0, 0, 0) := by decide +kernel
theorem gz_0_1319 : mz_pg 0 1319 = some (.iconst 2, 0, 0, 0) := by decide +kernel
theorem gz_0_1320 : mz_pg 0 1320 = some (.iadd, 0, 0, 0) := by decide +kernel
theorem gz_0_1321 : mz_pg 0 1321 = some (.iaload, 0, 0, 0) := by decide +kernel
theorem gz_0_1322 : mz_pg 0 1322 = some (.aload_n 0, 0, 0, 0) := by decide +kernel
theorem gz_0_1323 : mz_pg 0 1323 = some (.iload 4, 0, 0, 0) := by decide +kernel
theorem gz_0_1325 : mz_pg 0 1325 = some (.iconst 3, 0, 0, 0) := by decide +kernel
theorem gz_0_1326 : mz_pg 0 1326 = some (.iadd, 0, 0, 0) := by decide +kernel
theorem gz_0_1327 : mz_pg 0 1327 = some (.iaload, 0, 0, 0) := by decide +kernel
theorem gz_0_1328 : mz_pg 0 1328 = some (.aload_n 0, 0, 0, 0) := by decide +kernel
theorem gz_0_1329 : mz_pg 0 1329 = some (.iload 4, 0, 0, 0) := by decide +kernel
theorem gz_0_1331 : mz_pg 0 1331 = some (.iconst 4, 0, 0, 0) := by decide +kernel
theorem gz_0_1332 : mz_pg 0 1332 = some (.iadd, 0, 0, 0) := by decide +kernel
theorem gz_0_1333 : mz_pg 0 1333 = some (.iaload, 0, 0, 0) := by decide +kernel
theorem gz_0_1334 : mz_pg 0 1334 = some (.aload_n 0, 0, 0, 0) := by decide +kernel
theorem gz_0_1335 : mz_pg 0 1335 = some (.iload 4, 0, 0, 0) := by decide +kernel
theorem gz_0_1337 : mz_pg 0 1337 = some (.iconst 5, 0, 0, 0) := by decide +kernel
theorem gz_0_1338 : mz_pg 0 1338 = some (.iadd, 0, 0, 0) := by decide +kernel
theorem gz_0_1339 : mz_pg 0 1339 = some (.iaload, 0, 0, 0) := by decide +kernel
theorem gz_0_1340 : mz_pg 0 1340 = some (.invokevirtual 107, 1, 115, 1013) := by decide +kernel
theorem gz_0_1343 : mz_pg 0 1343 = some (.pop, 0, 0, 0) := by decide +kernel
theorem gz_0_1344 : mz_pg 0 1344 = some (.aload_n 2, 0, 0, 0) := by decide +kernel
theorem gz_0_1345 : mz_pg 0 1345 = some (.aload_n 0, 0, 0, 0) := by decide +kernel
theorem gz_0_1346 : mz_pg 0 1346 = some (.iload 4, 0, 0, 0) := by decide +kernel
theorem gz_0_1348 : mz_pg 0 1348 = some (.iconst 1, 0, 0, 0) := by decide +kernel
theorem gz_0_1349 : mz_pg 0 1349 = some (.iadd, 0, 0, 0) := by decide +kernel
theorem gz_0_1350 : mz_pg 0 1350 = some (.iaload, 0, 0, 0) := by decide +kernel
theorem gz_0_1351 : mz_pg 0 1351 = some (.aload_n 0, 0, 0, 0) := by decide +kernel
theorem gz_0_1352 : mz_pg 0 1352 = some (.iload 4, 0, 0, 0) := by decide +kernel
theorem gz_0_1354 : mz_pg 0 1354 = some (.iconst 2, 0, 0, 0) := by decide +kernel
theorem gz_0_1355 : mz_pg 0 1355 = some (.iadd, 0, 0, 0) := by decide +kernel
theorem gz_0_1356 : mz_pg 0 1356 = some (.iaload, 0, 0, 0) := by decide +kernel
theorem gz_0_1357 : mz_pg 0 1357 = some (.aload_n 0, 0, 0, 0) := by decide +kernel
theorem gz_0_1358 : mz_pg 0 1358 = some (.iload 4, 0, 0, 0) := by decide +kernel
theorem gz_0_1360 : mz_pg 0 1360 = some (.iconst 3, 0, 0, 0) := by decide +kernel
theorem gz_0_1361 : mz_pg 0 1361 = some (.iadd, 0, 0, 0) := by decide +kernel
theorem gz_0_1362 : mz_pg 0 1362 = some (.iaload, 0, 0, 0) := by decide +kernel
theorem gz_0_1363 : mz_pg 0 1363 = some (.aload_n 0, 0, 0, 0) := by decide +kernel
theorem gz_0_1364 : mz_pg 0 1364 = some (.iload 4, 0, 0, 0) := by decide +kernel
theorem gz_0_1366 : mz_pg 0 1366 = some (.iconst 4, 0, 0, 0) := by decide +kernel
theorem gz_0_1367 : mz_pg 0 1367 = some (.iadd, 0, 0, 0) := by decide +kernel
theorem gz_0_1368 : mz_pg 0 1368 = some (.iaload, 0, 0, 0) := by decide +kernel
theorem gz_0_1369 : mz_pg 0 1369 = some (.aload_n 0, 0, 0, 0) := by decide +kernel
theorem gz_0_1370 : mz_pg 0 1370 = some (.iload 4, 0, 0, 0) := by decide +kernel
theorem gz_0_1372 : mz_pg 0 1372 = some (.iconst 5, 0, 0, 0) := by decide +kernel
theorem gz_0_1373 : mz_pg 0 1373 = some (.iadd, 0, 0, 0) := by decide +kernel
theorem gz_0_1374 : mz_pg 0 1374 = some (.iaload, 0, 0, 0) := by decide +kernel
theorem gz_0_1375 : mz_pg 0 1375 = some (.invokevirtual 110, 1, 229, 1686) := by decide +kernel
theorem gz_0_1378 : mz_pg 0 1378 = some (.pop, 0, 0, 0) := by decide +kernel
theorem gz_0_1379 : mz_pg 0 1379 = some (.goto 499, 0, 0, 0) := by decide +kernel
theorem gz_0_1382 : mz_pg 0 1382 = some (.aload_n 1, 0, 0, 0) := by decide +kernel
theorem gz_0_1383 : mz_pg 0 1383 = some (.aload_n 0, 0, 0, 0) := by decide +kernel
theorem gz_0_1384 : mz_pg 0 1384 = some (.iload 4, 0, 0, 0) := by decide +kernel
theorem gz_0_1386 : mz_pg 0 1386 = some (.iconst 1, 0, 0, 0) := by decide +kernel
theorem gz_0_1387 : mz_pg 0 1387 = some (.iadd, 0, 0, 0) := by decide +kernel
theorem gz_0_1388 : mz_pg 0 1388 = some (.iaload, 0, 0, 0) := by decide +kernel
theorem gz_0_1389 : mz_pg 0 1389 = some (.aload_n 0, 0, 0, 0) := by decide +kernel
theorem gz_0_1390 : mz_pg 0 1390 = some (.iload 4, 0, 0, 0) := by decide +kernel
theorem gz_0_1392 : mz_pg 0 1392 = some (.iconst 2, 0, 0, 0) := by decide +kernel
theorem gz_0_1393 : mz_pg 0 1393 = some (.iadd, 0, 0, 0) := by decide +kernel
theorem gz_0_1394 : mz_pg 0 1394 = some (.iaload, 0, 0, 0) := by decide +kernel
theorem gz_0_1395 : mz_pg 0 1395 = some (.aload_n 0, 0, 0, 0) := by decide +kernel
theorem gz_0_1396 : mz_pg 0 1396 = some (.iload 4, 0, 0, 0) := by decide +kernel
theorem gz_0_1398 : mz_pg 0 1398 = some (.iconst 3, 0, 0, 0) := by decide +kernel
theorem gz_0_1399 : mz_pg 0 1399 = some (.iadd, 0, 0, 0) := by decide +kernel
theorem gz_0_1400 : mz_pg 0 1400 = some (.iaload, 0, 0, 0) := by decide +kernel
theorem gz_0_1401 : mz_pg 0 1401 = some (.aload_n 0, 0, 0, 0) := by decide +kernel
theorem gz_0_1402 : mz_pg 0 1402 = some (.iload 4, 0, 0, 0) := by decide +kernel
theorem gz_0_1404 : mz_pg 0 1404 = some (.iconst 4, 0, 0, 0) := by decide +kernel
theorem gz_0_1405 : mz_pg 0 1405 = some (.iadd, 0, 0, 0) := by decide +kernel
theorem gz_0_1406 : mz_pg 0 1406 = some (.iaload, 0, 0, 0) := by decide +kernel
theorem gz_0_1407 : mz_pg 0 1407 = some (.invokevirtual 111, 1, 117, 1021) := by decide +kernel
theorem gz_0_1410 : mz_pg 0 1410 = some (.pop, 0, 0, 0) := by decide +kernel
theorem gz_0_1411 : mz_pg 0 1411 = some (.aload_n 2, 0, 0, 0) := by decide +kernel
theorem gz_0_1412 : mz_pg 0 1412 = some (.aload_n 0, 0, 0, 0) := by decide +kernel
theorem gz_0_1413 : mz_pg 0 1413 = some (.iload 4, 0, 0, 0) := by decide +kernel
theorem gz_0_1415 : mz_pg 0 1415 = some (.iconst 1, 0, 0, 0) := by decide +kernel
theorem gz_0_1416 : mz_pg 0 1416 = some (.iadd, 0, 0, 0) := by decide +kernel
theorem gz_0_1417 : mz_pg 0 1417 = some (.iaload, 0, 0, 0) := by decide +kernel
theorem gz_0_1418 : mz_pg 0 1418 = some (.aload_n 0, 0, 0, 0) := by decide +kernel
theorem gz_0_1419 : mz_pg 0 1419 = some (.iload 4, 0, 0, 0) := by decide +kernel
theorem gz_0_1421 : mz_pg 0 1421 = some (.iconst 2, 0, 0, 0) := by decide +kernel
theorem gz_0_1422 : mz_pg 0 1422 = some (.iadd, 0, 0, 0) := by decide +kernel
theorem gz_0_1423 : mz_pg 0 1423 = some (.iaload, 0, 0, 0) := by decide +kernel
theorem gz_0_1424 : mz_pg 0 1424 = some (.aload_n 0, 0, 0, 0) := by decide +kernel
theorem gz_0_1425 : mz_pg 0 1425 = some (.iload 4, 0, 0, 0) := by decide +kernel
theorem gz_0_1427 : mz_pg 0 1427 = some (.iconst 3, 0, 0, 0) := by decide +kernel
theorem gz_0_1428 : mz_pg 0 1428 = some (.iadd, 0, 0, 0) := by decide +kernel
theorem gz_0_1429 : mz_pg 0 1429 = some (.iaload, 0, 0, 0) := by decide +kernel
theorem gz_0_1430 : mz_pg 0 1430 = some (.aload_n 0, 0, 0, 0) := by decide +kernel
theorem gz_0_1431 : mz_pg 0 1431 = some (.iload 4, 0, 0, 0) := by decide +kernel
theorem gz_0_1433 : mz_pg 0 1433 = some (.iconst 4, 0, 0, 0) := by decide +kernel
theorem gz_0_1434 : mz_pg 0 1434 = some (.iadd, 0, 0, 0) := by decide +kernel
theorem gz_0_1435 : mz_pg 0 1435 = some (.iaload, 0, 0, 0) := by decide +kernel
theorem gz_0_1436 : mz_pg 0 1436 = some (.invokevirtual 114, 1, 231, 1693) := by decide +kernel
theorem gz_0_1439 : mz_pg 0 1439 = some (.pop, 0, 0, 0) := by decide +kernel
theorem gz_0_1440 : mz_pg 0 1440 = some (.goto 438, 0, 0, 0) := by decide +kernel
theorem gz_0_1443 : mz_pg 0 1443 = some (.aload_n 1, 0, 0, 0) := by decide +kernel
theorem gz_0_1444 : mz_pg 0 1444 = some (.aload_n 0, 0, 0, 0) := by decide +kernel
theorem gz_0_1445 : mz_pg 0 1445 = some (.iload 4, 0, 0, 0) := by decide +kernel
theorem gz_0_1447 : mz_pg 0 1447 = some (.iconst 1, 0, 0, 0) := by decide +kernel
theorem gz_0_1448 : mz_pg 0 1448 = some (.iadd, 0, 0, 0) := by decide +kernel
theorem gz_0_1449 : mz_pg 0 1449 = some (.iaload, 0, 0, 0) := by decide +kernel
theorem gz_0_1450 : mz_pg 0 1450 = some (.aload_n 0, 0, 0, 0) := by decide +kernel
theorem gz_0_1451 : mz_pg 0 1451 = some (.iload 4, 0, 0, 0) := by decide +kernel
theorem gz_0_1453 : mz_pg 0 1453 = some (.iconst 2, 0, 0, 0) := by decide +kernel
theorem gz_0_1454 : mz_pg 0 1454 = some (.iadd, 0, 0, 0) := by decide +kernel
theorem gz_0_1455 : mz_pg 0 1455 = some (.iaload, 0, 0, 0) := by decide +kernel
theorem gz_0_1456 : mz_pg 0 1456 = some (.aload_n 0, 0, 0, 0) := by decide +kernel
theorem gz_0_1457 : mz_pg 0 1457 = some (.iload 4, 0, 0, 0) := by decide +kernel
theorem gz_0_1459 : mz_pg 0 1459 = some (.iconst 3, 0, 0, 0) := by decide +kernel
theorem gz_0_1460 : mz_pg 0 1460 = some (.iadd, 0, 0, 0) := by decide +kernel
theorem gz_0_1461 : mz_pg 0 1461 = some (.iaload, 0, 0, 0) := by decide +kernel
theorem gz_0_1462 : mz_pg 0 1462 = some (.aload_n 0, 0, 0, 0) := by decide +kernel
theorem gz_0_1463 : mz_pg 0 1463 = some (.iload 4, 0, 0, 0) := by decide +kernel
theorem gz_0_1465 : mz_pg 0 1465 = some (.iconst 4, 0, 0, 0) := by decide +kernel
theorem gz_0_1466 : mz_pg 0 1466 = some (.iadd, 0, 0, 0) := by decide +kernel
theorem gz_0_1467 : mz_pg 0 1467 = some (.iaload, 0, 0, 0) := by decide +kernel
theorem gz_0_1468 : mz_pg 0 1468 = some (.aload_n 0, 0, 0, 0) := by decide +kernel
theorem gz_0_1469 : mz_pg 0 1469 = some (.iload 4, 0, 0, 0) := by decide +kernel
theorem gz_0_1471 : mz_pg 0 1471 = some (.iconst 5, 0, 0, 0) := by decide +kernel
theorem gz_0_1472 : mz_pg 0 1472 = some (.iadd, 0, 0, 0) := by decide +kernel
theorem gz_0_1473 : mz_pg 0 1473 = some (.iaload, 0, 0, 0) := by decide +kernel
theorem gz_0_1474 : mz_pg 0 1474 = some (.aload_n 0, 0, 0, 0) := by decide +kernel
theorem gz_0_1475 : mz_pg 0 1475 = some (.iload 4, 0, 0, 0) := by decide +kernel
theorem gz_0_1477 : mz_pg 0 1477 = some (.bipush 6, 0, 0, 0) := by decide +kernel
theorem gz_0_1479 : mz_pg 0 1479 = some (.iadd, 0, 0, 0) := by decide +kernel
theorem gz_0_1480 : mz_pg 0 1480 = some (.iaload, 0, 0, 0) := by decide +kernel
theorem gz_0_1481 : mz_pg 0 1481 = some (.invokevirtual 115, 1, 118, 1025) := by decide +kernel
theorem gz_0_1484 : mz_pg 0 1484 = some (.pop, 0, 0, 0) := by decide +kernel
theorem gz_0_1485 : mz_pg 0 1485 = some (.aload_n 2, 0, 0, 0) := by decide +kernel
theorem gz_0_1486 : mz_pg 0 1486 = some (.aload_n 0, 0, 0, 0) := by decide +kernel
theorem gz_0_1487 : mz_pg 0 1487 = some (.iload 4, 0, 0, 0) := by decide +kernel
theorem gz_0_1489 : mz_pg 0 1489 = some (.iconst 1, 0, 0, 0) := by decide +kernel
theorem gz_0_1490 : mz_pg 0 1490 = some (.iadd, 0, 0, 0) := by decide +kernel
theorem gz_0_1491 : mz_pg 0 1491 = some (.iaload, 0, 0, 0) := by decide +kernel
theorem gz_0_1492 : mz_pg 0 1492 = some (.aload_n 0, 0, 0, 0) := by decide +kernel
theorem gz_0_1493 : mz_pg 0 1493 = some (.iload 4, 0, 0, 0) := by decide +kernel
theorem gz_0_1495 : mz_pg 0 1495 = some (.iconst 2, 0, 0, 0) := by decide +kernel
theorem gz_0_1496 : mz_pg 0 1496 = some (.iadd, 0, 0, 0) := by decide +kernel
theorem gz_0_1497 : mz_pg 0 1497 = some (.iaload, 0, 0, 0) := by decide +kernel
theorem gz_0_1498 : mz_pg 0 1498 = some (.aload_n 0, 0, 0, 0) := by decide +kernel
theorem gz_0_1499 : mz_pg 0 1499 = some (.iload 4, 0, 0, 0) := by decide +kernel
theorem gz_0_1501 : mz_pg 0 1501 = some (.iconst 3, 0, 0, 0) := by decide +kernel
theorem gz_0_1502 : mz_pg 0 1502 = some (.iadd, 0, 0, 0) := by decide +kernel
theorem gz_0_1503 : mz_pg 0 1503 = some (.iaload, 0, 0, 0) := by decide +kernel
theorem gz_0_1504 : mz_pg 0 1504 = some (.aload_n 0, 0, 0, 0) := by decide +kernel
theorem gz_0_1505 : mz_pg 0 1505 = some (.iload 4, 0, 0, 0) := by decide +kernel
theorem gz_0_1507 : mz_pg 0 1507 = some (.iconst 4, 0, 0, 0) := by decide +kernel
theorem gz_0_1508 : mz_pg 0 1508 = some (.iadd, 0, 0, 0) := by decide +kernel
theorem gz_0_1509 : mz_pg 0 1509 = some (.iaload, 0, 0, 0) := by decide +kernel
theorem gz_0_1510 : mz_pg 0 1510 = some (.aload_n 0, 0, 0, 0) := by decide +kernel
theorem gz_0_1511 : mz_pg 0 1511 = some (.iload 4, 0, 0, 0) := by decide +kernel
theorem gz_0_1513 : mz_pg 0 1513 = some (.iconst 5, 0, 0, 0) := by decide +kernel
theorem gz_0_1514 : mz_pg 0 1514 = some (.iadd, 0, 0, 0) := by decide +kernel
theorem gz_0_1515 : mz_pg 0 1515 = some (.iaload, 0, 0, 0) := by decide +kernel
theorem gz_0_1516 : mz_pg 0 1516 = some (.aload_n 0, 0, 0, 0) := by decide +kernel
theorem gz_0_1517 : mz_pg 0 1517 = some (.iload 4, 0, 0, 0) := by decide +kernel
theorem gz_0_1519 : mz_pg 0 1519 = some (.bipush 6, 0, 0, 0) := by decide +kernel
theorem gz_0_1521 : mz_pg 0 1521 = some (.iadd, 0, 0, 0) := by decide +kernel
theorem gz_0_1522 : mz_pg 0 1522 = some (.iaload, 0, 0, 0) := by decide +kernel
theorem gz_0_1523 : mz_pg 0 1523 = some (.invokevirtual 118, 1, 232, 1697) := by decide +kernel
theorem gz_0_1526 : mz_pg 0 1526 = some (.pop, 0, 0, 0) := by decide +kernel
theorem gz_0_1527 : mz_pg 0 1527 = some (.goto 351, 0, 0, 0) := by decide +kernel
theorem gz_0_1530 : mz_pg 0 1530 = some (.aload_n 1, 0, 0, 0) := by decide +kernel
theorem gz_0_1531 : mz_pg 0 1531 = some (.aload_n 0, 0, 0, 0) := by decide +kernel
theorem gz_0_1532 : mz_pg 0 1532 = some (.iload 4, 0, 0, 0) := by decide +kernel
theorem gz_0_1534 : mz_pg 0 1534 = some (.iconst 1, 0, 0, 0) := by decide +kernel
theorem gz_0_1535 : mz_pg 0 1535 = some (.iadd, 0, 0, 0) := by decide +kernel
theorem gz_0_1536 : mz_pg 0 1536 = some (.iaload, 0, 0, 0) := by decide +kernel
theorem gz_0_1537 : mz_pg 0 1537 = some (.aload_n 0, 0, 0, 0) := by decide +kernel
theorem gz_0_1538 : mz_pg 0 1538 = some (.iload 4, 0, 0, 0) := by decide +kernel
theorem gz_0_1540 : mz_pg 0 1540 = some (.iconst 2, 0, 0, 0) := by decide +kernel
theorem gz_0_1541 : mz_pg 0 1541 = some (.iadd, 0, 0, 0) := by decide +kernel
theorem gz_0_1542 : mz_pg 0 1542 = some (.iaload, 0, 0, 0) := by decide +kernel
theorem gz_0_1543 : mz_pg 0 1543 = some (.invokevirtual 119, 1, 119, 1029) := by decide +kernel
theorem gz_0_1546 : mz_pg 0 1546 = some (.pop, 0, 0, 0) := by decide +kernel
theorem gz_0_1547 : mz_pg 0 1547 = some (.aload_n 2, 0, 0, 0) := by decide +kernel
theorem gz_0_1548 : mz_pg 0 1548 = some (.aload_n 0, 0, 0, 0) := by decide +kernel
theorem gz_0_1549 : mz_pg 0 1549 = some (.iload 4, 0, 0, 0) := by decide +kernel
theorem gz_0_1551 : mz_pg 0 1551 = some (.iconst 1, 0, 0, 0) := by decide +kernel
theorem gz_0_1552 : mz_pg 0 1552 = some (.iadd, 0, 0, 0) := by decide +kernel
theorem gz_0_1553 : mz_pg 0 1553 = some (.iaload, 0, 0, 0) := by decide +kernel
theorem gz_0_1554 : mz_pg 0 1554 = some (.aload_n 0, 0, 0, 0) := by decide +kernel
theorem gz_0_1555 : mz_pg 0 1555 = some (.iload 4, 0, 0, 0) := by decide +kernel
theorem gz_0_1557 : mz_pg 0 1557 = some (.iconst 2, 0, 0, 0) := by decide +kernel
theorem gz_0_1558 : mz_pg 0 1558 = some (.iadd, 0, 0, 0) := by decide +kernel
theorem gz_0_1559 : mz_pg 0 1559 = some (.iaload, 0, 0, 0) := by decide +kernel
theorem gz_0_1560 : mz_pg 0 1560 = some (.invokevirtual 122, 1, 236, 1711) := by decide +kernel
theorem gz_0_1563 : mz_pg 0 1563 = some (.pop, 0, 0, 0) := by decide +kernel
theorem gz_0_1564 : mz_pg 0 1564 = some (.goto 314, 0, 0, 0) := by decide +kernel
theorem gz_0_1567 : mz_pg 0 1567 = some (.aload_n 1, 0, 0, 0) := by decide +kernel
theorem gz_0_1568 : mz_pg 0 1568 = some (.aload_n 0, 0, 0, 0) := by decide +kernel
theorem gz_0_1569 : mz_pg 0 1569 = some (.iload 4, 0, 0, 0) := by decide +kernel
theorem gz_0_1571 : mz_pg 0 1571 = some (.iconst 1, 0, 0, 0) := by decide +kernel
theorem gz_0_1572 : mz_pg 0 1572 = some (.iadd, 0, 0, 0) := by decide +kernel
theorem gz_0_1573 : mz_pg 0 1573 = some (.iaload, 0, 0, 0) := by decide +kernel
theorem gz_0_1574 : mz_pg 0 1574 = some (.aload_n 0, 0, 0, 0) := by decide +kernel
theorem gz_0_1575 : mz_pg 0 1575 = some (.iload 4, 0, 0, 0) := by decide +kernel
theorem gz_0_1577 : mz_pg 0 1577 = some (.iconst 2, 0, 0, 0) := by decide +kernel
theorem gz_0_1578 : mz_pg 0 1578 = some (.iadd, 0, 0, 0) := by decide +kernel
theorem gz_0_1579 : mz_pg 0 1579 = some (.iaload, 0, 0, 0) := by decide +kernel
theorem gz_0_1580 : mz_pg 0 1580 = some (.aload_n 0, 0, 0, 0) := by decide +kernel
theorem gz_0_1581 : mz_pg 0 1581 = some (.iload 4, 0, 0, 0) := by decide +kernel
theorem gz_0_1583 : mz_pg 0 1583 = some (.iconst 3, 0, 0, 0) := by decide +kernel
theorem gz_0_1584 : mz_pg 0 1584 = some (.iadd, 0, 0, 0) := by decide +kernel
theorem gz_0_1585 : mz_pg 0 1585 = some (.iaload, 0, 0, 0) := by decide +kernel
theorem gz_0_1586 : mz_pg 0 1586 = some (.aload_n 0, 0, 0, 0) := by decide +kernel
theorem gz_0_1587 : mz_pg 0 1587 = some (.iload 4, 0, 0, 0) := by decide +kernel
theorem gz_0_1589 : mz_pg 0 1589 = some (.iconst 4, 0, 0, 0) := by decide +kernel
theorem gz_0_1590 : mz_pg 0 1590 = some (.iadd, 0, 0, 0) := by decide +kernel
theorem gz_0_1591 : mz_pg 0 1591 = some (.iaload, 0, 0, 0) := by decide +kernel
theorem gz_0_1592 : mz_pg 0 1592 = some (.invokevirtual 123, 1, 127, 1064) := by decide +kernel
theorem gz_0_1595 : mz_pg 0 1595 = some (.pop, 0, 0, 0) := by decide +kernel
theorem gz_0_1596 : mz_pg 0 1596 = some (.aload_n 2, 0, 0, 0) := by decide +kernel
theorem gz_0_1597 : mz_pg 0 1597 = some (.aload_n 0, 0, 0, 0) := by decide +kernel
theorem gz_0_1598 : mz_pg 0 1598 = some (.iload 4, 0, 0, 0) := by decide +kernel
theorem gz_0_1600 : mz_pg 0 1600 = some (.iconst 1, 0, 0, 0) := by decide +kernel
theorem gz_0_1601 : mz_pg 0 1601 = some (.iadd, 0, 0, 0) := by decide +kernel
theorem gz_0_1602 : mz_pg 0 1602 = some (.iaload, 0, 0, 0) := by decide +kernel
theorem gz_0_1603 : mz_pg 0 1603 = some (.aload_n 0, 0, 0, 0) := by decide +kernel
theorem gz_0_1604 : mz_pg 0 1604 = some (.iload 4, 0, 0, 0) := by decide +kernel
theorem gz_0_1606 : mz_pg 0 1606 = some (.iconst 2, 0, 0, 0) := by decide +kernel
theorem gz_0_1607 : mz_pg 0 1607 = some (.iadd, 0, 0, 0) := by decide +kernel
theorem gz_0_1608 : mz_pg 0 1608 = some (.iaload, 0, 0, 0) := by decide +kernel
theorem gz_0_1609 : mz_pg 0 1609 = some (.aload_n 0, 0, 0, 0) := by decide +kernel
theorem gz_0_1610 : mz_pg 0 1610 = some (.iload 4, 0, 0, 0) := by decide +kernel
theorem gz_0_1612 : mz_pg 0 1612 = some (.iconst 3, 0, 0, 0) := by decide +kernel
theorem gz_0_1613 : mz_pg 0 1613 = some (.iadd, 0, 0, 0) := by decide +kernel
theorem gz_0_1614 : mz_pg 0 1614 = some (.iaload, 0, 0, 0) := by decide +kernel
theorem gz_0_1615 : mz_pg 0 1615 = some (.aload_n 0, 0, 0, 0) := by decide +kernel
theorem gz_0_1616 : mz_pg 0 1616 = some (.iload 4, 0, 0, 0) := by decide +kernel
theorem gz_0_1618 : mz_pg 0 1618 = some (.iconst 4, 0, 0, 0) := by decide +kernel
theorem gz_0_1619 : mz_pg 0 1619 = some (.iadd, 0, 0, 0) := by decide +kernel
theorem gz_0_1620 : mz_pg 0 1620 = some (.iaload, 0, 0, 0) := by decide +kernel
theorem gz_0_1621 : mz_pg 0 1621 = some (.invokevirtual 126, 1, 241, 1727) := by decide +kernel
theorem gz_0_1624 : mz_pg 0 1624 = some (.pop, 0, 0, 0) := by decide +kernel
theorem gz_0_1625 : mz_pg 0 1625 = some (.goto 253, 0, 0, 0) := by decide +kernel
theorem gz_0_1628 : mz_pg 0 1628 = some (.aload_n 1, 0, 0, 0) := by decide +kernel
theorem gz_0_1629 : mz_pg 0 1629 = some (.aload_n 0, 0, 0, 0) := by decide +kernel
theorem gz_0_1630 : mz_pg 0 1630 = some (.iload 4, 0, 0, 0) := by decide +kernel
theorem gz_0_1632 : mz_pg 0 1632 = some (.iconst 1, 0, 0, 0) := by decide +kernel
theorem gz_0_1633 : mz_pg 0 1633 = some (.iadd, 0, 0, 0) := by decide +kernel
theorem gz_0_1634 : mz_pg 0 1634 = some (.iaload, 0, 0, 0) := by decide +kernel
theorem gz_0_1635 : mz_pg 0 1635 = some (.invokevirtual 127, 1, 128, 1069) := by decide +kernel
theorem gz_0_1638 : mz_pg 0 1638 = some (.pop, 0, 0, 0) := by decide +kernel
theorem gz_0_1639 : mz_pg 0 1639 = some (.aload_n 2, 0, 0, 0) := by decide +kernel
theorem gz_0_1640 : mz_pg 0 1640 = some (.aload_n 0, 0, 0, 0) := by decide +kernel
theorem gz_0_1641 : mz_pg 0 1641 = some (.iload 4, 0, 0, 0) := by decide +kernel
theorem gz_0_1643 : mz_pg 0 1643 = some (.iconst 1, 0, 0, 0) := by decide +kernel
theorem gz_0_1644 : mz_pg 0 1644 = some (.iadd, 0, 0, 0) := by decide +kernel
theorem gz_0_1645 : mz_pg 0 1645 = some (.iaload, 0, 0, 0) := by decide +kernel
theorem gz_0_1646 : mz_pg 0 1646 = some (.invokevirtual 130, 1, 242, 1731) := by decide +kernel
theorem gz_0_1649 : mz_pg 0 1649 = some (.pop, 0, 0, 0) := by decide +kernel
theorem gz_0_1650 : mz_pg 0 1650 = some (.goto 228, 0, 0, 0) := by decide +kernel
theorem gz_0_1653 : mz_pg 0 1653 = some (.aload_n 1, 0, 0, 0) := by decide +kernel
theorem gz_0_1654 : mz_pg 0 1654 = some (.aload_n 0, 0, 0, 0) := by decide +kernel
theorem gz_0_1655 : mz_pg 0 1655 = some (.iload 4, 0, 0, 0) := by decide +kernel
theorem gz_0_1657 : mz_pg 0 1657 = some (.iconst 1, 0, 0, 0) := by decide +kernel
theorem gz_0_1658 : mz_pg 0 1658 = some (.iadd, 0, 0, 0) := by decide +kernel
theorem gz_0_1659 : mz_pg 0 1659 = some (.iaload, 0, 0, 0) := by decide +kernel
theorem gz_0_1660 : mz_pg 0 1660 = some (.aload_n 0, 0, 0, 0) := by decide +kernel
theorem gz_0_1661 : mz_pg 0 1661 = some (.iload 4, 0, 0, 0) := by decide +kernel
theorem gz_0_1663 : mz_pg 0 1663 = some (.iconst 2, 0, 0, 0) := by decide +kernel
theorem gz_0_1664 : mz_pg 0 1664 = some (.iadd, 0, 0, 0) := by decide +kernel
theorem gz_0_1665 : mz_pg 0 1665 = some (.iaload, 0, 0, 0) := by decide +kernel
theorem gz_0_1666 : mz_pg 0 1666 = some (.invokevirtual 131, 1, 133, 1091) := by decide +kernel
theorem gz_0_1669 : mz_pg 0 1669 = some (.pop, 0, 0, 0) := by decide +kernel
theorem gz_0_1670 : mz_pg 0 1670 = some (.aload_n 2, 0, 0, 0) := by decide +kernel
theorem gz_0_1671 : mz_pg 0 1671 = some (.aload_n 0, 0, 0, 0) := by decide +kernel
theorem gz_0_1672 : mz_pg 0 1672 = some (.iload 4, 0, 0, 0) := by decide +kernel
theorem gz_0_1674 : mz_pg 0 1674 = some (.iconst 1, 0, 0, 0) := by decide +kernel
theorem gz_0_1675 : mz_pg 0 1675 = some (.iadd, 0, 0, 0) := by decide +kernel
theorem gz_0_1676 : mz_pg 0 1676 = some (.iaload, 0, 0, 0) := by decide +kernel
theorem gz_0_1677 : mz_pg 0 1677 = some (.aload_n 0, 0, 0, 0) := by decide +kernel
theorem gz_0_1678 : mz_pg 0 1678 = some (.iload 4, 0, 0, 0) := by decide +kernel
theorem gz_0_1680 : mz_pg 0 1680 = some (.iconst 2, 0, 0, 0) := by decide +kernel
theorem gz_0_1681 : mz_pg 0 1681 = some (.iadd, 0, 0, 0) := by decide +kernel
theorem gz_0_1682 : mz_pg 0 1682 = some (.iaload, 0, 0, 0) := by decide +kernel
theorem gz_0_1683 : mz_pg 0 1683 = some (.invokevirtual 134, 1, 246, 1744) := by decide +kernel
theorem gz_0_1686 : mz_pg 0 1686 = some (.pop, 0, 0, 0) := by decide +kernel
theorem gz_0_1687 : mz_pg 0 1687 = some (.goto 191, 0, 0, 0) := by decide +kernel
theorem gz_0_1690 : mz_pg 0 1690 = some (.aload_n 1, 0, 0, 0) := by decide +kernel
theorem gz_0_1691 : mz_pg 0 1691 = some (.aload_n 0, 0, 0, 0) := by decide +kernel
theorem gz_0_1692 : mz_pg 0 1692 = some (.iload 4, 0, 0, 0) := by decide +kernel
theorem gz_0_1694 : mz_pg 0 1694 = some (.iconst 1, 0, 0, 0) := by decide +kernel
theorem gz_0_1695 : mz_pg 0 1695 = some (.iadd, 0, 0, 0) := by decide +kernel
theorem gz_0_1696 : mz_pg 0 1696 = some (.iaload, 0, 0, 0) := by decide +kernel
theorem gz_0_1697 : mz_pg 0 1697 = some (.aload_n 0, 0, 0, 0) := by decide +kernel
theorem gz_0_1698 : mz_pg 0 1698 = some (.iload 4, 0, 0, 0) := by decide +kernel
theorem gz_0_1700 : mz_pg 0 1700 = some (.iconst 2, 0, 0, 0) := by decide +kernel
theorem gz_0_1701 : mz_pg 0 1701 = some (.iadd, 0, 0, 0) := by decide +kernel
theorem gz_0_1702 : mz_pg 0 1702 = some (.iaload, 0, 0, 0) := by decide +kernel
theorem gz_0_1703 : mz_pg 0 1703 = some (.aload_n 0, 0, 0, 0) := by decide +kernel
theorem gz_0_1704 : mz_pg 0 1704 = some (.iload 4, 0, 0, 0) := by decide +kernel
theorem gz_0_1706 : mz_pg 0 1706 = some (.iconst 3, 0, 0, 0) := by decide +kernel
theorem gz_0_1707 : mz_pg 0 1707 = some (.iadd, 0, 0, 0) := by decide +kernel
theorem gz_0_1708 : mz_pg 0 1708 = some (.iaload, 0, 0, 0) := by decide +kernel
theorem gz_0_1709 : mz_pg 0 1709 = some (.invokevirtual 135, 1, 135, 1100) := by decide +kernel
theorem gz_0_1712 : mz_pg 0 1712 = some (.pop, 0, 0, 0) := by decide +kernel
theorem gz_0_1713 : mz_pg 0 1713 = some (.aload_n 2, 0, 0, 0) := by decide +kernel
theorem gz_0_1714 : mz_pg 0 1714 = some (.aload_n 0, 0, 0, 0) := by decide +kernel
theorem gz_0_1715 : mz_pg 0 1715 = some (.iload 4, 0, 0, 0) := by decide +kernel
theorem gz_0_1717 : mz_pg 0 1717 = some (.iconst 1, 0, 0, 0) := by decide +kernel
theorem gz_0_1718 : mz_pg 0 1718 = some (.iadd, 0, 0, 0) := by decide +kernel
theorem gz_0_1719 : mz_pg 0 1719 = some (.iaload, 0, 0, 0) := by decide +kernel
theorem gz_0_1720 : mz_pg 0 1720 = some (.aload_n 0, 0, 0, 0) := by decide +kernel
theorem gz_0_1721 : mz_pg 0 1721 = some (.iload 4, 0, 0, 0) := by decide +kernel
theorem gz_0_1723 : mz_pg 0 1723 = some (.iconst 2, 0, 0, 0) := by decide +kernel
theorem gz_0_1724 : mz_pg 0 1724 = some (.iadd, 0, 0, 0) := by decide +kernel
theorem gz_0_1725 : mz_pg 0 1725 = some (.iaload, 0, 0, 0) := by decide +kernel
theorem gz_0_1726 : mz_pg 0 1726 = some (.aload_n 0, 0, 0, 0) := by decide +kernel
theorem gz_0_1727 : mz_pg 0 1727 = some (.iload 4, 0, 0, 0) := by decide +kernel
theorem gz_0_1729 : mz_pg 0 1729 = some (.iconst 3, 0, 0, 0) := by decide +kernel
theorem gz_0_1730 : mz_pg 0 1730 = some (.iadd, 0, 0, 0) := by decide +kernel
theorem gz_0_1731 : mz_pg 0 1731 = some (.iaload, 0, 0, 0) := by decide +kernel
theorem gz_0_1732 : mz_pg 0 1732 = some (.invokevirtual 138, 1, 234, 1704) := by decide +kernel
theorem gz_0_1735 : mz_pg 0 1735 = some (.pop, 0, 0, 0) := by decide +kernel
theorem gz_0_1736 : mz_pg 0 1736 = some (.goto 142, 0, 0, 0) := by decide +kernel
theorem gz_0_1739 : mz_pg 0 1739 = some (.aload_n 1, 0, 0, 0) := by decide +kernel
theorem gz_0_1740 : mz_pg 0 1740 = some (.aload_n 0, 0, 0, 0) := by decide +kernel
theorem gz_0_1741 : mz_pg 0 1741 = some (.iload 4, 0, 0, 0) := by decide +kernel
theorem gz_0_1743 : mz_pg 0 1743 = some (.iconst 1, 0, 0, 0) := by decide +kernel
theorem gz_0_1744 : mz_pg 0 1744 = some (.iadd, 0, 0, 0) := by decide +kernel
theorem gz_0_1745 : mz_pg 0 1745 = some (.iaload, 0, 0, 0) := by decide +kernel
theorem gz_0_1746 : mz_pg 0 1746 = some (.aload_n 0, 0, 0, 0) := by decide +kernel
theorem gz_0_1747 : mz_pg 0 1747 = some (.iload 4, 0, 0, 0) := by decide +kernel
theorem gz_0_1749 : mz_pg 0 1749 = some (.iconst 2, 0, 0, 0) := by decide +kernel
theorem gz_0_1750 : mz_pg 0 1750 = some (.iadd, 0, 0, 0) := by decide +kernel
theorem gz_0_1751 : mz_pg 0 1751 = some (.iaload, 0, 0, 0) := by decide +kernel
theorem gz_0_1752 : mz_pg 0 1752 = some (.aload_n 0, 0, 0, 0) := by decide +kernel
theorem gz_0_1753 : mz_pg 0 1753 = some (.iload 4, 0, 0, 0) := by decide +kernel
theorem gz_0_1755 : mz_pg 0 1755 = some (.iconst 3, 0, 0, 0) := by decide +kernel
theorem gz_0_1756 : mz_pg 0 1756 = some (.iadd, 0, 0, 0) := by decide +kernel
theorem gz_0_1757 : mz_pg 0 1757 = some (.iaload, 0, 0, 0) := by decide +kernel
theorem gz_0_1758 : mz_pg 0 1758 = some (.aload_n 0, 0, 0, 0) := by decide +kernel
theorem gz_0_1759 : mz_pg 0 1759 = some (.iload 4, 0, 0, 0) := by decide +kernel
theorem gz_0_1761 : mz_pg 0 1761 = some (.iconst 4, 0, 0, 0) := by decide +kernel
theorem gz_0_1762 : mz_pg 0 1762 = some (.iadd, 0, 0, 0) := by decide +kernel
theorem gz_0_1763 : mz_pg 0 1763 = some (.iaload, 0, 0, 0) := by decide +kernel
theorem gz_0_1764 : mz_pg 0 1764 = some (.invokevirtual 139, 1, 137, 1109) := by decide +kernel
theorem gz_0_1767 : mz_pg 0 1767 = some (.pop, 0, 0, 0) := by decide +kernel
theorem gz_0_1768 : mz_pg 0 1768 = some (.aload_n 2, 0, 0, 0) := by decide +kernel
theorem gz_0_1769 : mz_pg 0 1769 = some (.aload_n 0, 0, 0, 0) := by decide +kernel
theorem gz_0_1770 : mz_pg 0 1770 = some (.iload 4, 0, 0, 0) := by decide +kernel
theorem gz_0_1772 : mz_pg 0 1772 = some (.iconst 1, 0, 0, 0) := by decide +kernel
theorem gz_0_1773 : mz_pg 0 1773 = some (.iadd, 0, 0, 0) := by decide +kernel
theorem gz_0_1774 : mz_pg 0 1774 = some (.iaload, 0, 0, 0) := by decide +kernel
theorem gz_0_1775 : mz_pg 0 1775 = some (.aload_n 0, 0, 0, 0) := by decide +kernel
theorem gz_0_1776 : mz_pg 0 1776 = some (.iload 4, 0, 0, 0) := by decide +kernel
theorem gz_0_1778 : mz_pg 0 1778 = some (.iconst 2, 0, 0, 0) := by decide +kernel
theorem gz_0_1779 : mz_pg 0 1779 = some (.iadd, 0, 0, 0) := by decide +kernel
theorem gz_0_1780 : mz_pg 0 1780 = some (.iaload, 0, 0, 0) := by decide +kernel
theorem gz_0_1781 : mz_pg 0 1781 = some (.aload_n 0, 0, 0, 0) := by decide +kernel
theorem gz_0_1782 : mz_pg 0 1782 = some (.iload 4, 0, 0, 0) := by decide +kernel
theorem gz_0_1784 : mz_pg 0 1784 = some (.iconst 3, 0, 0, 0) := by decide +kernel
theorem gz_0_1785 : mz_pg 0 1785 = some (.iadd, 0, 0, 0) := by decide +kernel
theorem gz_0_1786 : mz_pg 0 1786 = some (.iaload, 0, 0, 0) := by decide +kernel
theorem gz_0_1787 : mz_pg 0 1787 = some (.aload_n 0, 0, 0, 0) := by decide +kernel
theorem gz_0_1788 : mz_pg 0 1788 = some (.iload 4, 0, 0, 0) := by decide +kernel
theorem gz_0_1790 : mz_pg 0 1790 = some (.iconst 4, 0, 0, 0) := by decide +kernel
theorem gz_0_1791 : mz_pg 0 1791 = some (.iadd, 0, 0, 0) := by decide +kernel
theorem gz_0_1792 : mz_pg 0 1792 = some (.iaload, 0, 0, 0) := by decide +kernel
theorem gz_0_1793 : mz_pg 0 1793 = some (.invokevirtual 142, 1, 164, 1473) := by decide +kernel
theorem gz_0_1796 : mz_pg 0 1796 = some (.pop, 0, 0, 0) := by decide +kernel
theorem gz_0_1797 : mz_pg 0 1797 = some (.goto 81, 0, 0, 0) := by decide +kernel
theorem gz_0_1800 : mz_pg 0 1800 = some (.aload_n 1, 0, 0, 0) := by decide +kernel
theorem gz_0_1801 : mz_pg 0 1801 = some (.aload_n 0, 0, 0, 0) := by decide +kernel
theorem gz_0_1802 : mz_pg 0 1802 = some (.iload 4, 0, 0, 0) := by decide +kernel
theorem gz_0_1804 : mz_pg 0 1804 = some (.iconst 1, 0, 0, 0) := by decide +kernel
theorem gz_0_1805 : mz_pg 0 1805 = some (.iadd, 0, 0, 0) := by decide +kernel
theorem gz_0_1806 : mz_pg 0 1806 = some (.iaload, 0, 0, 0) := by decide +kernel
theorem gz_0_1807 : mz_pg 0 1807 = some (.aload_n 0, 0, 0, 0) := by decide +kernel
theorem gz_0_1808 : mz_pg 0 1808 = some (.iload 4, 0, 0, 0) := by decide +kernel
theorem gz_0_1810 : mz_pg 0 1810 = some (.iconst 2, 0, 0, 0) := by decide +kernel
theorem gz_0_1811 : mz_pg 0 1811 = some (.iadd, 0, 0, 0) := by decide +kernel
theorem gz_0_1812 : mz_pg 0 1812 = some (.iaload, 0, 0, 0) := by decide +kernel
theorem gz_0_1813 : mz_pg 0 1813 = some (.ifCond .eq 7, 0, 0, 0) := by decide +kernel
theorem gz_0_1816 : mz_pg 0 1816 = some (.iconst 1, 0, 0, 0) := by decide +kernel
theorem gz_0_1817 : mz_pg 0 1817 = some (.goto 4, 0, 0, 0) := by decide +kernel
theorem gz_0_1820 : mz_pg 0 1820 = some (.iconst 0, 0, 0, 0) := by decide +kernel
theorem gz_0_1821 : mz_pg 0 1821 = some (.invokevirtual 143, 1, 138, 1113) := by decide +kernel
theorem gz_0_1824 : mz_pg 0 1824 = some (.pop, 0, 0, 0) := by decide +kernel
theorem gz_0_1825 : mz_pg 0 1825 = some (.aload_n 2, 0, 0, 0) := by decide +kernel
theorem gz_0_1826 : mz_pg 0 1826 = some (.aload_n 0, 0, 0, 0) := by decide +kernel
theorem gz_0_1827 : mz_pg 0 1827 = some (.iload 4, 0, 0, 0) := by decide +kernel
theorem gz_0_1829 : mz_pg 0 1829 = some (.iconst 1, 0, 0, 0) := by decide +kernel
theorem gz_0_1830 : mz_pg 0 1830 = some (.iadd, 0, 0, 0) := by decide +kernel
theorem gz_0_1831 : mz_pg 0 1831 = some (.iaload, 0, 0, 0) := by decide +kernel
theorem gz_0_1832 : mz_pg 0 1832 = some (.aload_n 0, 0, 0, 0) := by decide +kernel
theorem gz_0_1833 : mz_pg 0 1833 = some (.iload 4, 0, 0, 0) := by decide +kernel
theorem gz_0_1835 : mz_pg 0 1835 = some (.iconst 2, 0, 0, 0) := by decide +kernel
theorem gz_0_1836 : mz_pg 0 1836 = some (.iadd, 0, 0, 0) := by decide +kernel
theorem gz_0_1837 : mz_pg 0 1837 = some (.iaload, 0, 0, 0) := by decide +kernel
theorem gz_0_1838 : mz_pg 0 1838 = some (.ifCond .eq 7, 0, 0, 0) := by decide +kernel
theorem gz_0_1841 : mz_pg 0 1841 = some (.iconst 1, 0, 0, 0) := by decide +kernel
theorem gz_0_1842 : mz_pg 0 1842 = some (.goto 4, 0, 0, 0) := by decide +kernel
theorem gz_0_1845 : mz_pg 0 1845 = some (.iconst 0, 0, 0, 0) := by decide +kernel
theorem gz_0_1846 : mz_pg 0 1846 = some (.invokevirtual 147, 1, 248, 1751) := by decide +kernel
theorem gz_0_1849 : mz_pg 0 1849 = some (.pop, 0, 0, 0) := by decide +kernel
theorem gz_0_1850 : mz_pg 0 1850 = some (.goto 28, 0, 0, 0) := by decide +kernel
theorem gz_0_1853 : mz_pg 0 1853 = some (.aload_n 1, 0, 0, 0) := by decide +kernel
theorem gz_0_1854 : mz_pg 0 1854 = some (.aload_n 0, 0, 0, 0) := by decide +kernel
theorem gz_0_1855 : mz_pg 0 1855 = some (.iload 4, 0, 0, 0) := by decide +kernel
theorem gz_0_1857 : mz_pg 0 1857 = some (.iconst 1, 0, 0, 0) := by decide +kernel
theorem gz_0_1858 : mz_pg 0 1858 = some (.iadd, 0, 0, 0) := by decide +kernel
theorem gz_0_1859 : mz_pg 0 1859 = some (.iaload, 0, 0, 0) := by decide +kernel
theorem gz_0_1860 : mz_pg 0 1860 = some (.invokevirtual 148, 1, 139, 1117) := by decide +kernel
theorem gz_0_1863 : mz_pg 0 1863 = some (.pop, 0, 0, 0) := by decide +kernel
theorem gz_0_1864 : mz_pg 0 1864 = some (.aload_n 2, 0, 0, 0) := by decide +kernel
theorem gz_0_1865 : mz_pg 0 1865 = some (.aload_n 0, 0, 0, 0) := by decide +kernel
theorem gz_0_1866 : mz_pg 0 1866 = some (.iload 4, 0, 0, 0) := by decide +kernel
theorem gz_0_1868 : mz_pg 0 1868 = some (.iconst 1, 0, 0, 0) := by decide +kernel
theorem gz_0_1869 : mz_pg 0 1869 = some (.iadd, 0, 0, 0) := by decide +kernel
theorem gz_0_1870 : mz_pg 0 1870 = some (.iaload, 0, 0, 0) := by decide +kernel
theorem gz_0_1871 : mz_pg 0 1871 = some (.invokevirtual 151, 1, 249, 1755) := by decide +kernel
theorem gz_0_1874 : mz_pg 0 1874 = some (.pop, 0, 0, 0) := by decide +kernel
theorem gz_0_1875 : mz_pg 0 1875 = some (.goto 3, 0, 0, 0) := by decide +kernel
theorem gz_0_1878 : mz_pg 0 1878 = some (.iinc 4 8, 0, 0, 0) := by decide +kernel
theorem gz_0_1881 : mz_pg 0 1881 = some (.goto (-1858), 0, 0, 0) := by decide +kernel
theorem gz_0_1884 : mz_pg 0 1884 = some (.iconst 1, 0, 0, 0) := by decide +kernel
theorem gz_0_1885 : mz_pg 0 1885 = some (.ireturn, 0, 0, 0) := by decide +kernel
theorem gz_9_0 : mz_pg 9 0 = some (.aload_n 0, 0, 0, 0) := by decide +kernel
theorem gz_9_1 : mz_pg 9 1 = some (.iconst (-1), 0, 0, 0) := by decide +kernel
theorem gz_9_2 : mz_pg 9 2 = some (.putfield 14, 7, 0, 359) := by decide +kernel
theorem gz_9_5 : mz_pg 9 5 = some (.aload_n 0, 0, 0, 0) := by decide +kernel
theorem gz_9_6 : mz_pg 9 6 = some (.iconst (-1), 0, 0, 0) := by decide +kernel
theorem gz_9_7 : mz_pg 9 7 = some (.putfield 18, 7, 1, 362) := by decide +kernel
theorem gz_9_10 : mz_pg 9 10 = some (.aload_n 0, 0, 0, 0) := by decide +kernel
theorem gz_9_11 : mz_pg 9 11 = some (.iconst (-1), 0, 0, 0) := by decide +kernel
theorem gz_9_12 : mz_pg 9 12 = some (.putfield 21, 7, 2, 365) := by decide +kernel
theorem gz_9_15 : mz_pg 9 15 = some (.aload_n 0, 0, 0, 0) := by decide +kernel
theorem gz_9_16 : mz_pg 9 16 = some (.iconst (-1), 0, 0, 0) := by decide +kernel
theorem gz_9_17 : mz_pg 9 17 = some (.putfield 24, 7, 3, 368) := by decide +kernel
theorem gz_9_20 : mz_pg 9 20 = some (.aload_n 0, 0, 0, 0) := by decide +kernel
theorem gz_9_21 : mz_pg 9 21 = some (.iconst (-1), 0, 0, 0) := by decide +kernel
theorem gz_9_22 : mz_pg 9 22 = some (.putfield 27, 7, 4, 371) := by decide +kernel
theorem gz_9_25 : mz_pg 9 25 = some (.aload_n 0, 0, 0, 0) := by decide +kernel
theorem gz_9_26 : mz_pg 9 26 = some (.iconst (-1), 0, 0, 0) := by decide +kernel
theorem gz_9_27 : mz_pg 9 27 = some (.putfield 30, 7, 5, 374) := by decide +kernel
theorem gz_9_30 : mz_pg 9 30 = some (.return_, 0, 0, 0) := by decide +kernel
theorem gz_12_0 : mz_pg 12 0 = some (.iload_n 1, 0, 0, 0) := by decide +kernel
theorem gz_12_1 : mz_pg 12 1 = some (.ifCond .lt 29, 0, 0, 0) := by decide +kernel
theorem gz_12_4 : mz_pg 12 4 = some (.iload_n 1, 0, 0, 0) := by decide +kernel
theorem gz_12_5 : mz_pg 12 5 = some (.iconst 3, 0, 0, 0) := by decide +kernel
theorem gz_12_6 : mz_pg 12 6 = some (.if_icmp .ge 24, 0, 0, 0) := by decide +kernel
theorem gz_12_9 : mz_pg 12 9 = some (.aload_n 0, 0, 0, 0) := by decide +kernel
theorem gz_12_10 : mz_pg 12 10 = some (.getfield 10, 9, 0, 528) := by decide +kernel
theorem gz_12_13 : mz_pg 12 13 = some (.iload_n 1, 0, 0, 0) := by decide +kernel
theorem gz_12_14 : mz_pg 12 14 = some (.invokevirtual 88, 1, 13, 578) := by decide +kernel
theorem gz_12_17 : mz_pg 12 17 = some (.ifCond .ne 13, 0, 0, 0) := by decide +kernel
theorem gz_12_20 : mz_pg 12 20 = some (.iload_n 2, 0, 0, 0) := by decide +kernel
theorem gz_12_21 : mz_pg 12 21 = some (.iconst 1, 0, 0, 0) := by decide +kernel
theorem gz_12_22 : mz_pg 12 22 = some (.if_icmp .lt 8, 0, 0, 0) := by decide +kernel
theorem gz_12_25 : mz_pg 12 25 = some (.iload_n 2, 0, 0, 0) := by decide +kernel
theorem gz_12_26 : mz_pg 12 26 = some (.iconst 4, 0, 0, 0) := by decide +kernel
theorem gz_12_27 : mz_pg 12 27 = some (.if_icmp .le 5, 0, 0, 0) := by decide +kernel
theorem gz_12_30 : mz_pg 12 30 = some (.iconst 0, 0, 0, 0) := by decide +kernel
theorem gz_12_31 : mz_pg 12 31 = some (.ireturn, 0, 0, 0) := by decide +kernel
theorem gz_12_32 : mz_pg 12 32 = some (.aload_n 0, 0, 0, 0) := by decide +kernel
theorem gz_12_33 : mz_pg 12 33 = some (.getfield 10, 9, 0, 528) := by decide +kernel
theorem gz_12_36 : mz_pg 12 36 = some (.getfield 92, 3, 0, 145) := by decide +kernel
theorem gz_12_39 : mz_pg 12 39 = some (.iload_n 1, 0, 0, 0) := by decide +kernel
theorem gz_12_40 : mz_pg 12 40 = some (.iload_n 2, 0, 0, 0) := by decide +kernel
theorem gz_12_41 : mz_pg 12 41 = some (.iastore, 0, 0, 0) := by decide +kernel
theorem gz_12_42 : mz_pg 12 42 = some (.iconst 1, 0, 0, 0) := by decide +kernel
theorem gz_12_43 : mz_pg 12 43 = some (.ireturn, 0, 0, 0) := by decide +kernel
theorem gz_13_0 : mz_pg 13 0 = some (.iload_n 1, 0, 0, 0) := by decide +kernel
theorem gz_13_1 : mz_pg 13 1 = some (.ifCond .lt 21, 0, 0, 0) := by decide +kernel
theorem gz_13_4 : mz_pg 13 4 = some (.iload_n 1, 0, 0, 0) := by decide +kernel
theorem gz_13_5 : mz_pg 13 5 = some (.iconst 3, 0, 0, 0) := by decide +kernel
theorem gz_13_6 : mz_pg 13 6 = some (.if_icmp .ge 16, 0, 0, 0) := by decide +kernel
theorem gz_13_9 : mz_pg 13 9 = some (.aload_n 0, 0, 0, 0) := by decide +kernel
theorem gz_13_10 : mz_pg 13 10 = some (.getfield 9, 3, 0, 144) := by decide +kernel
theorem gz_13_13 : mz_pg 13 13 = some (.iload_n 1, 0, 0, 0) := by decide +kernel
theorem gz_13_14 : mz_pg 13 14 = some (.iaload, 0, 0, 0) := by decide +kernel
theorem gz_13_15 : mz_pg 13 15 = some (.ifCond .le 7, 0, 0, 0) := by decide +kernel
theorem gz_13_18 : mz_pg 13 18 = some (.iconst 1, 0, 0, 0) := by decide +kernel
theorem gz_13_19 : mz_pg 13 19 = some (.goto 4, 0, 0, 0) := by decide +kernel
theorem gz_13_22 : mz_pg 13 22 = some (.iconst 0, 0, 0, 0) := by decide +kernel
theorem gz_13_23 : mz_pg 13 23 = some (.ireturn, 0, 0, 0) := by decide +kernel
theorem gz_14_0 : mz_pg 14 0 = some (.aload_n 0, 0, 0, 0) := by decide +kernel
theorem gz_14_1 : mz_pg 14 1 = some (.getfield 10, 9, 0, 528) := by decide +kernel
theorem gz_14_4 : mz_pg 14 4 = some (.iload_n 1, 0, 0, 0) := by decide +kernel
theorem gz_14_5 : mz_pg 14 5 = some (.invokevirtual 88, 1, 13, 578) := by decide +kernel
theorem gz_14_8 : mz_pg 14 8 = some (.ifCond .eq 17, 0, 0, 0) := by decide +kernel
theorem gz_14_11 : mz_pg 14 11 = some (.aload_n 0, 0, 0, 0) := by decide +kernel
theorem gz_14_12 : mz_pg 14 12 = some (.getfield 19, 9, 1, 529) := by decide +kernel
theorem gz_14_15 : mz_pg 14 15 = some (.getfield 95, 6, 1, 183) := by decide +kernel
theorem gz_14_18 : mz_pg 14 18 = some (.iload_n 1, 0, 0, 0) := by decide +kernel
theorem gz_14_19 : mz_pg 14 19 = some (.iaload, 0, 0, 0) := by decide +kernel
theorem gz_14_20 : mz_pg 14 20 = some (.bipush 10, 0, 0, 0) := by decide +kernel
theorem gz_14_22 : mz_pg 14 22 = some (.if_icmp .lt 5, 0, 0, 0) := by decide +kernel
theorem gz_14_25 : mz_pg 14 25 = some (.iconst 0, 0, 0, 0) := by decide +kernel
theorem gz_14_26 : mz_pg 14 26 = some (.ireturn, 0, 0, 0) := by decide +kernel
theorem gz_14_27 : mz_pg 14 27 = some (.aload_n 0, 0, 0, 0) := by decide +kernel
theorem gz_14_28 : mz_pg 14 28 = some (.getfield 79, 9, 12, 540) := by decide +kernel
theorem gz_14_31 : mz_pg 14 31 = some (.iconst 0, 0, 0, 0) := by decide +kernel
theorem gz_14_32 : mz_pg 14 32 = some (.iload_n 2, 0, 0, 0) := by decide +kernel
theorem gz_14_33 : mz_pg 14 33 = some (.iastore, 0, 0, 0) := by decide +kernel
theorem gz_14_34 : mz_pg 14 34 = some (.aload_n 0, 0, 0, 0) := by decide +kernel
theorem gz_14_35 : mz_pg 14 35 = some (.getfield 79, 9, 12, 540) := by decide +kernel
theorem gz_14_38 : mz_pg 14 38 = some (.iconst 1, 0, 0, 0) := by decide +kernel
theorem gz_14_39 : mz_pg 14 39 = some (.iload_n 3, 0, 0, 0) := by decide +kernel
theorem gz_14_40 : mz_pg 14 40 = some (.iastore, 0, 0, 0) := by decide +kernel
theorem gz_14_41 : mz_pg 14 41 = some (.aload_n 0, 0, 0, 0) := by decide +kernel
theorem gz_14_42 : mz_pg 14 42 = some (.getfield 79, 9, 12, 540) := by decide +kernel
theorem gz_14_45 : mz_pg 14 45 = some (.iconst 2, 0, 0, 0) := by decide +kernel
theorem gz_14_46 : mz_pg 14 46 = some (.iload 4, 0, 0, 0) := by decide +kernel
theorem gz_14_48 : mz_pg 14 48 = some (.iastore, 0, 0, 0) := by decide +kernel
theorem gz_14_49 : mz_pg 14 49 = some (.aload_n 0, 0, 0, 0) := by decide +kernel
theorem gz_14_50 : mz_pg 14 50 = some (.getfield 79, 9, 12, 540) := by decide +kernel
theorem gz_14_53 : mz_pg 14 53 = some (.iconst 3, 0, 0, 0) := by decide +kernel
theorem gz_14_54 : mz_pg 14 54 = some (.iload 5, 0, 0, 0) := by decide +kernel
theorem gz_14_56 : mz_pg 14 56 = some (.iastore, 0, 0, 0) := by decide +kernel
theorem gz_14_57 : mz_pg 14 57 = some (.iconst 0, 0, 0, 0) := by decide +kernel
theorem gz_14_58 : mz_pg 14 58 = some (.istore 6, 0, 0, 0) := by decide +kernel
theorem gz_14_60 : mz_pg 14 60 = some (.iload 6, 0, 0, 0) := by decide +kernel
theorem gz_14_62 : mz_pg 14 62 = some (.iconst 4, 0, 0, 0) := by decide +kernel
theorem gz_14_63 : mz_pg 14 63 = some (.if_icmp .ge 58, 0, 0, 0) := by decide +kernel
theorem gz_14_66 : mz_pg 14 66 = some (.iload 6, 0, 0, 0) := by decide +kernel
theorem gz_14_68 : mz_pg 14 68 = some (.aload_n 0, 0, 0, 0) := by decide +kernel
theorem gz_14_69 : mz_pg 14 69 = some (.getfield 10, 9, 0, 528) := by decide +kernel
theorem gz_14_72 : mz_pg 14 72 = some (.getfield 92, 3, 0, 145) := by decide +kernel
theorem gz_14_75 : mz_pg 14 75 = some (.iload_n 1, 0, 0, 0) := by decide +kernel
theorem gz_14_76 : mz_pg 14 76 = some (.iaload, 0, 0, 0) := by decide +kernel
theorem gz_14_77 : mz_pg 14 77 = some (.if_icmp .lt 14, 0, 0, 0) := by decide +kernel
theorem gz_14_80 : mz_pg 14 80 = some (.aload_n 0, 0, 0, 0) := by decide +kernel
theorem gz_14_81 : mz_pg 14 81 = some (.getfield 79, 9, 12, 540) := by decide +kernel
theorem gz_14_84 : mz_pg 14 84 = some (.iload 6, 0, 0, 0) := by decide +kernel
theorem gz_14_86 : mz_pg 14 86 = some (.iconst 0, 0, 0, 0) := by decide +kernel
theorem gz_14_87 : mz_pg 14 87 = some (.iastore, 0, 0, 0) := by decide +kernel
theorem gz_14_88 : mz_pg 14 88 = some (.goto 27, 0, 0, 0) := by decide +kernel
theorem gz_14_91 : mz_pg 14 91 = some (.aload_n 0, 0, 0, 0) := by decide +kernel
theorem gz_14_92 : mz_pg 14 92 = some (.getfield 79, 9, 12, 540) := by decide +kernel
theorem gz_14_95 : mz_pg 14 95 = some (.iload 6, 0, 0, 0) := by decide +kernel
theorem gz_14_97 : mz_pg 14 97 = some (.iaload, 0, 0, 0) := by decide +kernel
theorem gz_14_98 : mz_pg 14 98 = some (.ifCond .lt 15, 0, 0, 0) := by decide +kernel
theorem gz_14_101 : mz_pg 14 101 = some (.aload_n 0, 0, 0, 0) := by decide +kernel
theorem gz_14_102 : mz_pg 14 102 = some (.getfield 79, 9, 12, 540) := by decide +kernel
theorem gz_14_105 : mz_pg 14 105 = some (.iload 6, 0, 0, 0) := by decide +kernel
theorem gz_14_107 : mz_pg 14 107 = some (.iaload, 0, 0, 0) := by decide +kernel
theorem gz_14_108 : mz_pg 14 108 = some (.bipush 20, 0, 0, 0) := by decide +kernel
theorem gz_14_110 : mz_pg 14 110 = some (.if_icmp .lt 5, 0, 0, 0) := by decide +kernel
theorem gz_14_113 : mz_pg 14 113 = some (.iconst 0, 0, 0, 0) := by decide +kernel
theorem gz_14_114 : mz_pg 14 114 = some (.ireturn, 0, 0, 0) := by decide +kernel
theorem gz_14_115 : mz_pg 14 115 = some (.iinc 6 1, 0, 0, 0) := by decide +kernel
theorem gz_14_118 : mz_pg 14 118 = some (.goto (-58), 0, 0, 0) := by decide +kernel
theorem gz_14_121 : mz_pg 14 121 = some (.aload_n 0, 0, 0, 0) := by decide +kernel
theorem gz_14_122 : mz_pg 14 122 = some (.getfield 19, 9, 1, 529) := by decide +kernel
theorem gz_14_125 : mz_pg 14 125 = some (.iload_n 1, 0, 0, 0) := by decide +kernel
theorem gz_14_126 : mz_pg 14 126 = some (.iload_n 2, 0, 0, 0) := by decide +kernel
theorem gz_14_127 : mz_pg 14 127 = some (.invokevirtual 98, 1, 15, 586) := by decide +kernel
theorem gz_14_130 : mz_pg 14 130 = some (.ifCond .eq 5, 0, 0, 0) := by decide +kernel
theorem gz_14_133 : mz_pg 14 133 = some (.iconst 0, 0, 0, 0) := by decide +kernel
theorem gz_14_134 : mz_pg 14 134 = some (.ireturn, 0, 0, 0) := by decide +kernel
theorem gz_14_135 : mz_pg 14 135 = some (.aload_n 0, 0, 0, 0) := by decide +kernel
theorem gz_14_136 : mz_pg 14 136 = some (.getfield 19, 9, 1, 529) := by decide +kernel
theorem gz_14_139 : mz_pg 14 139 = some (.iload_n 1, 0, 0, 0) := by decide +kernel
theorem gz_14_140 : mz_pg 14 140 = some (.aload_n 0, 0, 0, 0) := by decide +kernel
theorem gz_14_141 : mz_pg 14 141 = some (.getfield 79, 9, 12, 540) := by decide +kernel
theorem gz_14_144 : mz_pg 14 144 = some (.invokevirtual 102, 1, 16, 590) := by decide +kernel
theorem gz_14_147 : mz_pg 14 147 = some (.aload_n 0, 0, 0, 0) := by decide +kernel
theorem gz_14_148 : mz_pg 14 148 = some (.getfield 10, 9, 0, 528) := by decide +kernel
theorem gz_14_151 : mz_pg 14 151 = some (.aload_n 0, 0, 0, 0) := by decide +kernel
theorem gz_14_152 : mz_pg 14 152 = some (.getfield 19, 9, 1, 529) := by decide +kernel
theorem gz_14_155 : mz_pg 14 155 = some (.invokevirtual 106, 1, 18, 599) := by decide +kernel
theorem gz_14_158 : mz_pg 14 158 = some (.ifCond .eq 5, 0, 0, 0) := by decide +kernel
theorem gz_14_161 : mz_pg 14 161 = some (.iconst 1, 0, 0, 0) := by decide +kernel
theorem gz_14_162 : mz_pg 14 162 = some (.ireturn, 0, 0, 0) := by decide +kernel
theorem gz_14_163 : mz_pg 14 163 = some (.aload_n 0, 0, 0, 0) := by decide +kernel
theorem gz_14_164 : mz_pg 14 164 = some (.getfield 19, 9, 1, 529) := by decide +kernel
theorem gz_14_167 : mz_pg 14 167 = some (.iload_n 1, 0, 0, 0) := by decide +kernel
theorem gz_14_168 : mz_pg 14 168 = some (.iload_n 2, 0, 0, 0) := by decide +kernel
theorem gz_14_169 : mz_pg 14 169 = some (.invokevirtual 110, 1, 23, 618) := by decide +kernel
theorem gz_14_172 : mz_pg 14 172 = some (.iconst 0, 0, 0, 0) := by decide +kernel
theorem gz_14_173 : mz_pg 14 173 = some (.ireturn, 0, 0, 0) := by decide +kernel
theorem gz_15_0 : mz_pg 15 0 = some (.iload_n 2, 0, 0, 0) := by decide +kernel
theorem gz_15_1 : mz_pg 15 1 = some (.ifCond .lt 30, 0, 0, 0) := by decide +kernel
theorem gz_15_4 : mz_pg 15 4 = some (.iload_n 2, 0, 0, 0) := by decide +kernel
theorem gz_15_5 : mz_pg 15 5 = some (.bipush 20, 0, 0, 0) := by decide +kernel
theorem gz_15_7 : mz_pg 15 7 = some (.if_icmp .ge 24, 0, 0, 0) := by decide +kernel
theorem gz_15_10 : mz_pg 15 10 = some (.aload_n 0, 0, 0, 0) := by decide +kernel
theorem gz_15_11 : mz_pg 15 11 = some (.getfield 9, 6, 0, 176) := by decide +kernel
theorem gz_15_14 : mz_pg 15 14 = some (.iload_n 1, 0, 0, 0) := by decide +kernel
theorem gz_15_15 : mz_pg 15 15 = some (.bipush 20, 0, 0, 0) := by decide +kernel
theorem gz_15_17 : mz_pg 15 17 = some (.imul, 0, 0, 0) := by decide +kernel
theorem gz_15_18 : mz_pg 15 18 = some (.iload_n 2, 0, 0, 0) := by decide +kernel
theorem gz_15_19 : mz_pg 15 19 = some (.iadd, 0, 0, 0) := by decide +kernel
theorem gz_15_20 : mz_pg 15 20 = some (.iconst 4, 0, 0, 0) := by decide +kernel
theorem gz_15_21 : mz_pg 15 21 = some (.imul, 0, 0, 0) := by decide +kernel
theorem gz_15_22 : mz_pg 15 22 = some (.iaload, 0, 0, 0) := by decide +kernel
theorem gz_15_23 : mz_pg 15 23 = some (.iconst (-1), 0, 0, 0) := by decide +kernel
theorem gz_15_24 : mz_pg 15 24 = some (.if_icmp .eq 7, 0, 0, 0) := by decide +kernel
theorem gz_15_27 : mz_pg 15 27 = some (.iconst 1, 0, 0, 0) := by decide +kernel
theorem gz_15_28 : mz_pg 15 28 = some (.goto 4, 0, 0, 0) := by decide +kernel
theorem gz_15_31 : mz_pg 15 31 = some (.iconst 0, 0, 0, 0) := by decide +kernel
theorem gz_15_32 : mz_pg 15 32 = some (.ireturn, 0, 0, 0) := by decide +kernel
theorem gz_16_0 : mz_pg 16 0 = some (.aload_n 2, 0, 0, 0) := by decide +kernel
theorem gz_16_1 : mz_pg 16 1 = some (.iconst 0, 0, 0, 0) := by decide +kernel
theorem gz_16_2 : mz_pg 16 2 = some (.aload_n 0, 0, 0, 0) := by decide +kernel
theorem gz_16_3 : mz_pg 16 3 = some (.getfield 9, 6, 0, 176) := by decide +kernel
theorem gz_16_6 : mz_pg 16 6 = some (.iload_n 1, 0, 0, 0) := by decide +kernel
theorem gz_16_7 : mz_pg 16 7 = some (.aload_n 2, 0, 0, 0) := by decide +kernel
theorem gz_16_8 : mz_pg 16 8 = some (.iconst 0, 0, 0, 0) := by decide +kernel
theorem gz_16_9 : mz_pg 16 9 = some (.iaload, 0, 0, 0) := by decide +kernel
theorem gz_16_10 : mz_pg 16 10 = some (.invokestatic 18, 2, 17, 4) := by decide +kernel
theorem gz_16_13 : mz_pg 16 13 = some (.iconst 4, 0, 0, 0) := by decide +kernel
theorem gz_16_14 : mz_pg 16 14 = some (.invokestatic 22, 0, 0, 596) := by decide +kernel
theorem gz_16_17 : mz_pg 16 17 = some (.aload_n 0, 0, 0, 0) := by decide +kernel
theorem gz_16_18 : mz_pg 16 18 = some (.getfield 15, 6, 1, 182) := by decide +kernel
theorem gz_16_21 : mz_pg 16 21 = some (.iload_n 1, 0, 0, 0) := by decide +kernel
theorem gz_16_22 : mz_pg 16 22 = some (.dup2, 0, 0, 0) := by decide +kernel
theorem gz_16_23 : mz_pg 16 23 = some (.iaload, 0, 0, 0) := by decide +kernel
theorem gz_16_24 : mz_pg 16 24 = some (.iconst 1, 0, 0, 0) := by decide +kernel
theorem gz_16_25 : mz_pg 16 25 = some (.iadd, 0, 0, 0) := by decide +kernel
theorem gz_16_26 : mz_pg 16 26 = some (.iastore, 0, 0, 0) := by decide +kernel
theorem gz_16_27 : mz_pg 16 27 = some (.return_, 0, 0, 0) := by decide +kernel
theorem gz_17_0 : mz_pg 17 0 = some (.iload_n 0, 0, 0, 0) := by decide +kernel
theorem gz_17_1 : mz_pg 17 1 = some (.bipush 20, 0, 0, 0) := by decide +kernel
theorem gz_17_3 : mz_pg 17 3 = some (.imul, 0, 0, 0) := by decide +kernel
theorem gz_17_4 : mz_pg 17 4 = some (.iload_n 1, 0, 0, 0) := by decide +kernel
theorem gz_17_5 : mz_pg 17 5 = some (.iadd, 0, 0, 0) := by decide +kernel
theorem gz_17_6 : mz_pg 17 6 = some (.iconst 4, 0, 0, 0) := by decide +kernel
theorem gz_17_7 : mz_pg 17 7 = some (.imul, 0, 0, 0) := by decide +kernel
theorem gz_17_8 : mz_pg 17 8 = some (.ireturn, 0, 0, 0) := by decide +kernel
theorem gz_18_0 : mz_pg 18 0 = some (.aload_n 0, 0, 0, 0) := by decide +kernel
theorem gz_18_1 : mz_pg 18 1 = some (.aload_n 1, 0, 0, 0) := by decide +kernel
theorem gz_18_2 : mz_pg 18 2 = some (.invokevirtual 32, 1, 19, 603) := by decide +kernel
theorem gz_18_5 : mz_pg 18 5 = some (.iconst (-1), 0, 0, 0) := by decide +kernel
theorem gz_18_6 : mz_pg 18 6 = some (.if_icmp .ne 7, 0, 0, 0) := by decide +kernel
theorem gz_18_9 : mz_pg 18 9 = some (.iconst 1, 0, 0, 0) := by decide +kernel
theorem gz_18_10 : mz_pg 18 10 = some (.goto 4, 0, 0, 0) := by decide +kernel
theorem gz_18_13 : mz_pg 18 13 = some (.iconst 0, 0, 0, 0) := by decide +kernel
theorem gz_18_14 : mz_pg 18 14 = some (.ireturn, 0, 0, 0) := by decide +kernel
theorem gz_19_0 : mz_pg 19 0 = some (.iconst 0, 0, 0, 0) := by decide +kernel
theorem gz_19_1 : mz_pg 19 1 = some (.istore_n 2, 0, 0, 0) := by decide +kernel
theorem gz_19_2 : mz_pg 19 2 = some (.iload_n 2, 0, 0, 0) := by decide +kernel
theorem gz_19_3 : mz_pg 19 3 = some (.aload_n 0, 0, 0, 0) := by decide +kernel
theorem gz_19_4 : mz_pg 19 4 = some (.getfield 21, 3, 3, 153) := by decide +kernel
theorem gz_19_7 : mz_pg 19 7 = some (.arraylength, 0, 0, 0) := by decide +kernel
theorem gz_19_8 : mz_pg 19 8 = some (.if_icmp .ge 115, 0, 0, 0) := by decide +kernel
theorem gz_19_11 : mz_pg 19 11 = some (.iload_n 2, 0, 0, 0) := by decide +kernel
theorem gz_19_12 : mz_pg 19 12 = some (.iconst 4, 0, 0, 0) := by decide +kernel
theorem gz_19_13 : mz_pg 19 13 = some (.idiv, 0, 0, 0) := by decide +kernel
theorem gz_19_14 : mz_pg 19 14 = some (.istore_n 3, 0, 0, 0) := by decide +kernel
theorem gz_19_15 : mz_pg 19 15 = some (.iload_n 2, 0, 0, 0) := by decide +kernel
theorem gz_19_16 : mz_pg 19 16 = some (.iconst 4, 0, 0, 0) := by decide +kernel
theorem gz_19_17 : mz_pg 19 17 = some (.irem, 0, 0, 0) := by decide +kernel
theorem gz_19_18 : mz_pg 19 18 = some (.istore 4, 0, 0, 0) := by decide +kernel
theorem gz_19_20 : mz_pg 19 20 = some (.iconst 0, 0, 0, 0) := by decide +kernel
theorem gz_19_21 : mz_pg 19 21 = some (.istore 5, 0, 0, 0) := by decide +kernel
theorem gz_19_23 : mz_pg 19 23 = some (.aload_n 1, 0, 0, 0) := by decide +kernel
theorem gz_19_24 : mz_pg 19 24 = some (.iload_n 3, 0, 0, 0) := by decide +kernel
theorem gz_19_25 : mz_pg 19 25 = some (.iload 4, 0, 0, 0) := by decide +kernel
theorem gz_19_27 : mz_pg 19 27 = some (.aload_n 0, 0, 0, 0) := by decide +kernel
theorem gz_19_28 : mz_pg 19 28 = some (.getfield 15, 3, 1, 149) := by decide +kernel
theorem gz_19_31 : mz_pg 19 31 = some (.iload_n 2, 0, 0, 0) := by decide +kernel
theorem gz_19_32 : mz_pg 19 32 = some (.iaload, 0, 0, 0) := by decide +kernel
theorem gz_19_33 : mz_pg 19 33 = some (.aload_n 0, 0, 0, 0) := by decide +kernel
theorem gz_19_34 : mz_pg 19 34 = some (.getfield 18, 3, 2, 151) := by decide +kernel
theorem gz_19_37 : mz_pg 19 37 = some (.iload_n 2, 0, 0, 0) := by decide +kernel
theorem gz_19_38 : mz_pg 19 38 = some (.iaload, 0, 0, 0) := by decide +kernel
theorem gz_19_39 : mz_pg 19 39 = some (.invokevirtual 36, 1, 20, 607) := by decide +kernel
theorem gz_19_42 : mz_pg 19 42 = some (.ifCond .le 9, 0, 0, 0) := by decide +kernel
theorem gz_19_45 : mz_pg 19 45 = some (.iconst 1, 0, 0, 0) := by decide +kernel
theorem gz_19_46 : mz_pg 19 46 = some (.istore 5, 0, 0, 0) := by decide +kernel
theorem gz_19_48 : mz_pg 19 48 = some (.goto 57, 0, 0, 0) := by decide +kernel
theorem gz_19_51 : mz_pg 19 51 = some (.aload_n 0, 0, 0, 0) := by decide +kernel
theorem gz_19_52 : mz_pg 19 52 = some (.getfield 21, 3, 3, 153) := by decide +kernel
theorem gz_19_55 : mz_pg 19 55 = some (.iload_n 2, 0, 0, 0) := by decide +kernel
theorem gz_19_56 : mz_pg 19 56 = some (.iaload, 0, 0, 0) := by decide +kernel
theorem gz_19_57 : mz_pg 19 57 = some (.iconst (-1), 0, 0, 0) := by decide +kernel
theorem gz_19_58 : mz_pg 19 58 = some (.if_icmp .eq 25, 0, 0, 0) := by decide +kernel
theorem gz_19_61 : mz_pg 19 61 = some (.aload_n 1, 0, 0, 0) := by decide +kernel
theorem gz_19_62 : mz_pg 19 62 = some (.iload_n 3, 0, 0, 0) := by decide +kernel
theorem gz_19_63 : mz_pg 19 63 = some (.iload 4, 0, 0, 0) := by decide +kernel
theorem gz_19_65 : mz_pg 19 65 = some (.aload_n 0, 0, 0, 0) := by decide +kernel
theorem gz_19_66 : mz_pg 19 66 = some (.getfield 21, 3, 3, 153) := by decide +kernel
theorem gz_19_69 : mz_pg 19 69 = some (.iload_n 2, 0, 0, 0) := by decide +kernel
theorem gz_19_70 : mz_pg 19 70 = some (.iaload, 0, 0, 0) := by decide +kernel
theorem gz_19_71 : mz_pg 19 71 = some (.invokestatic 42, 1, 21, 611) := by decide +kernel
theorem gz_19_74 : mz_pg 19 74 = some (.ifCond .ne 9, 0, 0, 0) := by decide +kernel
theorem gz_19_77 : mz_pg 19 77 = some (.iconst 2, 0, 0, 0) := by decide +kernel
theorem gz_19_78 : mz_pg 19 78 = some (.istore 5, 0, 0, 0) := by decide +kernel
theorem gz_19_80 : mz_pg 19 80 = some (.goto 25, 0, 0, 0) := by decide +kernel
theorem gz_19_83 : mz_pg 19 83 = some (.aload_n 0, 0, 0, 0) := by decide +kernel
theorem gz_19_84 : mz_pg 19 84 = some (.getfield 24, 3, 4, 155) := by decide +kernel
theorem gz_19_87 : mz_pg 19 87 = some (.iload_n 2, 0, 0, 0) := by decide +kernel
theorem gz_19_88 : mz_pg 19 88 = some (.baload, 0, 0, 0) := by decide +kernel
theorem gz_19_89 : mz_pg 19 89 = some (.ifCond .eq 16, 0, 0, 0) := by decide +kernel
theorem gz_19_92 : mz_pg 19 92 = some (.aload_n 1, 0, 0, 0) := by decide +kernel
theorem gz_19_93 : mz_pg 19 93 = some (.iload_n 3, 0, 0, 0) := by decide +kernel
theorem gz_19_94 : mz_pg 19 94 = some (.iload 4, 0, 0, 0) := by decide +kernel
theorem gz_19_96 : mz_pg 19 96 = some (.invokestatic 46, 1, 22, 615) := by decide +kernel
theorem gz_19_99 : mz_pg 19 99 = some (.ifCond .ne 6, 0, 0, 0) := by decide +kernel
theorem gz_19_102 : mz_pg 19 102 = some (.iconst 3, 0, 0, 0) := by decide +kernel
theorem gz_19_103 : mz_pg 19 103 = some (.istore 5, 0, 0, 0) := by decide +kernel
theorem gz_19_105 : mz_pg 19 105 = some (.iload 5, 0, 0, 0) := by decide +kernel
theorem gz_19_107 : mz_pg 19 107 = some (.ifCond .eq 10, 0, 0, 0) := by decide +kernel
theorem gz_19_110 : mz_pg 19 110 = some (.iconst 4, 0, 0, 0) := by decide +kernel
theorem gz_19_111 : mz_pg 19 111 = some (.iload_n 2, 0, 0, 0) := by decide +kernel
theorem gz_19_112 : mz_pg 19 112 = some (.imul, 0, 0, 0) := by decide +kernel
theorem gz_19_113 : mz_pg 19 113 = some (.iload 5, 0, 0, 0) := by decide +kernel
theorem gz_19_115 : mz_pg 19 115 = some (.iadd, 0, 0, 0) := by decide +kernel
theorem gz_19_116 : mz_pg 19 116 = some (.ireturn, 0, 0, 0) := by decide +kernel
theorem gz_19_117 : mz_pg 19 117 = some (.iinc 2 1, 0, 0, 0) := by decide +kernel
theorem gz_19_120 : mz_pg 19 120 = some (.goto (-118), 0, 0, 0) := by decide +kernel
theorem gz_19_123 : mz_pg 19 123 = some (.iconst (-1), 0, 0, 0) := by decide +kernel
theorem gz_19_124 : mz_pg 19 124 = some (.ireturn, 0, 0, 0) := by decide +kernel
theorem gz_20_0 : mz_pg 20 0 = some (.iconst 0, 0, 0, 0) := by decide +kernel
theorem gz_20_1 : mz_pg 20 1 = some (.istore 5, 0, 0, 0) := by decide +kernel
theorem gz_20_3 : mz_pg 20 3 = some (.iconst 0, 0, 0, 0) := by decide +kernel
theorem gz_20_4 : mz_pg 20 4 = some (.istore 6, 0, 0, 0) := by decide +kernel
theorem gz_20_6 : mz_pg 20 6 = some (.iload 6, 0, 0, 0) := by decide +kernel
theorem gz_20_8 : mz_pg 20 8 = some (.bipush 20, 0, 0, 0) := by decide +kernel
theorem gz_20_10 : mz_pg 20 10 = some (.if_icmp .ge 58, 0, 0, 0) := by decide +kernel
theorem gz_20_13 : mz_pg 20 13 = some (.iload_n 1, 0, 0, 0) := by decide +kernel
theorem gz_20_14 : mz_pg 20 14 = some (.iload 6, 0, 0, 0) := by decide +kernel
theorem gz_20_16 : mz_pg 20 16 = some (.invokestatic 18, 2, 17, 4) := by decide +kernel
theorem gz_20_19 : mz_pg 20 19 = some (.istore 7, 0, 0, 0) := by decide +kernel
theorem gz_20_21 : mz_pg 20 21 = some (.aload_n 0, 0, 0, 0) := by decide +kernel
theorem gz_20_22 : mz_pg 20 22 = some (.getfield 9, 6, 0, 176) := by decide +kernel
theorem gz_20_25 : mz_pg 20 25 = some (.iload 7, 0, 0, 0) := by decide +kernel
theorem gz_20_27 : mz_pg 20 27 = some (.iaload, 0, 0, 0) := by decide +kernel
theorem gz_20_28 : mz_pg 20 28 = some (.iconst (-1), 0, 0, 0) := by decide +kernel
theorem gz_20_29 : mz_pg 20 29 = some (.if_icmp .eq 33, 0, 0, 0) := by decide +kernel
theorem gz_20_32 : mz_pg 20 32 = some (.aload_n 0, 0, 0, 0) := by decide +kernel
theorem gz_20_33 : mz_pg 20 33 = some (.getfield 9, 6, 0, 176) := by decide +kernel
theorem gz_20_36 : mz_pg 20 36 = some (.iload 7, 0, 0, 0) := by decide +kernel
theorem gz_20_38 : mz_pg 20 38 = some (.iload_n 2, 0, 0, 0) := by decide +kernel
theorem gz_20_39 : mz_pg 20 39 = some (.iadd, 0, 0, 0) := by decide +kernel
theorem gz_20_40 : mz_pg 20 40 = some (.iaload, 0, 0, 0) := by decide +kernel
theorem gz_20_41 : mz_pg 20 41 = some (.iload_n 3, 0, 0, 0) := by decide +kernel
theorem gz_20_42 : mz_pg 20 42 = some (.if_icmp .lt 17, 0, 0, 0) := by decide +kernel
theorem gz_20_45 : mz_pg 20 45 = some (.aload_n 0, 0, 0, 0) := by decide +kernel
theorem gz_20_46 : mz_pg 20 46 = some (.getfield 9, 6, 0, 176) := by decide +kernel
theorem gz_20_49 : mz_pg 20 49 = some (.iload 7, 0, 0, 0) := by decide +kernel
theorem gz_20_51 : mz_pg 20 51 = some (.iload_n 2, 0, 0, 0) := by decide +kernel
theorem gz_20_52 : mz_pg 20 52 = some (.iadd, 0, 0, 0) := by decide +kernel
theorem gz_20_53 : mz_pg 20 53 = some (.iaload, 0, 0, 0) := by decide +kernel
theorem gz_20_54 : mz_pg 20 54 = some (.iload 4, 0, 0, 0) := by decide +kernel
theorem gz_20_56 : mz_pg 20 56 = some (.if_icmp .le 6, 0, 0, 0) := by decide +kernel
theorem gz_20_59 : mz_pg 20 59 = some (.iinc 5 1, 0, 0, 0) := by decide +kernel
theorem gz_20_62 : mz_pg 20 62 = some (.iinc 6 1, 0, 0, 0) := by decide +kernel
theorem gz_20_65 : mz_pg 20 65 = some (.goto (-59), 0, 0, 0) := by decide +kernel
theorem gz_20_68 : mz_pg 20 68 = some (.iload 5, 0, 0, 0) := by decide +kernel
theorem gz_20_70 : mz_pg 20 70 = some (.ireturn, 0, 0, 0) := by decide +kernel
theorem gz_21_0 : mz_pg 21 0 = some (.iconst 0, 0, 0, 0) := by decide +kernel
theorem gz_21_1 : mz_pg 21 1 = some (.istore 4, 0, 0, 0) := by decide +kernel
theorem gz_21_3 : mz_pg 21 3 = some (.iload 4, 0, 0, 0) := by decide +kernel
theorem gz_21_5 : mz_pg 21 5 = some (.bipush 20, 0, 0, 0) := by decide +kernel
theorem gz_21_7 : mz_pg 21 7 = some (.if_icmp .ge 47, 0, 0, 0) := by decide +kernel
theorem gz_21_10 : mz_pg 21 10 = some (.iload_n 1, 0, 0, 0) := by decide +kernel
theorem gz_21_11 : mz_pg 21 11 = some (.iload 4, 0, 0, 0) := by decide +kernel
theorem gz_21_13 : mz_pg 21 13 = some (.invokestatic 62, 2, 17, 5) := by decide +kernel
theorem gz_21_16 : mz_pg 21 16 = some (.istore 5, 0, 0, 0) := by decide +kernel
theorem gz_21_18 : mz_pg 21 18 = some (.aload_n 0, 0, 0, 0) := by decide +kernel
theorem gz_21_19 : mz_pg 21 19 = some (.getfield 65, 6, 0, 179) := by decide +kernel
theorem gz_21_22 : mz_pg 21 22 = some (.iload 5, 0, 0, 0) := by decide +kernel
theorem gz_21_24 : mz_pg 21 24 = some (.iaload, 0, 0, 0) := by decide +kernel
theorem gz_21_25 : mz_pg 21 25 = some (.iconst (-1), 0, 0, 0) := by decide +kernel
theorem gz_21_26 : mz_pg 21 26 = some (.if_icmp .eq 22, 0, 0, 0) := by decide +kernel
theorem gz_21_29 : mz_pg 21 29 = some (.aload_n 0, 0, 0, 0) := by decide +kernel
theorem gz_21_30 : mz_pg 21 30 = some (.iload_n 3, 0, 0, 0) := by decide +kernel
theorem gz_21_31 : mz_pg 21 31 = some (.aload_n 0, 0, 0, 0) := by decide +kernel
theorem gz_21_32 : mz_pg 21 32 = some (.getfield 65, 6, 0, 179) := by decide +kernel
theorem gz_21_35 : mz_pg 21 35 = some (.iload 5, 0, 0, 0) := by decide +kernel
theorem gz_21_37 : mz_pg 21 37 = some (.iload_n 2, 0, 0, 0) := by decide +kernel
theorem gz_21_38 : mz_pg 21 38 = some (.iadd, 0, 0, 0) := by decide +kernel
theorem gz_21_39 : mz_pg 21 39 = some (.iaload, 0, 0, 0) := by decide +kernel
theorem gz_21_40 : mz_pg 21 40 = some (.invokevirtual 54, 1, 15, 614) := by decide +kernel
theorem gz_21_43 : mz_pg 21 43 = some (.ifCond .ne 5, 0, 0, 0) := by decide +kernel
theorem gz_21_46 : mz_pg 21 46 = some (.iconst 0, 0, 0, 0) := by decide +kernel
theorem gz_21_47 : mz_pg 21 47 = some (.ireturn, 0, 0, 0) := by decide +kernel
theorem gz_21_48 : mz_pg 21 48 = some (.iinc 4 1, 0, 0, 0) := by decide +kernel
theorem gz_21_51 : mz_pg 21 51 = some (.goto (-48), 0, 0, 0) := by decide +kernel
theorem gz_21_54 : mz_pg 21 54 = some (.iconst 1, 0, 0, 0) := by decide +kernel
theorem gz_21_55 : mz_pg 21 55 = some (.ireturn, 0, 0, 0) := by decide +kernel
theorem gz_22_0 : mz_pg 22 0 = some (.iconst 0, 0, 0, 0) := by decide +kernel
theorem gz_22_1 : mz_pg 22 1 = some (.istore_n 3, 0, 0, 0) := by decide +kernel
theorem gz_22_2 : mz_pg 22 2 = some (.iconst 0, 0, 0, 0) := by decide +kernel
theorem gz_22_3 : mz_pg 22 3 = some (.istore 4, 0, 0, 0) := by decide +kernel
theorem gz_22_5 : mz_pg 22 5 = some (.iload 4, 0, 0, 0) := by decide +kernel
theorem gz_22_7 : mz_pg 22 7 = some (.bipush 20, 0, 0, 0) := by decide +kernel
theorem gz_22_9 : mz_pg 22 9 = some (.if_icmp .ge 55, 0, 0, 0) := by decide +kernel
theorem gz_22_12 : mz_pg 22 12 = some (.iload_n 1, 0, 0, 0) := by decide +kernel
theorem gz_22_13 : mz_pg 22 13 = some (.iload 4, 0, 0, 0) := by decide +kernel
theorem gz_22_15 : mz_pg 22 15 = some (.invokestatic 62, 2, 17, 5) := by decide +kernel
theorem gz_22_18 : mz_pg 22 18 = some (.istore 5, 0, 0, 0) := by decide +kernel
theorem gz_22_20 : mz_pg 22 20 = some (.aload_n 0, 0, 0, 0) := by decide +kernel
theorem gz_22_21 : mz_pg 22 21 = some (.getfield 65, 6, 0, 179) := by decide +kernel
theorem gz_22_24 : mz_pg 22 24 = some (.iload 5, 0, 0, 0) := by decide +kernel
theorem gz_22_26 : mz_pg 22 26 = some (.iaload, 0, 0, 0) := by decide +kernel
theorem gz_22_27 : mz_pg 22 27 = some (.iconst (-1), 0, 0, 0) := by decide +kernel
theorem gz_22_28 : mz_pg 22 28 = some (.if_icmp .eq 30, 0, 0, 0) := by decide +kernel
theorem gz_22_31 : mz_pg 22 31 = some (.iconst 1, 0, 0, 0) := by decide +kernel
theorem gz_22_32 : mz_pg 22 32 = some (.aload_n 0, 0, 0, 0) := by decide +kernel
theorem gz_22_33 : mz_pg 22 33 = some (.getfield 65, 6, 0, 179) := by decide +kernel
theorem gz_22_36 : mz_pg 22 36 = some (.iload 5, 0, 0, 0) := by decide +kernel
theorem gz_22_38 : mz_pg 22 38 = some (.iload_n 2, 0, 0, 0) := by decide +kernel
theorem gz_22_39 : mz_pg 22 39 = some (.iadd, 0, 0, 0) := by decide +kernel
theorem gz_22_40 : mz_pg 22 40 = some (.iaload, 0, 0, 0) := by decide +kernel
theorem gz_22_41 : mz_pg 22 41 = some (.ishl, 0, 0, 0) := by decide +kernel
theorem gz_22_42 : mz_pg 22 42 = some (.istore 6, 0, 0, 0) := by decide +kernel
theorem gz_22_44 : mz_pg 22 44 = some (.iload_n 3, 0, 0, 0) := by decide +kernel
theorem gz_22_45 : mz_pg 22 45 = some (.iload 6, 0, 0, 0) := by decide +kernel
theorem gz_22_47 : mz_pg 22 47 = some (.iand, 0, 0, 0) := by decide +kernel
theorem gz_22_48 : mz_pg 22 48 = some (.ifCond .eq 5, 0, 0, 0) := by decide +kernel
theorem gz_22_51 : mz_pg 22 51 = some (.iconst 0, 0, 0, 0) := by decide +kernel
theorem gz_22_52 : mz_pg 22 52 = some (.ireturn, 0, 0, 0) := by decide +kernel
theorem gz_22_53 : mz_pg 22 53 = some (.iload_n 3, 0, 0, 0) := by decide +kernel
theorem gz_22_54 : mz_pg 22 54 = some (.iload 6, 0, 0, 0) := by decide +kernel
theorem gz_22_56 : mz_pg 22 56 = some (.ior, 0, 0, 0) := by decide +kernel
theorem gz_22_57 : mz_pg 22 57 = some (.istore_n 3, 0, 0, 0) := by decide +kernel
theorem gz_22_58 : mz_pg 22 58 = some (.iinc 4 1, 0, 0, 0) := by decide +kernel
theorem gz_22_61 : mz_pg 22 61 = some (.goto (-56), 0, 0, 0) := by decide +kernel
theorem gz_22_64 : mz_pg 22 64 = some (.iconst 1, 0, 0, 0) := by decide +kernel
theorem gz_22_65 : mz_pg 22 65 = some (.ireturn, 0, 0, 0) := by decide +kernel
theorem gz_23_0 : mz_pg 23 0 = some (.iload_n 1, 0, 0, 0) := by decide +kernel
theorem gz_23_1 : mz_pg 23 1 = some (.iload_n 2, 0, 0, 0) := by decide +kernel
theorem gz_23_2 : mz_pg 23 2 = some (.invokestatic 18, 2, 17, 4) := by decide +kernel
theorem gz_23_5 : mz_pg 23 5 = some (.istore_n 3, 0, 0, 0) := by decide +kernel
theorem gz_23_6 : mz_pg 23 6 = some (.aload_n 0, 0, 0, 0) := by decide +kernel
theorem gz_23_7 : mz_pg 23 7 = some (.getfield 9, 6, 0, 176) := by decide +kernel
theorem gz_23_10 : mz_pg 23 10 = some (.iload_n 3, 0, 0, 0) := by decide +kernel
theorem gz_23_11 : mz_pg 23 11 = some (.iconst (-1), 0, 0, 0) := by decide +kernel
theorem gz_23_12 : mz_pg 23 12 = some (.iastore, 0, 0, 0) := by decide +kernel
theorem gz_23_13 : mz_pg 23 13 = some (.iconst 1, 0, 0, 0) := by decide +kernel
theorem gz_23_14 : mz_pg 23 14 = some (.istore 4, 0, 0, 0) := by decide +kernel
theorem gz_23_16 : mz_pg 23 16 = some (.iload 4, 0, 0, 0) := by decide +kernel
theorem gz_23_18 : mz_pg 23 18 = some (.iconst 4, 0, 0, 0) := by decide +kernel
theorem gz_23_19 : mz_pg 23 19 = some (.if_icmp .ge 19, 0, 0, 0) := by decide +kernel
theorem gz_23_22 : mz_pg 23 22 = some (.aload_n 0, 0, 0, 0) := by decide +kernel
theorem gz_23_23 : mz_pg 23 23 = some (.getfield 9, 6, 0, 176) := by decide +kernel
theorem gz_23_26 : mz_pg 23 26 = some (.iload_n 3, 0, 0, 0) := by decide +kernel
theorem gz_23_27 : mz_pg 23 27 = some (.iload 4, 0, 0, 0) := by decide +kernel
theorem gz_23_29 : mz_pg 23 29 = some (.iadd, 0, 0, 0) := by decide +kernel
theorem gz_23_30 : mz_pg 23 30 = some (.iconst 0, 0, 0, 0) := by decide +kernel
theorem gz_23_31 : mz_pg 23 31 = some (.iastore, 0, 0, 0) := by decide +kernel
theorem gz_23_32 : mz_pg 23 32 = some (.iinc 4 1, 0, 0, 0) := by decide +kernel
theorem gz_23_35 : mz_pg 23 35 = some (.goto (-19), 0, 0, 0) := by decide +kernel
theorem gz_23_38 : mz_pg 23 38 = some (.aload_n 0, 0, 0, 0) := by decide +kernel
theorem gz_23_39 : mz_pg 23 39 = some (.getfield 15, 6, 1, 182) := by decide +kernel
theorem gz_23_42 : mz_pg 23 42 = some (.iload_n 1, 0, 0, 0) := by decide +kernel
theorem gz_23_43 : mz_pg 23 43 = some (.dup2, 0, 0, 0) := by decide +kernel
theorem gz_23_44 : mz_pg 23 44 = some (.iaload, 0, 0, 0) := by decide +kernel
theorem gz_23_45 : mz_pg 23 45 = some (.iconst 1, 0, 0, 0) := by decide +kernel
theorem gz_23_46 : mz_pg 23 46 = some (.isub, 0, 0, 0) := by decide +kernel
theorem gz_23_47 : mz_pg 23 47 = some (.iastore, 0, 0, 0) := by decide +kernel
theorem gz_23_48 : mz_pg 23 48 = some (.return_, 0, 0, 0) := by decide +kernel
theorem gz_24_0 : mz_pg 24 0 = some (.aload_n 0, 0, 0, 0) := by decide +kernel
theorem gz_24_1 : mz_pg 24 1 = some (.getfield 10, 9, 0, 528) := by decide +kernel
theorem gz_24_4 : mz_pg 24 4 = some (.iload_n 1, 0, 0, 0) := by decide +kernel
theorem gz_24_5 : mz_pg 24 5 = some (.invokevirtual 88, 1, 13, 578) := by decide +kernel
theorem gz_24_8 : mz_pg 24 8 = some (.ifCond .eq 15, 0, 0, 0) := by decide +kernel
theorem gz_24_11 : mz_pg 24 11 = some (.aload_n 0, 0, 0, 0) := by decide +kernel
theorem gz_24_12 : mz_pg 24 12 = some (.getfield 19, 9, 1, 529) := by decide +kernel
theorem gz_24_15 : mz_pg 24 15 = some (.iload_n 1, 0, 0, 0) := by decide +kernel
theorem gz_24_16 : mz_pg 24 16 = some (.iload_n 2, 0, 0, 0) := by decide +kernel
theorem gz_24_17 : mz_pg 24 17 = some (.invokevirtual 98, 1, 15, 586) := by decide +kernel
theorem gz_24_20 : mz_pg 24 20 = some (.ifCond .ne 5, 0, 0, 0) := by decide +kernel
theorem gz_24_23 : mz_pg 24 23 = some (.iconst 0, 0, 0, 0) := by decide +kernel
theorem gz_24_24 : mz_pg 24 24 = some (.ireturn, 0, 0, 0) := by decide +kernel
theorem gz_24_25 : mz_pg 24 25 = some (.aload_n 0, 0, 0, 0) := by decide +kernel
theorem gz_24_26 : mz_pg 24 26 = some (.getfield 82, 9, 13, 541) := by decide +kernel
theorem gz_24_29 : mz_pg 24 29 = some (.aload_n 0, 0, 0, 0) := by decide +kernel
theorem gz_24_30 : mz_pg 24 30 = some (.getfield 19, 9, 1, 529) := by decide +kernel
theorem gz_24_33 : mz_pg 24 33 = some (.invokevirtual 114, 1, 25, 626) := by decide +kernel
theorem gz_24_36 : mz_pg 24 36 = some (.aload_n 0, 0, 0, 0) := by decide +kernel
theorem gz_24_37 : mz_pg 24 37 = some (.getfield 82, 9, 13, 541) := by decide +kernel
theorem gz_24_40 : mz_pg 24 40 = some (.iload_n 1, 0, 0, 0) := by decide +kernel
theorem gz_24_41 : mz_pg 24 41 = some (.iload_n 2, 0, 0, 0) := by decide +kernel
theorem gz_24_42 : mz_pg 24 42 = some (.invokevirtual 110, 1, 23, 618) := by decide +kernel
theorem gz_24_45 : mz_pg 24 45 = some (.aload_n 0, 0, 0, 0) := by decide +kernel
theorem gz_24_46 : mz_pg 24 46 = some (.getfield 10, 9, 0, 528) := by decide +kernel
theorem gz_24_49 : mz_pg 24 49 = some (.aload_n 0, 0, 0, 0) := by decide +kernel
theorem gz_24_50 : mz_pg 24 50 = some (.getfield 82, 9, 13, 541) := by decide +kernel
theorem gz_24_53 : mz_pg 24 53 = some (.invokevirtual 106, 1, 18, 599) := by decide +kernel
theorem gz_24_56 : mz_pg 24 56 = some (.ifCond .ne 5, 0, 0, 0) := by decide +kernel
theorem gz_24_59 : mz_pg 24 59 = some (.iconst 0, 0, 0, 0) := by decide +kernel
theorem gz_24_60 : mz_pg 24 60 = some (.ireturn, 0, 0, 0) := by decide +kernel
theorem gz_24_61 : mz_pg 24 61 = some (.aload_n 0, 0, 0, 0) := by decide +kernel
theorem gz_24_62 : mz_pg 24 62 = some (.getfield 19, 9, 1, 529) := by decide +kernel
theorem gz_24_65 : mz_pg 24 65 = some (.aload_n 0, 0, 0, 0) := by decide +kernel
theorem gz_24_66 : mz_pg 24 66 = some (.getfield 82, 9, 13, 541) := by decide +kernel
theorem gz_24_69 : mz_pg 24 69 = some (.invokevirtual 114, 1, 25, 626) := by decide +kernel
theorem gz_24_72 : mz_pg 24 72 = some (.iconst 1, 0, 0, 0) := by decide +kernel
theorem gz_24_73 : mz_pg 24 73 = some (.ireturn, 0, 0, 0) := by decide +kernel
theorem gz_25_0 : mz_pg 25 0 = some (.aload_n 1, 0, 0, 0) := by decide +kernel
theorem gz_25_1 : mz_pg 25 1 = some (.getfield 9, 6, 0, 176) := by decide +kernel
theorem gz_25_4 : mz_pg 25 4 = some (.iconst 0, 0, 0, 0) := by decide +kernel
theorem gz_25_5 : mz_pg 25 5 = some (.aload_n 0, 0, 0, 0) := by decide +kernel
theorem gz_25_6 : mz_pg 25 6 = some (.getfield 9, 6, 0, 176) := by decide +kernel
theorem gz_25_9 : mz_pg 25 9 = some (.iconst 0, 0, 0, 0) := by decide +kernel
theorem gz_25_10 : mz_pg 25 10 = some (.aload_n 0, 0, 0, 0) := by decide +kernel
theorem gz_25_11 : mz_pg 25 11 = some (.getfield 9, 6, 0, 176) := by decide +kernel
theorem gz_25_14 : mz_pg 25 14 = some (.arraylength, 0, 0, 0) := by decide +kernel
theorem gz_25_15 : mz_pg 25 15 = some (.invokestatic 22, 0, 0, 596) := by decide +kernel
theorem gz_25_18 : mz_pg 25 18 = some (.aload_n 1, 0, 0, 0) := by decide +kernel
theorem gz_25_19 : mz_pg 25 19 = some (.getfield 15, 6, 1, 182) := by decide +kernel
theorem gz_25_22 : mz_pg 25 22 = some (.iconst 0, 0, 0, 0) := by decide +kernel
theorem gz_25_23 : mz_pg 25 23 = some (.aload_n 0, 0, 0, 0) := by decide +kernel
theorem gz_25_24 : mz_pg 25 24 = some (.getfield 15, 6, 1, 182) := by decide +kernel
theorem gz_25_27 : mz_pg 25 27 = some (.iconst 0, 0, 0, 0) := by decide +kernel
theorem gz_25_28 : mz_pg 25 28 = some (.aload_n 0, 0, 0, 0) := by decide +kernel
theorem gz_25_29 : mz_pg 25 29 = some (.getfield 15, 6, 1, 182) := by decide +kernel
theorem gz_25_32 : mz_pg 25 32 = some (.arraylength, 0, 0, 0) := by decide +kernel
theorem gz_25_33 : mz_pg 25 33 = some (.invokestatic 22, 0, 0, 596) := by decide +kernel
theorem gz_25_36 : mz_pg 25 36 = some (.return_, 0, 0, 0) := by decide +kernel
theorem gz_26_0 : mz_pg 26 0 = some (.aload_n 0, 0, 0, 0) := by decide +kernel
theorem gz_26_1 : mz_pg 26 1 = some (.getfield 10, 9, 0, 528) := by decide +kernel
theorem gz_26_4 : mz_pg 26 4 = some (.iload_n 1, 0, 0, 0) := by decide +kernel
theorem gz_26_5 : mz_pg 26 5 = some (.iload_n 2, 0, 0, 0) := by decide +kernel
theorem gz_26_6 : mz_pg 26 6 = some (.invokevirtual 118, 1, 27, 634) := by decide +kernel
theorem gz_26_9 : mz_pg 26 9 = some (.ifCond .eq 27, 0, 0, 0) := by decide +kernel
theorem gz_26_12 : mz_pg 26 12 = some (.iload_n 3, 0, 0, 0) := by decide +kernel
theorem gz_26_13 : mz_pg 26 13 = some (.iload 4, 0, 0, 0) := by decide +kernel
theorem gz_26_15 : mz_pg 26 15 = some (.invokestatic 119, 1, 28, 639) := by decide +kernel
theorem gz_26_18 : mz_pg 26 18 = some (.ifCond .eq 18, 0, 0, 0) := by decide +kernel
theorem gz_26_21 : mz_pg 26 21 = some (.aload_n 0, 0, 0, 0) := by decide +kernel
theorem gz_26_22 : mz_pg 26 22 = some (.getfield 19, 9, 1, 529) := by decide +kernel
theorem gz_26_25 : mz_pg 26 25 = some (.iload_n 1, 0, 0, 0) := by decide +kernel
theorem gz_26_26 : mz_pg 26 26 = some (.iload_n 2, 0, 0, 0) := by decide +kernel
theorem gz_26_27 : mz_pg 26 27 = some (.iload_n 3, 0, 0, 0) := by decide +kernel
theorem gz_26_28 : mz_pg 26 28 = some (.iload 4, 0, 0, 0) := by decide +kernel
theorem gz_26_30 : mz_pg 26 30 = some (.invokevirtual 122, 1, 20, 642) := by decide +kernel
theorem gz_26_33 : mz_pg 26 33 = some (.ifCond .le 5, 0, 0, 0) := by decide +kernel
theorem gz_26_36 : mz_pg 26 36 = some (.iconst 0, 0, 0, 0) := by decide +kernel
theorem gz_26_37 : mz_pg 26 37 = some (.ireturn, 0, 0, 0) := by decide +kernel
theorem gz_26_38 : mz_pg 26 38 = some (.aload_n 0, 0, 0, 0) := by decide +kernel
theorem gz_26_39 : mz_pg 26 39 = some (.getfield 10, 9, 0, 528) := by decide +kernel
theorem gz_26_42 : mz_pg 26 42 = some (.getfield 126, 3, 1, 150) := by decide +kernel
theorem gz_26_45 : mz_pg 26 45 = some (.iload_n 1, 0, 0, 0) := by decide +kernel
theorem gz_26_46 : mz_pg 26 46 = some (.iload_n 2, 0, 0, 0) := by decide +kernel
theorem gz_26_47 : mz_pg 26 47 = some (.invokestatic 129, 1, 29, 643) := by decide +kernel
theorem gz_26_50 : mz_pg 26 50 = some (.iload_n 3, 0, 0, 0) := by decide +kernel
theorem gz_26_51 : mz_pg 26 51 = some (.iastore, 0, 0, 0) := by decide +kernel
theorem gz_26_52 : mz_pg 26 52 = some (.aload_n 0, 0, 0, 0) := by decide +kernel
theorem gz_26_53 : mz_pg 26 53 = some (.getfield 10, 9, 0, 528) := by decide +kernel
theorem gz_26_56 : mz_pg 26 56 = some (.getfield 133, 3, 2, 152) := by decide +kernel
theorem gz_26_59 : mz_pg 26 59 = some (.iload_n 1, 0, 0, 0) := by decide +kernel
theorem gz_26_60 : mz_pg 26 60 = some (.iload_n 2, 0, 0, 0) := by decide +kernel
theorem gz_26_61 : mz_pg 26 61 = some (.invokestatic 129, 1, 29, 643) := by decide +kernel
theorem gz_26_64 : mz_pg 26 64 = some (.iload 4, 0, 0, 0) := by decide +kernel
theorem gz_26_66 : mz_pg 26 66 = some (.iastore, 0, 0, 0) := by decide +kernel
theorem gz_26_67 : mz_pg 26 67 = some (.iconst 1, 0, 0, 0) := by decide +kernel
theorem gz_26_68 : mz_pg 26 68 = some (.ireturn, 0, 0, 0) := by decide +kernel
theorem gz_27_0 : mz_pg 27 0 = some (.aload_n 0, 0, 0, 0) := by decide +kernel
theorem gz_27_1 : mz_pg 27 1 = some (.iload_n 1, 0, 0, 0) := by decide +kernel
theorem gz_27_2 : mz_pg 27 2 = some (.invokevirtual 28, 1, 13, 638) := by decide +kernel
theorem gz_27_5 : mz_pg 27 5 = some (.ifCond .eq 21, 0, 0, 0) := by decide +kernel
theorem gz_27_8 : mz_pg 27 8 = some (.iload_n 2, 0, 0, 0) := by decide +kernel
theorem gz_27_9 : mz_pg 27 9 = some (.ifCond .lt 17, 0, 0, 0) := by decide +kernel
theorem gz_27_12 : mz_pg 27 12 = some (.iload_n 2, 0, 0, 0) := by decide +kernel
theorem gz_27_13 : mz_pg 27 13 = some (.aload_n 0, 0, 0, 0) := by decide +kernel
theorem gz_27_14 : mz_pg 27 14 = some (.getfield 9, 3, 0, 144) := by decide +kernel
theorem gz_27_17 : mz_pg 27 17 = some (.iload_n 1, 0, 0, 0) := by decide +kernel
theorem gz_27_18 : mz_pg 27 18 = some (.iaload, 0, 0, 0) := by decide +kernel
theorem gz_27_19 : mz_pg 27 19 = some (.if_icmp .ge 7, 0, 0, 0) := by decide +kernel
theorem gz_27_22 : mz_pg 27 22 = some (.iconst 1, 0, 0, 0) := by decide +kernel
theorem gz_27_23 : mz_pg 27 23 = some (.goto 4, 0, 0, 0) := by decide +kernel
theorem gz_27_26 : mz_pg 27 26 = some (.iconst 0, 0, 0, 0) := by decide +kernel
theorem gz_27_27 : mz_pg 27 27 = some (.ireturn, 0, 0, 0) := by decide +kernel
theorem gz_28_0 : mz_pg 28 0 = some (.iload_n 0, 0, 0, 0) := by decide +kernel
theorem gz_28_1 : mz_pg 28 1 = some (.ifCond .lt 18, 0, 0, 0) := by decide +kernel
theorem gz_28_4 : mz_pg 28 4 = some (.iload_n 0, 0, 0, 0) := by decide +kernel
theorem gz_28_5 : mz_pg 28 5 = some (.iload_n 1, 0, 0, 0) := by decide +kernel
theorem gz_28_6 : mz_pg 28 6 = some (.if_icmp .gt 13, 0, 0, 0) := by decide +kernel
theorem gz_28_9 : mz_pg 28 9 = some (.iload_n 1, 0, 0, 0) := by decide +kernel
theorem gz_28_10 : mz_pg 28 10 = some (.bipush 20, 0, 0, 0) := by decide +kernel
theorem gz_28_12 : mz_pg 28 12 = some (.if_icmp .ge 7, 0, 0, 0) := by decide +kernel
theorem gz_28_15 : mz_pg 28 15 = some (.iconst 1, 0, 0, 0) := by decide +kernel
theorem gz_28_16 : mz_pg 28 16 = some (.goto 4, 0, 0, 0) := by decide +kernel
theorem gz_28_19 : mz_pg 28 19 = some (.iconst 0, 0, 0, 0) := by decide +kernel
theorem gz_28_20 : mz_pg 28 20 = some (.ireturn, 0, 0, 0) := by decide +kernel
theorem gz_29_0 : mz_pg 29 0 = some (.iload_n 0, 0, 0, 0) := by decide +kernel
theorem gz_29_1 : mz_pg 29 1 = some (.iconst 4, 0, 0, 0) := by decide +kernel
theorem gz_29_2 : mz_pg 29 2 = some (.imul, 0, 0, 0) := by decide +kernel
theorem gz_29_3 : mz_pg 29 3 = some (.iload_n 1, 0, 0, 0) := by decide +kernel
theorem gz_29_4 : mz_pg 29 4 = some (.iadd, 0, 0, 0) := by decide +kernel
theorem gz_29_5 : mz_pg 29 5 = some (.ireturn, 0, 0, 0) := by decide +kernel
theorem gz_30_0 : mz_pg 30 0 = some (.aload_n 0, 0, 0, 0) := by decide +kernel
theorem gz_30_1 : mz_pg 30 1 = some (.getfield 10, 9, 0, 528) := by decide +kernel
theorem gz_30_4 : mz_pg 30 4 = some (.iload_n 1, 0, 0, 0) := by decide +kernel
theorem gz_30_5 : mz_pg 30 5 = some (.iload_n 2, 0, 0, 0) := by decide +kernel
theorem gz_30_6 : mz_pg 30 6 = some (.invokevirtual 118, 1, 27, 634) := by decide +kernel
theorem gz_30_9 : mz_pg 30 9 = some (.ifCond .eq 12, 0, 0, 0) := by decide +kernel
theorem gz_30_12 : mz_pg 30 12 = some (.iload_n 2, 0, 0, 0) := by decide +kernel
theorem gz_30_13 : mz_pg 30 13 = some (.ifCond .eq 8, 0, 0, 0) := by decide +kernel
theorem gz_30_16 : mz_pg 30 16 = some (.iload_n 3, 0, 0, 0) := by decide +kernel
theorem gz_30_17 : mz_pg 30 17 = some (.iload_n 1, 0, 0, 0) := by decide +kernel
theorem gz_30_18 : mz_pg 30 18 = some (.if_icmp .ne 5, 0, 0, 0) := by decide +kernel
theorem gz_30_21 : mz_pg 30 21 = some (.iconst 0, 0, 0, 0) := by decide +kernel
theorem gz_30_22 : mz_pg 30 22 = some (.ireturn, 0, 0, 0) := by decide +kernel
theorem gz_30_23 : mz_pg 30 23 = some (.iload_n 3, 0, 0, 0) := by decide +kernel
theorem gz_30_24 : mz_pg 30 24 = some (.iconst (-1), 0, 0, 0) := by decide +kernel
theorem gz_30_25 : mz_pg 30 25 = some (.if_icmp .eq 16, 0, 0, 0) := by decide +kernel
theorem gz_30_28 : mz_pg 30 28 = some (.aload_n 0, 0, 0, 0) := by decide +kernel
theorem gz_30_29 : mz_pg 30 29 = some (.getfield 10, 9, 0, 528) := by decide +kernel
theorem gz_30_32 : mz_pg 30 32 = some (.iload_n 3, 0, 0, 0) := by decide +kernel
theorem gz_30_33 : mz_pg 30 33 = some (.invokevirtual 88, 1, 13, 578) := by decide +kernel
theorem gz_30_36 : mz_pg 30 36 = some (.ifCond .ne 5, 0, 0, 0) := by decide +kernel
theorem gz_30_39 : mz_pg 30 39 = some (.iconst 0, 0, 0, 0) := by decide +kernel
theorem gz_30_40 : mz_pg 30 40 = some (.ireturn, 0, 0, 0) := by decide +kernel
theorem gz_30_41 : mz_pg 30 41 = some (.iload_n 1, 0, 0, 0) := by decide +kernel
theorem gz_30_42 : mz_pg 30 42 = some (.iload_n 2, 0, 0, 0) := by decide +kernel
theorem gz_30_43 : mz_pg 30 43 = some (.invokestatic 129, 1, 29, 643) := by decide +kernel
theorem gz_30_46 : mz_pg 30 46 = some (.istore 4, 0, 0, 0) := by decide +kernel
theorem gz_30_48 : mz_pg 30 48 = some (.aload_n 0, 0, 0, 0) := by decide +kernel
theorem gz_30_49 : mz_pg 30 49 = some (.getfield 10, 9, 0, 528) := by decide +kernel
theorem gz_30_52 : mz_pg 30 52 = some (.getfield 136, 3, 3, 154) := by decide +kernel
theorem gz_30_55 : mz_pg 30 55 = some (.iload 4, 0, 0, 0) := by decide +kernel
theorem gz_30_57 : mz_pg 30 57 = some (.iaload, 0, 0, 0) := by decide +kernel
theorem gz_30_58 : mz_pg 30 58 = some (.istore 5, 0, 0, 0) := by decide +kernel
theorem gz_30_60 : mz_pg 30 60 = some (.aload_n 0, 0, 0, 0) := by decide +kernel
theorem gz_30_61 : mz_pg 30 61 = some (.getfield 10, 9, 0, 528) := by decide +kernel
theorem gz_30_64 : mz_pg 30 64 = some (.getfield 136, 3, 3, 154) := by decide +kernel
theorem gz_30_67 : mz_pg 30 67 = some (.iload 4, 0, 0, 0) := by decide +kernel
theorem gz_30_69 : mz_pg 30 69 = some (.iload_n 3, 0, 0, 0) := by decide +kernel
theorem gz_30_70 : mz_pg 30 70 = some (.iastore, 0, 0, 0) := by decide +kernel
theorem gz_30_71 : mz_pg 30 71 = some (.aload_n 0, 0, 0, 0) := by decide +kernel
theorem gz_30_72 : mz_pg 30 72 = some (.getfield 10, 9, 0, 528) := by decide +kernel
theorem gz_30_75 : mz_pg 30 75 = some (.aload_n 0, 0, 0, 0) := by decide +kernel
theorem gz_30_76 : mz_pg 30 76 = some (.getfield 19, 9, 1, 529) := by decide +kernel
theorem gz_30_79 : mz_pg 30 79 = some (.invokevirtual 106, 1, 18, 599) := by decide +kernel
theorem gz_30_82 : mz_pg 30 82 = some (.ifCond .eq 5, 0, 0, 0) := by decide +kernel
theorem gz_30_85 : mz_pg 30 85 = some (.iconst 1, 0, 0, 0) := by decide +kernel
theorem gz_30_86 : mz_pg 30 86 = some (.ireturn, 0, 0, 0) := by decide +kernel
theorem gz_30_87 : mz_pg 30 87 = some (.aload_n 0, 0, 0, 0) := by decide +kernel
theorem gz_30_88 : mz_pg 30 88 = some (.getfield 10, 9, 0, 528) := by decide +kernel
theorem gz_30_91 : mz_pg 30 91 = some (.getfield 136, 3, 3, 154) := by decide +kernel
theorem gz_30_94 : mz_pg 30 94 = some (.iload 4, 0, 0, 0) := by decide +kernel
theorem gz_30_96 : mz_pg 30 96 = some (.iload 5, 0, 0, 0) := by decide +kernel
theorem gz_30_98 : mz_pg 30 98 = some (.iastore, 0, 0, 0) := by decide +kernel
theorem gz_30_99 : mz_pg 30 99 = some (.iconst 0, 0, 0, 0) := by decide +kernel
theorem gz_30_100 : mz_pg 30 100 = some (.ireturn, 0, 0, 0) := by decide +kernel
theorem gz_31_0 : mz_pg 31 0 = some (.aload_n 0, 0, 0, 0) := by decide +kernel
theorem gz_31_1 : mz_pg 31 1 = some (.getfield 10, 9, 0, 528) := by decide +kernel
theorem gz_31_4 : mz_pg 31 4 = some (.iload_n 1, 0, 0, 0) := by decide +kernel
theorem gz_31_5 : mz_pg 31 5 = some (.iload_n 2, 0, 0, 0) := by decide +kernel
theorem gz_31_6 : mz_pg 31 6 = some (.invokevirtual 118, 1, 27, 634) := by decide +kernel
theorem gz_31_9 : mz_pg 31 9 = some (.ifCond .eq 7, 0, 0, 0) := by decide +kernel
theorem gz_31_12 : mz_pg 31 12 = some (.iload_n 2, 0, 0, 0) := by decide +kernel
theorem gz_31_13 : mz_pg 31 13 = some (.ifCond .ne 5, 0, 0, 0) := by decide +kernel
theorem gz_31_16 : mz_pg 31 16 = some (.iconst 0, 0, 0, 0) := by decide +kernel
theorem gz_31_17 : mz_pg 31 17 = some (.ireturn, 0, 0, 0) := by decide +kernel
theorem gz_31_18 : mz_pg 31 18 = some (.iload_n 1, 0, 0, 0) := by decide +kernel
theorem gz_31_19 : mz_pg 31 19 = some (.iload_n 2, 0, 0, 0) := by decide +kernel
theorem gz_31_20 : mz_pg 31 20 = some (.invokestatic 129, 1, 29, 643) := by decide +kernel
theorem gz_31_23 : mz_pg 31 23 = some (.istore 4, 0, 0, 0) := by decide +kernel
theorem gz_31_25 : mz_pg 31 25 = some (.aload_n 0, 0, 0, 0) := by decide +kernel
theorem gz_31_26 : mz_pg 31 26 = some (.getfield 10, 9, 0, 528) := by decide +kernel
theorem gz_31_29 : mz_pg 31 29 = some (.getfield 139, 3, 4, 156) := by decide +kernel
theorem gz_31_32 : mz_pg 31 32 = some (.iload 4, 0, 0, 0) := by decide +kernel
theorem gz_31_34 : mz_pg 31 34 = some (.baload, 0, 0, 0) := by decide +kernel
theorem gz_31_35 : mz_pg 31 35 = some (.istore 5, 0, 0, 0) := by decide +kernel
theorem gz_31_37 : mz_pg 31 37 = some (.aload_n 0, 0, 0, 0) := by decide +kernel
theorem gz_31_38 : mz_pg 31 38 = some (.getfield 10, 9, 0, 528) := by decide +kernel
theorem gz_31_41 : mz_pg 31 41 = some (.getfield 139, 3, 4, 156) := by decide +kernel
theorem gz_31_44 : mz_pg 31 44 = some (.iload 4, 0, 0, 0) := by decide +kernel
theorem gz_31_46 : mz_pg 31 46 = some (.iload_n 3, 0, 0, 0) := by decide +kernel
theorem gz_31_47 : mz_pg 31 47 = some (.bastore, 0, 0, 0) := by decide +kernel
theorem gz_31_48 : mz_pg 31 48 = some (.aload_n 0, 0, 0, 0) := by decide +kernel
theorem gz_31_49 : mz_pg 31 49 = some (.getfield 10, 9, 0, 528) := by decide +kernel
theorem gz_31_52 : mz_pg 31 52 = some (.aload_n 0, 0, 0, 0) := by decide +kernel
theorem gz_31_53 : mz_pg 31 53 = some (.getfield 19, 9, 1, 529) := by decide +kernel
theorem gz_31_56 : mz_pg 31 56 = some (.invokevirtual 106, 1, 18, 599) := by decide +kernel
theorem gz_31_59 : mz_pg 31 59 = some (.ifCond .eq 5, 0, 0, 0) := by decide +kernel
theorem gz_31_62 : mz_pg 31 62 = some (.iconst 1, 0, 0, 0) := by decide +kernel
theorem gz_31_63 : mz_pg 31 63 = some (.ireturn, 0, 0, 0) := by decide +kernel
theorem gz_31_64 : mz_pg 31 64 = some (.aload_n 0, 0, 0, 0) := by decide +kernel
theorem gz_31_65 : mz_pg 31 65 = some (.getfield 10, 9, 0, 528) := by decide +kernel
theorem gz_31_68 : mz_pg 31 68 = some (.getfield 139, 3, 4, 156) := by decide +kernel
theorem gz_31_71 : mz_pg 31 71 = some (.iload 4, 0, 0, 0) := by decide +kernel
theorem gz_31_73 : mz_pg 31 73 = some (.iload 5, 0, 0, 0) := by decide +kernel
theorem gz_31_75 : mz_pg 31 75 = some (.bastore, 0, 0, 0) := by decide +kernel
theorem gz_31_76 : mz_pg 31 76 = some (.iconst 0, 0, 0, 0) := by decide +kernel
theorem gz_31_77 : mz_pg 31 77 = some (.ireturn, 0, 0, 0) := by decide +kernel
theorem gz_32_0 : mz_pg 32 0 = some (.aload_n 0, 0, 0, 0) := by decide +kernel
theorem gz_32_1 : mz_pg 32 1 = some (.getfield 46, 9, 7, 535) := by decide +kernel
theorem gz_32_4 : mz_pg 32 4 = some (.lload_n 1, 0, 0, 0) := by decide +kernel
theorem gz_32_5 : mz_pg 32 5 = some (.invokevirtual 142, 1, 33, 658) := by decide +kernel
theorem gz_32_8 : mz_pg 32 8 = some (.aload_n 0, 0, 0, 0) := by decide +kernel
theorem gz_32_9 : mz_pg 32 9 = some (.getfield 46, 9, 7, 535) := by decide +kernel
theorem gz_32_12 : mz_pg 32 12 = some (.lload_n 3, 0, 0, 0) := by decide +kernel
theorem gz_32_13 : mz_pg 32 13 = some (.invokevirtual 142, 1, 33, 658) := by decide +kernel
theorem gz_32_16 : mz_pg 32 16 = some (.aload_n 0, 0, 0, 0) := by decide +kernel
theorem gz_32_17 : mz_pg 32 17 = some (.getfield 46, 9, 7, 535) := by decide +kernel
theorem gz_32_20 : mz_pg 32 20 = some (.lload 5, 0, 0, 0) := by decide +kernel
theorem gz_32_22 : mz_pg 32 22 = some (.invokevirtual 142, 1, 33, 658) := by decide +kernel
theorem gz_32_25 : mz_pg 32 25 = some (.aload_n 0, 0, 0, 0) := by decide +kernel
theorem gz_32_26 : mz_pg 32 26 = some (.getfield 46, 9, 7, 535) := by decide +kernel
theorem gz_32_29 : mz_pg 32 29 = some (.getfield 146, 5, 4, 286) := by decide +kernel
theorem gz_32_32 : mz_pg 32 32 = some (.ireturn, 0, 0, 0) := by decide +kernel
theorem gz_33_0 : mz_pg 33 0 = some (.bipush 56, 0, 0, 0) := by decide +kernel
theorem gz_33_2 : mz_pg 33 2 = some (.istore_n 3, 0, 0, 0) := by decide +kernel
theorem gz_33_3 : mz_pg 33 3 = some (.iload_n 3, 0, 0, 0) := by decide +kernel
theorem gz_33_4 : mz_pg 33 4 = some (.ifCond .lt 69, 0, 0, 0) := by decide +kernel
theorem gz_33_7 : mz_pg 33 7 = some (.lload_n 1, 0, 0, 0) := by decide +kernel
theorem gz_33_8 : mz_pg 33 8 = some (.iload_n 3, 0, 0, 0) := by decide +kernel
theorem gz_33_9 : mz_pg 33 9 = some (.lshr, 0, 0, 0) := by decide +kernel
theorem gz_33_10 : mz_pg 33 10 = some (.l2i, 0, 0, 0) := by decide +kernel
theorem gz_33_11 : mz_pg 33 11 = some (.sipush 255, 0, 0, 0) := by decide +kernel
theorem gz_33_14 : mz_pg 33 14 = some (.iand, 0, 0, 0) := by decide +kernel
theorem gz_33_15 : mz_pg 33 15 = some (.istore 4, 0, 0, 0) := by decide +kernel
theorem gz_33_17 : mz_pg 33 17 = some (.iload 4, 0, 0, 0) := by decide +kernel
theorem gz_33_19 : mz_pg 33 19 = some (.bipush 10, 0, 0, 0) := by decide +kernel
theorem gz_33_21 : mz_pg 33 21 = some (.if_icmp .eq 17, 0, 0, 0) := by decide +kernel
theorem gz_33_24 : mz_pg 33 24 = some (.iload 4, 0, 0, 0) := by decide +kernel
theorem gz_33_26 : mz_pg 33 26 = some (.bipush 32, 0, 0, 0) := by decide +kernel
theorem gz_33_28 : mz_pg 33 28 = some (.if_icmp .lt 39, 0, 0, 0) := by decide +kernel
theorem gz_33_31 : mz_pg 33 31 = some (.iload 4, 0, 0, 0) := by decide +kernel
theorem gz_33_33 : mz_pg 33 33 = some (.bipush 126, 0, 0, 0) := by decide +kernel
theorem gz_33_35 : mz_pg 33 35 = some (.if_icmp .gt 32, 0, 0, 0) := by decide +kernel
theorem gz_33_38 : mz_pg 33 38 = some (.aload_n 0, 0, 0, 0) := by decide +kernel
theorem gz_33_39 : mz_pg 33 39 = some (.getfield 30, 5, 4, 285) := by decide +kernel
theorem gz_33_42 : mz_pg 33 42 = some (.sipush 1000, 0, 0, 0) := by decide +kernel
theorem gz_33_45 : mz_pg 33 45 = some (.if_icmp .ge 22, 0, 0, 0) := by decide +kernel
theorem gz_33_48 : mz_pg 33 48 = some (.aload_n 0, 0, 0, 0) := by decide +kernel
theorem gz_33_49 : mz_pg 33 49 = some (.getfield 18, 5, 3, 284) := by decide +kernel
theorem gz_33_52 : mz_pg 33 52 = some (.aload_n 0, 0, 0, 0) := by decide +kernel
theorem gz_33_53 : mz_pg 33 53 = some (.dup, 0, 0, 0) := by decide +kernel
theorem gz_33_54 : mz_pg 33 54 = some (.getfield 30, 5, 4, 285) := by decide +kernel
theorem gz_33_57 : mz_pg 33 57 = some (.dup_x1, 0, 0, 0) := by decide +kernel
theorem gz_33_58 : mz_pg 33 58 = some (.iconst 1, 0, 0, 0) := by decide +kernel
theorem gz_33_59 : mz_pg 33 59 = some (.iadd, 0, 0, 0) := by decide +kernel
theorem gz_33_60 : mz_pg 33 60 = some (.putfield 30, 5, 4, 285) := by decide +kernel
theorem gz_33_63 : mz_pg 33 63 = some (.iload 4, 0, 0, 0) := by decide +kernel
theorem gz_33_65 : mz_pg 33 65 = some (.i2b, 0, 0, 0) := by decide +kernel
theorem gz_33_66 : mz_pg 33 66 = some (.bastore, 0, 0, 0) := by decide +kernel
theorem gz_33_67 : mz_pg 33 67 = some (.iinc 3 (-8), 0, 0, 0) := by decide +kernel
theorem gz_33_70 : mz_pg 33 70 = some (.goto (-67), 0, 0, 0) := by decide +kernel
theorem gz_33_73 : mz_pg 33 73 = some (.return_, 0, 0, 0) := by decide +kernel
theorem gz_34_0 : mz_pg 34 0 = some (.iload_n 1, 0, 0, 0) := by decide +kernel
theorem gz_34_1 : mz_pg 34 1 = some (.ifCond .lt 17, 0, 0, 0) := by decide +kernel
theorem gz_34_4 : mz_pg 34 4 = some (.iload_n 1, 0, 0, 0) := by decide +kernel
theorem gz_34_5 : mz_pg 34 5 = some (.bipush 6, 0, 0, 0) := by decide +kernel
theorem gz_34_7 : mz_pg 34 7 = some (.if_icmp .ge 11, 0, 0, 0) := by decide +kernel
theorem gz_34_10 : mz_pg 34 10 = some (.aload_n 0, 0, 0, 0) := by decide +kernel
theorem gz_34_11 : mz_pg 34 11 = some (.iload_n 1, 0, 0, 0) := by decide +kernel
theorem gz_34_12 : mz_pg 34 12 = some (.invokevirtual 150, 1, 35, 666) := by decide +kernel
theorem gz_34_15 : mz_pg 34 15 = some (.ifCond .eq 13, 0, 0, 0) := by decide +kernel
theorem gz_34_18 : mz_pg 34 18 = some (.aload_n 0, 0, 0, 0) := by decide +kernel
theorem gz_34_19 : mz_pg 34 19 = some (.getfield 46, 9, 7, 535) := by decide +kernel
theorem gz_34_22 : mz_pg 34 22 = some (.iconst 0, 0, 0, 0) := by decide +kernel
theorem gz_34_23 : mz_pg 34 23 = some (.putfield 146, 5, 4, 286) := by decide +kernel
theorem gz_34_26 : mz_pg 34 26 = some (.iconst (-1), 0, 0, 0) := by decide +kernel
theorem gz_34_27 : mz_pg 34 27 = some (.ireturn, 0, 0, 0) := by decide +kernel
theorem gz_34_28 : mz_pg 34 28 = some (.aload_n 0, 0, 0, 0) := by decide +kernel
theorem gz_34_29 : mz_pg 34 29 = some (.getfield 46, 9, 7, 535) := by decide +kernel
theorem gz_34_32 : mz_pg 34 32 = some (.iload_n 1, 0, 0, 0) := by decide +kernel
theorem gz_34_33 : mz_pg 34 33 = some (.invokevirtual 153, 1, 36, 669) := by decide +kernel
theorem gz_34_36 : mz_pg 34 36 = some (.ireturn, 0, 0, 0) := by decide +kernel
theorem gz_35_0 : mz_pg 35 0 = some (.iconst 0, 0, 0, 0) := by decide +kernel
theorem gz_35_1 : mz_pg 35 1 = some (.istore_n 2, 0, 0, 0) := by decide +kernel
theorem gz_35_2 : mz_pg 35 2 = some (.iload_n 2, 0, 0, 0) := by decide +kernel
theorem gz_35_3 : mz_pg 35 3 = some (.bipush 6, 0, 0, 0) := by decide +kernel
theorem gz_35_5 : mz_pg 35 5 = some (.if_icmp .ge 36, 0, 0, 0) := by decide +kernel
theorem gz_35_8 : mz_pg 35 8 = some (.aload_n 0, 0, 0, 0) := by decide +kernel
theorem gz_35_9 : mz_pg 35 9 = some (.getfield 36, 9, 6, 534) := by decide +kernel
theorem gz_35_12 : mz_pg 35 12 = some (.iload_n 2, 0, 0, 0) := by decide +kernel
theorem gz_35_13 : mz_pg 35 13 = some (.aaload, 0, 0, 0) := by decide +kernel
theorem gz_35_14 : mz_pg 35 14 = some (.getfield 337, 4, 0, 197) := by decide +kernel
theorem gz_35_17 : mz_pg 35 17 = some (.ifCond .eq 18, 0, 0, 0) := by decide +kernel
theorem gz_35_20 : mz_pg 35 20 = some (.aload_n 0, 0, 0, 0) := by decide +kernel
theorem gz_35_21 : mz_pg 35 21 = some (.getfield 36, 9, 6, 534) := by decide +kernel
theorem gz_35_24 : mz_pg 35 24 = some (.iload_n 2, 0, 0, 0) := by decide +kernel
theorem gz_35_25 : mz_pg 35 25 = some (.aaload, 0, 0, 0) := by decide +kernel
theorem gz_35_26 : mz_pg 35 26 = some (.getfield 339, 4, 1, 200) := by decide +kernel
theorem gz_35_29 : mz_pg 35 29 = some (.iload_n 1, 0, 0, 0) := by decide +kernel
theorem gz_35_30 : mz_pg 35 30 = some (.if_icmp .ne 5, 0, 0, 0) := by decide +kernel
theorem gz_35_33 : mz_pg 35 33 = some (.iconst 1, 0, 0, 0) := by decide +kernel
theorem gz_35_34 : mz_pg 35 34 = some (.ireturn, 0, 0, 0) := by decide +kernel
theorem gz_35_35 : mz_pg 35 35 = some (.iinc 2 1, 0, 0, 0) := by decide +kernel
theorem gz_35_38 : mz_pg 35 38 = some (.goto (-36), 0, 0, 0) := by decide +kernel
theorem gz_35_41 : mz_pg 35 41 = some (.iconst 0, 0, 0, 0) := by decide +kernel
theorem gz_35_42 : mz_pg 35 42 = some (.ireturn, 0, 0, 0) := by decide +kernel
theorem gz_36_0 : mz_pg 36 0 = some (.aload_n 0, 0, 0, 0) := by decide +kernel
theorem gz_36_1 : mz_pg 36 1 = some (.iconst 0, 0, 0, 0) := by decide +kernel
theorem gz_36_2 : mz_pg 36 2 = some (.putfield 34, 5, 5, 287) := by decide +kernel
theorem gz_36_5 : mz_pg 36 5 = some (.aload_n 0, 0, 0, 0) := by decide +kernel
theorem gz_36_6 : mz_pg 36 6 = some (.iconst 0, 0, 0, 0) := by decide +kernel
theorem gz_36_7 : mz_pg 36 7 = some (.putfield 37, 5, 9, 291) := by decide +kernel
theorem gz_36_10 : mz_pg 36 10 = some (.aload_n 0, 0, 0, 0) := by decide +kernel
theorem gz_36_11 : mz_pg 36 11 = some (.invokevirtual 40, 1, 37, 673) := by decide +kernel
theorem gz_36_14 : mz_pg 36 14 = some (.aload_n 0, 0, 0, 0) := by decide +kernel
theorem gz_36_15 : mz_pg 36 15 = some (.iload_n 1, 0, 0, 0) := by decide +kernel
theorem gz_36_16 : mz_pg 36 16 = some (.invokevirtual 43, 1, 39, 679) := by decide +kernel
theorem gz_36_19 : mz_pg 36 19 = some (.iconst 0, 0, 0, 0) := by decide +kernel
theorem gz_36_20 : mz_pg 36 20 = some (.istore_n 2, 0, 0, 0) := by decide +kernel
theorem gz_36_21 : mz_pg 36 21 = some (.iload_n 2, 0, 0, 0) := by decide +kernel
theorem gz_36_22 : mz_pg 36 22 = some (.sipush 1000, 0, 0, 0) := by decide +kernel
theorem gz_36_25 : mz_pg 36 25 = some (.if_icmp .gt 27, 0, 0, 0) := by decide +kernel
theorem gz_36_28 : mz_pg 36 28 = some (.aload_n 0, 0, 0, 0) := by decide +kernel
theorem gz_36_29 : mz_pg 36 29 = some (.getfield 37, 5, 9, 291) := by decide +kernel
theorem gz_36_32 : mz_pg 36 32 = some (.ifCond .ne 20, 0, 0, 0) := by decide +kernel
theorem gz_36_35 : mz_pg 36 35 = some (.aload_n 0, 0, 0, 0) := by decide +kernel
theorem gz_36_36 : mz_pg 36 36 = some (.getfield 47, 5, 6, 288) := by decide +kernel
theorem gz_36_39 : mz_pg 36 39 = some (.ifCond .eq 13, 0, 0, 0) := by decide +kernel
theorem gz_36_42 : mz_pg 36 42 = some (.aload_n 0, 0, 0, 0) := by decide +kernel
theorem gz_36_43 : mz_pg 36 43 = some (.invokevirtual 50, 1, 49, 756) := by decide +kernel
theorem gz_36_46 : mz_pg 36 46 = some (.iinc 2 1, 0, 0, 0) := by decide +kernel
theorem gz_36_49 : mz_pg 36 49 = some (.goto (-28), 0, 0, 0) := by decide +kernel
theorem gz_36_52 : mz_pg 36 52 = some (.aload_n 0, 0, 0, 0) := by decide +kernel
theorem gz_36_53 : mz_pg 36 53 = some (.iconst 0, 0, 0, 0) := by decide +kernel
theorem gz_36_54 : mz_pg 36 54 = some (.putfield 30, 5, 4, 285) := by decide +kernel
theorem gz_36_57 : mz_pg 36 57 = some (.aload_n 0, 0, 0, 0) := by decide +kernel
theorem gz_36_58 : mz_pg 36 58 = some (.getfield 37, 5, 9, 291) := by decide +kernel
theorem gz_36_61 : mz_pg 36 61 = some (.ifCond .ne 33, 0, 0, 0) := by decide +kernel
theorem gz_36_64 : mz_pg 36 64 = some (.aload_n 0, 0, 0, 0) := by decide +kernel
theorem gz_36_65 : mz_pg 36 65 = some (.getfield 26, 5, 1, 282) := by decide +kernel
theorem gz_36_68 : mz_pg 36 68 = some (.iload_n 1, 0, 0, 0) := by decide +kernel
theorem gz_36_69 : mz_pg 36 69 = some (.aaload, 0, 0, 0) := by decide +kernel
theorem gz_36_70 : mz_pg 36 70 = some (.astore_n 2, 0, 0, 0) := by decide +kernel
theorem gz_36_71 : mz_pg 36 71 = some (.aload_n 0, 0, 0, 0) := by decide +kernel
theorem gz_36_72 : mz_pg 36 72 = some (.getfield 12, 5, 2, 283) := by decide +kernel
theorem gz_36_75 : mz_pg 36 75 = some (.iconst 1, 0, 0, 0) := by decide +kernel
theorem gz_36_76 : mz_pg 36 76 = some (.putfield 53, 4, 0, 196) := by decide +kernel
theorem gz_36_79 : mz_pg 36 79 = some (.aload_n 0, 0, 0, 0) := by decide +kernel
theorem gz_36_80 : mz_pg 36 80 = some (.getfield 26, 5, 1, 282) := by decide +kernel
theorem gz_36_83 : mz_pg 36 83 = some (.iload_n 1, 0, 0, 0) := by decide +kernel
theorem gz_36_84 : mz_pg 36 84 = some (.aload_n 0, 0, 0, 0) := by decide +kernel
theorem gz_36_85 : mz_pg 36 85 = some (.getfield 12, 5, 2, 283) := by decide +kernel
theorem gz_36_88 : mz_pg 36 88 = some (.aastore, 0, 0, 0) := by decide +kernel
theorem gz_36_89 : mz_pg 36 89 = some (.aload_n 0, 0, 0, 0) := by decide +kernel
theorem gz_36_90 : mz_pg 36 90 = some (.aload_n 2, 0, 0, 0) := by decide +kernel
theorem gz_36_91 : mz_pg 36 91 = some (.putfield 12, 5, 2, 283) := by decide +kernel
theorem gz_36_94 : mz_pg 36 94 = some (.aload_n 0, 0, 0, 0) := by decide +kernel
theorem gz_36_95 : mz_pg 36 95 = some (.getfield 37, 5, 9, 291) := by decide +kernel
theorem gz_36_98 : mz_pg 36 98 = some (.ireturn, 0, 0, 0) := by decide +kernel
theorem gz_37_0 : mz_pg 37 0 = some (.aload_n 0, 0, 0, 0) := by decide +kernel
theorem gz_37_1 : mz_pg 37 1 = some (.getfield 34, 5, 5, 287) := by decide +kernel
theorem gz_37_4 : mz_pg 37 4 = some (.aload_n 0, 0, 0, 0) := by decide +kernel
theorem gz_37_5 : mz_pg 37 5 = some (.getfield 30, 5, 4, 285) := by decide +kernel
theorem gz_37_8 : mz_pg 37 8 = some (.if_icmp .ge 44, 0, 0, 0) := by decide +kernel
theorem gz_37_11 : mz_pg 37 11 = some (.aload_n 0, 0, 0, 0) := by decide +kernel
theorem gz_37_12 : mz_pg 37 12 = some (.getfield 18, 5, 3, 284) := by decide +kernel
theorem gz_37_15 : mz_pg 37 15 = some (.aload_n 0, 0, 0, 0) := by decide +kernel
theorem gz_37_16 : mz_pg 37 16 = some (.getfield 34, 5, 5, 287) := by decide +kernel
theorem gz_37_19 : mz_pg 37 19 = some (.baload, 0, 0, 0) := by decide +kernel
theorem gz_37_20 : mz_pg 37 20 = some (.bipush 10, 0, 0, 0) := by decide +kernel
theorem gz_37_22 : mz_pg 37 22 = some (.if_icmp .eq 17, 0, 0, 0) := by decide +kernel
theorem gz_37_25 : mz_pg 37 25 = some (.aload_n 0, 0, 0, 0) := by decide +kernel
theorem gz_37_26 : mz_pg 37 26 = some (.getfield 18, 5, 3, 284) := by decide +kernel
theorem gz_37_29 : mz_pg 37 29 = some (.aload_n 0, 0, 0, 0) := by decide +kernel
theorem gz_37_30 : mz_pg 37 30 = some (.getfield 34, 5, 5, 287) := by decide +kernel
theorem gz_37_33 : mz_pg 37 33 = some (.baload, 0, 0, 0) := by decide +kernel
theorem gz_37_34 : mz_pg 37 34 = some (.bipush 32, 0, 0, 0) := by decide +kernel
theorem gz_37_36 : mz_pg 37 36 = some (.if_icmp .ne 16, 0, 0, 0) := by decide +kernel
theorem gz_37_39 : mz_pg 37 39 = some (.aload_n 0, 0, 0, 0) := by decide +kernel
theorem gz_37_40 : mz_pg 37 40 = some (.dup, 0, 0, 0) := by decide +kernel
theorem gz_37_41 : mz_pg 37 41 = some (.getfield 34, 5, 5, 287) := by decide +kernel
theorem gz_37_44 : mz_pg 37 44 = some (.iconst 1, 0, 0, 0) := by decide +kernel
theorem gz_37_45 : mz_pg 37 45 = some (.iadd, 0, 0, 0) := by decide +kernel
theorem gz_37_46 : mz_pg 37 46 = some (.putfield 34, 5, 5, 287) := by decide +kernel
theorem gz_37_49 : mz_pg 37 49 = some (.goto (-49), 0, 0, 0) := by decide +kernel
theorem gz_37_52 : mz_pg 37 52 = some (.aload_n 0, 0, 0, 0) := by decide +kernel
theorem gz_37_53 : mz_pg 37 53 = some (.aload_n 0, 0, 0, 0) := by decide +kernel
theorem gz_37_54 : mz_pg 37 54 = some (.getfield 34, 5, 5, 287) := by decide +kernel
theorem gz_37_57 : mz_pg 37 57 = some (.putfield 174, 5, 7, 289) := by decide +kernel
theorem gz_37_60 : mz_pg 37 60 = some (.aload_n 0, 0, 0, 0) := by decide +kernel
theorem gz_37_61 : mz_pg 37 61 = some (.aload_n 0, 0, 0, 0) := by decide +kernel
theorem gz_37_62 : mz_pg 37 62 = some (.getfield 34, 5, 5, 287) := by decide +kernel
theorem gz_37_65 : mz_pg 37 65 = some (.aload_n 0, 0, 0, 0) := by decide +kernel
theorem gz_37_66 : mz_pg 37 66 = some (.getfield 30, 5, 4, 285) := by decide +kernel
theorem gz_37_69 : mz_pg 37 69 = some (.if_icmp .ge 18, 0, 0, 0) := by decide +kernel
theorem gz_37_72 : mz_pg 37 72 = some (.aload_n 0, 0, 0, 0) := by decide +kernel
theorem gz_37_73 : mz_pg 37 73 = some (.getfield 18, 5, 3, 284) := by decide +kernel
theorem gz_37_76 : mz_pg 37 76 = some (.aload_n 0, 0, 0, 0) := by decide +kernel
theorem gz_37_77 : mz_pg 37 77 = some (.getfield 34, 5, 5, 287) := by decide +kernel
theorem gz_37_80 : mz_pg 37 80 = some (.baload, 0, 0, 0) := by decide +kernel
theorem gz_37_81 : mz_pg 37 81 = some (.invokestatic 185, 1, 38, 676) := by decide +kernel
theorem gz_37_84 : mz_pg 37 84 = some (.goto 4, 0, 0, 0) := by decide +kernel
theorem gz_37_87 : mz_pg 37 87 = some (.iconst 0, 0, 0, 0) := by decide +kernel
theorem gz_37_88 : mz_pg 37 88 = some (.putfield 47, 5, 6, 288) := by decide +kernel
theorem gz_37_91 : mz_pg 37 91 = some (.aload_n 0, 0, 0, 0) := by decide +kernel
theorem gz_37_92 : mz_pg 37 92 = some (.getfield 47, 5, 6, 288) := by decide +kernel
theorem gz_37_95 : mz_pg 37 95 = some (.ifCond .ne 4, 0, 0, 0) := by decide +kernel
theorem gz_37_98 : mz_pg 37 98 = some (.return_, 0, 0, 0) := by decide +kernel
theorem gz_37_99 : mz_pg 37 99 = some (.aload_n 0, 0, 0, 0) := by decide +kernel
theorem gz_37_100 : mz_pg 37 100 = some (.iconst 0, 0, 0, 0) := by decide +kernel
theorem gz_37_101 : mz_pg 37 101 = some (.putfield 171, 5, 8, 290) := by decide +kernel
theorem gz_37_104 : mz_pg 37 104 = some (.aload_n 0, 0, 0, 0) := by decide +kernel
theorem gz_37_105 : mz_pg 37 105 = some (.getfield 47, 5, 6, 288) := by decide +kernel
theorem gz_37_108 : mz_pg 37 108 = some (.iconst 1, 0, 0, 0) := by decide +kernel
theorem gz_37_109 : mz_pg 37 109 = some (.if_icmp .ne 8, 0, 0, 0) := by decide +kernel
theorem gz_37_112 : mz_pg 37 112 = some (.bipush 8, 0, 0, 0) := by decide +kernel
theorem gz_37_114 : mz_pg 37 114 = some (.goto 16, 0, 0, 0) := by decide +kernel
theorem gz_37_117 : mz_pg 37 117 = some (.aload_n 0, 0, 0, 0) := by decide +kernel
theorem gz_37_118 : mz_pg 37 118 = some (.getfield 47, 5, 6, 288) := by decide +kernel
theorem gz_37_121 : mz_pg 37 121 = some (.iconst 2, 0, 0, 0) := by decide +kernel
theorem gz_37_122 : mz_pg 37 122 = some (.if_icmp .ne 7, 0, 0, 0) := by decide +kernel
theorem gz_37_125 : mz_pg 37 125 = some (.iconst 3, 0, 0, 0) := by decide +kernel
theorem gz_37_126 : mz_pg 37 126 = some (.goto 4, 0, 0, 0) := by decide +kernel
theorem gz_37_129 : mz_pg 37 129 = some (.iconst 1, 0, 0, 0) := by decide +kernel
theorem gz_37_130 : mz_pg 37 130 = some (.istore_n 1, 0, 0, 0) := by decide +kernel
theorem gz_37_131 : mz_pg 37 131 = some (.aload_n 0, 0, 0, 0) := by decide +kernel
theorem gz_37_132 : mz_pg 37 132 = some (.getfield 174, 5, 7, 289) := by decide +kernel
theorem gz_37_135 : mz_pg 37 135 = some (.iconst 1, 0, 0, 0) := by decide +kernel
theorem gz_37_136 : mz_pg 37 136 = some (.iadd, 0, 0, 0) := by decide +kernel
theorem gz_37_137 : mz_pg 37 137 = some (.istore_n 2, 0, 0, 0) := by decide +kernel
theorem gz_37_138 : mz_pg 37 138 = some (.iload_n 2, 0, 0, 0) := by decide +kernel
theorem gz_37_139 : mz_pg 37 139 = some (.aload_n 0, 0, 0, 0) := by decide +kernel
theorem gz_37_140 : mz_pg 37 140 = some (.getfield 30, 5, 4, 285) := by decide +kernel
theorem gz_37_143 : mz_pg 37 143 = some (.if_icmp .ge 30, 0, 0, 0) := by decide +kernel
theorem gz_37_146 : mz_pg 37 146 = some (.iload_n 1, 0, 0, 0) := by decide +kernel
theorem gz_37_147 : mz_pg 37 147 = some (.iconst 1, 0, 0, 0) := by decide +kernel
theorem gz_37_148 : mz_pg 37 148 = some (.if_icmp .le 25, 0, 0, 0) := by decide +kernel
theorem gz_37_151 : mz_pg 37 151 = some (.aload_n 0, 0, 0, 0) := by decide +kernel
theorem gz_37_152 : mz_pg 37 152 = some (.getfield 18, 5, 3, 284) := by decide +kernel
theorem gz_37_155 : mz_pg 37 155 = some (.iload_n 2, 0, 0, 0) := by decide +kernel
theorem gz_37_156 : mz_pg 37 156 = some (.baload, 0, 0, 0) := by decide +kernel
theorem gz_37_157 : mz_pg 37 157 = some (.invokestatic 185, 1, 38, 676) := by decide +kernel
theorem gz_37_160 : mz_pg 37 160 = some (.aload_n 0, 0, 0, 0) := by decide +kernel
theorem gz_37_161 : mz_pg 37 161 = some (.getfield 47, 5, 6, 288) := by decide +kernel
theorem gz_37_164 : mz_pg 37 164 = some (.if_icmp .ne 9, 0, 0, 0) := by decide +kernel
theorem gz_37_167 : mz_pg 37 167 = some (.iinc 2 1, 0, 0, 0) := by decide +kernel
theorem gz_37_170 : mz_pg 37 170 = some (.goto (-32), 0, 0, 0) := by decide +kernel
theorem gz_37_173 : mz_pg 37 173 = some (.aload_n 0, 0, 0, 0) := by decide +kernel
theorem gz_37_174 : mz_pg 37 174 = some (.aload_n 0, 0, 0, 0) := by decide +kernel
theorem gz_37_175 : mz_pg 37 175 = some (.getfield 174, 5, 7, 289) := by decide +kernel
theorem gz_37_178 : mz_pg 37 178 = some (.putfield 34, 5, 5, 287) := by decide +kernel
theorem gz_37_181 : mz_pg 37 181 = some (.aload_n 0, 0, 0, 0) := by decide +kernel
theorem gz_37_182 : mz_pg 37 182 = some (.getfield 34, 5, 5, 287) := by decide +kernel
theorem gz_37_185 : mz_pg 37 185 = some (.iload_n 2, 0, 0, 0) := by decide +kernel
theorem gz_37_186 : mz_pg 37 186 = some (.if_icmp .ge 61, 0, 0, 0) := by decide +kernel
theorem gz_37_189 : mz_pg 37 189 = some (.aload_n 0, 0, 0, 0) := by decide +kernel
theorem gz_37_190 : mz_pg 37 190 = some (.getfield 47, 5, 6, 288) := by decide +kernel
theorem gz_37_193 : mz_pg 37 193 = some (.iconst 2, 0, 0, 0) := by decide +kernel
theorem gz_37_194 : mz_pg 37 194 = some (.if_icmp .ne 40, 0, 0, 0) := by decide +kernel
theorem gz_37_197 : mz_pg 37 197 = some (.aload_n 0, 0, 0, 0) := by decide +kernel
theorem gz_37_198 : mz_pg 37 198 = some (.getfield 34, 5, 5, 287) := by decide +kernel
theorem gz_37_201 : mz_pg 37 201 = some (.aload_n 0, 0, 0, 0) := by decide +kernel
theorem gz_37_202 : mz_pg 37 202 = some (.getfield 174, 5, 7, 289) := by decide +kernel
theorem gz_37_205 : mz_pg 37 205 = some (.isub, 0, 0, 0) := by decide +kernel
theorem gz_37_206 : mz_pg 37 206 = some (.iload_n 1, 0, 0, 0) := by decide +kernel
theorem gz_37_207 : mz_pg 37 207 = some (.if_icmp .ge 27, 0, 0, 0) := by decide +kernel
theorem gz_37_210 : mz_pg 37 210 = some (.aload_n 0, 0, 0, 0) := by decide +kernel
theorem gz_37_211 : mz_pg 37 211 = some (.bipush 10, 0, 0, 0) := by decide +kernel
theorem gz_37_213 : mz_pg 37 213 = some (.aload_n 0, 0, 0, 0) := by decide +kernel
theorem gz_37_214 : mz_pg 37 214 = some (.getfield 171, 5, 8, 290) := by decide +kernel
theorem gz_37_217 : mz_pg 37 217 = some (.imul, 0, 0, 0) := by decide +kernel
theorem gz_37_218 : mz_pg 37 218 = some (.aload_n 0, 0, 0, 0) := by decide +kernel
theorem gz_37_219 : mz_pg 37 219 = some (.getfield 18, 5, 3, 284) := by decide +kernel
theorem gz_37_222 : mz_pg 37 222 = some (.aload_n 0, 0, 0, 0) := by decide +kernel
theorem gz_37_223 : mz_pg 37 223 = some (.getfield 34, 5, 5, 287) := by decide +kernel
theorem gz_37_226 : mz_pg 37 226 = some (.baload, 0, 0, 0) := by decide +kernel
theorem gz_37_227 : mz_pg 37 227 = some (.iadd, 0, 0, 0) := by decide +kernel
theorem gz_37_228 : mz_pg 37 228 = some (.bipush 48, 0, 0, 0) := by decide +kernel
theorem gz_37_230 : mz_pg 37 230 = some (.isub, 0, 0, 0) := by decide +kernel
theorem gz_37_231 : mz_pg 37 231 = some (.putfield 171, 5, 8, 290) := by decide +kernel
theorem gz_37_234 : mz_pg 37 234 = some (.aload_n 0, 0, 0, 0) := by decide +kernel
theorem gz_37_235 : mz_pg 37 235 = some (.dup, 0, 0, 0) := by decide +kernel
theorem gz_37_236 : mz_pg 37 236 = some (.getfield 34, 5, 5, 287) := by decide +kernel
theorem gz_37_239 : mz_pg 37 239 = some (.iconst 1, 0, 0, 0) := by decide +kernel
theorem gz_37_240 : mz_pg 37 240 = some (.iadd, 0, 0, 0) := by decide +kernel
theorem gz_37_241 : mz_pg 37 241 = some (.putfield 34, 5, 5, 287) := by decide +kernel
theorem gz_37_244 : mz_pg 37 244 = some (.goto (-63), 0, 0, 0) := by decide +kernel
theorem gz_37_247 : mz_pg 37 247 = some (.iload_n 2, 0, 0, 0) := by decide +kernel
theorem gz_37_248 : mz_pg 37 248 = some (.aload_n 0, 0, 0, 0) := by decide +kernel
theorem gz_37_249 : mz_pg 37 249 = some (.getfield 174, 5, 7, 289) := by decide +kernel
theorem gz_37_252 : mz_pg 37 252 = some (.isub, 0, 0, 0) := by decide +kernel
theorem gz_37_253 : mz_pg 37 253 = some (.iload_n 1, 0, 0, 0) := by decide +kernel
theorem gz_37_254 : mz_pg 37 254 = some (.if_icmp .le 8, 0, 0, 0) := by decide +kernel
theorem gz_37_257 : mz_pg 37 257 = some (.aload_n 0, 0, 0, 0) := by decide +kernel
theorem gz_37_258 : mz_pg 37 258 = some (.iconst 4, 0, 0, 0) := by decide +kernel
theorem gz_37_259 : mz_pg 37 259 = some (.putfield 47, 5, 6, 288) := by decide +kernel
theorem gz_37_262 : mz_pg 37 262 = some (.return_, 0, 0, 0) := by decide +kernel
theorem gz_38_0 : mz_pg 38 0 = some (.iload_n 0, 0, 0, 0) := by decide +kernel
theorem gz_38_1 : mz_pg 38 1 = some (.bipush 97, 0, 0, 0) := by decide +kernel
theorem gz_38_3 : mz_pg 38 3 = some (.if_icmp .lt 11, 0, 0, 0) := by decide +kernel
theorem gz_38_6 : mz_pg 38 6 = some (.iload_n 0, 0, 0, 0) := by decide +kernel
theorem gz_38_7 : mz_pg 38 7 = some (.bipush 122, 0, 0, 0) := by decide +kernel
theorem gz_38_9 : mz_pg 38 9 = some (.if_icmp .gt 5, 0, 0, 0) := by decide +kernel
theorem gz_38_12 : mz_pg 38 12 = some (.iconst 1, 0, 0, 0) := by decide +kernel
theorem gz_38_13 : mz_pg 38 13 = some (.ireturn, 0, 0, 0) := by decide +kernel
theorem gz_38_14 : mz_pg 38 14 = some (.iload_n 0, 0, 0, 0) := by decide +kernel
theorem gz_38_15 : mz_pg 38 15 = some (.bipush 48, 0, 0, 0) := by decide +kernel
theorem gz_38_17 : mz_pg 38 17 = some (.if_icmp .lt 11, 0, 0, 0) := by decide +kernel
theorem gz_38_20 : mz_pg 38 20 = some (.iload_n 0, 0, 0, 0) := by decide +kernel
theorem gz_38_21 : mz_pg 38 21 = some (.bipush 57, 0, 0, 0) := by decide +kernel
theorem gz_38_23 : mz_pg 38 23 = some (.if_icmp .gt 5, 0, 0, 0) := by decide +kernel
theorem gz_38_26 : mz_pg 38 26 = some (.iconst 2, 0, 0, 0) := by decide +kernel
theorem gz_38_27 : mz_pg 38 27 = some (.ireturn, 0, 0, 0) := by decide +kernel
theorem gz_38_28 : mz_pg 38 28 = some (.iload_n 0, 0, 0, 0) := by decide +kernel
theorem gz_38_29 : mz_pg 38 29 = some (.bipush 59, 0, 0, 0) := by decide +kernel
theorem gz_38_31 : mz_pg 38 31 = some (.if_icmp .ne 7, 0, 0, 0) := by decide +kernel
theorem gz_38_34 : mz_pg 38 34 = some (.iconst 3, 0, 0, 0) := by decide +kernel
theorem gz_38_35 : mz_pg 38 35 = some (.goto 4, 0, 0, 0) := by decide +kernel
theorem gz_38_38 : mz_pg 38 38 = some (.iconst 4, 0, 0, 0) := by decide +kernel
theorem gz_38_39 : mz_pg 38 39 = some (.ireturn, 0, 0, 0) := by decide +kernel
theorem gz_39_0 : mz_pg 39 0 = some (.aload_n 0, 0, 0, 0) := by decide +kernel
theorem gz_39_1 : mz_pg 39 1 = some (.ldc 57, 1, 1, 0) := by decide +kernel
theorem gz_39_3 : mz_pg 39 3 = some (.invokevirtual 59, 1, 40, 682) := by decide +kernel
end MGZ0
