/-! what stands where (printed by wip/gen/gy.py) -/
section MGZ5
theorem gz_249_36 : mz_pg 249 36 = some (.iload_n 1, 0, 0, 0) := by decide +kernel
theorem gz_249_37 : mz_pg 249 37 = some (.tableswitch 127 3 5 #[27, 60, 65], 0, 0, 0) := by decide +kernel
theorem gz_249_64 : mz_pg 249 64 = some (.iconst 0, 0, 0, 0) := by decide +kernel
theorem gz_249_65 : mz_pg 249 65 = some (.istore_n 3, 0, 0, 0) := by decide +kernel
theorem gz_249_66 : mz_pg 249 66 = some (.iload_n 3, 0, 0, 0) := by decide +kernel
theorem gz_249_67 : mz_pg 249 67 = some (.bipush 6, 0, 0, 0) := by decide +kernel
theorem gz_249_69 : mz_pg 249 69 = some (.if_icmp .ge 26, 0, 0, 0) := by decide +kernel
theorem gz_249_72 : mz_pg 249 72 = some (.iload_n 2, 0, 0, 0) := by decide +kernel
theorem gz_249_73 : mz_pg 249 73 = some (.aload_n 0, 0, 0, 0) := by decide +kernel
theorem gz_249_74 : mz_pg 249 74 = some (.getfield 83, 10, 17, 1230) := by decide +kernel
theorem gz_249_77 : mz_pg 249 77 = some (.iload_n 3, 0, 0, 0) := by decide +kernel
theorem gz_249_78 : mz_pg 249 78 = some (.baload, 0, 0, 0) := by decide +kernel
theorem gz_249_79 : mz_pg 249 79 = some (.ifCond .eq 7, 0, 0, 0) := by decide +kernel
theorem gz_249_82 : mz_pg 249 82 = some (.iconst 1, 0, 0, 0) := by decide +kernel
theorem gz_249_83 : mz_pg 249 83 = some (.goto 4, 0, 0, 0) := by decide +kernel
theorem gz_249_86 : mz_pg 249 86 = some (.iconst 0, 0, 0, 0) := by decide +kernel
theorem gz_249_87 : mz_pg 249 87 = some (.iadd, 0, 0, 0) := by decide +kernel
theorem gz_249_88 : mz_pg 249 88 = some (.istore_n 2, 0, 0, 0) := by decide +kernel
theorem gz_249_89 : mz_pg 249 89 = some (.iinc 3 1, 0, 0, 0) := by decide +kernel
theorem gz_249_92 : mz_pg 249 92 = some (.goto (-26), 0, 0, 0) := by decide +kernel
theorem gz_249_95 : mz_pg 249 95 = some (.iload_n 2, 0, 0, 0) := by decide +kernel
theorem gz_249_96 : mz_pg 249 96 = some (.ireturn, 0, 0, 0) := by decide +kernel
theorem gz_249_97 : mz_pg 249 97 = some (.aload_n 0, 0, 0, 0) := by decide +kernel
theorem gz_249_98 : mz_pg 249 98 = some (.getfield 11, 10, 2, 1215) := by decide +kernel
theorem gz_249_101 : mz_pg 249 101 = some (.ireturn, 0, 0, 0) := by decide +kernel
theorem gz_249_102 : mz_pg 249 102 = some (.iconst 0, 0, 0, 0) := by decide +kernel
theorem gz_249_103 : mz_pg 249 103 = some (.istore_n 3, 0, 0, 0) := by decide +kernel
theorem gz_249_104 : mz_pg 249 104 = some (.iload_n 3, 0, 0, 0) := by decide +kernel
theorem gz_249_105 : mz_pg 249 105 = some (.bipush 60, 0, 0, 0) := by decide +kernel
theorem gz_249_107 : mz_pg 249 107 = some (.if_icmp .ge 55, 0, 0, 0) := by decide +kernel
theorem gz_249_110 : mz_pg 249 110 = some (.iconst 0, 0, 0, 0) := by decide +kernel
theorem gz_249_111 : mz_pg 249 111 = some (.istore 4, 0, 0, 0) := by decide +kernel
theorem gz_249_113 : mz_pg 249 113 = some (.iload 4, 0, 0, 0) := by decide +kernel
theorem gz_249_115 : mz_pg 249 115 = some (.aload_n 0, 0, 0, 0) := by decide +kernel
theorem gz_249_116 : mz_pg 249 116 = some (.getfield 61, 10, 10, 1223) := by decide +kernel
theorem gz_249_119 : mz_pg 249 119 = some (.iload_n 3, 0, 0, 0) := by decide +kernel
theorem gz_249_120 : mz_pg 249 120 = some (.bipush 20, 0, 0, 0) := by decide +kernel
theorem gz_249_122 : mz_pg 249 122 = some (.idiv, 0, 0, 0) := by decide +kernel
theorem gz_249_123 : mz_pg 249 123 = some (.iaload, 0, 0, 0) := by decide +kernel
theorem gz_249_124 : mz_pg 249 124 = some (.if_icmp .ge 32, 0, 0, 0) := by decide +kernel
theorem gz_249_127 : mz_pg 249 127 = some (.aload_n 0, 0, 0, 0) := by decide +kernel
theorem gz_249_128 : mz_pg 249 128 = some (.getfield 77, 10, 15, 1228) := by decide +kernel
theorem gz_249_131 : mz_pg 249 131 = some (.iload_n 3, 0, 0, 0) := by decide +kernel
theorem gz_249_132 : mz_pg 249 132 = some (.baload, 0, 0, 0) := by decide +kernel
theorem gz_249_133 : mz_pg 249 133 = some (.ifCond .eq 23, 0, 0, 0) := by decide +kernel
theorem gz_249_136 : mz_pg 249 136 = some (.iload_n 2, 0, 0, 0) := by decide +kernel
theorem gz_249_137 : mz_pg 249 137 = some (.aload_n 0, 0, 0, 0) := by decide +kernel
theorem gz_249_138 : mz_pg 249 138 = some (.getfield 80, 10, 16, 1229) := by decide +kernel
theorem gz_249_141 : mz_pg 249 141 = some (.iconst 4, 0, 0, 0) := by decide +kernel
theorem gz_249_142 : mz_pg 249 142 = some (.iload_n 3, 0, 0, 0) := by decide +kernel
theorem gz_249_143 : mz_pg 249 143 = some (.imul, 0, 0, 0) := by decide +kernel
theorem gz_249_144 : mz_pg 249 144 = some (.iload 4, 0, 0, 0) := by decide +kernel
theorem gz_249_146 : mz_pg 249 146 = some (.iadd, 0, 0, 0) := by decide +kernel
theorem gz_249_147 : mz_pg 249 147 = some (.iaload, 0, 0, 0) := by decide +kernel
theorem gz_249_148 : mz_pg 249 148 = some (.iadd, 0, 0, 0) := by decide +kernel
theorem gz_249_149 : mz_pg 249 149 = some (.istore_n 2, 0, 0, 0) := by decide +kernel
theorem gz_249_150 : mz_pg 249 150 = some (.iinc 4 1, 0, 0, 0) := by decide +kernel
theorem gz_249_153 : mz_pg 249 153 = some (.goto (-40), 0, 0, 0) := by decide +kernel
theorem gz_249_156 : mz_pg 249 156 = some (.iinc 3 1, 0, 0, 0) := by decide +kernel
theorem gz_249_159 : mz_pg 249 159 = some (.goto (-55), 0, 0, 0) := by decide +kernel
theorem gz_249_162 : mz_pg 249 162 = some (.iload_n 2, 0, 0, 0) := by decide +kernel
theorem gz_249_163 : mz_pg 249 163 = some (.ireturn, 0, 0, 0) := by decide +kernel
theorem gz_249_164 : mz_pg 249 164 = some (.iconst (-1), 0, 0, 0) := by decide +kernel
theorem gz_249_165 : mz_pg 249 165 = some (.ireturn, 0, 0, 0) := by decide +kernel
theorem gm_0 : my_mm 0 7 (some .boolean) 1 0 := by unfold my_mm; decide +kernel
theorem gm_1 : my_mm 1 2 none 0 9 := by unfold my_mm; decide +kernel
theorem gm_2 : my_mm 2 2 none 0 3 := by unfold my_mm; decide +kernel
theorem gm_3 : my_mm 3 2 none 0 6 := by unfold my_mm; decide +kernel
theorem gm_4 : my_mm 4 1 none 0 4 := by unfold my_mm; decide +kernel
theorem gm_5 : my_mm 5 3 none 2 5 := by unfold my_mm; decide +kernel
theorem gm_6 : my_mm 6 4 none 3 2 := by unfold my_mm; decide +kernel
theorem gm_7 : my_mm 7 1 none 0 8 := by unfold my_mm; decide +kernel
theorem gm_8 : my_mm 8 1 none 0 7 := by unfold my_mm; decide +kernel
theorem gm_9 : my_mm 9 1 none 0 7 := by unfold my_mm; decide +kernel
theorem gm_10 : my_mm 10 2 none 1 1 := by unfold my_mm; decide +kernel
theorem gm_11 : my_mm 11 2 none 0 0 := by unfold my_mm; decide +kernel
theorem gm_12 : my_mm 12 3 (some .boolean) 2 9 := by unfold my_mm; decide +kernel
theorem gm_13 : my_mm 13 2 (some .boolean) 1 3 := by unfold my_mm; decide +kernel
theorem gm_14 : my_mm 14 7 (some .boolean) 5 9 := by unfold my_mm; decide +kernel
theorem gm_15 : my_mm 15 3 (some .boolean) 2 6 := by unfold my_mm; decide +kernel
theorem gm_16 : my_mm 16 3 none 2 6 := by unfold my_mm; decide +kernel
theorem gm_17 : my_mm 17 2 (some .int) 2 9 := by unfold my_mm; decide +kernel
theorem gm_18 : my_mm 18 2 (some .boolean) 1 3 := by unfold my_mm; decide +kernel
theorem gm_19 : my_mm 19 6 (some .int) 1 3 := by unfold my_mm; decide +kernel
theorem gm_20 : my_mm 20 8 (some .int) 4 6 := by unfold my_mm; decide +kernel
theorem gm_21 : my_mm 21 6 (some .boolean) 4 3 := by unfold my_mm; decide +kernel
theorem gm_22 : my_mm 22 7 (some .boolean) 3 3 := by unfold my_mm; decide +kernel
theorem gm_23 : my_mm 23 5 none 2 6 := by unfold my_mm; decide +kernel
theorem gm_24 : my_mm 24 3 (some .boolean) 2 9 := by unfold my_mm; decide +kernel
theorem gm_25 : my_mm 25 2 none 1 6 := by unfold my_mm; decide +kernel
theorem gm_26 : my_mm 26 5 (some .boolean) 4 9 := by unfold my_mm; decide +kernel
theorem gm_27 : my_mm 27 3 (some .boolean) 2 3 := by unfold my_mm; decide +kernel
theorem gm_28 : my_mm 28 2 (some .boolean) 2 9 := by unfold my_mm; decide +kernel
theorem gm_29 : my_mm 29 2 (some .int) 2 9 := by unfold my_mm; decide +kernel
theorem gm_30 : my_mm 30 6 (some .boolean) 3 9 := by unfold my_mm; decide +kernel
theorem gm_31 : my_mm 31 6 (some .boolean) 3 9 := by unfold my_mm; decide +kernel
theorem gm_32 : my_mm 32 7 (some .int) 3 9 := by unfold my_mm; decide +kernel
theorem gm_33 : my_mm 33 5 none 1 5 := by unfold my_mm; decide +kernel
theorem gm_34 : my_mm 34 2 (some .int) 1 9 := by unfold my_mm; decide +kernel
theorem gm_35 : my_mm 35 3 (some .boolean) 1 9 := by unfold my_mm; decide +kernel
theorem gm_36 : my_mm 36 3 (some .int) 1 5 := by unfold my_mm; decide +kernel
theorem gm_37 : my_mm 37 3 none 0 5 := by unfold my_mm; decide +kernel
theorem gm_38 : my_mm 38 1 (some .int) 1 5 := by unfold my_mm; decide +kernel
theorem gm_39 : my_mm 39 3 none 1 5 := by unfold my_mm; decide +kernel
theorem gm_40 : my_mm 40 2 (some .boolean) 1 5 := by unfold my_mm; decide +kernel
theorem gm_41 : my_mm 41 3 (some .boolean) 1 5 := by unfold my_mm; decide +kernel
theorem gm_42 : my_mm 42 2 none 1 5 := by unfold my_mm; decide +kernel
theorem gm_43 : my_mm 43 2 (some .int) 0 5 := by unfold my_mm; decide +kernel
theorem gm_44 : my_mm 44 2 (some .int) 1 5 := by unfold my_mm; decide +kernel
theorem gm_45 : my_mm 45 4 none 2 4 := by unfold my_mm; decide +kernel
theorem gm_46 : my_mm 46 1 none 0 5 := by unfold my_mm; decide +kernel
theorem gm_47 : my_mm 47 1 (some .boolean) 0 5 := by unfold my_mm; decide +kernel
theorem gm_48 : my_mm 48 3 none 2 4 := by unfold my_mm; decide +kernel
theorem gm_49 : my_mm 49 6 none 0 5 := by unfold my_mm; decide +kernel
theorem gm_50 : my_mm 50 3 none 0 5 := by unfold my_mm; decide +kernel
theorem gm_51 : my_mm 51 3 (some .int) 1 5 := by unfold my_mm; decide +kernel
theorem gm_52 : my_mm 52 4 none 0 5 := by unfold my_mm; decide +kernel
theorem gm_53 : my_mm 53 4 none 3 4 := by unfold my_mm; decide +kernel
theorem gm_54 : my_mm 54 2 none 1 4 := by unfold my_mm; decide +kernel
theorem gm_55 : my_mm 55 5 none 4 4 := by unfold my_mm; decide +kernel
theorem gm_56 : my_mm 56 3 none 0 5 := by unfold my_mm; decide +kernel
theorem gm_57 : my_mm 57 4 (some .boolean) 2 4 := by unfold my_mm; decide +kernel
theorem gm_58 : my_mm 58 3 none 2 4 := by unfold my_mm; decide +kernel
theorem gm_59 : my_mm 59 3 none 1 4 := by unfold my_mm; decide +kernel
theorem gm_60 : my_mm 60 4 none 0 5 := by unfold my_mm; decide +kernel
theorem gm_61 : my_mm 61 5 none 3 4 := by unfold my_mm; decide +kernel
theorem gm_62 : my_mm 62 3 none 0 5 := by unfold my_mm; decide +kernel
theorem gm_63 : my_mm 63 3 none 2 4 := by unfold my_mm; decide +kernel
theorem gm_64 : my_mm 64 5 (some .int) 3 9 := by unfold my_mm; decide +kernel
theorem gm_65 : my_mm 65 3 (some .boolean) 2 2 := by unfold my_mm; decide +kernel
theorem gm_66 : my_mm 66 2 (some .boolean) 1 2 := by unfold my_mm; decide +kernel
theorem gm_67 : my_mm 67 8 (some (.object "ThroughWindow$View")) 3 8 := by unfold my_mm; decide +kernel
theorem gm_68 : my_mm 68 7 none 4 8 := by unfold my_mm; decide +kernel
theorem gm_69 : my_mm 69 3 (some .boolean) 2 9 := by unfold my_mm; decide +kernel
theorem gm_70 : my_mm 70 6 none 4 8 := by unfold my_mm; decide +kernel
theorem gm_71 : my_mm 71 7 none 3 8 := by unfold my_mm; decide +kernel
theorem gm_72 : my_mm 72 3 none 2 8 := by unfold my_mm; decide +kernel
theorem gm_73 : my_mm 73 8 none 4 8 := by unfold my_mm; decide +kernel
theorem gm_74 : my_mm 74 3 (some .int) 2 8 := by unfold my_mm; decide +kernel
theorem gm_75 : my_mm 75 2 (some .int) 1 8 := by unfold my_mm; decide +kernel
theorem gm_76 : my_mm 76 9 none 2 8 := by unfold my_mm; decide +kernel
theorem gm_77 : my_mm 77 6 none 3 8 := by unfold my_mm; decide +kernel
theorem gm_78 : my_mm 78 3 (some .boolean) 3 9 := by unfold my_mm; decide +kernel
theorem gm_79 : my_mm 79 4 none 0 8 := by unfold my_mm; decide +kernel
theorem gm_80 : my_mm 80 6 (some .int) 3 8 := by unfold my_mm; decide +kernel
theorem gm_81 : my_mm 81 3 (some .boolean) 2 8 := by unfold my_mm; decide +kernel
theorem gm_82 : my_mm 82 7 (some .int) 4 9 := by unfold my_mm; decide +kernel
theorem gm_83 : my_mm 83 3 (some .int) 2 8 := by unfold my_mm; decide +kernel
theorem gm_84 : my_mm 84 4 (some .int) 2 9 := by unfold my_mm; decide +kernel
theorem gm_85 : my_mm 85 3 (some .boolean) 2 9 := by unfold my_mm; decide +kernel
theorem gm_86 : my_mm 86 6 (some .int) 5 9 := by unfold my_mm; decide +kernel
theorem gm_87 : my_mm 87 7 (some .boolean) 6 2 := by unfold my_mm; decide +kernel
theorem gm_88 : my_mm 88 2 none 1 8 := by unfold my_mm; decide +kernel
theorem gm_89 : my_mm 89 4 none 3 8 := by unfold my_mm; decide +kernel
theorem gm_90 : my_mm 90 3 none 1 8 := by unfold my_mm; decide +kernel
theorem gm_91 : my_mm 91 2 none 1 8 := by unfold my_mm; decide +kernel
theorem gm_92 : my_mm 92 7 none 4 2 := by unfold my_mm; decide +kernel
theorem gm_93 : my_mm 93 3 (some .boolean) 1 8 := by unfold my_mm; decide +kernel
theorem gm_94 : my_mm 94 3 none 2 2 := by unfold my_mm; decide +kernel
theorem gm_95 : my_mm 95 2 none 1 7 := by unfold my_mm; decide +kernel
theorem gm_96 : my_mm 96 6 (some .long) 1 2 := by unfold my_mm; decide +kernel
theorem gm_97 : my_mm 97 3 (some .int) 1 8 := by unfold my_mm; decide +kernel
theorem gm_98 : my_mm 98 10 none 2 2 := by unfold my_mm; decide +kernel
theorem gm_99 : my_mm 99 3 (some .int) 0 4 := by unfold my_mm; decide +kernel
theorem gm_100 : my_mm 100 1 (some .boolean) 0 2 := by unfold my_mm; decide +kernel
theorem gm_101 : my_mm 101 2 (some .boolean) 1 2 := by unfold my_mm; decide +kernel
theorem gm_102 : my_mm 102 7 (some .boolean) 5 3 := by unfold my_mm; decide +kernel
theorem gm_103 : my_mm 103 7 (some .boolean) 5 3 := by unfold my_mm; decide +kernel
theorem gm_104 : my_mm 104 9 none 3 2 := by unfold my_mm; decide +kernel
theorem gm_105 : my_mm 105 2 none 1 2 := by unfold my_mm; decide +kernel
theorem gm_106 : my_mm 106 4 (some .boolean) 1 2 := by unfold my_mm; decide +kernel
theorem gm_107 : my_mm 107 3 (some .int) 1 4 := by unfold my_mm; decide +kernel
theorem gm_108 : my_mm 108 9 (some .int) 7 9 := by unfold my_mm; decide +kernel
theorem gm_109 : my_mm 109 6 (some .int) 5 9 := by unfold my_mm; decide +kernel
theorem gm_110 : my_mm 110 9 (some .boolean) 6 2 := by unfold my_mm; decide +kernel
theorem gm_111 : my_mm 111 3 (some .int) 1 2 := by unfold my_mm; decide +kernel
theorem gm_112 : my_mm 112 8 (some .int) 6 9 := by unfold my_mm; decide +kernel
theorem gm_113 : my_mm 113 7 (some .int) 5 9 := by unfold my_mm; decide +kernel
theorem gm_114 : my_mm 114 7 (some .int) 6 2 := by unfold my_mm; decide +kernel
theorem gm_115 : my_mm 115 7 (some .int) 5 9 := by unfold my_mm; decide +kernel
theorem gm_116 : my_mm 116 3 (some .boolean) 1 6 := by unfold my_mm; decide +kernel
theorem gm_117 : my_mm 117 7 (some .int) 4 9 := by unfold my_mm; decide +kernel
theorem gm_118 : my_mm 118 13 (some .int) 6 9 := by unfold my_mm; decide +kernel
theorem gm_119 : my_mm 119 3 (some .int) 2 9 := by unfold my_mm; decide +kernel
theorem gm_120 : my_mm 120 11 (some .int) 3 1 := by unfold my_mm; decide +kernel
theorem gm_121 : my_mm 121 6 (some .int) 2 6 := by unfold my_mm; decide +kernel
theorem gm_122 : my_mm 122 8 (some .int) 4 1 := by unfold my_mm; decide +kernel
theorem gm_123 : my_mm 123 1 (some .int) 1 0 := by unfold my_mm; decide +kernel
theorem gm_124 : my_mm 124 7 (some .boolean) 3 1 := by unfold my_mm; decide +kernel
theorem gm_125 : my_mm 125 8 (some .int) 5 1 := by unfold my_mm; decide +kernel
theorem gm_126 : my_mm 126 1 (some .int) 1 1 := by unfold my_mm; decide +kernel
theorem gm_127 : my_mm 127 5 (some .boolean) 4 9 := by unfold my_mm; decide +kernel
theorem gm_128 : my_mm 128 8 (some .int) 1 9 := by unfold my_mm; decide +kernel
theorem gm_129 : my_mm 129 2 none 0 0 := by unfold my_mm; decide +kernel
theorem gm_130 : my_mm 130 3 (some .int) 2 0 := by unfold my_mm; decide +kernel
theorem gm_131 : my_mm 131 4 none 2 0 := by unfold my_mm; decide +kernel
theorem gm_132 : my_mm 132 2 (some .int) 2 0 := by unfold my_mm; decide +kernel
theorem gm_133 : my_mm 133 5 (some .int) 2 9 := by unfold my_mm; decide +kernel
theorem gm_134 : my_mm 134 5 (some .int) 1 8 := by unfold my_mm; decide +kernel
theorem gm_135 : my_mm 135 4 (some .int) 3 9 := by unfold my_mm; decide +kernel
theorem gm_136 : my_mm 136 7 none 3 1 := by unfold my_mm; decide +kernel
theorem gm_137 : my_mm 137 5 (some .int) 4 9 := by unfold my_mm; decide +kernel
theorem gm_138 : my_mm 138 3 (some .boolean) 2 9 := by unfold my_mm; decide +kernel
theorem gm_139 : my_mm 139 2 (some .int) 1 9 := by unfold my_mm; decide +kernel
theorem gm_140 : my_mm 140 3 (some .int) 0 9 := by unfold my_mm; decide +kernel
theorem gm_141 : my_mm 141 3 (some .int) 0 6 := by unfold my_mm; decide +kernel
theorem gm_142 : my_mm 142 4 (some .int) 3 9 := by unfold my_mm; decide +kernel
theorem gm_143 : my_mm 143 7 (some .int) 3 10 := by unfold my_mm; decide +kernel
theorem gm_144 : my_mm 144 5 none 1 10 := by unfold my_mm; decide +kernel
theorem gm_145 : my_mm 145 2 none 0 10 := by unfold my_mm; decide +kernel
theorem gm_146 : my_mm 146 3 (some .boolean) 2 10 := by unfold my_mm; decide +kernel
theorem gm_147 : my_mm 147 3 (some .boolean) 3 10 := by unfold my_mm; decide +kernel
theorem gm_148 : my_mm 148 7 (some .boolean) 5 10 := by unfold my_mm; decide +kernel
theorem gm_149 : my_mm 149 2 (some .boolean) 1 10 := by unfold my_mm; decide +kernel
theorem gm_150 : my_mm 150 3 (some .int) 3 10 := by unfold my_mm; decide +kernel
theorem gm_151 : my_mm 151 5 (some .int) 2 10 := by unfold my_mm; decide +kernel
theorem gm_152 : my_mm 152 4 none 2 10 := by unfold my_mm; decide +kernel
theorem gm_153 : my_mm 153 8 none 6 10 := by unfold my_mm; decide +kernel
theorem gm_154 : my_mm 154 1 (some .boolean) 0 10 := by unfold my_mm; decide +kernel
theorem gm_155 : my_mm 155 4 (some .boolean) 1 10 := by unfold my_mm; decide +kernel
theorem gm_156 : my_mm 156 8 (some .boolean) 3 10 := by unfold my_mm; decide +kernel
theorem gm_157 : my_mm 157 5 (some .int) 4 10 := by unfold my_mm; decide +kernel
theorem gm_158 : my_mm 158 3 (some .boolean) 2 10 := by unfold my_mm; decide +kernel
theorem gm_159 : my_mm 159 3 (some .boolean) 2 10 := by unfold my_mm; decide +kernel
theorem gm_160 : my_mm 160 5 (some .boolean) 4 10 := by unfold my_mm; decide +kernel
theorem gm_161 : my_mm 161 5 (some .boolean) 4 10 := by unfold my_mm; decide +kernel
theorem gm_162 : my_mm 162 3 (some .boolean) 2 10 := by unfold my_mm; decide +kernel
theorem gm_163 : my_mm 163 7 (some .int) 4 10 := by unfold my_mm; decide +kernel
theorem gm_164 : my_mm 164 5 (some .int) 4 10 := by unfold my_mm; decide +kernel
theorem gm_165 : my_mm 165 5 (some .boolean) 3 10 := by unfold my_mm; decide +kernel
theorem gm_166 : my_mm 166 5 (some .boolean) 3 10 := by unfold my_mm; decide +kernel
theorem gm_167 : my_mm 167 4 (some .int) 3 10 := by unfold my_mm; decide +kernel
theorem gm_168 : my_mm 168 4 (some .int) 1 10 := by unfold my_mm; decide +kernel
theorem gm_169 : my_mm 169 7 none 0 10 := by unfold my_mm; decide +kernel
theorem gm_170 : my_mm 170 1 (some .boolean) 1 10 := by unfold my_mm; decide +kernel
theorem gm_171 : my_mm 171 1 (some .int) 1 10 := by unfold my_mm; decide +kernel
theorem gm_172 : my_mm 172 1 (some .boolean) 1 10 := by unfold my_mm; decide +kernel
theorem gm_173 : my_mm 173 1 (some .boolean) 1 10 := by unfold my_mm; decide +kernel
theorem gm_174 : my_mm 174 3 none 1 10 := by unfold my_mm; decide +kernel
theorem gm_175 : my_mm 175 2 none 1 10 := by unfold my_mm; decide +kernel
theorem gm_176 : my_mm 176 3 (some .boolean) 1 10 := by unfold my_mm; decide +kernel
theorem gm_177 : my_mm 177 2 (some .boolean) 1 10 := by unfold my_mm; decide +kernel
theorem gm_178 : my_mm 178 2 none 1 10 := by unfold my_mm; decide +kernel
theorem gm_179 : my_mm 179 4 none 1 10 := by unfold my_mm; decide +kernel
theorem gm_180 : my_mm 180 4 none 1 10 := by unfold my_mm; decide +kernel
theorem gm_181 : my_mm 181 2 none 0 10 := by unfold my_mm; decide +kernel
theorem gm_182 : my_mm 182 3 none 1 10 := by unfold my_mm; decide +kernel
theorem gm_183 : my_mm 183 2 none 1 10 := by unfold my_mm; decide +kernel
theorem gm_184 : my_mm 184 2 (some .boolean) 1 10 := by unfold my_mm; decide +kernel
theorem gm_185 : my_mm 185 8 none 0 10 := by unfold my_mm; decide +kernel
theorem gm_186 : my_mm 186 4 none 1 10 := by unfold my_mm; decide +kernel
theorem gm_187 : my_mm 187 2 (some .int) 1 10 := by unfold my_mm; decide +kernel
theorem gm_188 : my_mm 188 5 none 1 10 := by unfold my_mm; decide +kernel
theorem gm_189 : my_mm 189 3 none 1 10 := by unfold my_mm; decide +kernel
theorem gm_190 : my_mm 190 2 none 1 10 := by unfold my_mm; decide +kernel
theorem gm_191 : my_mm 191 6 none 1 10 := by unfold my_mm; decide +kernel
theorem gm_192 : my_mm 192 4 (some .int) 3 10 := by unfold my_mm; decide +kernel
theorem gm_193 : my_mm 193 2 (some .boolean) 1 10 := by unfold my_mm; decide +kernel
theorem gm_194 : my_mm 194 8 none 2 10 := by unfold my_mm; decide +kernel
theorem gm_195 : my_mm 195 4 none 1 10 := by unfold my_mm; decide +kernel
theorem gm_196 : my_mm 196 6 (some .boolean) 3 10 := by unfold my_mm; decide +kernel
theorem gm_197 : my_mm 197 4 none 2 10 := by unfold my_mm; decide +kernel
theorem gm_198 : my_mm 198 6 none 1 10 := by unfold my_mm; decide +kernel
theorem gm_199 : my_mm 199 3 none 0 10 := by unfold my_mm; decide +kernel
theorem gm_200 : my_mm 200 4 (some .boolean) 2 10 := by unfold my_mm; decide +kernel
theorem gm_201 : my_mm 201 7 none 2 10 := by unfold my_mm; decide +kernel
theorem gm_202 : my_mm 202 5 (some .int) 4 10 := by unfold my_mm; decide +kernel
theorem gm_203 : my_mm 203 3 (some .int) 2 10 := by unfold my_mm; decide +kernel
theorem gm_204 : my_mm 204 4 (some .int) 1 10 := by unfold my_mm; decide +kernel
theorem gm_205 : my_mm 205 6 (some .int) 1 10 := by unfold my_mm; decide +kernel
theorem gm_206 : my_mm 206 3 (some .boolean) 2 10 := by unfold my_mm; decide +kernel
theorem gm_207 : my_mm 207 6 (some .int) 5 10 := by unfold my_mm; decide +kernel
theorem gm_208 : my_mm 208 8 (some .boolean) 6 10 := by unfold my_mm; decide +kernel
theorem gm_209 : my_mm 209 11 none 6 10 := by unfold my_mm; decide +kernel
theorem gm_210 : my_mm 210 7 none 4 10 := by unfold my_mm; decide +kernel
theorem gm_211 : my_mm 211 4 (some .boolean) 2 10 := by unfold my_mm; decide +kernel
theorem gm_212 : my_mm 212 5 none 2 10 := by unfold my_mm; decide +kernel
theorem gm_213 : my_mm 213 6 (some .boolean) 2 10 := by unfold my_mm; decide +kernel
theorem gm_214 : my_mm 214 6 none 5 10 := by unfold my_mm; decide +kernel
theorem gm_215 : my_mm 215 7 none 3 10 := by unfold my_mm; decide +kernel
theorem gm_216 : my_mm 216 3 (some .boolean) 2 10 := by unfold my_mm; decide +kernel
theorem gm_217 : my_mm 217 4 none 1 10 := by unfold my_mm; decide +kernel
theorem gm_218 : my_mm 218 3 (some .int) 1 10 := by unfold my_mm; decide +kernel
theorem gm_219 : my_mm 219 9 (some .int) 7 10 := by unfold my_mm; decide +kernel
theorem gm_220 : my_mm 220 3 (some .int) 0 10 := by unfold my_mm; decide +kernel
theorem gm_221 : my_mm 221 2 (some .int) 1 10 := by unfold my_mm; decide +kernel
theorem gm_222 : my_mm 222 7 (some .int) 5 10 := by unfold my_mm; decide +kernel
theorem gm_223 : my_mm 223 9 (some .int) 6 10 := by unfold my_mm; decide +kernel
theorem gm_224 : my_mm 224 11 (some .int) 6 10 := by unfold my_mm; decide +kernel
theorem gm_225 : my_mm 225 8 (some .boolean) 5 10 := by unfold my_mm; decide +kernel
theorem gm_226 : my_mm 226 5 (some .boolean) 1 10 := by unfold my_mm; decide +kernel
theorem gm_227 : my_mm 227 8 (some .int) 4 10 := by unfold my_mm; decide +kernel
theorem gm_228 : my_mm 228 7 (some .int) 5 10 := by unfold my_mm; decide +kernel
theorem gm_229 : my_mm 229 7 (some .int) 5 10 := by unfold my_mm; decide +kernel
theorem gm_230 : my_mm 230 6 (some .boolean) 2 10 := by unfold my_mm; decide +kernel
theorem gm_231 : my_mm 231 7 (some .int) 4 10 := by unfold my_mm; decide +kernel
theorem gm_232 : my_mm 232 9 (some .int) 6 10 := by unfold my_mm; decide +kernel
theorem gm_233 : my_mm 233 8 (some .boolean) 7 10 := by unfold my_mm; decide +kernel
theorem gm_234 : my_mm 234 7 (some .int) 3 10 := by unfold my_mm; decide +kernel
theorem gm_235 : my_mm 235 10 (some .boolean) 5 10 := by unfold my_mm; decide +kernel
theorem gm_236 : my_mm 236 5 (some .int) 2 10 := by unfold my_mm; decide +kernel
theorem gm_237 : my_mm 237 5 (some .int) 2 10 := by unfold my_mm; decide +kernel
theorem gm_238 : my_mm 238 7 (some .int) 4 10 := by unfold my_mm; decide +kernel
theorem gm_239 : my_mm 239 11 (some .boolean) 2 10 := by unfold my_mm; decide +kernel
theorem gm_240 : my_mm 240 9 (some .int) 4 10 := by unfold my_mm; decide +kernel
theorem gm_241 : my_mm 241 5 (some .boolean) 4 10 := by unfold my_mm; decide +kernel
theorem gm_242 : my_mm 242 6 (some .int) 1 10 := by unfold my_mm; decide +kernel
theorem gm_243 : my_mm 243 3 (some .boolean) 2 10 := by unfold my_mm; decide +kernel
theorem gm_244 : my_mm 244 2 (some .boolean) 1 10 := by unfold my_mm; decide +kernel
theorem gm_245 : my_mm 245 8 none 3 10 := by unfold my_mm; decide +kernel
theorem gm_246 : my_mm 246 3 (some .int) 2 10 := by unfold my_mm; decide +kernel
theorem gm_247 : my_mm 247 11 (some .int) 3 10 := by unfold my_mm; decide +kernel
theorem gm_248 : my_mm 248 3 (some .boolean) 2 10 := by unfold my_mm; decide +kernel
theorem gm_249 : my_mm 249 5 (some .int) 1 10 := by unfold my_mm; decide +kernel
theorem rd_0 : my_rd 0 = .inr (0, [(2, 46, 1), (2, 47, 2), (2, 48, 3), (2, 49, 4), (0, 0, 3), (2, 50, 5), (0, 0, 6), (0, 0, 6), (0, -2147483648, 2147483647), (0, -2147483648, 2147483647)]) := rfl
theorem rd_1 : my_rd 1 = .inr (1, [(2, 3, -113), (2, 8, 1), (2, 45, 5), (0, -2147483648, 2147483647), (0, -2147483648, 2147483647), (0, -2147483648, 2147483647), (0, -2147483648, 2147483647)]) := rfl
theorem rd_2 : my_rd 2 = .inr (2, [(2, 3, -93), (2, 22, -67), (2, 23, -1), (2, 6, 1), (2, 8, 4), (2, 8, 8), (2, 8, 12), (2, 41, 16), (2, 7, 17), (2, 7, 18), (2, 7, 19), (0, -2147483648, 2147483647), (0, -2147483648, 2147483647), (0, 0, 1), (0, 0, 1), (0, 0, 2), (0, -2147483648, 2147483647)]) := rfl
theorem rd_3 : my_rd 3 = .inr (3, [(2, 25, 1), (2, 26, 2), (2, 27, 3), (2, 28, 4), (2, 29, 5)]) := rfl
theorem rd_4 : my_rd 4 = .inr (4, [(0, 0, 1), (0, -1, 5), (0, 0, 2), (0, 0, 4), (0, 0, 8), (0, -2147483648, 2147483647), (0, -2147483648, 2147483647), (0, 0, 1), (0, -2147483648, 2147483647), (0, 0, 6), (2, 32, 1), (2, 33, 2), (2, 34, 3), (2, 35, 4), (2, 36, 5), (2, 37, 6), (2, 38, 7), (2, 39, 8)]) := rfl
theorem rd_5 : my_rd 5 = .inr (5, [(2, 3, -81), (2, 22, -55), (2, 4, 0), (2, 40, 10), (0, 0, 1000), (0, 0, 1000), (0, 0, 4), (0, 0, 1000), (0, 0, 999), (0, 0, 16005)]) := rfl
theorem rd_6 : my_rd 6 = .inr (6, [(2, 30, 1), (2, 31, 2)]) := rfl
theorem rd_7 : my_rd 7 = .inr (7, [(0, -2147483648, 2147483647), (0, -1, 3), (0, -1, 2), (0, -1, 19), (0, -1, 3), (0, -1, 19)]) := rfl
theorem rd_8 : my_rd 8 = .inr (8, [(0, 0, 11), (0, 0, 8), (2, 42, 1), (2, 43, 2), (2, 44, 3)]) := rfl
theorem rd_9 : my_rd 9 = .inr (9, [(2, 3, 1), (2, 6, 7), (2, 6, 10), (0, 0, 1), (2, 20, 13), (2, 21, 26), (2, 22, 27), (2, 5, 82), (2, 23, 93), (2, 2, 94), (2, 1, 114), (2, 0, 120), (2, 24, 144), (2, 6, 145), (2, 6, 148)]) := rfl
theorem rd_10 : my_rd 10 = .inr (10, [(0, 0, 1), (2, 51, 1), (0, 0, 1000), (0, 0, 1000), (2, 52, 2), (2, 53, 3), (2, 54, 4), (0, 0, 1001), (0, 0, 16005), (2, 55, 5), (2, 56, 6), (2, 57, 7), (2, 58, 8), (2, 59, 9), (2, 60, 10), (2, 61, 11), (2, 62, 12), (2, 63, 13), (2, 64, 14), (2, 65, 15), (2, 66, 16), (2, 67, 17), (2, 68, 18), (2, 69, 19), (2, 70, 20), (2, 71, 21), (2, 72, 22), (0, 0, 8), (2, 73, 23), (2, 74, 24), (2, 75, 25), (2, 76, 26), (0, 0, 6), (0, 0, 2), (2, 77, 27), (2, 78, 28), (2, 79, 29), (0, 0, 10), (2, 80, 30), (2, 81, 31), (2, 82, 32), (2, 83, 33), (2, 84, 34), (2, 85, 35), (2, 86, 36), (2, 87, 37), (0, 0, 11), (2, 88, 38), (0, 0, 1800), (2, 89, 39), (2, 90, 40), (2, 91, 41), (2, 92, 42), (2, 93, 43), (2, 94, 44), (0, 0, 1), (2, 95, 45), (2, 96, 46), (2, 97, 47), (2, 98, 48), (2, 99, 49), (2, 100, 50), (0, -2147483648, 2147483647), (0, 0, 6), (0, -2147483648, 2147483647), (0, -2147483648, 2147483647), (2, 101, 51)]) := rfl
theorem rd_20 : my_rd 20 = .inl (4, 4, [(2, 6, 0)]) := rfl
theorem rd_21 : my_rd 21 = .inl (1, 4, [(0, 0, 1)]) := rfl
theorem rd_22 : my_rd 22 = .inl (5, 6, [(2, 4, 0)]) := rfl
theorem rd_23 : my_rd 23 = .inl (0, 8, [(0, 0, 19)]) := rfl
theorem rd_24 : my_rd 24 = .inl (0, 4, [(0, -2147483648, 2147483647)]) := rfl
theorem rd_25 : my_rd 25 = .inl (0, 3, [(0, 0, 4)]) := rfl
theorem rd_26 : my_rd 26 = .inl (0, 12, [(0, 0, 19)]) := rfl
theorem rd_27 : my_rd 27 = .inl (0, 12, [(0, 0, 19)]) := rfl
theorem rd_28 : my_rd 28 = .inl (0, 12, [(0, -1, 2)]) := rfl
theorem rd_29 : my_rd 29 = .inl (1, 12, [(0, 0, 1)]) := rfl
theorem rd_30 : my_rd 30 = .inl (0, 240, [(0, -1, 19)]) := rfl
theorem rd_31 : my_rd 31 = .inl (0, 3, [(0, -2147483648, 2147483647)]) := rfl
theorem rd_32 : my_rd 32 = .inl (0, 6, [(0, 0, 5)]) := rfl
theorem rd_33 : my_rd 33 = .inl (0, 6, [(0, 0, 7)]) := rfl
theorem rd_34 : my_rd 34 = .inl (0, 6, [(0, 0, 199)]) := rfl
theorem rd_35 : my_rd 35 = .inl (0, 6, [(0, 0, 8)]) := rfl
theorem rd_36 : my_rd 36 = .inl (0, 48, [(0, 0, 7)]) := rfl
theorem rd_37 : my_rd 37 = .inl (0, 8, [(0, -1, 27)]) := rfl
theorem rd_38 : my_rd 38 = .inl (0, 4, [(0, 0, 19)]) := rfl
theorem rd_39 : my_rd 39 = .inl (0, 8, [(0, -1, 27)]) := rfl
theorem rd_40 : my_rd 40 = .inl (3, 1000, [(0, 0, 126)]) := rfl
theorem rd_41 : my_rd 41 = .inl (0, 4, [(0, 0, 19)]) := rfl
theorem rd_42 : my_rd 42 = .inl (0, 204, my_gE) := rfl
theorem rd_43 : my_rd 43 = .inl (0, 6, [(0, 0, 5)]) := rfl
theorem rd_44 : my_rd 44 = .inl (2, 20, [(1, -9223372036854775808, 9223372036854775807)]) := rfl
theorem rd_45 : my_rd 45 = .inl (0, 4, [(0, 0, 3)]) := rfl
theorem rd_46 : my_rd 46 = .inl (0, 3, [(0, -1, 5)]) := rfl
theorem rd_47 : my_rd 47 = .inl (0, 3, [(0, 0, 79)]) := rfl
theorem rd_48 : my_rd 48 = .inl (0, 3, [(0, 0, 199)]) := rfl
theorem rd_49 : my_rd 49 = .inl (0, 3, [(0, 0, 2)]) := rfl
theorem rd_50 : my_rd 50 = .inl (4, 6, [(2, 6, 0)]) := rfl
theorem rd_51 : my_rd 51 = .inl (0, 1000, [(0, 0, 126)]) := rfl
theorem rd_52 : my_rd 52 = .inl (0, 1002, [(0, 0, 4)]) := rfl
theorem rd_53 : my_rd 53 = .inl (0, 1002, [(0, 0, 1000)]) := rfl
theorem rd_54 : my_rd 54 = .inl (2, 1002, [(1, -9223372036854775808, 9223372036854775807)]) := rfl
theorem rd_55 : my_rd 55 = .inl (2, 12, [(1, -9223372036854775808, 9223372036854775807)]) := rfl
theorem rd_56 : my_rd 56 = .inl (0, 3, [(0, 0, 4)]) := rfl
theorem rd_57 : my_rd 57 = .inl (0, 12, [(0, 0, 19)]) := rfl
theorem rd_58 : my_rd 58 = .inl (0, 12, [(0, 0, 19)]) := rfl
theorem rd_59 : my_rd 59 = .inl (0, 12, [(0, -1, 2)]) := rfl
theorem rd_60 : my_rd 60 = .inl (1, 12, [(0, 0, 1)]) := rfl
theorem rd_61 : my_rd 61 = .inl (1, 960, [(0, 0, 1)]) := rfl
theorem rd_62 : my_rd 62 = .inl (0, 3840, [(0, 0, 19)]) := rfl
theorem rd_63 : my_rd 63 = .inl (1, 7, [(0, 0, 1)]) := rfl
theorem rd_64 : my_rd 64 = .inl (1, 7, [(0, 0, 1)]) := rfl
theorem rd_65 : my_rd 65 = .inl (0, 7, [(0, 0, 5)]) := rfl
theorem rd_66 : my_rd 66 = .inl (0, 7, [(0, 0, 6)]) := rfl
theorem rd_67 : my_rd 67 = .inl (0, 42, [(0, 0, 5)]) := rfl
theorem rd_68 : my_rd 68 = .inl (0, 42, [(0, 0, 7)]) := rfl
theorem rd_69 : my_rd 69 = .inl (0, 42, [(0, 0, 199)]) := rfl
theorem rd_70 : my_rd 70 = .inl (0, 42, [(0, 0, 8)]) := rfl
theorem rd_71 : my_rd 71 = .inl (0, 336, [(0, 0, 7)]) := rfl
theorem rd_72 : my_rd 72 = .inl (0, 28, [(0, -1, 19)]) := rfl
theorem rd_73 : my_rd 73 = .inl (0, 8, [(0, -1, 2)]) := rfl
theorem rd_74 : my_rd 74 = .inl (0, 8, [(0, -1, 3)]) := rfl
theorem rd_75 : my_rd 75 = .inl (1, 8, [(0, 0, 1)]) := rfl
theorem rd_76 : my_rd 76 = .inl (0, 6, [(0, 0, 6)]) := rfl
theorem rd_77 : my_rd 77 = .inl (0, 8, [(0, -1, 2)]) := rfl
theorem rd_78 : my_rd 78 = .inl (0, 8, [(0, -1, 3)]) := rfl
theorem rd_79 : my_rd 79 = .inl (1, 8, [(0, 0, 1)]) := rfl
theorem rd_80 : my_rd 80 = .inl (0, 10, [(0, 0, 19)]) := rfl
theorem rd_81 : my_rd 81 = .inl (0, 80, [(0, 0, 2147483647)]) := rfl
theorem rd_82 : my_rd 82 = .inl (0, 80, [(0, 0, 19)]) := rfl
theorem rd_83 : my_rd 83 = .inl (0, 8, [(0, 0, 2147483647)]) := rfl
theorem rd_84 : my_rd 84 = .inl (0, 8, [(0, 0, 19)]) := rfl
theorem rd_85 : my_rd 85 = .inl (0, 10, [(0, 0, 2147483647)]) := rfl
theorem rd_86 : my_rd 86 = .inl (0, 10, [(0, 0, 2147483647)]) := rfl
theorem rd_87 : my_rd 87 = .inl (0, 8, [(0, 0, 19)]) := rfl
theorem rd_88 : my_rd 88 = .inl (0, 88, [(0, 0, 2147483647)]) := rfl
theorem rd_89 : my_rd 89 = .inl (0, 1800, [(0, 0, 3)]) := rfl
theorem rd_90 : my_rd 90 = .inl (0, 1800, [(0, -1, 2)]) := rfl
theorem rd_91 : my_rd 91 = .inl (0, 1800, [(0, -1, 19)]) := rfl
theorem rd_92 : my_rd 92 = .inl (0, 1800, [(0, -1, 3)]) := rfl
theorem rd_93 : my_rd 93 = .inl (0, 1800, [(0, -1, 19)]) := rfl
theorem rd_94 : my_rd 94 = .inl (0, 4, [(0, 0, 19)]) := rfl
theorem rd_95 : my_rd 95 = .inl (0, 4, [(0, 0, 3)]) := rfl
theorem rd_96 : my_rd 96 = .inl (0, 10, [(0, 0, 19)]) := rfl
theorem rd_97 : my_rd 97 = .inl (0, 1024, [(0, -2147483648, 2147483647)]) := rfl
theorem rd_98 : my_rd 98 = .inl (0, 3, [(0, -1, 5)]) := rfl
theorem rd_99 : my_rd 99 = .inl (0, 3, [(0, -2147483648, 2147483647)]) := rfl
theorem rd_100 : my_rd 100 = .inl (0, 3, [(0, -2147483648, 2147483647)]) := rfl
theorem rd_101 : my_rd 101 = .inl (1, 4, [(0, 0, 1)]) := rfl
theorem rd_102 : my_rd 102 = .inl (2, 1, [(1, -9223372036854775808, 9223372036854775807)]) := rfl
end MGZ5
