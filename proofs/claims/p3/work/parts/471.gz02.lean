/-! what stands where (printed by wip/gen/gy.py) -/
section MGZ2
theorem gz_106_20 : mz_pg 106 20 = some (.if_icmp .eq 12, 0, 0, 0) := by decide +kernel
theorem gz_106_23 : mz_pg 106 23 = some (.aload_n 0, 0, 0, 0) := by decide +kernel
theorem gz_106_24 : mz_pg 106 24 = some (.getfield 56, 2, 2, 392) := by decide +kernel
theorem gz_106_27 : mz_pg 106 27 = some (.iload_n 3, 0, 0, 0) := by decide +kernel
theorem gz_106_28 : mz_pg 106 28 = some (.iaload, 0, 0, 0) := by decide +kernel
theorem gz_106_29 : mz_pg 106 29 = some (.goto 9, 0, 0, 0) := by decide +kernel
theorem gz_106_32 : mz_pg 106 32 = some (.aload_n 1, 0, 0, 0) := by decide +kernel
theorem gz_106_33 : mz_pg 106 33 = some (.getfield 256, 4, 16, 235) := by decide +kernel
theorem gz_106_36 : mz_pg 106 36 = some (.iload_n 2, 0, 0, 0) := by decide +kernel
theorem gz_106_37 : mz_pg 106 37 = some (.iaload, 0, 0, 0) := by decide +kernel
theorem gz_106_38 : mz_pg 106 38 = some (.iastore, 0, 0, 0) := by decide +kernel
theorem gz_106_39 : mz_pg 106 39 = some (.iinc 2 1, 0, 0, 0) := by decide +kernel
theorem gz_106_42 : mz_pg 106 42 = some (.goto (-40), 0, 0, 0) := by decide +kernel
theorem gz_106_45 : mz_pg 106 45 = some (.aload_n 0, 0, 0, 0) := by decide +kernel
theorem gz_106_46 : mz_pg 106 46 = some (.getfield 12, 2, 3, 393) := by decide +kernel
theorem gz_106_49 : mz_pg 106 49 = some (.getfield 259, 6, 1, 184) := by decide +kernel
theorem gz_106_52 : mz_pg 106 52 = some (.aload_n 1, 0, 0, 0) := by decide +kernel
theorem gz_106_53 : mz_pg 106 53 = some (.getfield 196, 4, 2, 203) := by decide +kernel
theorem gz_106_56 : mz_pg 106 56 = some (.iaload, 0, 0, 0) := by decide +kernel
theorem gz_106_57 : mz_pg 106 57 = some (.bipush 10, 0, 0, 0) := by decide +kernel
theorem gz_106_59 : mz_pg 106 59 = some (.if_icmp .ge 23, 0, 0, 0) := by decide +kernel
theorem gz_106_62 : mz_pg 106 62 = some (.aload_n 0, 0, 0, 0) := by decide +kernel
theorem gz_106_63 : mz_pg 106 63 = some (.getfield 12, 2, 3, 393) := by decide +kernel
theorem gz_106_66 : mz_pg 106 66 = some (.aload_n 1, 0, 0, 0) := by decide +kernel
theorem gz_106_67 : mz_pg 106 67 = some (.getfield 196, 4, 2, 203) := by decide +kernel
theorem gz_106_70 : mz_pg 106 70 = some (.aload_n 0, 0, 0, 0) := by decide +kernel
theorem gz_106_71 : mz_pg 106 71 = some (.getfield 31, 2, 7, 400) := by decide +kernel
theorem gz_106_74 : mz_pg 106 74 = some (.iconst 0, 0, 0, 0) := by decide +kernel
theorem gz_106_75 : mz_pg 106 75 = some (.iaload, 0, 0, 0) := by decide +kernel
theorem gz_106_76 : mz_pg 106 76 = some (.invokevirtual 199, 1, 15, 937) := by decide +kernel
theorem gz_106_79 : mz_pg 106 79 = some (.ifCond .eq 5, 0, 0, 0) := by decide +kernel
theorem gz_106_82 : mz_pg 106 82 = some (.iconst 0, 0, 0, 0) := by decide +kernel
theorem gz_106_83 : mz_pg 106 83 = some (.ireturn, 0, 0, 0) := by decide +kernel
theorem gz_106_84 : mz_pg 106 84 = some (.aload_n 0, 0, 0, 0) := by decide +kernel
theorem gz_106_85 : mz_pg 106 85 = some (.getfield 12, 2, 3, 393) := by decide +kernel
theorem gz_106_88 : mz_pg 106 88 = some (.aload_n 1, 0, 0, 0) := by decide +kernel
theorem gz_106_89 : mz_pg 106 89 = some (.getfield 196, 4, 2, 203) := by decide +kernel
theorem gz_106_92 : mz_pg 106 92 = some (.aload_n 0, 0, 0, 0) := by decide +kernel
theorem gz_106_93 : mz_pg 106 93 = some (.getfield 31, 2, 7, 400) := by decide +kernel
theorem gz_106_96 : mz_pg 106 96 = some (.invokevirtual 144, 1, 16, 978) := by decide +kernel
theorem gz_106_99 : mz_pg 106 99 = some (.iconst 1, 0, 0, 0) := by decide +kernel
theorem gz_106_100 : mz_pg 106 100 = some (.ireturn, 0, 0, 0) := by decide +kernel
theorem gz_107_0 : mz_pg 107 0 = some (.iconst 0, 0, 0, 0) := by decide +kernel
theorem gz_107_1 : mz_pg 107 1 = some (.istore_n 2, 0, 0, 0) := by decide +kernel
theorem gz_107_2 : mz_pg 107 2 = some (.iload_n 2, 0, 0, 0) := by decide +kernel
theorem gz_107_3 : mz_pg 107 3 = some (.aload_n 0, 0, 0, 0) := by decide +kernel
theorem gz_107_4 : mz_pg 107 4 = some (.getfield 46, 4, 4, 208) := by decide +kernel
theorem gz_107_7 : mz_pg 107 7 = some (.if_icmp .ge 28, 0, 0, 0) := by decide +kernel
theorem gz_107_10 : mz_pg 107 10 = some (.aload_n 0, 0, 0, 0) := by decide +kernel
theorem gz_107_11 : mz_pg 107 11 = some (.getfield 27, 4, 15, 232) := by decide +kernel
theorem gz_107_14 : mz_pg 107 14 = some (.iload_n 2, 0, 0, 0) := by decide +kernel
theorem gz_107_15 : mz_pg 107 15 = some (.iaload, 0, 0, 0) := by decide +kernel
theorem gz_107_16 : mz_pg 107 16 = some (.aload_n 0, 0, 0, 0) := by decide +kernel
theorem gz_107_17 : mz_pg 107 17 = some (.getfield 40, 4, 2, 201) := by decide +kernel
theorem gz_107_20 : mz_pg 107 20 = some (.iload_n 1, 0, 0, 0) := by decide +kernel
theorem gz_107_21 : mz_pg 107 21 = some (.invokestatic 65, 2, 29, 6) := by decide +kernel
theorem gz_107_24 : mz_pg 107 24 = some (.if_icmp .ne 5, 0, 0, 0) := by decide +kernel
theorem gz_107_27 : mz_pg 107 27 = some (.iload_n 2, 0, 0, 0) := by decide +kernel
theorem gz_107_28 : mz_pg 107 28 = some (.ireturn, 0, 0, 0) := by decide +kernel
theorem gz_107_29 : mz_pg 107 29 = some (.iinc 2 1, 0, 0, 0) := by decide +kernel
theorem gz_107_32 : mz_pg 107 32 = some (.goto (-30), 0, 0, 0) := by decide +kernel
theorem gz_107_35 : mz_pg 107 35 = some (.iconst (-1), 0, 0, 0) := by decide +kernel
theorem gz_107_36 : mz_pg 107 36 = some (.ireturn, 0, 0, 0) := by decide +kernel
theorem gz_108_0 : mz_pg 108 0 = some (.iload 6, 0, 0, 0) := by decide +kernel
theorem gz_108_2 : mz_pg 108 2 = some (.iconst (-1), 0, 0, 0) := by decide +kernel
theorem gz_108_3 : mz_pg 108 3 = some (.if_icmp .lt 24, 0, 0, 0) := by decide +kernel
theorem gz_108_6 : mz_pg 108 6 = some (.aload_n 0, 0, 0, 0) := by decide +kernel
theorem gz_108_7 : mz_pg 108 7 = some (.getfield 59, 9, 9, 537) := by decide +kernel
theorem gz_108_10 : mz_pg 108 10 = some (.aload_n 0, 0, 0, 0) := by decide +kernel
theorem gz_108_11 : mz_pg 108 11 = some (.getfield 19, 9, 1, 529) := by decide +kernel
theorem gz_108_14 : mz_pg 108 14 = some (.iload_n 1, 0, 0, 0) := by decide +kernel
theorem gz_108_15 : mz_pg 108 15 = some (.iload_n 2, 0, 0, 0) := by decide +kernel
theorem gz_108_16 : mz_pg 108 16 = some (.iload_n 3, 0, 0, 0) := by decide +kernel
theorem gz_108_17 : mz_pg 108 17 = some (.iload 4, 0, 0, 0) := by decide +kernel
theorem gz_108_19 : mz_pg 108 19 = some (.iload 5, 0, 0, 0) := by decide +kernel
theorem gz_108_21 : mz_pg 108 21 = some (.invokevirtual 197, 1, 87, 893) := by decide +kernel
theorem gz_108_24 : mz_pg 108 24 = some (.ifCond .ne 5, 0, 0, 0) := by decide +kernel
theorem gz_108_27 : mz_pg 108 27 = some (.iconst (-1), 0, 0, 0) := by decide +kernel
theorem gz_108_28 : mz_pg 108 28 = some (.ireturn, 0, 0, 0) := by decide +kernel
theorem gz_108_29 : mz_pg 108 29 = some (.aload_n 0, 0, 0, 0) := by decide +kernel
theorem gz_108_30 : mz_pg 108 30 = some (.getfield 59, 9, 9, 537) := by decide +kernel
theorem gz_108_33 : mz_pg 108 33 = some (.aload_n 0, 0, 0, 0) := by decide +kernel
theorem gz_108_34 : mz_pg 108 34 = some (.getfield 19, 9, 1, 529) := by decide +kernel
theorem gz_108_37 : mz_pg 108 37 = some (.iload_n 1, 0, 0, 0) := by decide +kernel
theorem gz_108_38 : mz_pg 108 38 = some (.iload 6, 0, 0, 0) := by decide +kernel
theorem gz_108_40 : mz_pg 108 40 = some (.iload 6, 0, 0, 0) := by decide +kernel
theorem gz_108_42 : mz_pg 108 42 = some (.iconst (-1), 0, 0, 0) := by decide +kernel
theorem gz_108_43 : mz_pg 108 43 = some (.if_icmp .ne 7, 0, 0, 0) := by decide +kernel
theorem gz_108_46 : mz_pg 108 46 = some (.iconst 1, 0, 0, 0) := by decide +kernel
theorem gz_108_47 : mz_pg 108 47 = some (.goto 4, 0, 0, 0) := by decide +kernel
theorem gz_108_50 : mz_pg 108 50 = some (.iconst 0, 0, 0, 0) := by decide +kernel
theorem gz_108_51 : mz_pg 108 51 = some (.invokevirtual 201, 1, 92, 916) := by decide +kernel
theorem gz_108_54 : mz_pg 108 54 = some (.iload 6, 0, 0, 0) := by decide +kernel
theorem gz_108_56 : mz_pg 108 56 = some (.iconst (-1), 0, 0, 0) := by decide +kernel
theorem gz_108_57 : mz_pg 108 57 = some (.if_icmp .ne 13, 0, 0, 0) := by decide +kernel
theorem gz_108_60 : mz_pg 108 60 = some (.aload_n 0, 0, 0, 0) := by decide +kernel
theorem gz_108_61 : mz_pg 108 61 = some (.getfield 59, 9, 9, 537) := by decide +kernel
theorem gz_108_64 : mz_pg 108 64 = some (.getfield 208, 2, 9, 403) := by decide +kernel
theorem gz_108_67 : mz_pg 108 67 = some (.goto 10, 0, 0, 0) := by decide +kernel
theorem gz_108_70 : mz_pg 108 70 = some (.aload_n 0, 0, 0, 0) := by decide +kernel
theorem gz_108_71 : mz_pg 108 71 = some (.getfield 59, 9, 9, 537) := by decide +kernel
theorem gz_108_74 : mz_pg 108 74 = some (.getfield 212, 2, 10, 405) := by decide +kernel
theorem gz_108_77 : mz_pg 108 77 = some (.astore 8, 0, 0, 0) := by decide +kernel
theorem gz_108_79 : mz_pg 108 79 = some (.iload 7, 0, 0, 0) := by decide +kernel
theorem gz_108_81 : mz_pg 108 81 = some (.tableswitch 75 0 5 #[39, 45, 51, 57, 63, 69], 0, 0, 0) := by decide +kernel
theorem gz_108_120 : mz_pg 108 120 = some (.aload 8, 0, 0, 0) := by decide +kernel
theorem gz_108_122 : mz_pg 108 122 = some (.getfield 215, 7, 0, 361) := by decide +kernel
theorem gz_108_125 : mz_pg 108 125 = some (.ireturn, 0, 0, 0) := by decide +kernel
theorem gz_108_126 : mz_pg 108 126 = some (.aload 8, 0, 0, 0) := by decide +kernel
theorem gz_108_128 : mz_pg 108 128 = some (.getfield 220, 7, 1, 364) := by decide +kernel
theorem gz_108_131 : mz_pg 108 131 = some (.ireturn, 0, 0, 0) := by decide +kernel
theorem gz_108_132 : mz_pg 108 132 = some (.aload 8, 0, 0, 0) := by decide +kernel
theorem gz_108_134 : mz_pg 108 134 = some (.getfield 223, 7, 2, 367) := by decide +kernel
theorem gz_108_137 : mz_pg 108 137 = some (.ireturn, 0, 0, 0) := by decide +kernel
theorem gz_108_138 : mz_pg 108 138 = some (.aload 8, 0, 0, 0) := by decide +kernel
theorem gz_108_140 : mz_pg 108 140 = some (.getfield 226, 7, 3, 370) := by decide +kernel
theorem gz_108_143 : mz_pg 108 143 = some (.ireturn, 0, 0, 0) := by decide +kernel
theorem gz_108_144 : mz_pg 108 144 = some (.aload 8, 0, 0, 0) := by decide +kernel
theorem gz_108_146 : mz_pg 108 146 = some (.getfield 229, 7, 4, 373) := by decide +kernel
theorem gz_108_149 : mz_pg 108 149 = some (.ireturn, 0, 0, 0) := by decide +kernel
theorem gz_108_150 : mz_pg 108 150 = some (.aload 8, 0, 0, 0) := by decide +kernel
theorem gz_108_152 : mz_pg 108 152 = some (.getfield 232, 7, 5, 376) := by decide +kernel
theorem gz_108_155 : mz_pg 108 155 = some (.ireturn, 0, 0, 0) := by decide +kernel
theorem gz_108_156 : mz_pg 108 156 = some (.iconst (-1), 0, 0, 0) := by decide +kernel
theorem gz_108_157 : mz_pg 108 157 = some (.ireturn, 0, 0, 0) := by decide +kernel
theorem gz_109_0 : mz_pg 109 0 = some (.aload_n 0, 0, 0, 0) := by decide +kernel
theorem gz_109_1 : mz_pg 109 1 = some (.getfield 59, 9, 9, 537) := by decide +kernel
theorem gz_109_4 : mz_pg 109 4 = some (.aload_n 0, 0, 0, 0) := by decide +kernel
theorem gz_109_5 : mz_pg 109 5 = some (.getfield 19, 9, 1, 529) := by decide +kernel
theorem gz_109_8 : mz_pg 109 8 = some (.iload_n 1, 0, 0, 0) := by decide +kernel
theorem gz_109_9 : mz_pg 109 9 = some (.iload_n 2, 0, 0, 0) := by decide +kernel
theorem gz_109_10 : mz_pg 109 10 = some (.iload_n 3, 0, 0, 0) := by decide +kernel
theorem gz_109_11 : mz_pg 109 11 = some (.iload 4, 0, 0, 0) := by decide +kernel
theorem gz_109_13 : mz_pg 109 13 = some (.iload 5, 0, 0, 0) := by decide +kernel
theorem gz_109_15 : mz_pg 109 15 = some (.invokevirtual 197, 1, 87, 893) := by decide +kernel
theorem gz_109_18 : mz_pg 109 18 = some (.ifCond .ne 5, 0, 0, 0) := by decide +kernel
theorem gz_109_21 : mz_pg 109 21 = some (.iconst (-1), 0, 0, 0) := by decide +kernel
theorem gz_109_22 : mz_pg 109 22 = some (.ireturn, 0, 0, 0) := by decide +kernel
theorem gz_109_23 : mz_pg 109 23 = some (.aload_n 0, 0, 0, 0) := by decide +kernel
theorem gz_109_24 : mz_pg 109 24 = some (.getfield 59, 9, 9, 537) := by decide +kernel
theorem gz_109_27 : mz_pg 109 27 = some (.aload_n 0, 0, 0, 0) := by decide +kernel
theorem gz_109_28 : mz_pg 109 28 = some (.getfield 19, 9, 1, 529) := by decide +kernel
theorem gz_109_31 : mz_pg 109 31 = some (.iload_n 1, 0, 0, 0) := by decide +kernel
theorem gz_109_32 : mz_pg 109 32 = some (.iload_n 2, 0, 0, 0) := by decide +kernel
theorem gz_109_33 : mz_pg 109 33 = some (.iload_n 3, 0, 0, 0) := by decide +kernel
theorem gz_109_34 : mz_pg 109 34 = some (.iload 4, 0, 0, 0) := by decide +kernel
theorem gz_109_36 : mz_pg 109 36 = some (.iload 5, 0, 0, 0) := by decide +kernel
theorem gz_109_38 : mz_pg 109 38 = some (.invokevirtual 235, 1, 110, 987) := by decide +kernel
theorem gz_109_41 : mz_pg 109 41 = some (.ifCond .eq 14, 0, 0, 0) := by decide +kernel
theorem gz_109_44 : mz_pg 109 44 = some (.aload_n 0, 0, 0, 0) := by decide +kernel
theorem gz_109_45 : mz_pg 109 45 = some (.getfield 59, 9, 9, 537) := by decide +kernel
theorem gz_109_48 : mz_pg 109 48 = some (.iload_n 1, 0, 0, 0) := by decide +kernel
theorem gz_109_49 : mz_pg 109 49 = some (.invokevirtual 238, 1, 111, 993) := by decide +kernel
theorem gz_109_52 : mz_pg 109 52 = some (.goto 4, 0, 0, 0) := by decide +kernel
theorem gz_109_55 : mz_pg 109 55 = some (.iconst 1, 0, 0, 0) := by decide +kernel
theorem gz_109_56 : mz_pg 109 56 = some (.ireturn, 0, 0, 0) := by decide +kernel
theorem gz_110_0 : mz_pg 110 0 = some (.aload_n 0, 0, 0, 0) := by decide +kernel
theorem gz_110_1 : mz_pg 110 1 = some (.getfield 52, 2, 1, 391) := by decide +kernel
theorem gz_110_4 : mz_pg 110 4 = some (.iload_n 2, 0, 0, 0) := by decide +kernel
theorem gz_110_5 : mz_pg 110 5 = some (.aaload, 0, 0, 0) := by decide +kernel
theorem gz_110_6 : mz_pg 110 6 = some (.astore 7, 0, 0, 0) := by decide +kernel
theorem gz_110_8 : mz_pg 110 8 = some (.aload_n 0, 0, 0, 0) := by decide +kernel
theorem gz_110_9 : mz_pg 110 9 = some (.getfield 12, 2, 3, 393) := by decide +kernel
theorem gz_110_12 : mz_pg 110 12 = some (.aload_n 1, 0, 0, 0) := by decide +kernel
theorem gz_110_13 : mz_pg 110 13 = some (.invokevirtual 173, 1, 25, 932) := by decide +kernel
theorem gz_110_16 : mz_pg 110 16 = some (.iload_n 3, 0, 0, 0) := by decide +kernel
theorem gz_110_17 : mz_pg 110 17 = some (.iconst 2, 0, 0, 0) := by decide +kernel
theorem gz_110_18 : mz_pg 110 18 = some (.if_icmp .ne 10, 0, 0, 0) := by decide +kernel
theorem gz_110_21 : mz_pg 110 21 = some (.aload_n 0, 0, 0, 0) := by decide +kernel
theorem gz_110_22 : mz_pg 110 22 = some (.aload 7, 0, 0, 0) := by decide +kernel
theorem gz_110_24 : mz_pg 110 24 = some (.invokevirtual 250, 1, 106, 971) := by decide +kernel
theorem gz_110_27 : mz_pg 110 27 = some (.ireturn, 0, 0, 0) := by decide +kernel
theorem gz_110_28 : mz_pg 110 28 = some (.iload_n 3, 0, 0, 0) := by decide +kernel
theorem gz_110_29 : mz_pg 110 29 = some (.iconst 1, 0, 0, 0) := by decide +kernel
theorem gz_110_30 : mz_pg 110 30 = some (.if_icmp .ne 46, 0, 0, 0) := by decide +kernel
theorem gz_110_33 : mz_pg 110 33 = some (.aload 7, 0, 0, 0) := by decide +kernel
theorem gz_110_35 : mz_pg 110 35 = some (.getfield 191, 4, 7, 217) := by decide +kernel
theorem gz_110_38 : mz_pg 110 38 = some (.ifCond .ne 24, 0, 0, 0) := by decide +kernel
theorem gz_110_41 : mz_pg 110 41 = some (.aload_n 0, 0, 0, 0) := by decide +kernel
theorem gz_110_42 : mz_pg 110 42 = some (.getfield 12, 2, 3, 393) := by decide +kernel
theorem gz_110_45 : mz_pg 110 45 = some (.aload 7, 0, 0, 0) := by decide +kernel
theorem gz_110_47 : mz_pg 110 47 = some (.getfield 196, 4, 2, 203) := by decide +kernel
theorem gz_110_50 : mz_pg 110 50 = some (.aload_n 0, 0, 0, 0) := by decide +kernel
theorem gz_110_51 : mz_pg 110 51 = some (.getfield 21, 2, 4, 395) := by decide +kernel
theorem gz_110_54 : mz_pg 110 54 = some (.iload 4, 0, 0, 0) := by decide +kernel
theorem gz_110_56 : mz_pg 110 56 = some (.invokevirtual 262, 1, 75, 991) := by decide +kernel
theorem gz_110_59 : mz_pg 110 59 = some (.invokevirtual 140, 1, 23, 966) := by decide +kernel
theorem gz_110_62 : mz_pg 110 62 = some (.aload 7, 0, 0, 0) := by decide +kernel
theorem gz_110_64 : mz_pg 110 64 = some (.getfield 191, 4, 7, 217) := by decide +kernel
theorem gz_110_67 : mz_pg 110 67 = some (.ifCond .ne 7, 0, 0, 0) := by decide +kernel
theorem gz_110_70 : mz_pg 110 70 = some (.iconst 1, 0, 0, 0) := by decide +kernel
theorem gz_110_71 : mz_pg 110 71 = some (.goto 4, 0, 0, 0) := by decide +kernel
theorem gz_110_74 : mz_pg 110 74 = some (.iconst 0, 0, 0, 0) := by decide +kernel
theorem gz_110_75 : mz_pg 110 75 = some (.ireturn, 0, 0, 0) := by decide +kernel
theorem gz_110_76 : mz_pg 110 76 = some (.aload_n 0, 0, 0, 0) := by decide +kernel
theorem gz_110_77 : mz_pg 110 77 = some (.getfield 21, 2, 4, 395) := by decide +kernel
theorem gz_110_80 : mz_pg 110 80 = some (.iload 4, 0, 0, 0) := by decide +kernel
theorem gz_110_82 : mz_pg 110 82 = some (.iload 5, 0, 0, 0) := by decide +kernel
theorem gz_110_84 : mz_pg 110 84 = some (.invokevirtual 265, 1, 83, 992) := by decide +kernel
theorem gz_110_87 : mz_pg 110 87 = some (.istore 8, 0, 0, 0) := by decide +kernel
theorem gz_110_89 : mz_pg 110 89 = some (.iload 8, 0, 0, 0) := by decide +kernel
theorem gz_110_91 : mz_pg 110 91 = some (.iconst (-1), 0, 0, 0) := by decide +kernel
theorem gz_110_92 : mz_pg 110 92 = some (.if_icmp .eq 17, 0, 0, 0) := by decide +kernel
theorem gz_110_95 : mz_pg 110 95 = some (.iload 8, 0, 0, 0) := by decide +kernel
theorem gz_110_97 : mz_pg 110 97 = some (.iconst 4, 0, 0, 0) := by decide +kernel
theorem gz_110_98 : mz_pg 110 98 = some (.irem, 0, 0, 0) := by decide +kernel
theorem gz_110_99 : mz_pg 110 99 = some (.ifCond .eq 10, 0, 0, 0) := by decide +kernel
theorem gz_110_102 : mz_pg 110 102 = some (.iload 6, 0, 0, 0) := by decide +kernel
theorem gz_110_104 : mz_pg 110 104 = some (.bipush 20, 0, 0, 0) := by decide +kernel
theorem gz_110_106 : mz_pg 110 106 = some (.if_icmp .lt 5, 0, 0, 0) := by decide +kernel
theorem gz_110_109 : mz_pg 110 109 = some (.iconst 0, 0, 0, 0) := by decide +kernel
theorem gz_110_110 : mz_pg 110 110 = some (.ireturn, 0, 0, 0) := by decide +kernel
theorem gz_110_111 : mz_pg 110 111 = some (.aload_n 0, 0, 0, 0) := by decide +kernel
theorem gz_110_112 : mz_pg 110 112 = some (.getfield 12, 2, 3, 393) := by decide +kernel
theorem gz_110_115 : mz_pg 110 115 = some (.getfield 121, 6, 0, 178) := by decide +kernel
theorem gz_110_118 : mz_pg 110 118 = some (.iload 8, 0, 0, 0) := by decide +kernel
theorem gz_110_120 : mz_pg 110 120 = some (.iload 6, 0, 0, 0) := by decide +kernel
theorem gz_110_122 : mz_pg 110 122 = some (.iastore, 0, 0, 0) := by decide +kernel
theorem gz_110_123 : mz_pg 110 123 = some (.iconst 1, 0, 0, 0) := by decide +kernel
theorem gz_110_124 : mz_pg 110 124 = some (.ireturn, 0, 0, 0) := by decide +kernel
theorem gz_111_0 : mz_pg 111 0 = some (.aload_n 0, 0, 0, 0) := by decide +kernel
theorem gz_111_1 : mz_pg 111 1 = some (.getfield 48, 2, 0, 390) := by decide +kernel
theorem gz_111_4 : mz_pg 111 4 = some (.aload_n 0, 0, 0, 0) := by decide +kernel
theorem gz_111_5 : mz_pg 111 5 = some (.getfield 12, 2, 3, 393) := by decide +kernel
theorem gz_111_8 : mz_pg 111 8 = some (.invokevirtual 268, 1, 18, 997) := by decide +kernel
theorem gz_111_11 : mz_pg 111 11 = some (.ifCond .eq 7, 0, 0, 0) := by decide +kernel
theorem gz_111_14 : mz_pg 111 14 = some (.iconst 0, 0, 0, 0) := by decide +kernel
theorem gz_111_15 : mz_pg 111 15 = some (.goto 4, 0, 0, 0) := by decide +kernel
theorem gz_111_18 : mz_pg 111 18 = some (.iconst 1, 0, 0, 0) := by decide +kernel
theorem gz_111_19 : mz_pg 111 19 = some (.istore_n 2, 0, 0, 0) := by decide +kernel
theorem gz_111_20 : mz_pg 111 20 = some (.aload_n 0, 0, 0, 0) := by decide +kernel
theorem gz_111_21 : mz_pg 111 21 = some (.getfield 28, 2, 6, 398) := by decide +kernel
theorem gz_111_24 : mz_pg 111 24 = some (.aload_n 0, 0, 0, 0) := by decide +kernel
theorem gz_111_25 : mz_pg 111 25 = some (.getfield 52, 2, 1, 391) := by decide +kernel
theorem gz_111_28 : mz_pg 111 28 = some (.iload_n 1, 0, 0, 0) := by decide +kernel
theorem gz_111_29 : mz_pg 111 29 = some (.aload_n 0, 0, 0, 0) := by decide +kernel
theorem gz_111_30 : mz_pg 111 30 = some (.getfield 12, 2, 3, 393) := by decide +kernel
theorem gz_111_33 : mz_pg 111 33 = some (.invokevirtual 69, 1, 67, 819) := by decide +kernel
theorem gz_111_36 : mz_pg 111 36 = some (.getfield 77, 8, 0, 328) := by decide +kernel
theorem gz_111_39 : mz_pg 111 39 = some (.aload_n 0, 0, 0, 0) := by decide +kernel
theorem gz_111_40 : mz_pg 111 40 = some (.getfield 25, 2, 5, 397) := by decide +kernel
theorem gz_111_43 : mz_pg 111 43 = some (.getfield 77, 8, 0, 328) := by decide +kernel
theorem gz_111_46 : mz_pg 111 46 = some (.if_icmp .eq 7, 0, 0, 0) := by decide +kernel
theorem gz_111_49 : mz_pg 111 49 = some (.iload_n 2, 0, 0, 0) := by decide +kernel
theorem gz_111_50 : mz_pg 111 50 = some (.iconst 2, 0, 0, 0) := by decide +kernel
theorem gz_111_51 : mz_pg 111 51 = some (.ior, 0, 0, 0) := by decide +kernel
theorem gz_111_52 : mz_pg 111 52 = some (.ireturn, 0, 0, 0) := by decide +kernel
theorem gz_111_53 : mz_pg 111 53 = some (.aload_n 0, 0, 0, 0) := by decide +kernel
theorem gz_111_54 : mz_pg 111 54 = some (.getfield 28, 2, 6, 398) := by decide +kernel
theorem gz_111_57 : mz_pg 111 57 = some (.aload_n 0, 0, 0, 0) := by decide +kernel
theorem gz_111_58 : mz_pg 111 58 = some (.getfield 25, 2, 5, 397) := by decide +kernel
theorem gz_111_61 : mz_pg 111 61 = some (.invokevirtual 163, 1, 93, 921) := by decide +kernel
theorem gz_111_64 : mz_pg 111 64 = some (.ifCond .eq 7, 0, 0, 0) := by decide +kernel
theorem gz_111_67 : mz_pg 111 67 = some (.iload_n 2, 0, 0, 0) := by decide +kernel
theorem gz_111_68 : mz_pg 111 68 = some (.goto 6, 0, 0, 0) := by decide +kernel
theorem gz_111_71 : mz_pg 111 71 = some (.iload_n 2, 0, 0, 0) := by decide +kernel
theorem gz_111_72 : mz_pg 111 72 = some (.iconst 4, 0, 0, 0) := by decide +kernel
theorem gz_111_73 : mz_pg 111 73 = some (.ior, 0, 0, 0) := by decide +kernel
theorem gz_111_74 : mz_pg 111 74 = some (.ireturn, 0, 0, 0) := by decide +kernel
theorem gz_112_0 : mz_pg 112 0 = some (.aload_n 0, 0, 0, 0) := by decide +kernel
theorem gz_112_1 : mz_pg 112 1 = some (.getfield 59, 9, 9, 537) := by decide +kernel
theorem gz_112_4 : mz_pg 112 4 = some (.aload_n 0, 0, 0, 0) := by decide +kernel
theorem gz_112_5 : mz_pg 112 5 = some (.getfield 19, 9, 1, 529) := by decide +kernel
theorem gz_112_8 : mz_pg 112 8 = some (.iload_n 1, 0, 0, 0) := by decide +kernel
theorem gz_112_9 : mz_pg 112 9 = some (.iload_n 2, 0, 0, 0) := by decide +kernel
theorem gz_112_10 : mz_pg 112 10 = some (.iload_n 3, 0, 0, 0) := by decide +kernel
theorem gz_112_11 : mz_pg 112 11 = some (.iload 4, 0, 0, 0) := by decide +kernel
theorem gz_112_13 : mz_pg 112 13 = some (.iload 5, 0, 0, 0) := by decide +kernel
theorem gz_112_15 : mz_pg 112 15 = some (.invokevirtual 197, 1, 87, 893) := by decide +kernel
theorem gz_112_18 : mz_pg 112 18 = some (.ifCond .eq 24, 0, 0, 0) := by decide +kernel
theorem gz_112_21 : mz_pg 112 21 = some (.aload_n 0, 0, 0, 0) := by decide +kernel
theorem gz_112_22 : mz_pg 112 22 = some (.getfield 59, 9, 9, 537) := by decide +kernel
theorem gz_112_25 : mz_pg 112 25 = some (.aload_n 0, 0, 0, 0) := by decide +kernel
theorem gz_112_26 : mz_pg 112 26 = some (.getfield 19, 9, 1, 529) := by decide +kernel
theorem gz_112_29 : mz_pg 112 29 = some (.iload_n 1, 0, 0, 0) := by decide +kernel
theorem gz_112_30 : mz_pg 112 30 = some (.iload_n 2, 0, 0, 0) := by decide +kernel
theorem gz_112_31 : mz_pg 112 31 = some (.iload_n 3, 0, 0, 0) := by decide +kernel
theorem gz_112_32 : mz_pg 112 32 = some (.iload 4, 0, 0, 0) := by decide +kernel
theorem gz_112_34 : mz_pg 112 34 = some (.iload 5, 0, 0, 0) := by decide +kernel
theorem gz_112_36 : mz_pg 112 36 = some (.invokevirtual 235, 1, 110, 987) := by decide +kernel
theorem gz_112_39 : mz_pg 112 39 = some (.ifCond .ne 5, 0, 0, 0) := by decide +kernel
theorem gz_112_42 : mz_pg 112 42 = some (.iconst (-1), 0, 0, 0) := by decide +kernel
theorem gz_112_43 : mz_pg 112 43 = some (.ireturn, 0, 0, 0) := by decide +kernel
theorem gz_112_44 : mz_pg 112 44 = some (.aload_n 0, 0, 0, 0) := by decide +kernel
theorem gz_112_45 : mz_pg 112 45 = some (.getfield 10, 9, 0, 528) := by decide +kernel
theorem gz_112_48 : mz_pg 112 48 = some (.aload_n 0, 0, 0, 0) := by decide +kernel
theorem gz_112_49 : mz_pg 112 49 = some (.getfield 59, 9, 9, 537) := by decide +kernel
theorem gz_112_52 : mz_pg 112 52 = some (.getfield 241, 2, 3, 394) := by decide +kernel
theorem gz_112_55 : mz_pg 112 55 = some (.invokevirtual 244, 1, 19, 1002) := by decide +kernel
theorem gz_112_58 : mz_pg 112 58 = some (.istore 7, 0, 0, 0) := by decide +kernel
theorem gz_112_60 : mz_pg 112 60 = some (.iload 7, 0, 0, 0) := by decide +kernel
theorem gz_112_62 : mz_pg 112 62 = some (.iconst (-1), 0, 0, 0) := by decide +kernel
theorem gz_112_63 : mz_pg 112 63 = some (.if_icmp .ne 5, 0, 0, 0) := by decide +kernel
theorem gz_112_66 : mz_pg 112 66 = some (.iconst (-1), 0, 0, 0) := by decide +kernel
theorem gz_112_67 : mz_pg 112 67 = some (.ireturn, 0, 0, 0) := by decide +kernel
theorem gz_112_68 : mz_pg 112 68 = some (.iload 6, 0, 0, 0) := by decide +kernel
theorem gz_112_70 : mz_pg 112 70 = some (.tableswitch 45 0 2 #[26, 33, 40], 0, 0, 0) := by decide +kernel
theorem gz_112_96 : mz_pg 112 96 = some (.iload 7, 0, 0, 0) := by decide +kernel
theorem gz_112_98 : mz_pg 112 98 = some (.iconst 4, 0, 0, 0) := by decide +kernel
theorem gz_112_99 : mz_pg 112 99 = some (.idiv, 0, 0, 0) := by decide +kernel
theorem gz_112_100 : mz_pg 112 100 = some (.iconst 4, 0, 0, 0) := by decide +kernel
theorem gz_112_101 : mz_pg 112 101 = some (.idiv, 0, 0, 0) := by decide +kernel
theorem gz_112_102 : mz_pg 112 102 = some (.ireturn, 0, 0, 0) := by decide +kernel
theorem gz_112_103 : mz_pg 112 103 = some (.iload 7, 0, 0, 0) := by decide +kernel
theorem gz_112_105 : mz_pg 112 105 = some (.iconst 4, 0, 0, 0) := by decide +kernel
theorem gz_112_106 : mz_pg 112 106 = some (.idiv, 0, 0, 0) := by decide +kernel
theorem gz_112_107 : mz_pg 112 107 = some (.iconst 4, 0, 0, 0) := by decide +kernel
theorem gz_112_108 : mz_pg 112 108 = some (.irem, 0, 0, 0) := by decide +kernel
theorem gz_112_109 : mz_pg 112 109 = some (.ireturn, 0, 0, 0) := by decide +kernel
theorem gz_112_110 : mz_pg 112 110 = some (.iload 7, 0, 0, 0) := by decide +kernel
theorem gz_112_112 : mz_pg 112 112 = some (.iconst 4, 0, 0, 0) := by decide +kernel
theorem gz_112_113 : mz_pg 112 113 = some (.irem, 0, 0, 0) := by decide +kernel
theorem gz_112_114 : mz_pg 112 114 = some (.ireturn, 0, 0, 0) := by decide +kernel
theorem gz_112_115 : mz_pg 112 115 = some (.iconst (-1), 0, 0, 0) := by decide +kernel
theorem gz_112_116 : mz_pg 112 116 = some (.ireturn, 0, 0, 0) := by decide +kernel
theorem gz_113_0 : mz_pg 113 0 = some (.aload_n 0, 0, 0, 0) := by decide +kernel
theorem gz_113_1 : mz_pg 113 1 = some (.getfield 82, 9, 13, 541) := by decide +kernel
theorem gz_113_4 : mz_pg 113 4 = some (.aload_n 0, 0, 0, 0) := by decide +kernel
theorem gz_113_5 : mz_pg 113 5 = some (.getfield 19, 9, 1, 529) := by decide +kernel
theorem gz_113_8 : mz_pg 113 8 = some (.invokevirtual 114, 1, 25, 626) := by decide +kernel
theorem gz_113_11 : mz_pg 113 11 = some (.aload_n 0, 0, 0, 0) := by decide +kernel
theorem gz_113_12 : mz_pg 113 12 = some (.getfield 59, 9, 9, 537) := by decide +kernel
theorem gz_113_15 : mz_pg 113 15 = some (.aload_n 0, 0, 0, 0) := by decide +kernel
theorem gz_113_16 : mz_pg 113 16 = some (.getfield 19, 9, 1, 529) := by decide +kernel
theorem gz_113_19 : mz_pg 113 19 = some (.iload_n 1, 0, 0, 0) := by decide +kernel
theorem gz_113_20 : mz_pg 113 20 = some (.iload_n 2, 0, 0, 0) := by decide +kernel
theorem gz_113_21 : mz_pg 113 21 = some (.iload_n 3, 0, 0, 0) := by decide +kernel
theorem gz_113_22 : mz_pg 113 22 = some (.iload 4, 0, 0, 0) := by decide +kernel
theorem gz_113_24 : mz_pg 113 24 = some (.iload 5, 0, 0, 0) := by decide +kernel
theorem gz_113_26 : mz_pg 113 26 = some (.invokevirtual 248, 1, 114, 1007) := by decide +kernel
theorem gz_113_29 : mz_pg 113 29 = some (.istore 6, 0, 0, 0) := by decide +kernel
theorem gz_113_31 : mz_pg 113 31 = some (.iload 6, 0, 0, 0) := by decide +kernel
theorem gz_113_33 : mz_pg 113 33 = some (.iconst (-1), 0, 0, 0) := by decide +kernel
theorem gz_113_34 : mz_pg 113 34 = some (.if_icmp .eq 19, 0, 0, 0) := by decide +kernel
theorem gz_113_37 : mz_pg 113 37 = some (.aload_n 0, 0, 0, 0) := by decide +kernel
theorem gz_113_38 : mz_pg 113 38 = some (.getfield 23, 9, 2, 530) := by decide +kernel
theorem gz_113_41 : mz_pg 113 41 = some (.aload_n 0, 0, 0, 0) := by decide +kernel
theorem gz_113_42 : mz_pg 113 42 = some (.getfield 82, 9, 13, 541) := by decide +kernel
theorem gz_113_45 : mz_pg 113 45 = some (.invokevirtual 114, 1, 25, 626) := by decide +kernel
theorem gz_113_48 : mz_pg 113 48 = some (.aload_n 0, 0, 0, 0) := by decide +kernel
theorem gz_113_49 : mz_pg 113 49 = some (.iconst 1, 0, 0, 0) := by decide +kernel
theorem gz_113_50 : mz_pg 113 50 = some (.putfield 252, 9, 3, 531) := by decide +kernel
theorem gz_113_53 : mz_pg 113 53 = some (.iload 6, 0, 0, 0) := by decide +kernel
theorem gz_113_55 : mz_pg 113 55 = some (.ireturn, 0, 0, 0) := by decide +kernel
theorem gz_114_0 : mz_pg 114 0 = some (.aload_n 0, 0, 0, 0) := by decide +kernel
theorem gz_114_1 : mz_pg 114 1 = some (.aload_n 1, 0, 0, 0) := by decide +kernel
theorem gz_114_2 : mz_pg 114 2 = some (.iload_n 2, 0, 0, 0) := by decide +kernel
theorem gz_114_3 : mz_pg 114 3 = some (.iload_n 3, 0, 0, 0) := by decide +kernel
theorem gz_114_4 : mz_pg 114 4 = some (.iload 4, 0, 0, 0) := by decide +kernel
theorem gz_114_6 : mz_pg 114 6 = some (.iload 5, 0, 0, 0) := by decide +kernel
theorem gz_114_8 : mz_pg 114 8 = some (.iload 6, 0, 0, 0) := by decide +kernel
theorem gz_114_10 : mz_pg 114 10 = some (.invokevirtual 110, 1, 87, 1011) := by decide +kernel
theorem gz_114_13 : mz_pg 114 13 = some (.ifCond .ne 5, 0, 0, 0) := by decide +kernel
theorem gz_114_16 : mz_pg 114 16 = some (.iconst (-1), 0, 0, 0) := by decide +kernel
theorem gz_114_17 : mz_pg 114 17 = some (.ireturn, 0, 0, 0) := by decide +kernel
theorem gz_114_18 : mz_pg 114 18 = some (.aload_n 0, 0, 0, 0) := by decide +kernel
theorem gz_114_19 : mz_pg 114 19 = some (.aload_n 1, 0, 0, 0) := by decide +kernel
theorem gz_114_20 : mz_pg 114 20 = some (.iload_n 2, 0, 0, 0) := by decide +kernel
theorem gz_114_21 : mz_pg 114 21 = some (.iconst (-1), 0, 0, 0) := by decide +kernel
theorem gz_114_22 : mz_pg 114 22 = some (.iconst 1, 0, 0, 0) := by decide +kernel
theorem gz_114_23 : mz_pg 114 23 = some (.invokevirtual 114, 1, 92, 1012) := by decide +kernel
theorem gz_114_26 : mz_pg 114 26 = some (.aload_n 0, 0, 0, 0) := by decide +kernel
theorem gz_114_27 : mz_pg 114 27 = some (.getfield 42, 2, 9, 402) := by decide +kernel
theorem gz_114_30 : mz_pg 114 30 = some (.getfield 118, 7, 1, 363) := by decide +kernel
theorem gz_114_33 : mz_pg 114 33 = some (.iconst 1, 0, 0, 0) := by decide +kernel
theorem gz_114_34 : mz_pg 114 34 = some (.if_icmp .ne 43, 0, 0, 0) := by decide +kernel
theorem gz_114_37 : mz_pg 114 37 = some (.aload_n 1, 0, 0, 0) := by decide +kernel
theorem gz_114_38 : mz_pg 114 38 = some (.getfield 121, 6, 0, 178) := by decide +kernel
theorem gz_114_41 : mz_pg 114 41 = some (.aload_n 0, 0, 0, 0) := by decide +kernel
theorem gz_114_42 : mz_pg 114 42 = some (.getfield 42, 2, 9, 402) := by decide +kernel
theorem gz_114_45 : mz_pg 114 45 = some (.getfield 124, 7, 2, 366) := by decide +kernel
theorem gz_114_48 : mz_pg 114 48 = some (.aload_n 0, 0, 0, 0) := by decide +kernel
theorem gz_114_49 : mz_pg 114 49 = some (.getfield 42, 2, 9, 402) := by decide +kernel
theorem gz_114_52 : mz_pg 114 52 = some (.getfield 127, 7, 3, 369) := by decide +kernel
theorem gz_114_55 : mz_pg 114 55 = some (.invokestatic 130, 2, 17, 13) := by decide +kernel
theorem gz_114_58 : mz_pg 114 58 = some (.aload_n 0, 0, 0, 0) := by decide +kernel
theorem gz_114_59 : mz_pg 114 59 = some (.getfield 42, 2, 9, 402) := by decide +kernel
theorem gz_114_62 : mz_pg 114 62 = some (.getfield 134, 7, 4, 372) := by decide +kernel
theorem gz_114_65 : mz_pg 114 65 = some (.iadd, 0, 0, 0) := by decide +kernel
theorem gz_114_66 : mz_pg 114 66 = some (.aload_n 0, 0, 0, 0) := by decide +kernel
theorem gz_114_67 : mz_pg 114 67 = some (.getfield 42, 2, 9, 402) := by decide +kernel
theorem gz_114_70 : mz_pg 114 70 = some (.getfield 137, 7, 5, 375) := by decide +kernel
theorem gz_114_73 : mz_pg 114 73 = some (.iastore, 0, 0, 0) := by decide +kernel
theorem gz_114_74 : mz_pg 114 74 = some (.goto 61, 0, 0, 0) := by decide +kernel
theorem gz_114_77 : mz_pg 114 77 = some (.aload_n 0, 0, 0, 0) := by decide +kernel
theorem gz_114_78 : mz_pg 114 78 = some (.getfield 42, 2, 9, 402) := by decide +kernel
theorem gz_114_81 : mz_pg 114 81 = some (.getfield 118, 7, 1, 363) := by decide +kernel
theorem gz_114_84 : mz_pg 114 84 = some (.iconst 2, 0, 0, 0) := by decide +kernel
theorem gz_114_85 : mz_pg 114 85 = some (.if_icmp .ne 24, 0, 0, 0) := by decide +kernel
theorem gz_114_88 : mz_pg 114 88 = some (.aload_n 1, 0, 0, 0) := by decide +kernel
theorem gz_114_89 : mz_pg 114 89 = some (.aload_n 0, 0, 0, 0) := by decide +kernel
theorem gz_114_90 : mz_pg 114 90 = some (.getfield 42, 2, 9, 402) := by decide +kernel
theorem gz_114_93 : mz_pg 114 93 = some (.getfield 124, 7, 2, 366) := by decide +kernel
theorem gz_114_96 : mz_pg 114 96 = some (.aload_n 0, 0, 0, 0) := by decide +kernel
theorem gz_114_97 : mz_pg 114 97 = some (.getfield 42, 2, 9, 402) := by decide +kernel
theorem gz_114_100 : mz_pg 114 100 = some (.getfield 127, 7, 3, 369) := by decide +kernel
theorem gz_114_103 : mz_pg 114 103 = some (.invokevirtual 140, 1, 23, 966) := by decide +kernel
theorem gz_114_106 : mz_pg 114 106 = some (.goto 29, 0, 0, 0) := by decide +kernel
theorem gz_114_109 : mz_pg 114 109 = some (.aload_n 0, 0, 0, 0) := by decide +kernel
theorem gz_114_110 : mz_pg 114 110 = some (.getfield 42, 2, 9, 402) := by decide +kernel
theorem gz_114_113 : mz_pg 114 113 = some (.getfield 118, 7, 1, 363) := by decide +kernel
theorem gz_114_116 : mz_pg 114 116 = some (.iconst 3, 0, 0, 0) := by decide +kernel
theorem gz_114_117 : mz_pg 114 117 = some (.if_icmp .ne 18, 0, 0, 0) := by decide +kernel
theorem gz_114_120 : mz_pg 114 120 = some (.aload_n 1, 0, 0, 0) := by decide +kernel
theorem gz_114_121 : mz_pg 114 121 = some (.aload_n 0, 0, 0, 0) := by decide +kernel
theorem gz_114_122 : mz_pg 114 122 = some (.getfield 42, 2, 9, 402) := by decide +kernel
theorem gz_114_125 : mz_pg 114 125 = some (.getfield 124, 7, 2, 366) := by decide +kernel
theorem gz_114_128 : mz_pg 114 128 = some (.aload_n 0, 0, 0, 0) := by decide +kernel
theorem gz_114_129 : mz_pg 114 129 = some (.getfield 31, 2, 7, 400) := by decide +kernel
theorem gz_114_132 : mz_pg 114 132 = some (.invokevirtual 144, 1, 16, 978) := by decide +kernel
theorem gz_114_135 : mz_pg 114 135 = some (.aload_n 0, 0, 0, 0) := by decide +kernel
theorem gz_114_136 : mz_pg 114 136 = some (.getfield 42, 2, 9, 402) := by decide +kernel
theorem gz_114_139 : mz_pg 114 139 = some (.getfield 148, 7, 0, 360) := by decide +kernel
theorem gz_114_142 : mz_pg 114 142 = some (.ireturn, 0, 0, 0) := by decide +kernel
theorem gz_115_0 : mz_pg 115 0 = some (.aload_n 0, 0, 0, 0) := by decide +kernel
theorem gz_115_1 : mz_pg 115 1 = some (.getfield 59, 9, 9, 537) := by decide +kernel
theorem gz_115_4 : mz_pg 115 4 = some (.aload_n 0, 0, 0, 0) := by decide +kernel
theorem gz_115_5 : mz_pg 115 5 = some (.getfield 19, 9, 1, 529) := by decide +kernel
theorem gz_115_8 : mz_pg 115 8 = some (.iload_n 1, 0, 0, 0) := by decide +kernel
theorem gz_115_9 : mz_pg 115 9 = some (.iconst 0, 0, 0, 0) := by decide +kernel
theorem gz_115_10 : mz_pg 115 10 = some (.iload_n 2, 0, 0, 0) := by decide +kernel
theorem gz_115_11 : mz_pg 115 11 = some (.iload_n 3, 0, 0, 0) := by decide +kernel
theorem gz_115_12 : mz_pg 115 12 = some (.iload 4, 0, 0, 0) := by decide +kernel
theorem gz_115_14 : mz_pg 115 14 = some (.invokevirtual 197, 1, 87, 893) := by decide +kernel
theorem gz_115_17 : mz_pg 115 17 = some (.ifCond .eq 23, 0, 0, 0) := by decide +kernel
theorem gz_115_20 : mz_pg 115 20 = some (.aload_n 0, 0, 0, 0) := by decide +kernel
theorem gz_115_21 : mz_pg 115 21 = some (.getfield 59, 9, 9, 537) := by decide +kernel
theorem gz_115_24 : mz_pg 115 24 = some (.aload_n 0, 0, 0, 0) := by decide +kernel
theorem gz_115_25 : mz_pg 115 25 = some (.getfield 19, 9, 1, 529) := by decide +kernel
theorem gz_115_28 : mz_pg 115 28 = some (.iload_n 1, 0, 0, 0) := by decide +kernel
theorem gz_115_29 : mz_pg 115 29 = some (.iconst 0, 0, 0, 0) := by decide +kernel
theorem gz_115_30 : mz_pg 115 30 = some (.iload_n 2, 0, 0, 0) := by decide +kernel
theorem gz_115_31 : mz_pg 115 31 = some (.iload_n 3, 0, 0, 0) := by decide +kernel
theorem gz_115_32 : mz_pg 115 32 = some (.iload 5, 0, 0, 0) := by decide +kernel
theorem gz_115_34 : mz_pg 115 34 = some (.invokevirtual 197, 1, 87, 893) := by decide +kernel
theorem gz_115_37 : mz_pg 115 37 = some (.ifCond .ne 5, 0, 0, 0) := by decide +kernel
theorem gz_115_40 : mz_pg 115 40 = some (.iconst (-1), 0, 0, 0) := by decide +kernel
theorem gz_115_41 : mz_pg 115 41 = some (.ireturn, 0, 0, 0) := by decide +kernel
theorem gz_115_42 : mz_pg 115 42 = some (.aload_n 0, 0, 0, 0) := by decide +kernel
theorem gz_115_43 : mz_pg 115 43 = some (.getfield 82, 9, 13, 541) := by decide +kernel
theorem gz_115_46 : mz_pg 115 46 = some (.aload_n 0, 0, 0, 0) := by decide +kernel
theorem gz_115_47 : mz_pg 115 47 = some (.getfield 19, 9, 1, 529) := by decide +kernel
theorem gz_115_50 : mz_pg 115 50 = some (.invokevirtual 114, 1, 25, 626) := by decide +kernel
theorem gz_115_53 : mz_pg 115 53 = some (.aload_n 0, 0, 0, 0) := by decide +kernel
theorem gz_115_54 : mz_pg 115 54 = some (.getfield 85, 9, 14, 542) := by decide +kernel
theorem gz_115_57 : mz_pg 115 57 = some (.aload_n 0, 0, 0, 0) := by decide +kernel
theorem gz_115_58 : mz_pg 115 58 = some (.getfield 19, 9, 1, 529) := by decide +kernel
theorem gz_115_61 : mz_pg 115 61 = some (.invokevirtual 114, 1, 25, 626) := by decide +kernel
theorem gz_115_64 : mz_pg 115 64 = some (.aload_n 0, 0, 0, 0) := by decide +kernel
theorem gz_115_65 : mz_pg 115 65 = some (.getfield 59, 9, 9, 537) := by decide +kernel
theorem gz_115_68 : mz_pg 115 68 = some (.aload_n 0, 0, 0, 0) := by decide +kernel
theorem gz_115_69 : mz_pg 115 69 = some (.getfield 82, 9, 13, 541) := by decide +kernel
theorem gz_115_72 : mz_pg 115 72 = some (.iload_n 1, 0, 0, 0) := by decide +kernel
theorem gz_115_73 : mz_pg 115 73 = some (.iconst 0, 0, 0, 0) := by decide +kernel
theorem gz_115_74 : mz_pg 115 74 = some (.iload_n 2, 0, 0, 0) := by decide +kernel
theorem gz_115_75 : mz_pg 115 75 = some (.iload_n 3, 0, 0, 0) := by decide +kernel
theorem gz_115_76 : mz_pg 115 76 = some (.iload 4, 0, 0, 0) := by decide +kernel
theorem gz_115_78 : mz_pg 115 78 = some (.invokevirtual 248, 1, 114, 1007) := by decide +kernel
theorem gz_115_81 : mz_pg 115 81 = some (.iconst (-1), 0, 0, 0) := by decide +kernel
theorem gz_115_82 : mz_pg 115 82 = some (.if_icmp .eq 49, 0, 0, 0) := by decide +kernel
theorem gz_115_85 : mz_pg 115 85 = some (.aload_n 0, 0, 0, 0) := by decide +kernel
theorem gz_115_86 : mz_pg 115 86 = some (.getfield 59, 9, 9, 537) := by decide +kernel
theorem gz_115_89 : mz_pg 115 89 = some (.aload_n 0, 0, 0, 0) := by decide +kernel
theorem gz_115_90 : mz_pg 115 90 = some (.getfield 82, 9, 13, 541) := by decide +kernel
theorem gz_115_93 : mz_pg 115 93 = some (.iload_n 1, 0, 0, 0) := by decide +kernel
theorem gz_115_94 : mz_pg 115 94 = some (.iconst 0, 0, 0, 0) := by decide +kernel
theorem gz_115_95 : mz_pg 115 95 = some (.iload_n 2, 0, 0, 0) := by decide +kernel
theorem gz_115_96 : mz_pg 115 96 = some (.iload_n 3, 0, 0, 0) := by decide +kernel
theorem gz_115_97 : mz_pg 115 97 = some (.iload 5, 0, 0, 0) := by decide +kernel
theorem gz_115_99 : mz_pg 115 99 = some (.invokevirtual 248, 1, 114, 1007) := by decide +kernel
theorem gz_115_102 : mz_pg 115 102 = some (.iconst (-1), 0, 0, 0) := by decide +kernel
theorem gz_115_103 : mz_pg 115 103 = some (.if_icmp .eq 28, 0, 0, 0) := by decide +kernel
theorem gz_115_106 : mz_pg 115 106 = some (.aload_n 0, 0, 0, 0) := by decide +kernel
theorem gz_115_107 : mz_pg 115 107 = some (.getfield 59, 9, 9, 537) := by decide +kernel
theorem gz_115_110 : mz_pg 115 110 = some (.aload_n 0, 0, 0, 0) := by decide +kernel
theorem gz_115_111 : mz_pg 115 111 = some (.getfield 85, 9, 14, 542) := by decide +kernel
theorem gz_115_114 : mz_pg 115 114 = some (.iload_n 1, 0, 0, 0) := by decide +kernel
theorem gz_115_115 : mz_pg 115 115 = some (.iconst 0, 0, 0, 0) := by decide +kernel
theorem gz_115_116 : mz_pg 115 116 = some (.iload_n 2, 0, 0, 0) := by decide +kernel
theorem gz_115_117 : mz_pg 115 117 = some (.iload_n 3, 0, 0, 0) := by decide +kernel
theorem gz_115_118 : mz_pg 115 118 = some (.iload 5, 0, 0, 0) := by decide +kernel
theorem gz_115_120 : mz_pg 115 120 = some (.invokevirtual 248, 1, 114, 1007) := by decide +kernel
theorem gz_115_123 : mz_pg 115 123 = some (.iconst (-1), 0, 0, 0) := by decide +kernel
theorem gz_115_124 : mz_pg 115 124 = some (.if_icmp .eq 7, 0, 0, 0) := by decide +kernel
theorem gz_115_127 : mz_pg 115 127 = some (.iconst 1, 0, 0, 0) := by decide +kernel
theorem gz_115_128 : mz_pg 115 128 = some (.goto 4, 0, 0, 0) := by decide +kernel
theorem gz_115_131 : mz_pg 115 131 = some (.iconst 0, 0, 0, 0) := by decide +kernel
theorem gz_115_132 : mz_pg 115 132 = some (.istore 6, 0, 0, 0) := by decide +kernel
theorem gz_115_134 : mz_pg 115 134 = some (.iload 6, 0, 0, 0) := by decide +kernel
theorem gz_115_136 : mz_pg 115 136 = some (.ifCond .eq 21, 0, 0, 0) := by decide +kernel
theorem gz_115_139 : mz_pg 115 139 = some (.aload_n 0, 0, 0, 0) := by decide +kernel
theorem gz_115_140 : mz_pg 115 140 = some (.getfield 82, 9, 13, 541) := by decide +kernel
theorem gz_115_143 : mz_pg 115 143 = some (.aload_n 0, 0, 0, 0) := by decide +kernel
theorem gz_115_144 : mz_pg 115 144 = some (.getfield 85, 9, 14, 542) := by decide +kernel
theorem gz_115_147 : mz_pg 115 147 = some (.invokevirtual 256, 1, 116, 1017) := by decide +kernel
theorem gz_115_150 : mz_pg 115 150 = some (.ifCond .eq 7, 0, 0, 0) := by decide +kernel
theorem gz_115_153 : mz_pg 115 153 = some (.iconst 1, 0, 0, 0) := by decide +kernel
theorem gz_115_154 : mz_pg 115 154 = some (.goto 4, 0, 0, 0) := by decide +kernel
theorem gz_115_157 : mz_pg 115 157 = some (.iconst 0, 0, 0, 0) := by decide +kernel
theorem gz_115_158 : mz_pg 115 158 = some (.ireturn, 0, 0, 0) := by decide +kernel
theorem gz_116_0 : mz_pg 116 0 = some (.iconst 0, 0, 0, 0) := by decide +kernel
theorem gz_116_1 : mz_pg 116 1 = some (.istore_n 2, 0, 0, 0) := by decide +kernel
theorem gz_116_2 : mz_pg 116 2 = some (.iload_n 2, 0, 0, 0) := by decide +kernel
theorem gz_116_3 : mz_pg 116 3 = some (.aload_n 0, 0, 0, 0) := by decide +kernel
theorem gz_116_4 : mz_pg 116 4 = some (.getfield 9, 6, 0, 176) := by decide +kernel
theorem gz_116_7 : mz_pg 116 7 = some (.arraylength, 0, 0, 0) := by decide +kernel
theorem gz_116_8 : mz_pg 116 8 = some (.if_icmp .ge 26, 0, 0, 0) := by decide +kernel
theorem gz_116_11 : mz_pg 116 11 = some (.aload_n 0, 0, 0, 0) := by decide +kernel
theorem gz_116_12 : mz_pg 116 12 = some (.getfield 9, 6, 0, 176) := by decide +kernel
theorem gz_116_15 : mz_pg 116 15 = some (.iload_n 2, 0, 0, 0) := by decide +kernel
theorem gz_116_16 : mz_pg 116 16 = some (.iaload, 0, 0, 0) := by decide +kernel
theorem gz_116_17 : mz_pg 116 17 = some (.aload_n 1, 0, 0, 0) := by decide +kernel
theorem gz_116_18 : mz_pg 116 18 = some (.getfield 9, 6, 0, 176) := by decide +kernel
theorem gz_116_21 : mz_pg 116 21 = some (.iload_n 2, 0, 0, 0) := by decide +kernel
theorem gz_116_22 : mz_pg 116 22 = some (.iaload, 0, 0, 0) := by decide +kernel
theorem gz_116_23 : mz_pg 116 23 = some (.if_icmp .eq 5, 0, 0, 0) := by decide +kernel
theorem gz_116_26 : mz_pg 116 26 = some (.iconst 0, 0, 0, 0) := by decide +kernel
theorem gz_116_27 : mz_pg 116 27 = some (.ireturn, 0, 0, 0) := by decide +kernel
theorem gz_116_28 : mz_pg 116 28 = some (.iinc 2 1, 0, 0, 0) := by decide +kernel
theorem gz_116_31 : mz_pg 116 31 = some (.goto (-29), 0, 0, 0) := by decide +kernel
theorem gz_116_34 : mz_pg 116 34 = some (.iconst 1, 0, 0, 0) := by decide +kernel
theorem gz_116_35 : mz_pg 116 35 = some (.ireturn, 0, 0, 0) := by decide +kernel
theorem gz_117_0 : mz_pg 117 0 = some (.aload_n 0, 0, 0, 0) := by decide +kernel
theorem gz_117_1 : mz_pg 117 1 = some (.getfield 59, 9, 9, 537) := by decide +kernel
theorem gz_117_4 : mz_pg 117 4 = some (.aload_n 0, 0, 0, 0) := by decide +kernel
theorem gz_117_5 : mz_pg 117 5 = some (.getfield 19, 9, 1, 529) := by decide +kernel
theorem gz_117_8 : mz_pg 117 8 = some (.iload_n 1, 0, 0, 0) := by decide +kernel
theorem gz_117_9 : mz_pg 117 9 = some (.iconst 0, 0, 0, 0) := by decide +kernel
theorem gz_117_10 : mz_pg 117 10 = some (.iload_n 2, 0, 0, 0) := by decide +kernel
theorem gz_117_11 : mz_pg 117 11 = some (.iload_n 3, 0, 0, 0) := by decide +kernel
theorem gz_117_12 : mz_pg 117 12 = some (.iload 4, 0, 0, 0) := by decide +kernel
theorem gz_117_14 : mz_pg 117 14 = some (.invokevirtual 197, 1, 87, 893) := by decide +kernel
theorem gz_117_17 : mz_pg 117 17 = some (.ifCond .ne 5, 0, 0, 0) := by decide +kernel
theorem gz_117_20 : mz_pg 117 20 = some (.iconst (-1), 0, 0, 0) := by decide +kernel
theorem gz_117_21 : mz_pg 117 21 = some (.ireturn, 0, 0, 0) := by decide +kernel
theorem gz_117_22 : mz_pg 117 22 = some (.aload_n 0, 0, 0, 0) := by decide +kernel
theorem gz_117_23 : mz_pg 117 23 = some (.getfield 59, 9, 9, 537) := by decide +kernel
theorem gz_117_26 : mz_pg 117 26 = some (.getfield 166, 2, 4, 396) := by decide +kernel
theorem gz_117_29 : mz_pg 117 29 = some (.iload_n 2, 0, 0, 0) := by decide +kernel
theorem gz_117_30 : mz_pg 117 30 = some (.iload_n 3, 0, 0, 0) := by decide +kernel
theorem gz_117_31 : mz_pg 117 31 = some (.invokevirtual 177, 1, 74, 872) := by decide +kernel
theorem gz_117_34 : mz_pg 117 34 = some (.istore 5, 0, 0, 0) := by decide +kernel
theorem gz_117_36 : mz_pg 117 36 = some (.aload_n 0, 0, 0, 0) := by decide +kernel
theorem gz_117_37 : mz_pg 117 37 = some (.getfield 82, 9, 13, 541) := by decide +kernel
theorem gz_117_40 : mz_pg 117 40 = some (.aload_n 0, 0, 0, 0) := by decide +kernel
theorem gz_117_41 : mz_pg 117 41 = some (.getfield 19, 9, 1, 529) := by decide +kernel
theorem gz_117_44 : mz_pg 117 44 = some (.invokevirtual 114, 1, 25, 626) := by decide +kernel
theorem gz_117_47 : mz_pg 117 47 = some (.aload_n 0, 0, 0, 0) := by decide +kernel
theorem gz_117_48 : mz_pg 117 48 = some (.getfield 59, 9, 9, 537) := by decide +kernel
theorem gz_117_51 : mz_pg 117 51 = some (.aload_n 0, 0, 0, 0) := by decide +kernel
theorem gz_117_52 : mz_pg 117 52 = some (.getfield 82, 9, 13, 541) := by decide +kernel
theorem gz_117_55 : mz_pg 117 55 = some (.iload_n 1, 0, 0, 0) := by decide +kernel
theorem gz_117_56 : mz_pg 117 56 = some (.iconst 0, 0, 0, 0) := by decide +kernel
theorem gz_117_57 : mz_pg 117 57 = some (.iload_n 2, 0, 0, 0) := by decide +kernel
theorem gz_117_58 : mz_pg 117 58 = some (.iload_n 3, 0, 0, 0) := by decide +kernel
theorem gz_117_59 : mz_pg 117 59 = some (.iload 4, 0, 0, 0) := by decide +kernel
theorem gz_117_61 : mz_pg 117 61 = some (.invokevirtual 248, 1, 114, 1007) := by decide +kernel
theorem gz_117_64 : mz_pg 117 64 = some (.iconst (-1), 0, 0, 0) := by decide +kernel
theorem gz_117_65 : mz_pg 117 65 = some (.if_icmp .eq 28, 0, 0, 0) := by decide +kernel
theorem gz_117_68 : mz_pg 117 68 = some (.aload_n 0, 0, 0, 0) := by decide +kernel
theorem gz_117_69 : mz_pg 117 69 = some (.getfield 59, 9, 9, 537) := by decide +kernel
theorem gz_117_72 : mz_pg 117 72 = some (.aload_n 0, 0, 0, 0) := by decide +kernel
theorem gz_117_73 : mz_pg 117 73 = some (.getfield 82, 9, 13, 541) := by decide +kernel
theorem gz_117_76 : mz_pg 117 76 = some (.iload_n 1, 0, 0, 0) := by decide +kernel
theorem gz_117_77 : mz_pg 117 77 = some (.iconst 0, 0, 0, 0) := by decide +kernel
theorem gz_117_78 : mz_pg 117 78 = some (.iload_n 2, 0, 0, 0) := by decide +kernel
theorem gz_117_79 : mz_pg 117 79 = some (.iload_n 3, 0, 0, 0) := by decide +kernel
theorem gz_117_80 : mz_pg 117 80 = some (.iload 5, 0, 0, 0) := by decide +kernel
theorem gz_117_82 : mz_pg 117 82 = some (.invokevirtual 248, 1, 114, 1007) := by decide +kernel
theorem gz_117_85 : mz_pg 117 85 = some (.iconst (-1), 0, 0, 0) := by decide +kernel
theorem gz_117_86 : mz_pg 117 86 = some (.if_icmp .eq 7, 0, 0, 0) := by decide +kernel
theorem gz_117_89 : mz_pg 117 89 = some (.iconst 1, 0, 0, 0) := by decide +kernel
theorem gz_117_90 : mz_pg 117 90 = some (.goto 4, 0, 0, 0) := by decide +kernel
theorem gz_117_93 : mz_pg 117 93 = some (.iconst 0, 0, 0, 0) := by decide +kernel
theorem gz_117_94 : mz_pg 117 94 = some (.istore 6, 0, 0, 0) := by decide +kernel
theorem gz_117_96 : mz_pg 117 96 = some (.iload 6, 0, 0, 0) := by decide +kernel
theorem gz_117_98 : mz_pg 117 98 = some (.ifCond .eq 21, 0, 0, 0) := by decide +kernel
theorem gz_117_101 : mz_pg 117 101 = some (.aload_n 0, 0, 0, 0) := by decide +kernel
theorem gz_117_102 : mz_pg 117 102 = some (.getfield 82, 9, 13, 541) := by decide +kernel
theorem gz_117_105 : mz_pg 117 105 = some (.aload_n 0, 0, 0, 0) := by decide +kernel
theorem gz_117_106 : mz_pg 117 106 = some (.getfield 19, 9, 1, 529) := by decide +kernel
theorem gz_117_109 : mz_pg 117 109 = some (.invokevirtual 256, 1, 116, 1017) := by decide +kernel
theorem gz_117_112 : mz_pg 117 112 = some (.ifCond .eq 7, 0, 0, 0) := by decide +kernel
theorem gz_117_115 : mz_pg 117 115 = some (.iconst 1, 0, 0, 0) := by decide +kernel
theorem gz_117_116 : mz_pg 117 116 = some (.goto 4, 0, 0, 0) := by decide +kernel
theorem gz_117_119 : mz_pg 117 119 = some (.iconst 0, 0, 0, 0) := by decide +kernel
theorem gz_117_120 : mz_pg 117 120 = some (.ireturn, 0, 0, 0) := by decide +kernel
theorem gz_118_0 : mz_pg 118 0 = some (.iload_n 2, 0, 0, 0) := by decide +kernel
theorem gz_118_1 : mz_pg 118 1 = some (.bipush 8, 0, 0, 0) := by decide +kernel
theorem gz_118_3 : mz_pg 118 3 = some (.idiv, 0, 0, 0) := by decide +kernel
theorem gz_118_4 : mz_pg 118 4 = some (.istore 7, 0, 0, 0) := by decide +kernel
theorem gz_118_6 : mz_pg 118 6 = some (.iload_n 2, 0, 0, 0) := by decide +kernel
theorem gz_118_7 : mz_pg 118 7 = some (.bipush 8, 0, 0, 0) := by decide +kernel
theorem gz_118_9 : mz_pg 118 9 = some (.irem, 0, 0, 0) := by decide +kernel
theorem gz_118_10 : mz_pg 118 10 = some (.istore 8, 0, 0, 0) := by decide +kernel
theorem gz_118_12 : mz_pg 118 12 = some (.iload 5, 0, 0, 0) := by decide +kernel
theorem gz_118_14 : mz_pg 118 14 = some (.bipush 8, 0, 0, 0) := by decide +kernel
theorem gz_118_16 : mz_pg 118 16 = some (.idiv, 0, 0, 0) := by decide +kernel
theorem gz_118_17 : mz_pg 118 17 = some (.istore 9, 0, 0, 0) := by decide +kernel
theorem gz_118_19 : mz_pg 118 19 = some (.iload 5, 0, 0, 0) := by decide +kernel
theorem gz_118_21 : mz_pg 118 21 = some (.bipush 8, 0, 0, 0) := by decide +kernel
theorem gz_118_23 : mz_pg 118 23 = some (.irem, 0, 0, 0) := by decide +kernel
theorem gz_118_24 : mz_pg 118 24 = some (.istore 10, 0, 0, 0) := by decide +kernel
theorem gz_118_26 : mz_pg 118 26 = some (.iload_n 2, 0, 0, 0) := by decide +kernel
theorem gz_118_27 : mz_pg 118 27 = some (.ifCond .lt 52, 0, 0, 0) := by decide +kernel
theorem gz_118_30 : mz_pg 118 30 = some (.iload 5, 0, 0, 0) := by decide +kernel
theorem gz_118_32 : mz_pg 118 32 = some (.ifCond .lt 47, 0, 0, 0) := by decide +kernel
theorem gz_118_35 : mz_pg 118 35 = some (.aload_n 0, 0, 0, 0) := by decide +kernel
theorem gz_118_36 : mz_pg 118 36 = some (.getfield 59, 9, 9, 537) := by decide +kernel
theorem gz_118_39 : mz_pg 118 39 = some (.aload_n 0, 0, 0, 0) := by decide +kernel
theorem gz_118_40 : mz_pg 118 40 = some (.getfield 19, 9, 1, 529) := by decide +kernel
theorem gz_118_43 : mz_pg 118 43 = some (.iload_n 1, 0, 0, 0) := by decide +kernel
theorem gz_118_44 : mz_pg 118 44 = some (.iconst 0, 0, 0, 0) := by decide +kernel
theorem gz_118_45 : mz_pg 118 45 = some (.iload 7, 0, 0, 0) := by decide +kernel
theorem gz_118_47 : mz_pg 118 47 = some (.iload 8, 0, 0, 0) := by decide +kernel
theorem gz_118_49 : mz_pg 118 49 = some (.iload_n 3, 0, 0, 0) := by decide +kernel
theorem gz_118_50 : mz_pg 118 50 = some (.invokevirtual 197, 1, 87, 893) := by decide +kernel
theorem gz_118_53 : mz_pg 118 53 = some (.ifCond .eq 26, 0, 0, 0) := by decide +kernel
theorem gz_118_56 : mz_pg 118 56 = some (.aload_n 0, 0, 0, 0) := by decide +kernel
theorem gz_118_57 : mz_pg 118 57 = some (.getfield 59, 9, 9, 537) := by decide +kernel
theorem gz_118_60 : mz_pg 118 60 = some (.aload_n 0, 0, 0, 0) := by decide +kernel
theorem gz_118_61 : mz_pg 118 61 = some (.getfield 19, 9, 1, 529) := by decide +kernel
theorem gz_118_64 : mz_pg 118 64 = some (.iload 4, 0, 0, 0) := by decide +kernel
theorem gz_118_66 : mz_pg 118 66 = some (.iconst 0, 0, 0, 0) := by decide +kernel
theorem gz_118_67 : mz_pg 118 67 = some (.iload 9, 0, 0, 0) := by decide +kernel
theorem gz_118_69 : mz_pg 118 69 = some (.iload 10, 0, 0, 0) := by decide +kernel
theorem gz_118_71 : mz_pg 118 71 = some (.iload 6, 0, 0, 0) := by decide +kernel
theorem gz_118_73 : mz_pg 118 73 = some (.invokevirtual 197, 1, 87, 893) := by decide +kernel
theorem gz_118_76 : mz_pg 118 76 = some (.ifCond .ne 5, 0, 0, 0) := by decide +kernel
theorem gz_118_79 : mz_pg 118 79 = some (.iconst (-1), 0, 0, 0) := by decide +kernel
theorem gz_118_80 : mz_pg 118 80 = some (.ireturn, 0, 0, 0) := by decide +kernel
theorem gz_118_81 : mz_pg 118 81 = some (.aload_n 0, 0, 0, 0) := by decide +kernel
theorem gz_118_82 : mz_pg 118 82 = some (.getfield 82, 9, 13, 541) := by decide +kernel
theorem gz_118_85 : mz_pg 118 85 = some (.aload_n 0, 0, 0, 0) := by decide +kernel
theorem gz_118_86 : mz_pg 118 86 = some (.getfield 19, 9, 1, 529) := by decide +kernel
theorem gz_118_89 : mz_pg 118 89 = some (.invokevirtual 114, 1, 25, 626) := by decide +kernel
theorem gz_118_92 : mz_pg 118 92 = some (.aload_n 0, 0, 0, 0) := by decide +kernel
theorem gz_118_93 : mz_pg 118 93 = some (.getfield 85, 9, 14, 542) := by decide +kernel
theorem gz_118_96 : mz_pg 118 96 = some (.aload_n 0, 0, 0, 0) := by decide +kernel
theorem gz_118_97 : mz_pg 118 97 = some (.getfield 19, 9, 1, 529) := by decide +kernel
theorem gz_118_100 : mz_pg 118 100 = some (.invokevirtual 114, 1, 25, 626) := by decide +kernel
theorem gz_118_103 : mz_pg 118 103 = some (.aload_n 0, 0, 0, 0) := by decide +kernel
theorem gz_118_104 : mz_pg 118 104 = some (.getfield 59, 9, 9, 537) := by decide +kernel
theorem gz_118_107 : mz_pg 118 107 = some (.aload_n 0, 0, 0, 0) := by decide +kernel
theorem gz_118_108 : mz_pg 118 108 = some (.getfield 82, 9, 13, 541) := by decide +kernel
theorem gz_118_111 : mz_pg 118 111 = some (.iload_n 1, 0, 0, 0) := by decide +kernel
theorem gz_118_112 : mz_pg 118 112 = some (.iconst 0, 0, 0, 0) := by decide +kernel
theorem gz_118_113 : mz_pg 118 113 = some (.iload 7, 0, 0, 0) := by decide +kernel
theorem gz_118_115 : mz_pg 118 115 = some (.iload 8, 0, 0, 0) := by decide +kernel
theorem gz_118_117 : mz_pg 118 117 = some (.iload_n 3, 0, 0, 0) := by decide +kernel
theorem gz_118_118 : mz_pg 118 118 = some (.invokevirtual 248, 1, 114, 1007) := by decide +kernel
theorem gz_118_121 : mz_pg 118 121 = some (.iconst (-1), 0, 0, 0) := by decide +kernel
theorem gz_118_122 : mz_pg 118 122 = some (.if_icmp .eq 31, 0, 0, 0) := by decide +kernel
theorem gz_118_125 : mz_pg 118 125 = some (.aload_n 0, 0, 0, 0) := by decide +kernel
theorem gz_118_126 : mz_pg 118 126 = some (.getfield 59, 9, 9, 537) := by decide +kernel
theorem gz_118_129 : mz_pg 118 129 = some (.aload_n 0, 0, 0, 0) := by decide +kernel
theorem gz_118_130 : mz_pg 118 130 = some (.getfield 82, 9, 13, 541) := by decide +kernel
theorem gz_118_133 : mz_pg 118 133 = some (.iload 4, 0, 0, 0) := by decide +kernel
theorem gz_118_135 : mz_pg 118 135 = some (.iconst 0, 0, 0, 0) := by decide +kernel
theorem gz_118_136 : mz_pg 118 136 = some (.iload 9, 0, 0, 0) := by decide +kernel
theorem gz_118_138 : mz_pg 118 138 = some (.iload 10, 0, 0, 0) := by decide +kernel
theorem gz_118_140 : mz_pg 118 140 = some (.iload 6, 0, 0, 0) := by decide +kernel
theorem gz_118_142 : mz_pg 118 142 = some (.invokevirtual 248, 1, 114, 1007) := by decide +kernel
theorem gz_118_145 : mz_pg 118 145 = some (.iconst (-1), 0, 0, 0) := by decide +kernel
theorem gz_118_146 : mz_pg 118 146 = some (.if_icmp .eq 7, 0, 0, 0) := by decide +kernel
theorem gz_118_149 : mz_pg 118 149 = some (.iconst 1, 0, 0, 0) := by decide +kernel
theorem gz_118_150 : mz_pg 118 150 = some (.goto 4, 0, 0, 0) := by decide +kernel
theorem gz_118_153 : mz_pg 118 153 = some (.iconst 0, 0, 0, 0) := by decide +kernel
theorem gz_118_154 : mz_pg 118 154 = some (.istore 11, 0, 0, 0) := by decide +kernel
theorem gz_118_156 : mz_pg 118 156 = some (.aload_n 0, 0, 0, 0) := by decide +kernel
theorem gz_118_157 : mz_pg 118 157 = some (.getfield 59, 9, 9, 537) := by decide +kernel
theorem gz_118_160 : mz_pg 118 160 = some (.aload_n 0, 0, 0, 0) := by decide +kernel
theorem gz_118_161 : mz_pg 118 161 = some (.getfield 85, 9, 14, 542) := by decide +kernel
theorem gz_118_164 : mz_pg 118 164 = some (.iload 4, 0, 0, 0) := by decide +kernel
theorem gz_118_166 : mz_pg 118 166 = some (.iconst 0, 0, 0, 0) := by decide +kernel
theorem gz_118_167 : mz_pg 118 167 = some (.iload 9, 0, 0, 0) := by decide +kernel
theorem gz_118_169 : mz_pg 118 169 = some (.iload 10, 0, 0, 0) := by decide +kernel
theorem gz_118_171 : mz_pg 118 171 = some (.iload 6, 0, 0, 0) := by decide +kernel
theorem gz_118_173 : mz_pg 118 173 = some (.invokevirtual 248, 1, 114, 1007) := by decide +kernel
theorem gz_118_176 : mz_pg 118 176 = some (.iconst (-1), 0, 0, 0) := by decide +kernel
theorem gz_118_177 : mz_pg 118 177 = some (.if_icmp .eq 29, 0, 0, 0) := by decide +kernel
theorem gz_118_180 : mz_pg 118 180 = some (.aload_n 0, 0, 0, 0) := by decide +kernel
theorem gz_118_181 : mz_pg 118 181 = some (.getfield 59, 9, 9, 537) := by decide +kernel
theorem gz_118_184 : mz_pg 118 184 = some (.aload_n 0, 0, 0, 0) := by decide +kernel
theorem gz_118_185 : mz_pg 118 185 = some (.getfield 85, 9, 14, 542) := by decide +kernel
theorem gz_118_188 : mz_pg 118 188 = some (.iload_n 1, 0, 0, 0) := by decide +kernel
theorem gz_118_189 : mz_pg 118 189 = some (.iconst 0, 0, 0, 0) := by decide +kernel
theorem gz_118_190 : mz_pg 118 190 = some (.iload 7, 0, 0, 0) := by decide +kernel
theorem gz_118_192 : mz_pg 118 192 = some (.iload 8, 0, 0, 0) := by decide +kernel
theorem gz_118_194 : mz_pg 118 194 = some (.iload_n 3, 0, 0, 0) := by decide +kernel
theorem gz_118_195 : mz_pg 118 195 = some (.invokevirtual 248, 1, 114, 1007) := by decide +kernel
theorem gz_118_198 : mz_pg 118 198 = some (.iconst (-1), 0, 0, 0) := by decide +kernel
theorem gz_118_199 : mz_pg 118 199 = some (.if_icmp .eq 7, 0, 0, 0) := by decide +kernel
theorem gz_118_202 : mz_pg 118 202 = some (.iconst 1, 0, 0, 0) := by decide +kernel
theorem gz_118_203 : mz_pg 118 203 = some (.goto 4, 0, 0, 0) := by decide +kernel
theorem gz_118_206 : mz_pg 118 206 = some (.iconst 0, 0, 0, 0) := by decide +kernel
theorem gz_118_207 : mz_pg 118 207 = some (.istore 12, 0, 0, 0) := by decide +kernel
theorem gz_118_209 : mz_pg 118 209 = some (.iload 11, 0, 0, 0) := by decide +kernel
theorem gz_118_211 : mz_pg 118 211 = some (.ifCond .eq 28, 0, 0, 0) := by decide +kernel
theorem gz_118_214 : mz_pg 118 214 = some (.iload 12, 0, 0, 0) := by decide +kernel
theorem gz_118_216 : mz_pg 118 216 = some (.ifCond .eq 23, 0, 0, 0) := by decide +kernel
theorem gz_118_219 : mz_pg 118 219 = some (.aload_n 0, 0, 0, 0) := by decide +kernel
theorem gz_118_220 : mz_pg 118 220 = some (.getfield 82, 9, 13, 541) := by decide +kernel
theorem gz_118_223 : mz_pg 118 223 = some (.aload_n 0, 0, 0, 0) := by decide +kernel
theorem gz_118_224 : mz_pg 118 224 = some (.getfield 85, 9, 14, 542) := by decide +kernel
theorem gz_118_227 : mz_pg 118 227 = some (.invokevirtual 256, 1, 116, 1017) := by decide +kernel
theorem gz_118_230 : mz_pg 118 230 = some (.ifCond .eq 7, 0, 0, 0) := by decide +kernel
theorem gz_118_233 : mz_pg 118 233 = some (.iconst 0, 0, 0, 0) := by decide +kernel
theorem gz_118_234 : mz_pg 118 234 = some (.goto 4, 0, 0, 0) := by decide +kernel
theorem gz_118_237 : mz_pg 118 237 = some (.iconst 1, 0, 0, 0) := by decide +kernel
theorem gz_118_238 : mz_pg 118 238 = some (.ireturn, 0, 0, 0) := by decide +kernel
theorem gz_118_239 : mz_pg 118 239 = some (.iload 11, 0, 0, 0) := by decide +kernel
theorem gz_118_241 : mz_pg 118 241 = some (.ifCond .eq 7, 0, 0, 0) := by decide +kernel
theorem gz_118_244 : mz_pg 118 244 = some (.iconst 2, 0, 0, 0) := by decide +kernel
theorem gz_118_245 : mz_pg 118 245 = some (.goto 13, 0, 0, 0) := by decide +kernel
theorem gz_118_248 : mz_pg 118 248 = some (.iload 12, 0, 0, 0) := by decide +kernel
theorem gz_118_250 : mz_pg 118 250 = some (.ifCond .eq 7, 0, 0, 0) := by decide +kernel
theorem gz_118_253 : mz_pg 118 253 = some (.iconst 3, 0, 0, 0) := by decide +kernel
theorem gz_118_254 : mz_pg 118 254 = some (.goto 4, 0, 0, 0) := by decide +kernel
theorem gz_118_257 : mz_pg 118 257 = some (.iconst 4, 0, 0, 0) := by decide +kernel
theorem gz_118_258 : mz_pg 118 258 = some (.ireturn, 0, 0, 0) := by decide +kernel
theorem gz_119_0 : mz_pg 119 0 = some (.aload_n 0, 0, 0, 0) := by decide +kernel
theorem gz_119_1 : mz_pg 119 1 = some (.getfield 10, 9, 0, 528) := by decide +kernel
theorem gz_119_4 : mz_pg 119 4 = some (.iload_n 2, 0, 0, 0) := by decide +kernel
theorem gz_119_5 : mz_pg 119 5 = some (.invokevirtual 88, 1, 13, 578) := by decide +kernel
theorem gz_119_8 : mz_pg 119 8 = some (.ifCond .eq 18, 0, 0, 0) := by decide +kernel
theorem gz_119_11 : mz_pg 119 11 = some (.aload_n 0, 0, 0, 0) := by decide +kernel
theorem gz_119_12 : mz_pg 119 12 = some (.getfield 59, 9, 9, 537) := by decide +kernel
theorem gz_119_15 : mz_pg 119 15 = some (.aload_n 0, 0, 0, 0) := by decide +kernel
theorem gz_119_16 : mz_pg 119 16 = some (.getfield 19, 9, 1, 529) := by decide +kernel
theorem gz_119_19 : mz_pg 119 19 = some (.iload_n 1, 0, 0, 0) := by decide +kernel
theorem gz_119_20 : mz_pg 119 20 = some (.invokevirtual 170, 1, 65, 811) := by decide +kernel
theorem gz_119_23 : mz_pg 119 23 = some (.ifCond .ne 5, 0, 0, 0) := by decide +kernel
theorem gz_119_26 : mz_pg 119 26 = some (.iconst (-1), 0, 0, 0) := by decide +kernel
theorem gz_119_27 : mz_pg 119 27 = some (.ireturn, 0, 0, 0) := by decide +kernel
theorem gz_119_28 : mz_pg 119 28 = some (.aload_n 0, 0, 0, 0) := by decide +kernel
theorem gz_119_29 : mz_pg 119 29 = some (.getfield 68, 9, 10, 538) := by decide +kernel
theorem gz_119_32 : mz_pg 119 32 = some (.aload_n 0, 0, 0, 0) := by decide +kernel
theorem gz_119_33 : mz_pg 119 33 = some (.getfield 19, 9, 1, 529) := by decide +kernel
theorem gz_119_36 : mz_pg 119 36 = some (.iload_n 2, 0, 0, 0) := by decide +kernel
theorem gz_119_37 : mz_pg 119 37 = some (.aload_n 0, 0, 0, 0) := by decide +kernel
theorem gz_119_38 : mz_pg 119 38 = some (.getfield 59, 9, 9, 537) := by decide +kernel
theorem gz_119_41 : mz_pg 119 41 = some (.getfield 166, 2, 4, 396) := by decide +kernel
theorem gz_119_44 : mz_pg 119 44 = some (.invokevirtual 259, 1, 120, 1033) := by decide +kernel
theorem gz_119_47 : mz_pg 119 47 = some (.ireturn, 0, 0, 0) := by decide +kernel
theorem gz_120_0 : mz_pg 120 0 = some (.aload_n 1, 0, 0, 0) := by decide +kernel
theorem gz_120_1 : mz_pg 120 1 = some (.iload_n 2, 0, 0, 0) := by decide +kernel
theorem gz_120_2 : mz_pg 120 2 = some (.iconst (-1), 0, 0, 0) := by decide +kernel
theorem gz_120_3 : mz_pg 120 3 = some (.invokevirtual 65, 1, 121, 1037) := by decide +kernel
theorem gz_120_6 : mz_pg 120 6 = some (.istore 4, 0, 0, 0) := by decide +kernel
theorem gz_120_8 : mz_pg 120 8 = some (.aload_n 0, 0, 0, 0) := by decide +kernel
theorem gz_120_9 : mz_pg 120 9 = some (.aload_n 1, 0, 0, 0) := by decide +kernel
theorem gz_120_10 : mz_pg 120 10 = some (.iload_n 2, 0, 0, 0) := by decide +kernel
theorem gz_120_11 : mz_pg 120 11 = some (.iload 4, 0, 0, 0) := by decide +kernel
theorem gz_120_13 : mz_pg 120 13 = some (.aload_n 3, 0, 0, 0) := by decide +kernel
theorem gz_120_14 : mz_pg 120 14 = some (.invokevirtual 68, 1, 122, 1042) := by decide +kernel
theorem gz_120_17 : mz_pg 120 17 = some (.istore 5, 0, 0, 0) := by decide +kernel
theorem gz_120_19 : mz_pg 120 19 = some (.iload 5, 0, 0, 0) := by decide +kernel
theorem gz_120_21 : mz_pg 120 21 = some (.istore 6, 0, 0, 0) := by decide +kernel
theorem gz_120_23 : mz_pg 120 23 = some (.iconst 0, 0, 0, 0) := by decide +kernel
theorem gz_120_24 : mz_pg 120 24 = some (.istore 7, 0, 0, 0) := by decide +kernel
theorem gz_120_26 : mz_pg 120 26 = some (.iload 7, 0, 0, 0) := by decide +kernel
theorem gz_120_28 : mz_pg 120 28 = some (.aload_n 0, 0, 0, 0) := by decide +kernel
theorem gz_120_29 : mz_pg 120 29 = some (.getfield 22, 1, 0, 455) := by decide +kernel
theorem gz_120_32 : mz_pg 120 32 = some (.getfield 39, 3, 0, 146) := by decide +kernel
theorem gz_120_35 : mz_pg 120 35 = some (.iload_n 2, 0, 0, 0) := by decide +kernel
theorem gz_120_36 : mz_pg 120 36 = some (.iaload, 0, 0, 0) := by decide +kernel
theorem gz_120_37 : mz_pg 120 37 = some (.if_icmp .ge 88, 0, 0, 0) := by decide +kernel
theorem gz_120_40 : mz_pg 120 40 = some (.iconst 0, 0, 0, 0) := by decide +kernel
theorem gz_120_41 : mz_pg 120 41 = some (.istore 8, 0, 0, 0) := by decide +kernel
theorem gz_120_43 : mz_pg 120 43 = some (.iload 8, 0, 0, 0) := by decide +kernel
theorem gz_120_45 : mz_pg 120 45 = some (.iconst 2, 0, 0, 0) := by decide +kernel
theorem gz_120_46 : mz_pg 120 46 = some (.if_icmp .gt 73, 0, 0, 0) := by decide +kernel
theorem gz_120_49 : mz_pg 120 49 = some (.iconst 0, 0, 0, 0) := by decide +kernel
theorem gz_120_50 : mz_pg 120 50 = some (.istore 9, 0, 0, 0) := by decide +kernel
theorem gz_120_52 : mz_pg 120 52 = some (.iload 9, 0, 0, 0) := by decide +kernel
theorem gz_120_54 : mz_pg 120 54 = some (.bipush 20, 0, 0, 0) := by decide +kernel
theorem gz_120_56 : mz_pg 120 56 = some (.if_icmp .gt 57, 0, 0, 0) := by decide +kernel
theorem gz_120_59 : mz_pg 120 59 = some (.aload_n 1, 0, 0, 0) := by decide +kernel
theorem gz_120_60 : mz_pg 120 60 = some (.iload_n 2, 0, 0, 0) := by decide +kernel
theorem gz_120_61 : mz_pg 120 61 = some (.iload 7, 0, 0, 0) := by decide +kernel
theorem gz_120_63 : mz_pg 120 63 = some (.iload 8, 0, 0, 0) := by decide +kernel
theorem gz_120_65 : mz_pg 120 65 = some (.iload 9, 0, 0, 0) := by decide +kernel
theorem gz_120_67 : mz_pg 120 67 = some (.invokestatic 44, 1, 125, 1058) := by decide +kernel
theorem gz_120_70 : mz_pg 120 70 = some (.istore 10, 0, 0, 0) := by decide +kernel
theorem gz_120_72 : mz_pg 120 72 = some (.iload 10, 0, 0, 0) := by decide +kernel
theorem gz_120_74 : mz_pg 120 74 = some (.iload 4, 0, 0, 0) := by decide +kernel
theorem gz_120_76 : mz_pg 120 76 = some (.if_icmp .eq 18, 0, 0, 0) := by decide +kernel
theorem gz_120_79 : mz_pg 120 79 = some (.iload 10, 0, 0, 0) := by decide +kernel
theorem gz_120_81 : mz_pg 120 81 = some (.istore 4, 0, 0, 0) := by decide +kernel
theorem gz_120_83 : mz_pg 120 83 = some (.aload_n 0, 0, 0, 0) := by decide +kernel
theorem gz_120_84 : mz_pg 120 84 = some (.aload_n 1, 0, 0, 0) := by decide +kernel
theorem gz_120_85 : mz_pg 120 85 = some (.iload_n 2, 0, 0, 0) := by decide +kernel
theorem gz_120_86 : mz_pg 120 86 = some (.iload 4, 0, 0, 0) := by decide +kernel
theorem gz_120_88 : mz_pg 120 88 = some (.aload_n 3, 0, 0, 0) := by decide +kernel
theorem gz_120_89 : mz_pg 120 89 = some (.invokevirtual 68, 1, 122, 1042) := by decide +kernel
theorem gz_120_92 : mz_pg 120 92 = some (.istore 5, 0, 0, 0) := by decide +kernel
theorem gz_120_94 : mz_pg 120 94 = some (.iload 6, 0, 0, 0) := by decide +kernel
theorem gz_120_96 : mz_pg 120 96 = some (.iload 5, 0, 0, 0) := by decide +kernel
theorem gz_120_98 : mz_pg 120 98 = some (.iload 9, 0, 0, 0) := by decide +kernel
theorem gz_120_100 : mz_pg 120 100 = some (.invokestatic 48, 1, 126, 1061) := by decide +kernel
theorem gz_120_103 : mz_pg 120 103 = some (.imul, 0, 0, 0) := by decide +kernel
theorem gz_120_104 : mz_pg 120 104 = some (.iadd, 0, 0, 0) := by decide +kernel
theorem gz_120_105 : mz_pg 120 105 = some (.istore 6, 0, 0, 0) := by decide +kernel
theorem gz_120_107 : mz_pg 120 107 = some (.iinc 9 1, 0, 0, 0) := by decide +kernel
theorem gz_120_110 : mz_pg 120 110 = some (.goto (-58), 0, 0, 0) := by decide +kernel
theorem gz_120_113 : mz_pg 120 113 = some (.iinc 8 1, 0, 0, 0) := by decide +kernel
theorem gz_120_116 : mz_pg 120 116 = some (.goto (-73), 0, 0, 0) := by decide +kernel
theorem gz_120_119 : mz_pg 120 119 = some (.iinc 7 1, 0, 0, 0) := by decide +kernel
theorem gz_120_122 : mz_pg 120 122 = some (.goto (-96), 0, 0, 0) := by decide +kernel
theorem gz_120_125 : mz_pg 120 125 = some (.iload 6, 0, 0, 0) := by decide +kernel
theorem gz_120_127 : mz_pg 120 127 = some (.ireturn, 0, 0, 0) := by decide +kernel
theorem gz_121_0 : mz_pg 121 0 = some (.iconst 0, 0, 0, 0) := by decide +kernel
theorem gz_121_1 : mz_pg 121 1 = some (.istore_n 3, 0, 0, 0) := by decide +kernel
theorem gz_121_2 : mz_pg 121 2 = some (.iconst 0, 0, 0, 0) := by decide +kernel
theorem gz_121_3 : mz_pg 121 3 = some (.istore 4, 0, 0, 0) := by decide +kernel
theorem gz_121_5 : mz_pg 121 5 = some (.iconst 0, 0, 0, 0) := by decide +kernel
theorem gz_121_6 : mz_pg 121 6 = some (.istore 5, 0, 0, 0) := by decide +kernel
theorem gz_121_8 : mz_pg 121 8 = some (.iload 5, 0, 0, 0) := by decide +kernel
theorem gz_121_10 : mz_pg 121 10 = some (.bipush 20, 0, 0, 0) := by decide +kernel
theorem gz_121_12 : mz_pg 121 12 = some (.if_icmp .ge 34, 0, 0, 0) := by decide +kernel
theorem gz_121_15 : mz_pg 121 15 = some (.aload_n 0, 0, 0, 0) := by decide +kernel
theorem gz_121_16 : mz_pg 121 16 = some (.iload_n 1, 0, 0, 0) := by decide +kernel
theorem gz_121_17 : mz_pg 121 17 = some (.iload 5, 0, 0, 0) := by decide +kernel
theorem gz_121_19 : mz_pg 121 19 = some (.invokevirtual 28, 1, 15, 1041) := by decide +kernel
theorem gz_121_22 : mz_pg 121 22 = some (.ifCond .eq 18, 0, 0, 0) := by decide +kernel
theorem gz_121_25 : mz_pg 121 25 = some (.iload_n 3, 0, 0, 0) := by decide +kernel
theorem gz_121_26 : mz_pg 121 26 = some (.iload_n 2, 0, 0, 0) := by decide +kernel
theorem gz_121_27 : mz_pg 121 27 = some (.iload 4, 0, 0, 0) := by decide +kernel
theorem gz_121_29 : mz_pg 121 29 = some (.ishr, 0, 0, 0) := by decide +kernel
theorem gz_121_30 : mz_pg 121 30 = some (.iconst 1, 0, 0, 0) := by decide +kernel
theorem gz_121_31 : mz_pg 121 31 = some (.iand, 0, 0, 0) := by decide +kernel
theorem gz_121_32 : mz_pg 121 32 = some (.iload 5, 0, 0, 0) := by decide +kernel
theorem gz_121_34 : mz_pg 121 34 = some (.ishl, 0, 0, 0) := by decide +kernel
theorem gz_121_35 : mz_pg 121 35 = some (.ior, 0, 0, 0) := by decide +kernel
theorem gz_121_36 : mz_pg 121 36 = some (.istore_n 3, 0, 0, 0) := by decide +kernel
theorem gz_121_37 : mz_pg 121 37 = some (.iinc 4 1, 0, 0, 0) := by decide +kernel
theorem gz_121_40 : mz_pg 121 40 = some (.iinc 5 1, 0, 0, 0) := by decide +kernel
theorem gz_121_43 : mz_pg 121 43 = some (.goto (-35), 0, 0, 0) := by decide +kernel
theorem gz_121_46 : mz_pg 121 46 = some (.iload_n 3, 0, 0, 0) := by decide +kernel
theorem gz_121_47 : mz_pg 121 47 = some (.ireturn, 0, 0, 0) := by decide +kernel
theorem gz_122_0 : mz_pg 122 0 = some (.aload_n 0, 0, 0, 0) := by decide +kernel
theorem gz_122_1 : mz_pg 122 1 = some (.getfield 22, 1, 0, 455) := by decide +kernel
theorem gz_122_4 : mz_pg 122 4 = some (.getfield 39, 3, 0, 146) := by decide +kernel
theorem gz_122_7 : mz_pg 122 7 = some (.iload_n 2, 0, 0, 0) := by decide +kernel
theorem gz_122_8 : mz_pg 122 8 = some (.iaload, 0, 0, 0) := by decide +kernel
theorem gz_122_9 : mz_pg 122 9 = some (.istore 5, 0, 0, 0) := by decide +kernel
theorem gz_122_11 : mz_pg 122 11 = some (.aload 4, 0, 0, 0) := by decide +kernel
theorem gz_122_13 : mz_pg 122 13 = some (.getfield 72, 8, 1, 332) := by decide +kernel
theorem gz_122_16 : mz_pg 122 16 = some (.iload 5, 0, 0, 0) := by decide +kernel
theorem gz_122_18 : mz_pg 122 18 = some (.if_icmp .gt 15, 0, 0, 0) := by decide +kernel
theorem gz_122_21 : mz_pg 122 21 = some (.iload_n 3, 0, 0, 0) := by decide +kernel
theorem gz_122_22 : mz_pg 122 22 = some (.invokestatic 74, 1, 123, 1045) := by decide +kernel
theorem gz_122_25 : mz_pg 122 25 = some (.aload 4, 0, 0, 0) := by decide +kernel
theorem gz_122_27 : mz_pg 122 27 = some (.getfield 79, 8, 0, 329) := by decide +kernel
theorem gz_122_30 : mz_pg 122 30 = some (.if_icmp .eq 5, 0, 0, 0) := by decide +kernel
theorem gz_122_33 : mz_pg 122 33 = some (.iconst 0, 0, 0, 0) := by decide +kernel
theorem gz_122_34 : mz_pg 122 34 = some (.ireturn, 0, 0, 0) := by decide +kernel
theorem gz_122_35 : mz_pg 122 35 = some (.iconst 0, 0, 0, 0) := by decide +kernel
theorem gz_122_36 : mz_pg 122 36 = some (.istore 6, 0, 0, 0) := by decide +kernel
theorem gz_122_38 : mz_pg 122 38 = some (.iconst 0, 0, 0, 0) := by decide +kernel
theorem gz_122_39 : mz_pg 122 39 = some (.istore 7, 0, 0, 0) := by decide +kernel
theorem gz_122_41 : mz_pg 122 41 = some (.iload 7, 0, 0, 0) := by decide +kernel
theorem gz_122_43 : mz_pg 122 43 = some (.iconst 1, 0, 0, 0) := by decide +kernel
theorem gz_122_44 : mz_pg 122 44 = some (.iconst 2, 0, 0, 0) := by decide +kernel
theorem gz_122_45 : mz_pg 122 45 = some (.aload 4, 0, 0, 0) := by decide +kernel
theorem gz_122_47 : mz_pg 122 47 = some (.getfield 72, 8, 1, 332) := by decide +kernel
theorem gz_122_50 : mz_pg 122 50 = some (.imul, 0, 0, 0) := by decide +kernel
theorem gz_122_51 : mz_pg 122 51 = some (.ishl, 0, 0, 0) := by decide +kernel
theorem gz_122_52 : mz_pg 122 52 = some (.if_icmp .ge 76, 0, 0, 0) := by decide +kernel
theorem gz_122_55 : mz_pg 122 55 = some (.aload_n 0, 0, 0, 0) := by decide +kernel
theorem gz_122_56 : mz_pg 122 56 = some (.iload 7, 0, 0, 0) := by decide +kernel
theorem gz_122_58 : mz_pg 122 58 = some (.aload 4, 0, 0, 0) := by decide +kernel
theorem gz_122_60 : mz_pg 122 60 = some (.getfield 72, 8, 1, 332) := by decide +kernel
theorem gz_122_63 : mz_pg 122 63 = some (.iload 5, 0, 0, 0) := by decide +kernel
theorem gz_122_65 : mz_pg 122 65 = some (.invokevirtual 82, 1, 124, 1051) := by decide +kernel
theorem gz_122_68 : mz_pg 122 68 = some (.ifCond .eq 54, 0, 0, 0) := by decide +kernel
theorem gz_122_71 : mz_pg 122 71 = some (.aload_n 0, 0, 0, 0) := by decide +kernel
theorem gz_122_72 : mz_pg 122 72 = some (.getfield 12, 1, 1, 456) := by decide +kernel
theorem gz_122_75 : mz_pg 122 75 = some (.aload_n 1, 0, 0, 0) := by decide +kernel
theorem gz_122_76 : mz_pg 122 76 = some (.iload_n 2, 0, 0, 0) := by decide +kernel
theorem gz_122_77 : mz_pg 122 77 = some (.iload 5, 0, 0, 0) := by decide +kernel
theorem gz_122_79 : mz_pg 122 79 = some (.iload_n 3, 0, 0, 0) := by decide +kernel
theorem gz_122_80 : mz_pg 122 80 = some (.invokevirtual 85, 1, 68, 1054) := by decide +kernel
theorem gz_122_83 : mz_pg 122 83 = some (.aload_n 0, 0, 0, 0) := by decide +kernel
theorem gz_122_84 : mz_pg 122 84 = some (.getfield 12, 1, 1, 456) := by decide +kernel
theorem gz_122_87 : mz_pg 122 87 = some (.aload_n 0, 0, 0, 0) := by decide +kernel
theorem gz_122_88 : mz_pg 122 88 = some (.getfield 18, 1, 2, 457) := by decide +kernel
theorem gz_122_91 : mz_pg 122 91 = some (.iconst 0, 0, 0, 0) := by decide +kernel
theorem gz_122_92 : mz_pg 122 92 = some (.aload 4, 0, 0, 0) := by decide +kernel
theorem gz_122_94 : mz_pg 122 94 = some (.getfield 72, 8, 1, 332) := by decide +kernel
theorem gz_122_97 : mz_pg 122 97 = some (.invokevirtual 89, 1, 71, 1055) := by decide +kernel
theorem gz_122_100 : mz_pg 122 100 = some (.aload_n 0, 0, 0, 0) := by decide +kernel
theorem gz_122_101 : mz_pg 122 101 = some (.getfield 12, 1, 1, 456) := by decide +kernel
theorem gz_122_104 : mz_pg 122 104 = some (.invokevirtual 93, 1, 79, 1056) := by decide +kernel
theorem gz_122_107 : mz_pg 122 107 = some (.aload_n 0, 0, 0, 0) := by decide +kernel
theorem gz_122_108 : mz_pg 122 108 = some (.getfield 12, 1, 1, 456) := by decide +kernel
theorem gz_122_111 : mz_pg 122 111 = some (.aload 4, 0, 0, 0) := by decide +kernel
theorem gz_122_113 : mz_pg 122 113 = some (.invokevirtual 96, 1, 93, 1057) := by decide +kernel
theorem gz_122_116 : mz_pg 122 116 = some (.ifCond .eq 6, 0, 0, 0) := by decide +kernel
theorem gz_122_119 : mz_pg 122 119 = some (.iinc 6 1, 0, 0, 0) := by decide +kernel
theorem gz_122_122 : mz_pg 122 122 = some (.iinc 7 1, 0, 0, 0) := by decide +kernel
theorem gz_122_125 : mz_pg 122 125 = some (.goto (-84), 0, 0, 0) := by decide +kernel
theorem gz_122_128 : mz_pg 122 128 = some (.iload 6, 0, 0, 0) := by decide +kernel
theorem gz_122_130 : mz_pg 122 130 = some (.ireturn, 0, 0, 0) := by decide +kernel
theorem gz_123_0 : mz_pg 123 0 = some (.iload_n 0, 0, 0, 0) := by decide +kernel
theorem gz_123_1 : mz_pg 123 1 = some (.iload_n 0, 0, 0, 0) := by decide +kernel
theorem gz_123_2 : mz_pg 123 2 = some (.iconst 1, 0, 0, 0) := by decide +kernel
theorem gz_123_3 : mz_pg 123 3 = some (.iushr, 0, 0, 0) := by decide +kernel
theorem gz_123_7 : mz_pg 123 7 = some (.iand, 0, 0, 0) := by decide +kernel
theorem gz_123_8 : mz_pg 123 8 = some (.isub, 0, 0, 0) := by decide +kernel
theorem gz_123_9 : mz_pg 123 9 = some (.istore_n 0, 0, 0, 0) := by decide +kernel
theorem gz_123_10 : mz_pg 123 10 = some (.iload_n 0, 0, 0, 0) := by decide +kernel
theorem gz_123_14 : mz_pg 123 14 = some (.iand, 0, 0, 0) := by decide +kernel
theorem gz_123_15 : mz_pg 123 15 = some (.iload_n 0, 0, 0, 0) := by decide +kernel
theorem gz_123_16 : mz_pg 123 16 = some (.iconst 2, 0, 0, 0) := by decide +kernel
theorem gz_123_17 : mz_pg 123 17 = some (.iushr, 0, 0, 0) := by decide +kernel
theorem gz_123_21 : mz_pg 123 21 = some (.iand, 0, 0, 0) := by decide +kernel
theorem gz_123_22 : mz_pg 123 22 = some (.iadd, 0, 0, 0) := by decide +kernel
theorem gz_123_23 : mz_pg 123 23 = some (.istore_n 0, 0, 0, 0) := by decide +kernel
theorem gz_123_24 : mz_pg 123 24 = some (.iload_n 0, 0, 0, 0) := by decide +kernel
theorem gz_123_25 : mz_pg 123 25 = some (.iload_n 0, 0, 0, 0) := by decide +kernel
theorem gz_123_26 : mz_pg 123 26 = some (.iconst 4, 0, 0, 0) := by decide +kernel
theorem gz_123_27 : mz_pg 123 27 = some (.iushr, 0, 0, 0) := by decide +kernel
theorem gz_123_28 : mz_pg 123 28 = some (.iadd, 0, 0, 0) := by decide +kernel
theorem gz_123_32 : mz_pg 123 32 = some (.iand, 0, 0, 0) := by decide +kernel
theorem gz_123_33 : mz_pg 123 33 = some (.istore_n 0, 0, 0, 0) := by decide +kernel
theorem gz_123_34 : mz_pg 123 34 = some (.iload_n 0, 0, 0, 0) := by decide +kernel
theorem gz_123_35 : mz_pg 123 35 = some (.iload_n 0, 0, 0, 0) := by decide +kernel
theorem gz_123_36 : mz_pg 123 36 = some (.bipush 8, 0, 0, 0) := by decide +kernel
theorem gz_123_38 : mz_pg 123 38 = some (.iushr, 0, 0, 0) := by decide +kernel
theorem gz_123_39 : mz_pg 123 39 = some (.iadd, 0, 0, 0) := by decide +kernel
theorem gz_123_40 : mz_pg 123 40 = some (.istore_n 0, 0, 0, 0) := by decide +kernel
theorem gz_123_41 : mz_pg 123 41 = some (.iload_n 0, 0, 0, 0) := by decide +kernel
theorem gz_123_42 : mz_pg 123 42 = some (.iload_n 0, 0, 0, 0) := by decide +kernel
theorem gz_123_43 : mz_pg 123 43 = some (.bipush 16, 0, 0, 0) := by decide +kernel
theorem gz_123_45 : mz_pg 123 45 = some (.iushr, 0, 0, 0) := by decide +kernel
theorem gz_123_46 : mz_pg 123 46 = some (.iadd, 0, 0, 0) := by decide +kernel
theorem gz_123_47 : mz_pg 123 47 = some (.istore_n 0, 0, 0, 0) := by decide +kernel
theorem gz_123_48 : mz_pg 123 48 = some (.iload_n 0, 0, 0, 0) := by decide +kernel
theorem gz_123_49 : mz_pg 123 49 = some (.bipush 63, 0, 0, 0) := by decide +kernel
theorem gz_123_51 : mz_pg 123 51 = some (.iand, 0, 0, 0) := by decide +kernel
theorem gz_123_52 : mz_pg 123 52 = some (.ireturn, 0, 0, 0) := by decide +kernel
theorem gz_124_0 : mz_pg 124 0 = some (.iconst 0, 0, 0, 0) := by decide +kernel
theorem gz_124_1 : mz_pg 124 1 = some (.istore 4, 0, 0, 0) := by decide +kernel
theorem gz_124_3 : mz_pg 124 3 = some (.iconst 0, 0, 0, 0) := by decide +kernel
theorem gz_124_4 : mz_pg 124 4 = some (.istore 5, 0, 0, 0) := by decide +kernel
theorem gz_124_6 : mz_pg 124 6 = some (.iload 5, 0, 0, 0) := by decide +kernel
theorem gz_124_8 : mz_pg 124 8 = some (.iload_n 2, 0, 0, 0) := by decide +kernel
theorem gz_124_9 : mz_pg 124 9 = some (.if_icmp .ge 55, 0, 0, 0) := by decide +kernel
theorem gz_124_12 : mz_pg 124 12 = some (.iload_n 1, 0, 0, 0) := by decide +kernel
theorem gz_124_13 : mz_pg 124 13 = some (.iconst 2, 0, 0, 0) := by decide +kernel
theorem gz_124_14 : mz_pg 124 14 = some (.iload 5, 0, 0, 0) := by decide +kernel
theorem gz_124_16 : mz_pg 124 16 = some (.imul, 0, 0, 0) := by decide +kernel
theorem gz_124_17 : mz_pg 124 17 = some (.ishr, 0, 0, 0) := by decide +kernel
theorem gz_124_18 : mz_pg 124 18 = some (.iconst 3, 0, 0, 0) := by decide +kernel
theorem gz_124_19 : mz_pg 124 19 = some (.iand, 0, 0, 0) := by decide +kernel
theorem gz_124_20 : mz_pg 124 20 = some (.istore 6, 0, 0, 0) := by decide +kernel
theorem gz_124_22 : mz_pg 124 22 = some (.iload 6, 0, 0, 0) := by decide +kernel
theorem gz_124_24 : mz_pg 124 24 = some (.iload_n 3, 0, 0, 0) := by decide +kernel
theorem gz_124_25 : mz_pg 124 25 = some (.if_icmp .ge 13, 0, 0, 0) := by decide +kernel
theorem gz_124_28 : mz_pg 124 28 = some (.iload 4, 0, 0, 0) := by decide +kernel
theorem gz_124_30 : mz_pg 124 30 = some (.iload 6, 0, 0, 0) := by decide +kernel
theorem gz_124_32 : mz_pg 124 32 = some (.ishr, 0, 0, 0) := by decide +kernel
theorem gz_124_33 : mz_pg 124 33 = some (.iconst 1, 0, 0, 0) := by decide +kernel
theorem gz_124_34 : mz_pg 124 34 = some (.iand, 0, 0, 0) := by decide +kernel
theorem gz_124_35 : mz_pg 124 35 = some (.ifCond .eq 5, 0, 0, 0) := by decide +kernel
theorem gz_124_38 : mz_pg 124 38 = some (.iconst 0, 0, 0, 0) := by decide +kernel
theorem gz_124_39 : mz_pg 124 39 = some (.ireturn, 0, 0, 0) := by decide +kernel
theorem gz_124_40 : mz_pg 124 40 = some (.iload 4, 0, 0, 0) := by decide +kernel
theorem gz_124_42 : mz_pg 124 42 = some (.iconst 1, 0, 0, 0) := by decide +kernel
theorem gz_124_43 : mz_pg 124 43 = some (.iload 6, 0, 0, 0) := by decide +kernel
theorem gz_124_45 : mz_pg 124 45 = some (.ishl, 0, 0, 0) := by decide +kernel
theorem gz_124_46 : mz_pg 124 46 = some (.ior, 0, 0, 0) := by decide +kernel
theorem gz_124_47 : mz_pg 124 47 = some (.istore 4, 0, 0, 0) := by decide +kernel
theorem gz_124_49 : mz_pg 124 49 = some (.aload_n 0, 0, 0, 0) := by decide +kernel
theorem gz_124_50 : mz_pg 124 50 = some (.getfield 18, 1, 2, 457) := by decide +kernel
theorem gz_124_53 : mz_pg 124 53 = some (.iload 5, 0, 0, 0) := by decide +kernel
theorem gz_124_55 : mz_pg 124 55 = some (.iload 6, 0, 0, 0) := by decide +kernel
theorem gz_124_57 : mz_pg 124 57 = some (.iastore, 0, 0, 0) := by decide +kernel
theorem gz_124_58 : mz_pg 124 58 = some (.iinc 5 1, 0, 0, 0) := by decide +kernel
theorem gz_124_61 : mz_pg 124 61 = some (.goto (-55), 0, 0, 0) := by decide +kernel
theorem gz_124_64 : mz_pg 124 64 = some (.iconst 1, 0, 0, 0) := by decide +kernel
theorem gz_124_65 : mz_pg 124 65 = some (.ireturn, 0, 0, 0) := by decide +kernel
theorem gz_125_0 : mz_pg 125 0 = some (.iconst 0, 0, 0, 0) := by decide +kernel
theorem gz_125_1 : mz_pg 125 1 = some (.istore 5, 0, 0, 0) := by decide +kernel
theorem gz_125_3 : mz_pg 125 3 = some (.iconst 0, 0, 0, 0) := by decide +kernel
theorem gz_125_4 : mz_pg 125 4 = some (.istore 6, 0, 0, 0) := by decide +kernel
theorem gz_125_6 : mz_pg 125 6 = some (.iload 6, 0, 0, 0) := by decide +kernel
theorem gz_125_8 : mz_pg 125 8 = some (.bipush 20, 0, 0, 0) := by decide +kernel
theorem gz_125_10 : mz_pg 125 10 = some (.if_icmp .ge 55, 0, 0, 0) := by decide +kernel
theorem gz_125_13 : mz_pg 125 13 = some (.iload_n 1, 0, 0, 0) := by decide +kernel
theorem gz_125_14 : mz_pg 125 14 = some (.iload 6, 0, 0, 0) := by decide +kernel
theorem gz_125_16 : mz_pg 125 16 = some (.invokestatic 52, 2, 17, 14) := by decide +kernel
theorem gz_125_19 : mz_pg 125 19 = some (.istore 7, 0, 0, 0) := by decide +kernel
theorem gz_125_21 : mz_pg 125 21 = some (.aload_n 0, 0, 0, 0) := by decide +kernel
theorem gz_125_22 : mz_pg 125 22 = some (.getfield 56, 6, 0, 177) := by decide +kernel
theorem gz_125_25 : mz_pg 125 25 = some (.iload 7, 0, 0, 0) := by decide +kernel
theorem gz_125_27 : mz_pg 125 27 = some (.iaload, 0, 0, 0) := by decide +kernel
theorem gz_125_28 : mz_pg 125 28 = some (.iconst (-1), 0, 0, 0) := by decide +kernel
theorem gz_125_29 : mz_pg 125 29 = some (.if_icmp .eq 30, 0, 0, 0) := by decide +kernel
theorem gz_125_32 : mz_pg 125 32 = some (.iload_n 3, 0, 0, 0) := by decide +kernel
theorem gz_125_33 : mz_pg 125 33 = some (.aload_n 0, 0, 0, 0) := by decide +kernel
theorem gz_125_34 : mz_pg 125 34 = some (.getfield 56, 6, 0, 177) := by decide +kernel
theorem gz_125_37 : mz_pg 125 37 = some (.iload 7, 0, 0, 0) := by decide +kernel
theorem gz_125_39 : mz_pg 125 39 = some (.iload_n 2, 0, 0, 0) := by decide +kernel
theorem gz_125_40 : mz_pg 125 40 = some (.iadd, 0, 0, 0) := by decide +kernel
theorem gz_125_41 : mz_pg 125 41 = some (.iaload, 0, 0, 0) := by decide +kernel
theorem gz_125_42 : mz_pg 125 42 = some (.iload 4, 0, 0, 0) := by decide +kernel
theorem gz_125_44 : mz_pg 125 44 = some (.invokestatic 61, 2, 78, 15) := by decide +kernel
theorem gz_125_47 : mz_pg 125 47 = some (.ifCond .eq 12, 0, 0, 0) := by decide +kernel
theorem gz_125_50 : mz_pg 125 50 = some (.iload 5, 0, 0, 0) := by decide +kernel
theorem gz_125_52 : mz_pg 125 52 = some (.iconst 1, 0, 0, 0) := by decide +kernel
theorem gz_125_53 : mz_pg 125 53 = some (.iload 6, 0, 0, 0) := by decide +kernel
theorem gz_125_55 : mz_pg 125 55 = some (.ishl, 0, 0, 0) := by decide +kernel
theorem gz_125_56 : mz_pg 125 56 = some (.ior, 0, 0, 0) := by decide +kernel
theorem gz_125_57 : mz_pg 125 57 = some (.istore 5, 0, 0, 0) := by decide +kernel
theorem gz_125_59 : mz_pg 125 59 = some (.iinc 6 1, 0, 0, 0) := by decide +kernel
theorem gz_125_62 : mz_pg 125 62 = some (.goto (-56), 0, 0, 0) := by decide +kernel
theorem gz_125_65 : mz_pg 125 65 = some (.iload 5, 0, 0, 0) := by decide +kernel
theorem gz_125_67 : mz_pg 125 67 = some (.ireturn, 0, 0, 0) := by decide +kernel
theorem gz_126_0 : mz_pg 126 0 = some (.iload_n 0, 0, 0, 0) := by decide +kernel
theorem gz_126_1 : mz_pg 126 1 = some (.bipush 20, 0, 0, 0) := by decide +kernel
theorem gz_126_3 : mz_pg 126 3 = some (.if_icmp .ge 7, 0, 0, 0) := by decide +kernel
theorem gz_126_6 : mz_pg 126 6 = some (.iconst 1, 0, 0, 0) := by decide +kernel
theorem gz_126_7 : mz_pg 126 7 = some (.goto 6, 0, 0, 0) := by decide +kernel
theorem gz_126_10 : mz_pg 126 10 = some (.sipush 180, 0, 0, 0) := by decide +kernel
theorem gz_126_13 : mz_pg 126 13 = some (.ireturn, 0, 0, 0) := by decide +kernel
theorem gz_127_0 : mz_pg 127 0 = some (.iload_n 1, 0, 0, 0) := by decide +kernel
theorem gz_127_1 : mz_pg 127 1 = some (.ifCond .lt 8, 0, 0, 0) := by decide +kernel
theorem gz_127_4 : mz_pg 127 4 = some (.iload_n 1, 0, 0, 0) := by decide +kernel
theorem gz_127_5 : mz_pg 127 5 = some (.iconst 3, 0, 0, 0) := by decide +kernel
theorem gz_127_6 : mz_pg 127 6 = some (.if_icmp .lt 5, 0, 0, 0) := by decide +kernel
theorem gz_127_9 : mz_pg 127 9 = some (.iconst 0, 0, 0, 0) := by decide +kernel
theorem gz_127_10 : mz_pg 127 10 = some (.ireturn, 0, 0, 0) := by decide +kernel
theorem gz_127_11 : mz_pg 127 11 = some (.iload_n 2, 0, 0, 0) := by decide +kernel
theorem gz_127_12 : mz_pg 127 12 = some (.iconst (-1), 0, 0, 0) := by decide +kernel
theorem gz_127_13 : mz_pg 127 13 = some (.if_icmp .ne 15, 0, 0, 0) := by decide +kernel
theorem gz_127_16 : mz_pg 127 16 = some (.aload_n 0, 0, 0, 0) := by decide +kernel
theorem gz_127_17 : mz_pg 127 17 = some (.getfield 75, 9, 11, 539) := by decide +kernel
theorem gz_127_20 : mz_pg 127 20 = some (.getfield 263, 0, 0, 490) := by decide +kernel
theorem gz_127_23 : mz_pg 127 23 = some (.iload_n 1, 0, 0, 0) := by decide +kernel
theorem gz_127_24 : mz_pg 127 24 = some (.iconst (-1), 0, 0, 0) := by decide +kernel
theorem gz_127_25 : mz_pg 127 25 = some (.iastore, 0, 0, 0) := by decide +kernel
theorem gz_127_26 : mz_pg 127 26 = some (.iconst 1, 0, 0, 0) := by decide +kernel
theorem gz_127_27 : mz_pg 127 27 = some (.ireturn, 0, 0, 0) := by decide +kernel
theorem gz_127_28 : mz_pg 127 28 = some (.aload_n 0, 0, 0, 0) := by decide +kernel
theorem gz_127_29 : mz_pg 127 29 = some (.getfield 59, 9, 9, 537) := by decide +kernel
theorem gz_127_32 : mz_pg 127 32 = some (.iload_n 2, 0, 0, 0) := by decide +kernel
theorem gz_127_33 : mz_pg 127 33 = some (.invokevirtual 266, 1, 66, 1068) := by decide +kernel
theorem gz_127_36 : mz_pg 127 36 = some (.ifCond .eq 26, 0, 0, 0) := by decide +kernel
theorem gz_127_39 : mz_pg 127 39 = some (.iload_n 3, 0, 0, 0) := by decide +kernel
theorem gz_127_40 : mz_pg 127 40 = some (.ifCond .lt 22, 0, 0, 0) := by decide +kernel
theorem gz_127_43 : mz_pg 127 43 = some (.iload_n 3, 0, 0, 0) := by decide +kernel
theorem gz_127_44 : mz_pg 127 44 = some (.bipush 80, 0, 0, 0) := by decide +kernel
theorem gz_127_46 : mz_pg 127 46 = some (.if_icmp .ge 16, 0, 0, 0) := by decide +kernel
theorem gz_127_49 : mz_pg 127 49 = some (.iload 4, 0, 0, 0) := by decide +kernel
theorem gz_127_51 : mz_pg 127 51 = some (.ifCond .lt 11, 0, 0, 0) := by decide +kernel
theorem gz_127_54 : mz_pg 127 54 = some (.iload 4, 0, 0, 0) := by decide +kernel
theorem gz_127_56 : mz_pg 127 56 = some (.sipush 200, 0, 0, 0) := by decide +kernel
theorem gz_127_59 : mz_pg 127 59 = some (.if_icmp .lt 5, 0, 0, 0) := by decide +kernel
theorem gz_127_62 : mz_pg 127 62 = some (.iconst 0, 0, 0, 0) := by decide +kernel
theorem gz_127_63 : mz_pg 127 63 = some (.ireturn, 0, 0, 0) := by decide +kernel
theorem gz_127_64 : mz_pg 127 64 = some (.aload_n 0, 0, 0, 0) := by decide +kernel
theorem gz_127_65 : mz_pg 127 65 = some (.getfield 75, 9, 11, 539) := by decide +kernel
theorem gz_127_68 : mz_pg 127 68 = some (.getfield 263, 0, 0, 490) := by decide +kernel
theorem gz_127_71 : mz_pg 127 71 = some (.iload_n 1, 0, 0, 0) := by decide +kernel
theorem gz_127_72 : mz_pg 127 72 = some (.iload_n 2, 0, 0, 0) := by decide +kernel
theorem gz_127_73 : mz_pg 127 73 = some (.iastore, 0, 0, 0) := by decide +kernel
theorem gz_127_74 : mz_pg 127 74 = some (.aload_n 0, 0, 0, 0) := by decide +kernel
theorem gz_127_75 : mz_pg 127 75 = some (.getfield 75, 9, 11, 539) := by decide +kernel
theorem gz_127_78 : mz_pg 127 78 = some (.getfield 269, 0, 1, 492) := by decide +kernel
theorem gz_127_81 : mz_pg 127 81 = some (.iload_n 1, 0, 0, 0) := by decide +kernel
theorem gz_127_82 : mz_pg 127 82 = some (.iload_n 3, 0, 0, 0) := by decide +kernel
theorem gz_127_83 : mz_pg 127 83 = some (.iastore, 0, 0, 0) := by decide +kernel
theorem gz_127_84 : mz_pg 127 84 = some (.aload_n 0, 0, 0, 0) := by decide +kernel
theorem gz_127_85 : mz_pg 127 85 = some (.getfield 75, 9, 11, 539) := by decide +kernel
theorem gz_127_88 : mz_pg 127 88 = some (.getfield 272, 0, 2, 494) := by decide +kernel
theorem gz_127_91 : mz_pg 127 91 = some (.iload_n 1, 0, 0, 0) := by decide +kernel
theorem gz_127_92 : mz_pg 127 92 = some (.iload 4, 0, 0, 0) := by decide +kernel
theorem gz_127_94 : mz_pg 127 94 = some (.iastore, 0, 0, 0) := by decide +kernel
theorem gz_127_95 : mz_pg 127 95 = some (.iconst 1, 0, 0, 0) := by decide +kernel
theorem gz_127_96 : mz_pg 127 96 = some (.ireturn, 0, 0, 0) := by decide +kernel
theorem gz_128_0 : mz_pg 128 0 = some (.iload_n 1, 0, 0, 0) := by decide +kernel
theorem gz_128_1 : mz_pg 128 1 = some (.ifCond .lt 8, 0, 0, 0) := by decide +kernel
theorem gz_128_4 : mz_pg 128 4 = some (.iload_n 1, 0, 0, 0) := by decide +kernel
theorem gz_128_5 : mz_pg 128 5 = some (.iconst 3, 0, 0, 0) := by decide +kernel
theorem gz_128_6 : mz_pg 128 6 = some (.if_icmp .le 5, 0, 0, 0) := by decide +kernel
theorem gz_128_9 : mz_pg 128 9 = some (.iconst (-1), 0, 0, 0) := by decide +kernel
theorem gz_128_10 : mz_pg 128 10 = some (.ireturn, 0, 0, 0) := by decide +kernel
theorem gz_128_11 : mz_pg 128 11 = some (.aload_n 0, 0, 0, 0) := by decide +kernel
theorem gz_128_12 : mz_pg 128 12 = some (.getfield 75, 9, 11, 539) := by decide +kernel
theorem gz_128_15 : mz_pg 128 15 = some (.invokevirtual 275, 1, 129, 1073) := by decide +kernel
theorem gz_128_18 : mz_pg 128 18 = some (.iload_n 1, 0, 0, 0) := by decide +kernel
theorem gz_128_19 : mz_pg 128 19 = some (.iconst 3, 0, 0, 0) := by decide +kernel
theorem gz_128_20 : mz_pg 128 20 = some (.if_icmp .ne 11, 0, 0, 0) := by decide +kernel
theorem gz_128_23 : mz_pg 128 23 = some (.aload_n 0, 0, 0, 0) := by decide +kernel
theorem gz_128_24 : mz_pg 128 24 = some (.getfield 75, 9, 11, 539) := by decide +kernel
theorem gz_128_27 : mz_pg 128 27 = some (.getfield 278, 0, 7, 502) := by decide +kernel
theorem gz_128_30 : mz_pg 128 30 = some (.ireturn, 0, 0, 0) := by decide +kernel
theorem gz_128_31 : mz_pg 128 31 = some (.iconst 0, 0, 0, 0) := by decide +kernel
theorem gz_128_32 : mz_pg 128 32 = some (.istore_n 2, 0, 0, 0) := by decide +kernel
theorem gz_128_33 : mz_pg 128 33 = some (.iload_n 2, 0, 0, 0) := by decide +kernel
theorem gz_128_34 : mz_pg 128 34 = some (.aload_n 0, 0, 0, 0) := by decide +kernel
theorem gz_128_35 : mz_pg 128 35 = some (.getfield 75, 9, 11, 539) := by decide +kernel
theorem gz_128_38 : mz_pg 128 38 = some (.getfield 278, 0, 7, 502) := by decide +kernel
theorem gz_128_41 : mz_pg 128 41 = some (.if_icmp .ge 140, 0, 0, 0) := by decide +kernel
theorem gz_128_44 : mz_pg 128 44 = some (.aload_n 0, 0, 0, 0) := by decide +kernel
theorem gz_128_45 : mz_pg 128 45 = some (.getfield 82, 9, 13, 541) := by decide +kernel
theorem gz_128_48 : mz_pg 128 48 = some (.aload_n 0, 0, 0, 0) := by decide +kernel
theorem gz_128_49 : mz_pg 128 49 = some (.getfield 19, 9, 1, 529) := by decide +kernel
theorem gz_128_52 : mz_pg 128 52 = some (.invokevirtual 114, 1, 25, 626) := by decide +kernel
theorem gz_128_55 : mz_pg 128 55 = some (.iconst 0, 0, 0, 0) := by decide +kernel
theorem gz_128_56 : mz_pg 128 56 = some (.istore_n 3, 0, 0, 0) := by decide +kernel
theorem gz_128_57 : mz_pg 128 57 = some (.iconst 0, 0, 0, 0) := by decide +kernel
theorem gz_128_58 : mz_pg 128 58 = some (.istore 4, 0, 0, 0) := by decide +kernel
theorem gz_128_60 : mz_pg 128 60 = some (.iload 4, 0, 0, 0) := by decide +kernel
theorem gz_128_62 : mz_pg 128 62 = some (.aload_n 0, 0, 0, 0) := by decide +kernel
theorem gz_128_63 : mz_pg 128 63 = some (.getfield 75, 9, 11, 539) := by decide +kernel
theorem gz_128_66 : mz_pg 128 66 = some (.getfield 281, 0, 4, 497) := by decide +kernel
theorem gz_128_69 : mz_pg 128 69 = some (.if_icmp .ge 94, 0, 0, 0) := by decide +kernel
theorem gz_128_72 : mz_pg 128 72 = some (.aload_n 0, 0, 0, 0) := by decide +kernel
theorem gz_128_73 : mz_pg 128 73 = some (.getfield 75, 9, 11, 539) := by decide +kernel
theorem gz_128_76 : mz_pg 128 76 = some (.iload_n 2, 0, 0, 0) := by decide +kernel
theorem gz_128_77 : mz_pg 128 77 = some (.iload 4, 0, 0, 0) := by decide +kernel
theorem gz_128_79 : mz_pg 128 79 = some (.invokevirtual 284, 1, 130, 1077) := by decide +kernel
theorem gz_128_82 : mz_pg 128 82 = some (.istore 5, 0, 0, 0) := by decide +kernel
theorem gz_128_84 : mz_pg 128 84 = some (.aload_n 0, 0, 0, 0) := by decide +kernel
theorem gz_128_85 : mz_pg 128 85 = some (.getfield 75, 9, 11, 539) := by decide +kernel
theorem gz_128_88 : mz_pg 128 88 = some (.getfield 269, 0, 1, 492) := by decide +kernel
theorem gz_128_91 : mz_pg 128 91 = some (.iload 5, 0, 0, 0) := by decide +kernel
theorem gz_128_93 : mz_pg 128 93 = some (.iaload, 0, 0, 0) := by decide +kernel
theorem gz_128_94 : mz_pg 128 94 = some (.bipush 8, 0, 0, 0) := by decide +kernel
theorem gz_128_96 : mz_pg 128 96 = some (.idiv, 0, 0, 0) := by decide +kernel
theorem gz_128_97 : mz_pg 128 97 = some (.istore 6, 0, 0, 0) := by decide +kernel
theorem gz_128_99 : mz_pg 128 99 = some (.aload_n 0, 0, 0, 0) := by decide +kernel
theorem gz_128_100 : mz_pg 128 100 = some (.getfield 75, 9, 11, 539) := by decide +kernel
theorem gz_128_103 : mz_pg 128 103 = some (.getfield 269, 0, 1, 492) := by decide +kernel
theorem gz_128_106 : mz_pg 128 106 = some (.iload 5, 0, 0, 0) := by decide +kernel
theorem gz_128_108 : mz_pg 128 108 = some (.iaload, 0, 0, 0) := by decide +kernel
theorem gz_128_109 : mz_pg 128 109 = some (.bipush 8, 0, 0, 0) := by decide +kernel
theorem gz_128_111 : mz_pg 128 111 = some (.irem, 0, 0, 0) := by decide +kernel
theorem gz_128_112 : mz_pg 128 112 = some (.istore 7, 0, 0, 0) := by decide +kernel
theorem gz_128_114 : mz_pg 128 114 = some (.aload_n 0, 0, 0, 0) := by decide +kernel
theorem gz_128_115 : mz_pg 128 115 = some (.getfield 59, 9, 9, 537) := by decide +kernel
theorem gz_128_118 : mz_pg 128 118 = some (.aload_n 0, 0, 0, 0) := by decide +kernel
theorem gz_128_119 : mz_pg 128 119 = some (.getfield 82, 9, 13, 541) := by decide +kernel
theorem gz_128_122 : mz_pg 128 122 = some (.aload_n 0, 0, 0, 0) := by decide +kernel
theorem gz_128_123 : mz_pg 128 123 = some (.getfield 75, 9, 11, 539) := by decide +kernel
theorem gz_128_126 : mz_pg 128 126 = some (.getfield 263, 0, 0, 490) := by decide +kernel
theorem gz_128_129 : mz_pg 128 129 = some (.iload 5, 0, 0, 0) := by decide +kernel
theorem gz_128_131 : mz_pg 128 131 = some (.iaload, 0, 0, 0) := by decide +kernel
theorem gz_128_132 : mz_pg 128 132 = some (.iconst 0, 0, 0, 0) := by decide +kernel
theorem gz_128_133 : mz_pg 128 133 = some (.iload 6, 0, 0, 0) := by decide +kernel
theorem gz_128_135 : mz_pg 128 135 = some (.iload 7, 0, 0, 0) := by decide +kernel
theorem gz_128_137 : mz_pg 128 137 = some (.aload_n 0, 0, 0, 0) := by decide +kernel
theorem gz_128_138 : mz_pg 128 138 = some (.getfield 75, 9, 11, 539) := by decide +kernel
theorem gz_128_141 : mz_pg 128 141 = some (.getfield 272, 0, 2, 494) := by decide +kernel
theorem gz_128_144 : mz_pg 128 144 = some (.iload 5, 0, 0, 0) := by decide +kernel
theorem gz_128_146 : mz_pg 128 146 = some (.iaload, 0, 0, 0) := by decide +kernel
theorem gz_128_147 : mz_pg 128 147 = some (.invokevirtual 248, 1, 114, 1007) := by decide +kernel
theorem gz_128_150 : mz_pg 128 150 = some (.iconst (-1), 0, 0, 0) := by decide +kernel
theorem gz_128_151 : mz_pg 128 151 = some (.if_icmp .eq 6, 0, 0, 0) := by decide +kernel
theorem gz_128_154 : mz_pg 128 154 = some (.iinc 3 1, 0, 0, 0) := by decide +kernel
theorem gz_128_157 : mz_pg 128 157 = some (.iinc 4 1, 0, 0, 0) := by decide +kernel
theorem gz_128_160 : mz_pg 128 160 = some (.goto (-100), 0, 0, 0) := by decide +kernel
theorem gz_128_163 : mz_pg 128 163 = some (.aload_n 0, 0, 0, 0) := by decide +kernel
theorem gz_128_164 : mz_pg 128 164 = some (.getfield 75, 9, 11, 539) := by decide +kernel
theorem gz_128_167 : mz_pg 128 167 = some (.aload_n 0, 0, 0, 0) := by decide +kernel
theorem gz_128_168 : mz_pg 128 168 = some (.getfield 82, 9, 13, 541) := by decide +kernel
theorem gz_128_171 : mz_pg 128 171 = some (.iload_n 3, 0, 0, 0) := by decide +kernel
theorem gz_128_172 : mz_pg 128 172 = some (.invokevirtual 287, 1, 131, 1082) := by decide +kernel
theorem gz_128_175 : mz_pg 128 175 = some (.iinc 2 1, 0, 0, 0) := by decide +kernel
theorem gz_128_178 : mz_pg 128 178 = some (.goto (-145), 0, 0, 0) := by decide +kernel
theorem gz_128_181 : mz_pg 128 181 = some (.iload_n 1, 0, 0, 0) := by decide +kernel
theorem gz_128_182 : mz_pg 128 182 = some (.ifCond .ne 13, 0, 0, 0) := by decide +kernel
theorem gz_128_185 : mz_pg 128 185 = some (.aload_n 0, 0, 0, 0) := by decide +kernel
theorem gz_128_186 : mz_pg 128 186 = some (.getfield 75, 9, 11, 539) := by decide +kernel
theorem gz_128_189 : mz_pg 128 189 = some (.getfield 291, 0, 8, 504) := by decide +kernel
theorem gz_128_192 : mz_pg 128 192 = some (.goto 25, 0, 0, 0) := by decide +kernel
theorem gz_128_195 : mz_pg 128 195 = some (.iload_n 1, 0, 0, 0) := by decide +kernel
theorem gz_128_196 : mz_pg 128 196 = some (.iconst 1, 0, 0, 0) := by decide +kernel
theorem gz_128_197 : mz_pg 128 197 = some (.if_icmp .ne 13, 0, 0, 0) := by decide +kernel
theorem gz_128_200 : mz_pg 128 200 = some (.aload_n 0, 0, 0, 0) := by decide +kernel
theorem gz_128_201 : mz_pg 128 201 = some (.getfield 75, 9, 11, 539) := by decide +kernel
theorem gz_128_204 : mz_pg 128 204 = some (.getfield 294, 0, 6, 500) := by decide +kernel
theorem gz_128_207 : mz_pg 128 207 = some (.goto 10, 0, 0, 0) := by decide +kernel
theorem gz_128_210 : mz_pg 128 210 = some (.aload_n 0, 0, 0, 0) := by decide +kernel
theorem gz_128_211 : mz_pg 128 211 = some (.getfield 75, 9, 11, 539) := by decide +kernel
theorem gz_128_214 : mz_pg 128 214 = some (.getfield 297, 0, 9, 506) := by decide +kernel
theorem gz_128_217 : mz_pg 128 217 = some (.ireturn, 0, 0, 0) := by decide +kernel
theorem gz_129_0 : mz_pg 129 0 = some (.aload_n 0, 0, 0, 0) := by decide +kernel
theorem gz_129_1 : mz_pg 129 1 = some (.iconst 0, 0, 0, 0) := by decide +kernel
theorem gz_129_2 : mz_pg 129 2 = some (.putfield 31, 0, 4, 496) := by decide +kernel
theorem gz_129_5 : mz_pg 129 5 = some (.iconst 0, 0, 0, 0) := by decide +kernel
theorem gz_129_6 : mz_pg 129 6 = some (.istore_n 1, 0, 0, 0) := by decide +kernel
theorem gz_129_7 : mz_pg 129 7 = some (.iload_n 1, 0, 0, 0) := by decide +kernel
theorem gz_129_8 : mz_pg 129 8 = some (.iconst 3, 0, 0, 0) := by decide +kernel
theorem gz_129_9 : mz_pg 129 9 = some (.if_icmp .ge 36, 0, 0, 0) := by decide +kernel
theorem gz_129_12 : mz_pg 129 12 = some (.aload_n 0, 0, 0, 0) := by decide +kernel
theorem gz_129_13 : mz_pg 129 13 = some (.getfield 9, 0, 0, 489) := by decide +kernel
theorem gz_129_16 : mz_pg 129 16 = some (.iload_n 1, 0, 0, 0) := by decide +kernel
theorem gz_129_17 : mz_pg 129 17 = some (.iaload, 0, 0, 0) := by decide +kernel
theorem gz_129_18 : mz_pg 129 18 = some (.iconst (-1), 0, 0, 0) := by decide +kernel
theorem gz_129_19 : mz_pg 129 19 = some (.if_icmp .eq 20, 0, 0, 0) := by decide +kernel
theorem gz_129_22 : mz_pg 129 22 = some (.aload_n 0, 0, 0, 0) := by decide +kernel
theorem gz_129_23 : mz_pg 129 23 = some (.getfield 21, 0, 3, 495) := by decide +kernel
theorem gz_129_26 : mz_pg 129 26 = some (.aload_n 0, 0, 0, 0) := by decide +kernel
theorem gz_129_27 : mz_pg 129 27 = some (.dup, 0, 0, 0) := by decide +kernel
theorem gz_129_28 : mz_pg 129 28 = some (.getfield 31, 0, 4, 496) := by decide +kernel
theorem gz_129_31 : mz_pg 129 31 = some (.dup_x1, 0, 0, 0) := by decide +kernel
theorem gz_129_32 : mz_pg 129 32 = some (.iconst 1, 0, 0, 0) := by decide +kernel
theorem gz_129_33 : mz_pg 129 33 = some (.iadd, 0, 0, 0) := by decide +kernel
theorem gz_129_34 : mz_pg 129 34 = some (.putfield 31, 0, 4, 496) := by decide +kernel
theorem gz_129_37 : mz_pg 129 37 = some (.iload_n 1, 0, 0, 0) := by decide +kernel
theorem gz_129_38 : mz_pg 129 38 = some (.iastore, 0, 0, 0) := by decide +kernel
theorem gz_129_39 : mz_pg 129 39 = some (.iinc 1 1, 0, 0, 0) := by decide +kernel
theorem gz_129_42 : mz_pg 129 42 = some (.goto (-35), 0, 0, 0) := by decide +kernel
theorem gz_129_45 : mz_pg 129 45 = some (.aload_n 0, 0, 0, 0) := by decide +kernel
theorem gz_129_46 : mz_pg 129 46 = some (.aload_n 0, 0, 0, 0) := by decide +kernel
theorem gz_129_47 : mz_pg 129 47 = some (.getfield 31, 0, 4, 496) := by decide +kernel
theorem gz_129_50 : mz_pg 129 50 = some (.iconst 3, 0, 0, 0) := by decide +kernel
theorem gz_129_51 : mz_pg 129 51 = some (.if_icmp .ne 8, 0, 0, 0) := by decide +kernel
theorem gz_129_54 : mz_pg 129 54 = some (.bipush 6, 0, 0, 0) := by decide +kernel
theorem gz_129_56 : mz_pg 129 56 = some (.goto 16, 0, 0, 0) := by decide +kernel
theorem gz_129_59 : mz_pg 129 59 = some (.aload_n 0, 0, 0, 0) := by decide +kernel
theorem gz_129_60 : mz_pg 129 60 = some (.getfield 31, 0, 4, 496) := by decide +kernel
theorem gz_129_63 : mz_pg 129 63 = some (.iconst 2, 0, 0, 0) := by decide +kernel
theorem gz_129_64 : mz_pg 129 64 = some (.if_icmp .ne 7, 0, 0, 0) := by decide +kernel
theorem gz_129_67 : mz_pg 129 67 = some (.iconst 2, 0, 0, 0) := by decide +kernel
theorem gz_129_68 : mz_pg 129 68 = some (.goto 4, 0, 0, 0) := by decide +kernel
theorem gz_129_71 : mz_pg 129 71 = some (.iconst 1, 0, 0, 0) := by decide +kernel
theorem gz_129_72 : mz_pg 129 72 = some (.putfield 35, 0, 7, 501) := by decide +kernel
theorem gz_129_75 : mz_pg 129 75 = some (.aload_n 0, 0, 0, 0) := by decide +kernel
theorem gz_129_76 : mz_pg 129 76 = some (.iconst 0, 0, 0, 0) := by decide +kernel
theorem gz_129_77 : mz_pg 129 77 = some (.putfield 38, 0, 6, 499) := by decide +kernel
theorem gz_129_80 : mz_pg 129 80 = some (.aload_n 0, 0, 0, 0) := by decide +kernel
theorem gz_129_81 : mz_pg 129 81 = some (.iconst 0, 0, 0, 0) := by decide +kernel
theorem gz_129_82 : mz_pg 129 82 = some (.putfield 41, 0, 8, 503) := by decide +kernel
theorem gz_129_85 : mz_pg 129 85 = some (.aload_n 0, 0, 0, 0) := by decide +kernel
theorem gz_129_86 : mz_pg 129 86 = some (.iconst 0, 0, 0, 0) := by decide +kernel
theorem gz_129_87 : mz_pg 129 87 = some (.putfield 44, 0, 9, 505) := by decide +kernel
theorem gz_129_90 : mz_pg 129 90 = some (.return_, 0, 0, 0) := by decide +kernel
theorem gz_130_0 : mz_pg 130 0 = some (.aload_n 0, 0, 0, 0) := by decide +kernel
theorem gz_130_1 : mz_pg 130 1 = some (.getfield 21, 0, 3, 495) := by decide +kernel
theorem gz_130_7 : mz_pg 130 7 = some (.iload_n 1, 0, 0, 0) := by decide +kernel
theorem gz_130_8 : mz_pg 130 8 = some (.iconst 3, 0, 0, 0) := by decide +kernel
theorem gz_130_9 : mz_pg 130 9 = some (.imul, 0, 0, 0) := by decide +kernel
theorem gz_130_10 : mz_pg 130 10 = some (.iload_n 2, 0, 0, 0) := by decide +kernel
theorem gz_130_11 : mz_pg 130 11 = some (.iadd, 0, 0, 0) := by decide +kernel
theorem gz_130_12 : mz_pg 130 12 = some (.iaload, 0, 0, 0) := by decide +kernel
theorem gz_130_13 : mz_pg 130 13 = some (.iaload, 0, 0, 0) := by decide +kernel
theorem gz_130_14 : mz_pg 130 14 = some (.ireturn, 0, 0, 0) := by decide +kernel
theorem gz_131_0 : mz_pg 131 0 = some (.aload_n 0, 0, 0, 0) := by decide +kernel
theorem gz_131_1 : mz_pg 131 1 = some (.aload_n 0, 0, 0, 0) := by decide +kernel
theorem gz_131_2 : mz_pg 131 2 = some (.getfield 44, 0, 9, 505) := by decide +kernel
theorem gz_131_5 : mz_pg 131 5 = some (.iload_n 2, 0, 0, 0) := by decide +kernel
theorem gz_131_6 : mz_pg 131 6 = some (.invokestatic 50, 1, 132, 1086) := by decide +kernel
theorem gz_131_9 : mz_pg 131 9 = some (.putfield 44, 0, 9, 505) := by decide +kernel
theorem gz_131_12 : mz_pg 131 12 = some (.iload_n 2, 0, 0, 0) := by decide +kernel
theorem gz_131_13 : mz_pg 131 13 = some (.aload_n 0, 0, 0, 0) := by decide +kernel
theorem gz_131_14 : mz_pg 131 14 = some (.getfield 31, 0, 4, 496) := by decide +kernel
theorem gz_131_17 : mz_pg 131 17 = some (.if_icmp .ge 4, 0, 0, 0) := by decide +kernel
theorem gz_131_20 : mz_pg 131 20 = some (.return_, 0, 0, 0) := by decide +kernel
theorem gz_131_21 : mz_pg 131 21 = some (.aload_n 0, 0, 0, 0) := by decide +kernel
theorem gz_131_22 : mz_pg 131 22 = some (.dup, 0, 0, 0) := by decide +kernel
theorem gz_131_23 : mz_pg 131 23 = some (.getfield 41, 0, 8, 503) := by decide +kernel
theorem gz_131_26 : mz_pg 131 26 = some (.iconst 1, 0, 0, 0) := by decide +kernel
theorem gz_131_27 : mz_pg 131 27 = some (.iadd, 0, 0, 0) := by decide +kernel
theorem gz_131_28 : mz_pg 131 28 = some (.putfield 41, 0, 8, 503) := by decide +kernel
theorem gz_131_31 : mz_pg 131 31 = some (.iconst 0, 0, 0, 0) := by decide +kernel
theorem gz_131_32 : mz_pg 131 32 = some (.istore_n 3, 0, 0, 0) := by decide +kernel
theorem gz_131_33 : mz_pg 131 33 = some (.iload_n 3, 0, 0, 0) := by decide +kernel
theorem gz_131_34 : mz_pg 131 34 = some (.aload_n 0, 0, 0, 0) := by decide +kernel
theorem gz_131_35 : mz_pg 131 35 = some (.getfield 38, 0, 6, 499) := by decide +kernel
theorem gz_131_38 : mz_pg 131 38 = some (.if_icmp .ge 23, 0, 0, 0) := by decide +kernel
theorem gz_131_41 : mz_pg 131 41 = some (.aload_n 0, 0, 0, 0) := by decide +kernel
theorem gz_131_42 : mz_pg 131 42 = some (.getfield 26, 0, 5, 498) := by decide +kernel
theorem gz_131_45 : mz_pg 131 45 = some (.iload_n 3, 0, 0, 0) := by decide +kernel
theorem gz_131_46 : mz_pg 131 46 = some (.aaload, 0, 0, 0) := by decide +kernel
theorem gz_131_47 : mz_pg 131 47 = some (.aload_n 1, 0, 0, 0) := by decide +kernel
theorem gz_131_48 : mz_pg 131 48 = some (.invokevirtual 56, 1, 116, 1089) := by decide +kernel
theorem gz_131_51 : mz_pg 131 51 = some (.ifCond .eq 4, 0, 0, 0) := by decide +kernel
theorem gz_131_54 : mz_pg 131 54 = some (.return_, 0, 0, 0) := by decide +kernel
theorem gz_131_55 : mz_pg 131 55 = some (.iinc 3 1, 0, 0, 0) := by decide +kernel
theorem gz_131_58 : mz_pg 131 58 = some (.goto (-25), 0, 0, 0) := by decide +kernel
theorem gz_131_61 : mz_pg 131 61 = some (.aload_n 0, 0, 0, 0) := by decide +kernel
theorem gz_131_62 : mz_pg 131 62 = some (.getfield 26, 0, 5, 498) := by decide +kernel
theorem gz_131_65 : mz_pg 131 65 = some (.aload_n 0, 0, 0, 0) := by decide +kernel
theorem gz_131_66 : mz_pg 131 66 = some (.dup, 0, 0, 0) := by decide +kernel
theorem gz_131_67 : mz_pg 131 67 = some (.getfield 38, 0, 6, 499) := by decide +kernel
theorem gz_131_70 : mz_pg 131 70 = some (.dup_x1, 0, 0, 0) := by decide +kernel
theorem gz_131_71 : mz_pg 131 71 = some (.iconst 1, 0, 0, 0) := by decide +kernel
theorem gz_131_72 : mz_pg 131 72 = some (.iadd, 0, 0, 0) := by decide +kernel
theorem gz_131_73 : mz_pg 131 73 = some (.putfield 38, 0, 6, 499) := by decide +kernel
theorem gz_131_76 : mz_pg 131 76 = some (.aaload, 0, 0, 0) := by decide +kernel
theorem gz_131_77 : mz_pg 131 77 = some (.aload_n 1, 0, 0, 0) := by decide +kernel
theorem gz_131_78 : mz_pg 131 78 = some (.invokevirtual 60, 1, 25, 1090) := by decide +kernel
theorem gz_131_81 : mz_pg 131 81 = some (.return_, 0, 0, 0) := by decide +kernel
theorem gz_132_0 : mz_pg 132 0 = some (.iload_n 0, 0, 0, 0) := by decide +kernel
theorem gz_132_1 : mz_pg 132 1 = some (.iload_n 1, 0, 0, 0) := by decide +kernel
theorem gz_132_2 : mz_pg 132 2 = some (.if_icmp .lt 7, 0, 0, 0) := by decide +kernel
theorem gz_132_5 : mz_pg 132 5 = some (.iload_n 0, 0, 0, 0) := by decide +kernel
theorem gz_132_6 : mz_pg 132 6 = some (.goto 4, 0, 0, 0) := by decide +kernel
theorem gz_132_9 : mz_pg 132 9 = some (.iload_n 1, 0, 0, 0) := by decide +kernel
theorem gz_132_10 : mz_pg 132 10 = some (.ireturn, 0, 0, 0) := by decide +kernel
theorem gz_133_0 : mz_pg 133 0 = some (.aload_n 0, 0, 0, 0) := by decide +kernel
theorem gz_133_1 : mz_pg 133 1 = some (.getfield 252, 9, 3, 531) := by decide +kernel
theorem gz_133_4 : mz_pg 133 4 = some (.ifCond .eq 27, 0, 0, 0) := by decide +kernel
theorem gz_133_7 : mz_pg 133 7 = some (.iload_n 2, 0, 0, 0) := by decide +kernel
theorem gz_133_8 : mz_pg 133 8 = some (.ifCond .lt 23, 0, 0, 0) := by decide +kernel
theorem gz_133_11 : mz_pg 133 11 = some (.iload_n 2, 0, 0, 0) := by decide +kernel
theorem gz_133_12 : mz_pg 133 12 = some (.iconst 1, 0, 0, 0) := by decide +kernel
theorem gz_133_13 : mz_pg 133 13 = some (.if_icmp .gt 18, 0, 0, 0) := by decide +kernel
theorem gz_133_16 : mz_pg 133 16 = some (.aload_n 0, 0, 0, 0) := by decide +kernel
theorem gz_133_17 : mz_pg 133 17 = some (.getfield 59, 9, 9, 537) := by decide +kernel
theorem gz_133_20 : mz_pg 133 20 = some (.aload_n 0, 0, 0, 0) := by decide +kernel
theorem gz_133_21 : mz_pg 133 21 = some (.getfield 19, 9, 1, 529) := by decide +kernel
theorem gz_133_24 : mz_pg 133 24 = some (.iload_n 1, 0, 0, 0) := by decide +kernel
theorem gz_133_25 : mz_pg 133 25 = some (.invokevirtual 170, 1, 65, 811) := by decide +kernel
theorem gz_133_28 : mz_pg 133 28 = some (.ifCond .ne 5, 0, 0, 0) := by decide +kernel
theorem gz_133_31 : mz_pg 133 31 = some (.iconst (-1), 0, 0, 0) := by decide +kernel
theorem gz_133_32 : mz_pg 133 32 = some (.ireturn, 0, 0, 0) := by decide +kernel
theorem gz_133_33 : mz_pg 133 33 = some (.aload_n 0, 0, 0, 0) := by decide +kernel
theorem gz_133_34 : mz_pg 133 34 = some (.getfield 59, 9, 9, 537) := by decide +kernel
theorem gz_133_37 : mz_pg 133 37 = some (.getfield 300, 2, 6, 399) := by decide +kernel
theorem gz_133_40 : mz_pg 133 40 = some (.aload_n 0, 0, 0, 0) := by decide +kernel
theorem gz_133_41 : mz_pg 133 41 = some (.getfield 36, 9, 6, 534) := by decide +kernel
theorem gz_133_44 : mz_pg 133 44 = some (.iload_n 1, 0, 0, 0) := by decide +kernel
theorem gz_133_45 : mz_pg 133 45 = some (.aload_n 0, 0, 0, 0) := by decide +kernel
theorem gz_133_46 : mz_pg 133 46 = some (.getfield 23, 9, 2, 530) := by decide +kernel
theorem gz_133_49 : mz_pg 133 49 = some (.invokevirtual 303, 1, 67, 1095) := by decide +kernel
theorem gz_133_52 : mz_pg 133 52 = some (.astore_n 3, 0, 0, 0) := by decide +kernel
theorem gz_133_53 : mz_pg 133 53 = some (.aload_n 0, 0, 0, 0) := by decide +kernel
theorem gz_133_54 : mz_pg 133 54 = some (.getfield 59, 9, 9, 537) := by decide +kernel
theorem gz_133_57 : mz_pg 133 57 = some (.getfield 166, 2, 4, 396) := by decide +kernel
theorem gz_133_60 : mz_pg 133 60 = some (.aload_n 3, 0, 0, 0) := by decide +kernel
theorem gz_133_61 : mz_pg 133 61 = some (.invokevirtual 307, 1, 134, 1096) := by decide +kernel
theorem gz_133_64 : mz_pg 133 64 = some (.istore 4, 0, 0, 0) := by decide +kernel
theorem gz_133_66 : mz_pg 133 66 = some (.iload_n 2, 0, 0, 0) := by decide +kernel
theorem gz_133_67 : mz_pg 133 67 = some (.ifCond .ne 19, 0, 0, 0) := by decide +kernel
theorem gz_133_70 : mz_pg 133 70 = some (.aload_n 0, 0, 0, 0) := by decide +kernel
theorem gz_133_71 : mz_pg 133 71 = some (.getfield 59, 9, 9, 537) := by decide +kernel
theorem gz_133_74 : mz_pg 133 74 = some (.getfield 166, 2, 4, 396) := by decide +kernel
theorem gz_133_77 : mz_pg 133 77 = some (.getfield 183, 8, 0, 330) := by decide +kernel
theorem gz_133_80 : mz_pg 133 80 = some (.iload 4, 0, 0, 0) := by decide +kernel
theorem gz_133_82 : mz_pg 133 82 = some (.isub, 0, 0, 0) := by decide +kernel
theorem gz_133_83 : mz_pg 133 83 = some (.goto 10, 0, 0, 0) := by decide +kernel
theorem gz_133_86 : mz_pg 133 86 = some (.aload_n 3, 0, 0, 0) := by decide +kernel
theorem gz_133_87 : mz_pg 133 87 = some (.getfield 183, 8, 0, 330) := by decide +kernel
theorem gz_133_90 : mz_pg 133 90 = some (.iload 4, 0, 0, 0) := by decide +kernel
theorem gz_133_92 : mz_pg 133 92 = some (.isub, 0, 0, 0) := by decide +kernel
theorem gz_133_93 : mz_pg 133 93 = some (.ireturn, 0, 0, 0) := by decide +kernel
theorem gz_134_0 : mz_pg 134 0 = some (.iconst 0, 0, 0, 0) := by decide +kernel
theorem gz_134_1 : mz_pg 134 1 = some (.istore_n 2, 0, 0, 0) := by decide +kernel
theorem gz_134_2 : mz_pg 134 2 = some (.iconst 0, 0, 0, 0) := by decide +kernel
theorem gz_134_3 : mz_pg 134 3 = some (.istore_n 3, 0, 0, 0) := by decide +kernel
theorem gz_134_4 : mz_pg 134 4 = some (.iconst 0, 0, 0, 0) := by decide +kernel
theorem gz_134_5 : mz_pg 134 5 = some (.istore 4, 0, 0, 0) := by decide +kernel
theorem gz_134_7 : mz_pg 134 7 = some (.iload 4, 0, 0, 0) := by decide +kernel
theorem gz_134_9 : mz_pg 134 9 = some (.aload_n 0, 0, 0, 0) := by decide +kernel
theorem gz_134_10 : mz_pg 134 10 = some (.getfield 22, 8, 0, 327) := by decide +kernel
theorem gz_134_13 : mz_pg 134 13 = some (.if_icmp .ge 59, 0, 0, 0) := by decide +kernel
theorem gz_134_16 : mz_pg 134 16 = some (.iload_n 3, 0, 0, 0) := by decide +kernel
theorem gz_134_17 : mz_pg 134 17 = some (.aload_n 1, 0, 0, 0) := by decide +kernel
theorem gz_134_18 : mz_pg 134 18 = some (.getfield 22, 8, 0, 327) := by decide +kernel
theorem gz_134_21 : mz_pg 134 21 = some (.if_icmp .ge 20, 0, 0, 0) := by decide +kernel
theorem gz_134_24 : mz_pg 134 24 = some (.aload_n 0, 0, 0, 0) := by decide +kernel
theorem gz_134_25 : mz_pg 134 25 = some (.iload 4, 0, 0, 0) := by decide +kernel
theorem gz_134_27 : mz_pg 134 27 = some (.aload_n 1, 0, 0, 0) := by decide +kernel
theorem gz_134_28 : mz_pg 134 28 = some (.iload_n 3, 0, 0, 0) := by decide +kernel
theorem gz_134_29 : mz_pg 134 29 = some (.invokevirtual 120, 1, 80, 864) := by decide +kernel
theorem gz_134_32 : mz_pg 134 32 = some (.ifCond .le 9, 0, 0, 0) := by decide +kernel
theorem gz_134_35 : mz_pg 134 35 = some (.iinc 3 1, 0, 0, 0) := by decide +kernel
theorem gz_134_38 : mz_pg 134 38 = some (.goto (-22), 0, 0, 0) := by decide +kernel
theorem gz_134_41 : mz_pg 134 41 = some (.iload_n 3, 0, 0, 0) := by decide +kernel
theorem gz_134_42 : mz_pg 134 42 = some (.aload_n 1, 0, 0, 0) := by decide +kernel
theorem gz_134_43 : mz_pg 134 43 = some (.getfield 22, 8, 0, 327) := by decide +kernel
theorem gz_134_46 : mz_pg 134 46 = some (.if_icmp .ge 20, 0, 0, 0) := by decide +kernel
theorem gz_134_49 : mz_pg 134 49 = some (.aload_n 0, 0, 0, 0) := by decide +kernel
theorem gz_134_50 : mz_pg 134 50 = some (.iload 4, 0, 0, 0) := by decide +kernel
theorem gz_134_52 : mz_pg 134 52 = some (.aload_n 1, 0, 0, 0) := by decide +kernel
theorem gz_134_53 : mz_pg 134 53 = some (.iload_n 3, 0, 0, 0) := by decide +kernel
theorem gz_134_54 : mz_pg 134 54 = some (.invokevirtual 120, 1, 80, 864) := by decide +kernel
theorem gz_134_57 : mz_pg 134 57 = some (.ifCond .ne 9, 0, 0, 0) := by decide +kernel
theorem gz_134_60 : mz_pg 134 60 = some (.iinc 2 1, 0, 0, 0) := by decide +kernel
theorem gz_134_63 : mz_pg 134 63 = some (.iinc 3 1, 0, 0, 0) := by decide +kernel
theorem gz_134_66 : mz_pg 134 66 = some (.iinc 4 1, 0, 0, 0) := by decide +kernel
theorem gz_134_69 : mz_pg 134 69 = some (.goto (-62), 0, 0, 0) := by decide +kernel
theorem gz_134_72 : mz_pg 134 72 = some (.iload_n 2, 0, 0, 0) := by decide +kernel
theorem gz_134_73 : mz_pg 134 73 = some (.ireturn, 0, 0, 0) := by decide +kernel
theorem gz_135_0 : mz_pg 135 0 = some (.aload_n 0, 0, 0, 0) := by decide +kernel
theorem gz_135_1 : mz_pg 135 1 = some (.getfield 10, 9, 0, 528) := by decide +kernel
theorem gz_135_4 : mz_pg 135 4 = some (.iload_n 1, 0, 0, 0) := by decide +kernel
theorem gz_135_5 : mz_pg 135 5 = some (.invokevirtual 88, 1, 13, 578) := by decide +kernel
theorem gz_135_8 : mz_pg 135 8 = some (.ifCond .eq 31, 0, 0, 0) := by decide +kernel
theorem gz_135_11 : mz_pg 135 11 = some (.iload_n 2, 0, 0, 0) := by decide +kernel
theorem gz_135_12 : mz_pg 135 12 = some (.ifCond .lt 27, 0, 0, 0) := by decide +kernel
theorem gz_135_15 : mz_pg 135 15 = some (.iload_n 2, 0, 0, 0) := by decide +kernel
theorem gz_135_16 : mz_pg 135 16 = some (.iconst 1, 0, 0, 0) := by decide +kernel
theorem gz_135_17 : mz_pg 135 17 = some (.aload_n 0, 0, 0, 0) := by decide +kernel
theorem gz_135_18 : mz_pg 135 18 = some (.getfield 19, 9, 1, 529) := by decide +kernel
theorem gz_135_21 : mz_pg 135 21 = some (.getfield 95, 6, 1, 183) := by decide +kernel
theorem gz_135_24 : mz_pg 135 24 = some (.iload_n 1, 0, 0, 0) := by decide +kernel
theorem gz_135_25 : mz_pg 135 25 = some (.iaload, 0, 0, 0) := by decide +kernel
theorem gz_135_26 : mz_pg 135 26 = some (.ishl, 0, 0, 0) := by decide +kernel
theorem gz_135_27 : mz_pg 135 27 = some (.if_icmp .ge 12, 0, 0, 0) := by decide +kernel
theorem gz_135_30 : mz_pg 135 30 = some (.iload_n 3, 0, 0, 0) := by decide +kernel
theorem gz_135_31 : mz_pg 135 31 = some (.ifCond .lt 8, 0, 0, 0) := by decide +kernel
theorem gz_135_34 : mz_pg 135 34 = some (.iload_n 3, 0, 0, 0) := by decide +kernel
theorem gz_135_35 : mz_pg 135 35 = some (.iconst 3, 0, 0, 0) := by decide +kernel
theorem gz_135_36 : mz_pg 135 36 = some (.if_icmp .le 5, 0, 0, 0) := by decide +kernel
theorem gz_135_39 : mz_pg 135 39 = some (.iconst (-1), 0, 0, 0) := by decide +kernel
theorem gz_135_40 : mz_pg 135 40 = some (.ireturn, 0, 0, 0) := by decide +kernel
theorem gz_135_41 : mz_pg 135 41 = some (.aload_n 0, 0, 0, 0) := by decide +kernel
theorem gz_135_42 : mz_pg 135 42 = some (.getfield 68, 9, 10, 538) := by decide +kernel
theorem gz_135_45 : mz_pg 135 45 = some (.aload_n 0, 0, 0, 0) := by decide +kernel
theorem gz_135_46 : mz_pg 135 46 = some (.getfield 19, 9, 1, 529) := by decide +kernel
theorem gz_135_49 : mz_pg 135 49 = some (.iload_n 1, 0, 0, 0) := by decide +kernel
theorem gz_135_50 : mz_pg 135 50 = some (.aload_n 0, 0, 0, 0) := by decide +kernel
theorem gz_135_51 : mz_pg 135 51 = some (.getfield 19, 9, 1, 529) := by decide +kernel
theorem gz_135_54 : mz_pg 135 54 = some (.iload_n 1, 0, 0, 0) := by decide +kernel
theorem gz_135_55 : mz_pg 135 55 = some (.iload_n 2, 0, 0, 0) := by decide +kernel
theorem gz_135_56 : mz_pg 135 56 = some (.invokevirtual 311, 1, 121, 1104) := by decide +kernel
theorem gz_135_59 : mz_pg 135 59 = some (.invokevirtual 314, 1, 136, 1105) := by decide +kernel
theorem gz_135_62 : mz_pg 135 62 = some (.iload_n 3, 0, 0, 0) := by decide +kernel
theorem gz_135_63 : mz_pg 135 63 = some (.tableswitch 49 0 2 #[25, 33, 41], 0, 0, 0) := by decide +kernel
theorem gz_135_88 : mz_pg 135 88 = some (.aload_n 0, 0, 0, 0) := by decide +kernel
theorem gz_135_89 : mz_pg 135 89 = some (.getfield 68, 9, 10, 538) := by decide +kernel
theorem gz_135_92 : mz_pg 135 92 = some (.getfield 318, 1, 3, 459) := by decide +kernel
theorem gz_135_95 : mz_pg 135 95 = some (.ireturn, 0, 0, 0) := by decide +kernel
theorem gz_135_96 : mz_pg 135 96 = some (.aload_n 0, 0, 0, 0) := by decide +kernel
theorem gz_135_97 : mz_pg 135 97 = some (.getfield 68, 9, 10, 538) := by decide +kernel
theorem gz_135_100 : mz_pg 135 100 = some (.getfield 321, 1, 4, 461) := by decide +kernel
theorem gz_135_103 : mz_pg 135 103 = some (.ireturn, 0, 0, 0) := by decide +kernel
theorem gz_135_104 : mz_pg 135 104 = some (.aload_n 0, 0, 0, 0) := by decide +kernel
theorem gz_135_105 : mz_pg 135 105 = some (.getfield 68, 9, 10, 538) := by decide +kernel
theorem gz_135_108 : mz_pg 135 108 = some (.getfield 324, 1, 5, 463) := by decide +kernel
theorem gz_135_111 : mz_pg 135 111 = some (.ireturn, 0, 0, 0) := by decide +kernel
theorem gz_135_112 : mz_pg 135 112 = some (.aload_n 0, 0, 0, 0) := by decide +kernel
theorem gz_135_113 : mz_pg 135 113 = some (.getfield 68, 9, 10, 538) := by decide +kernel
theorem gz_135_116 : mz_pg 135 116 = some (.getfield 327, 1, 6, 465) := by decide +kernel
theorem gz_135_119 : mz_pg 135 119 = some (.ireturn, 0, 0, 0) := by decide +kernel
theorem gz_136_0 : mz_pg 136 0 = some (.aload_n 0, 0, 0, 0) := by decide +kernel
theorem gz_136_1 : mz_pg 136 1 = some (.iconst 0, 0, 0, 0) := by decide +kernel
theorem gz_136_2 : mz_pg 136 2 = some (.putfield 26, 1, 3, 458) := by decide +kernel
theorem gz_136_5 : mz_pg 136 5 = some (.aload_n 0, 0, 0, 0) := by decide +kernel
theorem gz_136_6 : mz_pg 136 6 = some (.iconst (-1), 0, 0, 0) := by decide +kernel
theorem gz_136_7 : mz_pg 136 7 = some (.putfield 30, 1, 4, 460) := by decide +kernel
theorem gz_136_10 : mz_pg 136 10 = some (.aload_n 0, 0, 0, 0) := by decide +kernel
theorem gz_136_11 : mz_pg 136 11 = some (.iconst (-1), 0, 0, 0) := by decide +kernel
theorem gz_136_12 : mz_pg 136 12 = some (.putfield 33, 1, 5, 462) := by decide +kernel
theorem gz_136_15 : mz_pg 136 15 = some (.aload_n 0, 0, 0, 0) := by decide +kernel
theorem gz_136_16 : mz_pg 136 16 = some (.iconst (-1), 0, 0, 0) := by decide +kernel
theorem gz_136_17 : mz_pg 136 17 = some (.putfield 36, 1, 6, 464) := by decide +kernel
theorem gz_136_20 : mz_pg 136 20 = some (.iconst 0, 0, 0, 0) := by decide +kernel
theorem gz_136_21 : mz_pg 136 21 = some (.istore 4, 0, 0, 0) := by decide +kernel
theorem gz_136_23 : mz_pg 136 23 = some (.iload 4, 0, 0, 0) := by decide +kernel
theorem gz_136_25 : mz_pg 136 25 = some (.aload_n 0, 0, 0, 0) := by decide +kernel
theorem gz_136_26 : mz_pg 136 26 = some (.getfield 22, 1, 0, 455) := by decide +kernel
theorem gz_136_29 : mz_pg 136 29 = some (.getfield 39, 3, 0, 146) := by decide +kernel
theorem gz_136_32 : mz_pg 136 32 = some (.iload_n 2, 0, 0, 0) := by decide +kernel
theorem gz_136_33 : mz_pg 136 33 = some (.iaload, 0, 0, 0) := by decide +kernel
theorem gz_136_34 : mz_pg 136 34 = some (.if_icmp .ge 94, 0, 0, 0) := by decide +kernel
theorem gz_136_37 : mz_pg 136 37 = some (.iconst 0, 0, 0, 0) := by decide +kernel
theorem gz_136_38 : mz_pg 136 38 = some (.istore 5, 0, 0, 0) := by decide +kernel
theorem gz_136_40 : mz_pg 136 40 = some (.iload 5, 0, 0, 0) := by decide +kernel
theorem gz_136_42 : mz_pg 136 42 = some (.iconst 2, 0, 0, 0) := by decide +kernel
theorem gz_136_43 : mz_pg 136 43 = some (.if_icmp .gt 79, 0, 0, 0) := by decide +kernel
theorem gz_136_46 : mz_pg 136 46 = some (.iconst 0, 0, 0, 0) := by decide +kernel
theorem gz_136_47 : mz_pg 136 47 = some (.istore 6, 0, 0, 0) := by decide +kernel
theorem gz_136_49 : mz_pg 136 49 = some (.iload 6, 0, 0, 0) := by decide +kernel
theorem gz_136_51 : mz_pg 136 51 = some (.bipush 20, 0, 0, 0) := by decide +kernel
theorem gz_136_53 : mz_pg 136 53 = some (.if_icmp .gt 63, 0, 0, 0) := by decide +kernel
theorem gz_136_56 : mz_pg 136 56 = some (.aload_n 1, 0, 0, 0) := by decide +kernel
theorem gz_136_57 : mz_pg 136 57 = some (.iload_n 2, 0, 0, 0) := by decide +kernel
theorem gz_136_58 : mz_pg 136 58 = some (.iload 4, 0, 0, 0) := by decide +kernel
theorem gz_136_60 : mz_pg 136 60 = some (.iload 5, 0, 0, 0) := by decide +kernel
theorem gz_136_62 : mz_pg 136 62 = some (.iload 6, 0, 0, 0) := by decide +kernel
theorem gz_136_64 : mz_pg 136 64 = some (.invokestatic 44, 1, 125, 1058) := by decide +kernel
theorem gz_136_67 : mz_pg 136 67 = some (.iload_n 3, 0, 0, 0) := by decide +kernel
theorem gz_136_68 : mz_pg 136 68 = some (.if_icmp .ne 42, 0, 0, 0) := by decide +kernel
theorem gz_136_71 : mz_pg 136 71 = some (.aload_n 0, 0, 0, 0) := by decide +kernel
theorem gz_136_72 : mz_pg 136 72 = some (.getfield 26, 1, 3, 458) := by decide +kernel
theorem gz_136_75 : mz_pg 136 75 = some (.ifCond .ne 21, 0, 0, 0) := by decide +kernel
theorem gz_136_78 : mz_pg 136 78 = some (.aload_n 0, 0, 0, 0) := by decide +kernel
theorem gz_136_79 : mz_pg 136 79 = some (.iload 4, 0, 0, 0) := by decide +kernel
theorem gz_136_81 : mz_pg 136 81 = some (.putfield 30, 1, 4, 460) := by decide +kernel
theorem gz_136_84 : mz_pg 136 84 = some (.aload_n 0, 0, 0, 0) := by decide +kernel
theorem gz_136_85 : mz_pg 136 85 = some (.iload 5, 0, 0, 0) := by decide +kernel
theorem gz_136_87 : mz_pg 136 87 = some (.putfield 33, 1, 5, 462) := by decide +kernel
theorem gz_136_90 : mz_pg 136 90 = some (.aload_n 0, 0, 0, 0) := by decide +kernel
theorem gz_136_91 : mz_pg 136 91 = some (.iload 6, 0, 0, 0) := by decide +kernel
theorem gz_136_93 : mz_pg 136 93 = some (.putfield 36, 1, 6, 464) := by decide +kernel
theorem gz_136_96 : mz_pg 136 96 = some (.aload_n 0, 0, 0, 0) := by decide +kernel
theorem gz_136_97 : mz_pg 136 97 = some (.dup, 0, 0, 0) := by decide +kernel
theorem gz_136_98 : mz_pg 136 98 = some (.getfield 26, 1, 3, 458) := by decide +kernel
theorem gz_136_101 : mz_pg 136 101 = some (.iload 6, 0, 0, 0) := by decide +kernel
theorem gz_136_103 : mz_pg 136 103 = some (.invokestatic 48, 1, 126, 1061) := by decide +kernel
theorem gz_136_106 : mz_pg 136 106 = some (.iadd, 0, 0, 0) := by decide +kernel
theorem gz_136_107 : mz_pg 136 107 = some (.putfield 26, 1, 3, 458) := by decide +kernel
theorem gz_136_110 : mz_pg 136 110 = some (.iinc 6 1, 0, 0, 0) := by decide +kernel
theorem gz_136_113 : mz_pg 136 113 = some (.goto (-64), 0, 0, 0) := by decide +kernel
theorem gz_136_116 : mz_pg 136 116 = some (.iinc 5 1, 0, 0, 0) := by decide +kernel
theorem gz_136_119 : mz_pg 136 119 = some (.goto (-79), 0, 0, 0) := by decide +kernel
theorem gz_136_122 : mz_pg 136 122 = some (.iinc 4 1, 0, 0, 0) := by decide +kernel
theorem gz_136_125 : mz_pg 136 125 = some (.goto (-102), 0, 0, 0) := by decide +kernel
theorem gz_136_128 : mz_pg 136 128 = some (.return_, 0, 0, 0) := by decide +kernel
theorem gz_137_0 : mz_pg 137 0 = some (.aload_n 0, 0, 0, 0) := by decide +kernel
theorem gz_137_1 : mz_pg 137 1 = some (.getfield 10, 9, 0, 528) := by decide +kernel
theorem gz_137_4 : mz_pg 137 4 = some (.iload_n 1, 0, 0, 0) := by decide +kernel
theorem gz_137_5 : mz_pg 137 5 = some (.iload_n 2, 0, 0, 0) := by decide +kernel
theorem gz_137_6 : mz_pg 137 6 = some (.invokevirtual 118, 1, 27, 634) := by decide +kernel
theorem gz_137_9 : mz_pg 137 9 = some (.ifCond .eq 12, 0, 0, 0) := by decide +kernel
theorem gz_137_12 : mz_pg 137 12 = some (.iload_n 3, 0, 0, 0) := by decide +kernel
theorem gz_137_13 : mz_pg 137 13 = some (.iload 4, 0, 0, 0) := by decide +kernel
theorem gz_137_15 : mz_pg 137 15 = some (.invokestatic 119, 1, 28, 639) := by decide +kernel
theorem gz_137_18 : mz_pg 137 18 = some (.ifCond .ne 5, 0, 0, 0) := by decide +kernel
theorem gz_137_21 : mz_pg 137 21 = some (.iconst (-1), 0, 0, 0) := by decide +kernel
theorem gz_137_22 : mz_pg 137 22 = some (.ireturn, 0, 0, 0) := by decide +kernel
theorem gz_137_23 : mz_pg 137 23 = some (.aload_n 0, 0, 0, 0) := by decide +kernel
theorem gz_137_24 : mz_pg 137 24 = some (.getfield 19, 9, 1, 529) := by decide +kernel
theorem gz_137_27 : mz_pg 137 27 = some (.iload_n 1, 0, 0, 0) := by decide +kernel
theorem gz_137_28 : mz_pg 137 28 = some (.iload_n 2, 0, 0, 0) := by decide +kernel
theorem gz_137_29 : mz_pg 137 29 = some (.iload_n 3, 0, 0, 0) := by decide +kernel
theorem gz_137_30 : mz_pg 137 30 = some (.iload 4, 0, 0, 0) := by decide +kernel
theorem gz_137_32 : mz_pg 137 32 = some (.invokevirtual 122, 1, 20, 642) := by decide +kernel
theorem gz_137_35 : mz_pg 137 35 = some (.ireturn, 0, 0, 0) := by decide +kernel
theorem gz_138_0 : mz_pg 138 0 = some (.iload_n 1, 0, 0, 0) := by decide +kernel
theorem gz_138_1 : mz_pg 138 1 = some (.ifCond .lt 8, 0, 0, 0) := by decide +kernel
theorem gz_138_4 : mz_pg 138 4 = some (.iload_n 1, 0, 0, 0) := by decide +kernel
theorem gz_138_5 : mz_pg 138 5 = some (.iconst 4, 0, 0, 0) := by decide +kernel
theorem gz_138_6 : mz_pg 138 6 = some (.if_icmp .lt 5, 0, 0, 0) := by decide +kernel
theorem gz_138_9 : mz_pg 138 9 = some (.iconst 0, 0, 0, 0) := by decide +kernel
theorem gz_138_10 : mz_pg 138 10 = some (.ireturn, 0, 0, 0) := by decide +kernel
theorem gz_138_11 : mz_pg 138 11 = some (.iload_n 2, 0, 0, 0) := by decide +kernel
theorem gz_138_12 : mz_pg 138 12 = some (.ifCond .ne 25, 0, 0, 0) := by decide +kernel
theorem gz_138_15 : mz_pg 138 15 = some (.aload_n 0, 0, 0, 0) := by decide +kernel
theorem gz_138_16 : mz_pg 138 16 = some (.getfield 26, 9, 4, 532) := by decide +kernel
theorem gz_138_19 : mz_pg 138 19 = some (.iload_n 1, 0, 0, 0) := by decide +kernel
theorem gz_138_20 : mz_pg 138 20 = some (.aaload, 0, 0, 0) := by decide +kernel
theorem gz_138_21 : mz_pg 138 21 = some (.aload_n 0, 0, 0, 0) := by decide +kernel
theorem gz_138_22 : mz_pg 138 22 = some (.getfield 19, 9, 1, 529) := by decide +kernel
theorem gz_138_25 : mz_pg 138 25 = some (.invokevirtual 114, 1, 25, 626) := by decide +kernel
theorem gz_138_28 : mz_pg 138 28 = some (.aload_n 0, 0, 0, 0) := by decide +kernel
theorem gz_138_29 : mz_pg 138 29 = some (.getfield 30, 9, 5, 533) := by decide +kernel
theorem gz_138_32 : mz_pg 138 32 = some (.iload_n 1, 0, 0, 0) := by decide +kernel
theorem gz_138_33 : mz_pg 138 33 = some (.iconst 1, 0, 0, 0) := by decide +kernel
theorem gz_138_34 : mz_pg 138 34 = some (.bastore, 0, 0, 0) := by decide +kernel
theorem gz_138_35 : mz_pg 138 35 = some (.iconst 1, 0, 0, 0) := by decide +kernel
theorem gz_138_36 : mz_pg 138 36 = some (.ireturn, 0, 0, 0) := by decide +kernel
theorem gz_138_37 : mz_pg 138 37 = some (.aload_n 0, 0, 0, 0) := by decide +kernel
theorem gz_138_38 : mz_pg 138 38 = some (.getfield 30, 9, 5, 533) := by decide +kernel
theorem gz_138_41 : mz_pg 138 41 = some (.iload_n 1, 0, 0, 0) := by decide +kernel
theorem gz_138_42 : mz_pg 138 42 = some (.baload, 0, 0, 0) := by decide +kernel
theorem gz_138_43 : mz_pg 138 43 = some (.ifCond .eq 19, 0, 0, 0) := by decide +kernel
theorem gz_138_46 : mz_pg 138 46 = some (.aload_n 0, 0, 0, 0) := by decide +kernel
theorem gz_138_47 : mz_pg 138 47 = some (.getfield 10, 9, 0, 528) := by decide +kernel
theorem gz_138_50 : mz_pg 138 50 = some (.aload_n 0, 0, 0, 0) := by decide +kernel
theorem gz_138_51 : mz_pg 138 51 = some (.getfield 26, 9, 4, 532) := by decide +kernel
theorem gz_138_54 : mz_pg 138 54 = some (.iload_n 1, 0, 0, 0) := by decide +kernel
theorem gz_138_55 : mz_pg 138 55 = some (.aaload, 0, 0, 0) := by decide +kernel
theorem gz_138_56 : mz_pg 138 56 = some (.invokevirtual 106, 1, 18, 599) := by decide +kernel
theorem gz_138_59 : mz_pg 138 59 = some (.ifCond .ne 5, 0, 0, 0) := by decide +kernel
theorem gz_138_62 : mz_pg 138 62 = some (.iconst 0, 0, 0, 0) := by decide +kernel
theorem gz_138_63 : mz_pg 138 63 = some (.ireturn, 0, 0, 0) := by decide +kernel
theorem gz_138_64 : mz_pg 138 64 = some (.aload_n 0, 0, 0, 0) := by decide +kernel
theorem gz_138_65 : mz_pg 138 65 = some (.getfield 19, 9, 1, 529) := by decide +kernel
theorem gz_138_68 : mz_pg 138 68 = some (.aload_n 0, 0, 0, 0) := by decide +kernel
theorem gz_138_69 : mz_pg 138 69 = some (.getfield 26, 9, 4, 532) := by decide +kernel
theorem gz_138_72 : mz_pg 138 72 = some (.iload_n 1, 0, 0, 0) := by decide +kernel
theorem gz_138_73 : mz_pg 138 73 = some (.aaload, 0, 0, 0) := by decide +kernel
theorem gz_138_74 : mz_pg 138 74 = some (.invokevirtual 114, 1, 25, 626) := by decide +kernel
theorem gz_138_77 : mz_pg 138 77 = some (.iconst 1, 0, 0, 0) := by decide +kernel
theorem gz_138_78 : mz_pg 138 78 = some (.ireturn, 0, 0, 0) := by decide +kernel
theorem gz_139_0 : mz_pg 139 0 = some (.iload_n 1, 0, 0, 0) := by decide +kernel
theorem gz_139_1 : mz_pg 139 1 = some (.ifCond .lt 33, 0, 0, 0) := by decide +kernel
theorem gz_139_4 : mz_pg 139 4 = some (.iload_n 1, 0, 0, 0) := by decide +kernel
theorem gz_139_5 : mz_pg 139 5 = some (.iconst 3, 0, 0, 0) := by decide +kernel
theorem gz_139_6 : mz_pg 139 6 = some (.if_icmp .ge 28, 0, 0, 0) := by decide +kernel
theorem gz_139_9 : mz_pg 139 9 = some (.aload_n 0, 0, 0, 0) := by decide +kernel
theorem gz_139_10 : mz_pg 139 10 = some (.getfield 10, 9, 0, 528) := by decide +kernel
theorem gz_139_13 : mz_pg 139 13 = some (.iload_n 1, 0, 0, 0) := by decide +kernel
theorem gz_139_14 : mz_pg 139 14 = some (.invokevirtual 88, 1, 13, 578) := by decide +kernel
theorem gz_139_17 : mz_pg 139 17 = some (.ifCond .eq 15, 0, 0, 0) := by decide +kernel
theorem gz_139_20 : mz_pg 139 20 = some (.aload_n 0, 0, 0, 0) := by decide +kernel
theorem gz_139_21 : mz_pg 139 21 = some (.getfield 19, 9, 1, 529) := by decide +kernel
theorem gz_139_24 : mz_pg 139 24 = some (.getfield 95, 6, 1, 183) := by decide +kernel
theorem gz_139_27 : mz_pg 139 27 = some (.iload_n 1, 0, 0, 0) := by decide +kernel
theorem gz_139_28 : mz_pg 139 28 = some (.iaload, 0, 0, 0) := by decide +kernel
theorem gz_139_29 : mz_pg 139 29 = some (.goto 4, 0, 0, 0) := by decide +kernel
theorem gz_139_32 : mz_pg 139 32 = some (.iconst (-1), 0, 0, 0) := by decide +kernel
theorem gz_139_33 : mz_pg 139 33 = some (.ireturn, 0, 0, 0) := by decide +kernel
theorem gz_139_34 : mz_pg 139 34 = some (.iload_n 1, 0, 0, 0) := by decide +kernel
theorem gz_139_35 : mz_pg 139 35 = some (.tableswitch 46 3 5 #[25, 30, 38], 0, 0, 0) := by decide +kernel
theorem gz_139_60 : mz_pg 139 60 = some (.aload_n 0, 0, 0, 0) := by decide +kernel
theorem gz_139_61 : mz_pg 139 61 = some (.invokevirtual 330, 1, 140, 1121) := by decide +kernel
theorem gz_139_64 : mz_pg 139 64 = some (.ireturn, 0, 0, 0) := by decide +kernel
theorem gz_139_65 : mz_pg 139 65 = some (.aload_n 0, 0, 0, 0) := by decide +kernel
theorem gz_139_66 : mz_pg 139 66 = some (.getfield 46, 9, 7, 535) := by decide +kernel
theorem gz_139_69 : mz_pg 139 69 = some (.getfield 146, 5, 4, 286) := by decide +kernel
theorem gz_139_72 : mz_pg 139 72 = some (.ireturn, 0, 0, 0) := by decide +kernel
theorem gz_139_73 : mz_pg 139 73 = some (.aload_n 0, 0, 0, 0) := by decide +kernel
theorem gz_139_74 : mz_pg 139 74 = some (.getfield 19, 9, 1, 529) := by decide +kernel
theorem gz_139_77 : mz_pg 139 77 = some (.invokevirtual 334, 1, 141, 1124) := by decide +kernel
theorem gz_139_80 : mz_pg 139 80 = some (.ireturn, 0, 0, 0) := by decide +kernel
theorem gz_139_81 : mz_pg 139 81 = some (.iconst (-1), 0, 0, 0) := by decide +kernel
theorem gz_139_82 : mz_pg 139 82 = some (.ireturn, 0, 0, 0) := by decide +kernel
theorem gz_140_0 : mz_pg 140 0 = some (.iconst 0, 0, 0, 0) := by decide +kernel
theorem gz_140_1 : mz_pg 140 1 = some (.istore_n 1, 0, 0, 0) := by decide +kernel
theorem gz_140_2 : mz_pg 140 2 = some (.iconst 0, 0, 0, 0) := by decide +kernel
theorem gz_140_3 : mz_pg 140 3 = some (.istore_n 2, 0, 0, 0) := by decide +kernel
theorem gz_140_4 : mz_pg 140 4 = some (.iload_n 2, 0, 0, 0) := by decide +kernel
theorem gz_140_5 : mz_pg 140 5 = some (.bipush 6, 0, 0, 0) := by decide +kernel
theorem gz_140_7 : mz_pg 140 7 = some (.if_icmp .ge 24, 0, 0, 0) := by decide +kernel
theorem gz_140_10 : mz_pg 140 10 = some (.aload_n 0, 0, 0, 0) := by decide +kernel
theorem gz_140_11 : mz_pg 140 11 = some (.getfield 36, 9, 6, 534) := by decide +kernel
theorem gz_140_14 : mz_pg 140 14 = some (.iload_n 2, 0, 0, 0) := by decide +kernel
theorem gz_140_15 : mz_pg 140 15 = some (.aaload, 0, 0, 0) := by decide +kernel
theorem gz_140_16 : mz_pg 140 16 = some (.getfield 337, 4, 0, 197) := by decide +kernel
theorem gz_140_19 : mz_pg 140 19 = some (.ifCond .eq 6, 0, 0, 0) := by decide +kernel
theorem gz_140_22 : mz_pg 140 22 = some (.iinc 1 1, 0, 0, 0) := by decide +kernel
theorem gz_140_25 : mz_pg 140 25 = some (.iinc 2 1, 0, 0, 0) := by decide +kernel
theorem gz_140_28 : mz_pg 140 28 = some (.goto (-24), 0, 0, 0) := by decide +kernel
theorem gz_140_31 : mz_pg 140 31 = some (.iload_n 1, 0, 0, 0) := by decide +kernel
theorem gz_140_32 : mz_pg 140 32 = some (.ireturn, 0, 0, 0) := by decide +kernel
theorem gz_141_0 : mz_pg 141 0 = some (.iconst 0, 0, 0, 0) := by decide +kernel
theorem gz_141_1 : mz_pg 141 1 = some (.istore_n 1, 0, 0, 0) := by decide +kernel
theorem gz_141_2 : mz_pg 141 2 = some (.iconst 0, 0, 0, 0) := by decide +kernel
theorem gz_141_3 : mz_pg 141 3 = some (.istore_n 2, 0, 0, 0) := by decide +kernel
theorem gz_141_4 : mz_pg 141 4 = some (.iload_n 2, 0, 0, 0) := by decide +kernel
theorem gz_141_5 : mz_pg 141 5 = some (.aload_n 0, 0, 0, 0) := by decide +kernel
theorem gz_141_6 : mz_pg 141 6 = some (.getfield 9, 6, 0, 176) := by decide +kernel
theorem gz_141_9 : mz_pg 141 9 = some (.arraylength, 0, 0, 0) := by decide +kernel
theorem gz_141_10 : mz_pg 141 10 = some (.if_icmp .ge 28, 0, 0, 0) := by decide +kernel
theorem gz_141_13 : mz_pg 141 13 = some (.aload_n 0, 0, 0, 0) := by decide +kernel
theorem gz_141_14 : mz_pg 141 14 = some (.getfield 9, 6, 0, 176) := by decide +kernel
theorem gz_141_17 : mz_pg 141 17 = some (.iload_n 2, 0, 0, 0) := by decide +kernel
theorem gz_141_18 : mz_pg 141 18 = some (.iaload, 0, 0, 0) := by decide +kernel
theorem gz_141_19 : mz_pg 141 19 = some (.iconst (-1), 0, 0, 0) := by decide +kernel
theorem gz_141_20 : mz_pg 141 20 = some (.if_icmp .eq 12, 0, 0, 0) := by decide +kernel
theorem gz_141_23 : mz_pg 141 23 = some (.iload_n 1, 0, 0, 0) := by decide +kernel
theorem gz_141_24 : mz_pg 141 24 = some (.aload_n 0, 0, 0, 0) := by decide +kernel
theorem gz_141_25 : mz_pg 141 25 = some (.getfield 9, 6, 0, 176) := by decide +kernel
theorem gz_141_28 : mz_pg 141 28 = some (.iload_n 2, 0, 0, 0) := by decide +kernel
theorem gz_141_29 : mz_pg 141 29 = some (.iaload, 0, 0, 0) := by decide +kernel
theorem gz_141_30 : mz_pg 141 30 = some (.iadd, 0, 0, 0) := by decide +kernel
theorem gz_141_31 : mz_pg 141 31 = some (.istore_n 1, 0, 0, 0) := by decide +kernel
theorem gz_141_32 : mz_pg 141 32 = some (.iinc 2 1, 0, 0, 0) := by decide +kernel
theorem gz_141_35 : mz_pg 141 35 = some (.goto (-31), 0, 0, 0) := by decide +kernel
theorem gz_141_38 : mz_pg 141 38 = some (.iload_n 1, 0, 0, 0) := by decide +kernel
theorem gz_141_39 : mz_pg 141 39 = some (.ireturn, 0, 0, 0) := by decide +kernel
theorem gz_142_0 : mz_pg 142 0 = some (.aload_n 0, 0, 0, 0) := by decide +kernel
theorem gz_142_1 : mz_pg 142 1 = some (.getfield 10, 9, 0, 528) := by decide +kernel
theorem gz_142_4 : mz_pg 142 4 = some (.iload_n 1, 0, 0, 0) := by decide +kernel
theorem gz_142_5 : mz_pg 142 5 = some (.iload_n 3, 0, 0, 0) := by decide +kernel
theorem gz_142_6 : mz_pg 142 6 = some (.invokevirtual 118, 1, 27, 634) := by decide +kernel
theorem gz_142_9 : mz_pg 142 9 = some (.ifCond .eq 15, 0, 0, 0) := by decide +kernel
theorem gz_142_12 : mz_pg 142 12 = some (.aload_n 0, 0, 0, 0) := by decide +kernel
theorem gz_142_13 : mz_pg 142 13 = some (.getfield 19, 9, 1, 529) := by decide +kernel
theorem gz_142_16 : mz_pg 142 16 = some (.iload_n 1, 0, 0, 0) := by decide +kernel
theorem gz_142_17 : mz_pg 142 17 = some (.iload_n 2, 0, 0, 0) := by decide +kernel
theorem gz_142_18 : mz_pg 142 18 = some (.invokevirtual 98, 1, 15, 586) := by decide +kernel
theorem gz_142_21 : mz_pg 142 21 = some (.ifCond .ne 11, 0, 0, 0) := by decide +kernel
theorem gz_142_27 : mz_pg 142 27 = some (.dup, 0, 0, 0) := by decide +kernel
theorem gz_142_32 : mz_pg 142 32 = some (.aload_n 0, 0, 0, 0) := by decide +kernel
theorem gz_142_33 : mz_pg 142 33 = some (.getfield 19, 9, 1, 529) := by decide +kernel
theorem gz_142_36 : mz_pg 142 36 = some (.getfield 160, 6, 0, 181) := by decide +kernel
theorem gz_142_39 : mz_pg 142 39 = some (.iload_n 1, 0, 0, 0) := by decide +kernel
theorem gz_142_40 : mz_pg 142 40 = some (.iload_n 2, 0, 0, 0) := by decide +kernel
theorem gz_142_41 : mz_pg 142 41 = some (.invokestatic 163, 1, 17, 1187) := by decide +kernel
theorem gz_142_44 : mz_pg 142 44 = some (.iload_n 3, 0, 0, 0) := by decide +kernel
theorem gz_142_45 : mz_pg 142 45 = some (.iadd, 0, 0, 0) := by decide +kernel
theorem gz_142_46 : mz_pg 142 46 = some (.iaload, 0, 0, 0) := by decide +kernel
theorem gz_142_47 : mz_pg 142 47 = some (.ireturn, 0, 0, 0) := by decide +kernel
theorem gz_143_0 : mz_pg 143 0 = some (.aload_n 0, 0, 0, 0) := by decide +kernel
theorem gz_143_1 : mz_pg 143 1 = some (.iconst 0, 0, 0, 0) := by decide +kernel
theorem gz_143_2 : mz_pg 143 2 = some (.putfield 1, 10, 0, 1213) := by decide +kernel
theorem gz_143_5 : mz_pg 143 5 = some (.aload_n 0, 0, 0, 0) := by decide +kernel
theorem gz_143_6 : mz_pg 143 6 = some (.lload_n 1, 0, 0, 0) := by decide +kernel
theorem gz_143_7 : mz_pg 143 7 = some (.invokevirtual 7, 1, 144, 1192) := by decide +kernel
theorem gz_143_10 : mz_pg 143 10 = some (.aload_n 0, 0, 0, 0) := by decide +kernel
theorem gz_143_11 : mz_pg 143 11 = some (.lload_n 3, 0, 0, 0) := by decide +kernel
theorem gz_143_12 : mz_pg 143 12 = some (.invokevirtual 7, 1, 144, 1192) := by decide +kernel
theorem gz_143_15 : mz_pg 143 15 = some (.aload_n 0, 0, 0, 0) := by decide +kernel
theorem gz_143_16 : mz_pg 143 16 = some (.lload 5, 0, 0, 0) := by decide +kernel
theorem gz_143_18 : mz_pg 143 18 = some (.invokevirtual 7, 1, 144, 1192) := by decide +kernel
theorem gz_143_21 : mz_pg 143 21 = some (.aload_n 0, 0, 0, 0) := by decide +kernel
theorem gz_143_22 : mz_pg 143 22 = some (.getfield 11, 10, 2, 1215) := by decide +kernel
theorem gz_143_25 : mz_pg 143 25 = some (.ireturn, 0, 0, 0) := by decide +kernel
theorem gz_144_0 : mz_pg 144 0 = some (.bipush 56, 0, 0, 0) := by decide +kernel
theorem gz_144_2 : mz_pg 144 2 = some (.istore_n 3, 0, 0, 0) := by decide +kernel
theorem gz_144_3 : mz_pg 144 3 = some (.iload_n 3, 0, 0, 0) := by decide +kernel
theorem gz_144_4 : mz_pg 144 4 = some (.ifCond .lt 71, 0, 0, 0) := by decide +kernel
theorem gz_144_7 : mz_pg 144 7 = some (.lload_n 1, 0, 0, 0) := by decide +kernel
theorem gz_144_8 : mz_pg 144 8 = some (.iload_n 3, 0, 0, 0) := by decide +kernel
theorem gz_144_9 : mz_pg 144 9 = some (.lshr, 0, 0, 0) := by decide +kernel
theorem gz_144_10 : mz_pg 144 10 = some (.l2i, 0, 0, 0) := by decide +kernel
theorem gz_144_11 : mz_pg 144 11 = some (.sipush 255, 0, 0, 0) := by decide +kernel
theorem gz_144_14 : mz_pg 144 14 = some (.iand, 0, 0, 0) := by decide +kernel
theorem gz_144_15 : mz_pg 144 15 = some (.istore 4, 0, 0, 0) := by decide +kernel
theorem gz_144_17 : mz_pg 144 17 = some (.iload 4, 0, 0, 0) := by decide +kernel
theorem gz_144_19 : mz_pg 144 19 = some (.bipush 10, 0, 0, 0) := by decide +kernel
theorem gz_144_21 : mz_pg 144 21 = some (.if_icmp .eq 17, 0, 0, 0) := by decide +kernel
theorem gz_144_24 : mz_pg 144 24 = some (.iload 4, 0, 0, 0) := by decide +kernel
theorem gz_144_26 : mz_pg 144 26 = some (.bipush 32, 0, 0, 0) := by decide +kernel
theorem gz_144_28 : mz_pg 144 28 = some (.if_icmp .lt 41, 0, 0, 0) := by decide +kernel
theorem gz_144_31 : mz_pg 144 31 = some (.iload 4, 0, 0, 0) := by decide +kernel
theorem gz_144_33 : mz_pg 144 33 = some (.bipush 126, 0, 0, 0) := by decide +kernel
theorem gz_144_35 : mz_pg 144 35 = some (.if_icmp .gt 34, 0, 0, 0) := by decide +kernel
theorem gz_144_38 : mz_pg 144 38 = some (.aload_n 0, 0, 0, 0) := by decide +kernel
theorem gz_144_39 : mz_pg 144 39 = some (.getfield 11, 10, 2, 1215) := by decide +kernel
theorem gz_144_42 : mz_pg 144 42 = some (.sipush 1000, 0, 0, 0) := by decide +kernel
theorem gz_144_45 : mz_pg 144 45 = some (.if_icmp .ge 24, 0, 0, 0) := by decide +kernel
theorem gz_144_48 : mz_pg 144 48 = some (.aload_n 0, 0, 0, 0) := by decide +kernel
theorem gz_144_49 : mz_pg 144 49 = some (.getfield 14, 10, 1, 1214) := by decide +kernel
theorem gz_144_52 : mz_pg 144 52 = some (.aload_n 0, 0, 0, 0) := by decide +kernel
theorem gz_144_53 : mz_pg 144 53 = some (.getfield 11, 10, 2, 1215) := by decide +kernel
theorem gz_144_56 : mz_pg 144 56 = some (.iload 4, 0, 0, 0) := by decide +kernel
theorem gz_144_58 : mz_pg 144 58 = some (.iastore, 0, 0, 0) := by decide +kernel
theorem gz_144_59 : mz_pg 144 59 = some (.aload_n 0, 0, 0, 0) := by decide +kernel
theorem gz_144_60 : mz_pg 144 60 = some (.dup, 0, 0, 0) := by decide +kernel
theorem gz_144_61 : mz_pg 144 61 = some (.getfield 11, 10, 2, 1215) := by decide +kernel
theorem gz_144_64 : mz_pg 144 64 = some (.iconst 1, 0, 0, 0) := by decide +kernel
theorem gz_144_65 : mz_pg 144 65 = some (.iadd, 0, 0, 0) := by decide +kernel
theorem gz_144_66 : mz_pg 144 66 = some (.putfield 11, 10, 2, 1215) := by decide +kernel
theorem gz_144_69 : mz_pg 144 69 = some (.iinc 3 (-8), 0, 0, 0) := by decide +kernel
theorem gz_144_72 : mz_pg 144 72 = some (.goto (-69), 0, 0, 0) := by decide +kernel
theorem gz_144_75 : mz_pg 144 75 = some (.return_, 0, 0, 0) := by decide +kernel
theorem gz_146_0 : mz_pg 146 0 = some (.aload_n 0, 0, 0, 0) := by decide +kernel
theorem gz_146_1 : mz_pg 146 1 = some (.iconst 0, 0, 0, 0) := by decide +kernel
theorem gz_146_2 : mz_pg 146 2 = some (.putfield 1, 10, 0, 1213) := by decide +kernel
theorem gz_146_5 : mz_pg 146 5 = some (.iload_n 1, 0, 0, 0) := by decide +kernel
theorem gz_146_6 : mz_pg 146 6 = some (.iconst 0, 0, 0, 0) := by decide +kernel
theorem gz_146_7 : mz_pg 146 7 = some (.iconst 2, 0, 0, 0) := by decide +kernel
theorem gz_146_8 : mz_pg 146 8 = some (.invokestatic 250, 1, 147, 1419) := by decide +kernel
theorem gz_146_11 : mz_pg 146 11 = some (.ifCond .eq 21, 0, 0, 0) := by decide +kernel
theorem gz_146_14 : mz_pg 146 14 = some (.iload_n 2, 0, 0, 0) := by decide +kernel
theorem gz_146_15 : mz_pg 146 15 = some (.iconst 1, 0, 0, 0) := by decide +kernel
theorem gz_146_16 : mz_pg 146 16 = some (.iconst 4, 0, 0, 0) := by decide +kernel
theorem gz_146_17 : mz_pg 146 17 = some (.invokestatic 250, 1, 147, 1419) := by decide +kernel
theorem gz_146_20 : mz_pg 146 20 = some (.ifCond .eq 12, 0, 0, 0) := by decide +kernel
theorem gz_146_23 : mz_pg 146 23 = some (.aload_n 0, 0, 0, 0) := by decide +kernel
theorem gz_146_24 : mz_pg 146 24 = some (.getfield 61, 10, 10, 1223) := by decide +kernel
theorem gz_146_27 : mz_pg 146 27 = some (.iload_n 1, 0, 0, 0) := by decide +kernel
theorem gz_146_28 : mz_pg 146 28 = some (.iaload, 0, 0, 0) := by decide +kernel
theorem gz_146_29 : mz_pg 146 29 = some (.ifCond .le 5, 0, 0, 0) := by decide +kernel
theorem gz_146_32 : mz_pg 146 32 = some (.iconst 0, 0, 0, 0) := by decide +kernel
theorem gz_146_33 : mz_pg 146 33 = some (.ireturn, 0, 0, 0) := by decide +kernel
theorem gz_146_34 : mz_pg 146 34 = some (.aload_n 0, 0, 0, 0) := by decide +kernel
theorem gz_146_35 : mz_pg 146 35 = some (.getfield 61, 10, 10, 1223) := by decide +kernel
theorem gz_146_38 : mz_pg 146 38 = some (.iload_n 1, 0, 0, 0) := by decide +kernel
theorem gz_146_39 : mz_pg 146 39 = some (.iload_n 2, 0, 0, 0) := by decide +kernel
theorem gz_146_40 : mz_pg 146 40 = some (.iastore, 0, 0, 0) := by decide +kernel
theorem gz_146_41 : mz_pg 146 41 = some (.iconst 1, 0, 0, 0) := by decide +kernel
theorem gz_146_42 : mz_pg 146 42 = some (.ireturn, 0, 0, 0) := by decide +kernel
theorem gz_147_0 : mz_pg 147 0 = some (.iload_n 0, 0, 0, 0) := by decide +kernel
theorem gz_147_1 : mz_pg 147 1 = some (.iload_n 1, 0, 0, 0) := by decide +kernel
theorem gz_147_2 : mz_pg 147 2 = some (.if_icmp .lt 12, 0, 0, 0) := by decide +kernel
theorem gz_147_5 : mz_pg 147 5 = some (.iload_n 0, 0, 0, 0) := by decide +kernel
theorem gz_147_6 : mz_pg 147 6 = some (.iload_n 2, 0, 0, 0) := by decide +kernel
theorem gz_147_7 : mz_pg 147 7 = some (.if_icmp .gt 7, 0, 0, 0) := by decide +kernel
theorem gz_147_10 : mz_pg 147 10 = some (.iconst 1, 0, 0, 0) := by decide +kernel
theorem gz_147_11 : mz_pg 147 11 = some (.goto 4, 0, 0, 0) := by decide +kernel
theorem gz_147_14 : mz_pg 147 14 = some (.iconst 0, 0, 0, 0) := by decide +kernel
theorem gz_147_15 : mz_pg 147 15 = some (.ireturn, 0, 0, 0) := by decide +kernel
theorem gz_148_0 : mz_pg 148 0 = some (.aload_n 0, 0, 0, 0) := by decide +kernel
theorem gz_148_1 : mz_pg 148 1 = some (.iconst 0, 0, 0, 0) := by decide +kernel
theorem gz_148_2 : mz_pg 148 2 = some (.putfield 1, 10, 0, 1213) := by decide +kernel
theorem gz_148_5 : mz_pg 148 5 = some (.aload_n 0, 0, 0, 0) := by decide +kernel
theorem gz_148_6 : mz_pg 148 6 = some (.iload_n 1, 0, 0, 0) := by decide +kernel
theorem gz_148_7 : mz_pg 148 7 = some (.invokevirtual 257, 1, 149, 1426) := by decide +kernel
theorem gz_148_10 : mz_pg 148 10 = some (.ifCond .eq 17, 0, 0, 0) := by decide +kernel
theorem gz_148_13 : mz_pg 148 13 = some (.iload_n 2, 0, 0, 0) := by decide +kernel
theorem gz_148_14 : mz_pg 148 14 = some (.iconst 0, 0, 0, 0) := by decide +kernel
theorem gz_148_15 : mz_pg 148 15 = some (.bipush 19, 0, 0, 0) := by decide +kernel
theorem gz_148_17 : mz_pg 148 17 = some (.invokestatic 250, 1, 147, 1419) := by decide +kernel
theorem gz_148_20 : mz_pg 148 20 = some (.ifCond .eq 7, 0, 0, 0) := by decide +kernel
theorem gz_148_23 : mz_pg 148 23 = some (.iconst 1, 0, 0, 0) := by decide +kernel
theorem gz_148_24 : mz_pg 148 24 = some (.goto 4, 0, 0, 0) := by decide +kernel
theorem gz_148_27 : mz_pg 148 27 = some (.iconst 0, 0, 0, 0) := by decide +kernel
theorem gz_148_28 : mz_pg 148 28 = some (.istore 6, 0, 0, 0) := by decide +kernel
theorem gz_148_30 : mz_pg 148 30 = some (.iload 6, 0, 0, 0) := by decide +kernel
theorem gz_148_32 : mz_pg 148 32 = some (.ifCond .eq 69, 0, 0, 0) := by decide +kernel
theorem gz_148_35 : mz_pg 148 35 = some (.aload_n 0, 0, 0, 0) := by decide +kernel
theorem gz_148_36 : mz_pg 148 36 = some (.getfield 61, 10, 10, 1223) := by decide +kernel
theorem gz_148_39 : mz_pg 148 39 = some (.iload_n 1, 0, 0, 0) := by decide +kernel
theorem gz_148_40 : mz_pg 148 40 = some (.iaload, 0, 0, 0) := by decide +kernel
theorem gz_148_41 : mz_pg 148 41 = some (.iconst 2, 0, 0, 0) := by decide +kernel
theorem gz_148_42 : mz_pg 148 42 = some (.if_icmp .lt 13, 0, 0, 0) := by decide +kernel
theorem gz_148_45 : mz_pg 148 45 = some (.iload_n 3, 0, 0, 0) := by decide +kernel
theorem gz_148_46 : mz_pg 148 46 = some (.iconst 0, 0, 0, 0) := by decide +kernel
theorem gz_148_47 : mz_pg 148 47 = some (.bipush 19, 0, 0, 0) := by decide +kernel
theorem gz_148_49 : mz_pg 148 49 = some (.invokestatic 250, 1, 147, 1419) := by decide +kernel
theorem gz_148_52 : mz_pg 148 52 = some (.ifCond .eq 49, 0, 0, 0) := by decide +kernel
theorem gz_148_55 : mz_pg 148 55 = some (.aload_n 0, 0, 0, 0) := by decide +kernel
theorem gz_148_56 : mz_pg 148 56 = some (.getfield 61, 10, 10, 1223) := by decide +kernel
theorem gz_148_59 : mz_pg 148 59 = some (.iload_n 1, 0, 0, 0) := by decide +kernel
theorem gz_148_60 : mz_pg 148 60 = some (.iaload, 0, 0, 0) := by decide +kernel
theorem gz_148_61 : mz_pg 148 61 = some (.iconst 3, 0, 0, 0) := by decide +kernel
theorem gz_148_62 : mz_pg 148 62 = some (.if_icmp .lt 14, 0, 0, 0) := by decide +kernel
theorem gz_148_65 : mz_pg 148 65 = some (.iload 4, 0, 0, 0) := by decide +kernel
theorem gz_148_67 : mz_pg 148 67 = some (.iconst 0, 0, 0, 0) := by decide +kernel
theorem gz_148_68 : mz_pg 148 68 = some (.bipush 19, 0, 0, 0) := by decide +kernel
theorem gz_148_70 : mz_pg 148 70 = some (.invokestatic 250, 1, 147, 1419) := by decide +kernel
theorem gz_148_73 : mz_pg 148 73 = some (.ifCond .eq 28, 0, 0, 0) := by decide +kernel
theorem gz_148_76 : mz_pg 148 76 = some (.aload_n 0, 0, 0, 0) := by decide +kernel
theorem gz_148_77 : mz_pg 148 77 = some (.getfield 61, 10, 10, 1223) := by decide +kernel
theorem gz_148_80 : mz_pg 148 80 = some (.iload_n 1, 0, 0, 0) := by decide +kernel
theorem gz_148_81 : mz_pg 148 81 = some (.iaload, 0, 0, 0) := by decide +kernel
theorem gz_148_82 : mz_pg 148 82 = some (.iconst 4, 0, 0, 0) := by decide +kernel
theorem gz_148_83 : mz_pg 148 83 = some (.if_icmp .lt 14, 0, 0, 0) := by decide +kernel
theorem gz_148_86 : mz_pg 148 86 = some (.iload 5, 0, 0, 0) := by decide +kernel
theorem gz_148_88 : mz_pg 148 88 = some (.iconst 0, 0, 0, 0) := by decide +kernel
theorem gz_148_89 : mz_pg 148 89 = some (.bipush 19, 0, 0, 0) := by decide +kernel
theorem gz_148_91 : mz_pg 148 91 = some (.invokestatic 250, 1, 147, 1419) := by decide +kernel
theorem gz_148_94 : mz_pg 148 94 = some (.ifCond .eq 7, 0, 0, 0) := by decide +kernel
theorem gz_148_97 : mz_pg 148 97 = some (.iconst 1, 0, 0, 0) := by decide +kernel
theorem gz_148_98 : mz_pg 148 98 = some (.goto 4, 0, 0, 0) := by decide +kernel
theorem gz_148_101 : mz_pg 148 101 = some (.iconst 0, 0, 0, 0) := by decide +kernel
theorem gz_148_102 : mz_pg 148 102 = some (.istore 6, 0, 0, 0) := by decide +kernel
theorem gz_148_104 : mz_pg 148 104 = some (.iload 6, 0, 0, 0) := by decide +kernel
theorem gz_148_106 : mz_pg 148 106 = some (.ifCond .eq 28, 0, 0, 0) := by decide +kernel
theorem gz_148_109 : mz_pg 148 109 = some (.aload_n 0, 0, 0, 0) := by decide +kernel
theorem gz_148_110 : mz_pg 148 110 = some (.getfield 77, 10, 15, 1228) := by decide +kernel
theorem gz_148_113 : mz_pg 148 113 = some (.iconst 0, 0, 0, 0) := by decide +kernel
theorem gz_148_114 : mz_pg 148 114 = some (.iload_n 1, 0, 0, 0) := by decide +kernel
theorem gz_148_115 : mz_pg 148 115 = some (.iload_n 2, 0, 0, 0) := by decide +kernel
theorem gz_148_116 : mz_pg 148 116 = some (.invokestatic 242, 1, 150, 1429) := by decide +kernel
theorem gz_148_119 : mz_pg 148 119 = some (.baload, 0, 0, 0) := by decide +kernel
theorem gz_148_120 : mz_pg 148 120 = some (.ifCond .ne 14, 0, 0, 0) := by decide +kernel
theorem gz_148_123 : mz_pg 148 123 = some (.aload_n 0, 0, 0, 0) := by decide +kernel
theorem gz_148_124 : mz_pg 148 124 = some (.iconst 0, 0, 0, 0) := by decide +kernel
theorem gz_148_125 : mz_pg 148 125 = some (.iload_n 1, 0, 0, 0) := by decide +kernel
theorem gz_148_126 : mz_pg 148 126 = some (.invokevirtual 267, 1, 151, 1432) := by decide +kernel
theorem gz_148_129 : mz_pg 148 129 = some (.bipush 10, 0, 0, 0) := by decide +kernel
theorem gz_148_131 : mz_pg 148 131 = some (.if_icmp .ne 5, 0, 0, 0) := by decide +kernel
theorem gz_148_134 : mz_pg 148 134 = some (.iconst 0, 0, 0, 0) := by decide +kernel
theorem gz_148_135 : mz_pg 148 135 = some (.ireturn, 0, 0, 0) := by decide +kernel
theorem gz_148_136 : mz_pg 148 136 = some (.aload_n 0, 0, 0, 0) := by decide +kernel
theorem gz_148_137 : mz_pg 148 137 = some (.iconst 0, 0, 0, 0) := by decide +kernel
theorem gz_148_138 : mz_pg 148 138 = some (.iconst 5, 0, 0, 0) := by decide +kernel
theorem gz_148_139 : mz_pg 148 139 = some (.invokevirtual 263, 1, 152, 1435) := by decide +kernel
theorem gz_148_142 : mz_pg 148 142 = some (.aload_n 0, 0, 0, 0) := by decide +kernel
theorem gz_148_143 : mz_pg 148 143 = some (.iconst 5, 0, 0, 0) := by decide +kernel
theorem gz_148_144 : mz_pg 148 144 = some (.iload_n 1, 0, 0, 0) := by decide +kernel
theorem gz_148_145 : mz_pg 148 145 = some (.iload_n 2, 0, 0, 0) := by decide +kernel
theorem gz_148_146 : mz_pg 148 146 = some (.aload_n 0, 0, 0, 0) := by decide +kernel
theorem gz_148_147 : mz_pg 148 147 = some (.getfield 61, 10, 10, 1223) := by decide +kernel
theorem gz_148_150 : mz_pg 148 150 = some (.iload_n 1, 0, 0, 0) := by decide +kernel
theorem gz_148_151 : mz_pg 148 151 = some (.iaload, 0, 0, 0) := by decide +kernel
theorem gz_148_152 : mz_pg 148 152 = some (.iconst 2, 0, 0, 0) := by decide +kernel
theorem gz_148_153 : mz_pg 148 153 = some (.if_icmp .ge 7, 0, 0, 0) := by decide +kernel
theorem gz_148_156 : mz_pg 148 156 = some (.iconst 0, 0, 0, 0) := by decide +kernel
theorem gz_148_157 : mz_pg 148 157 = some (.goto 4, 0, 0, 0) := by decide +kernel
theorem gz_148_160 : mz_pg 148 160 = some (.iload_n 3, 0, 0, 0) := by decide +kernel
theorem gz_148_161 : mz_pg 148 161 = some (.aload_n 0, 0, 0, 0) := by decide +kernel
theorem gz_148_162 : mz_pg 148 162 = some (.getfield 61, 10, 10, 1223) := by decide +kernel
theorem gz_148_165 : mz_pg 148 165 = some (.iload_n 1, 0, 0, 0) := by decide +kernel
theorem gz_148_166 : mz_pg 148 166 = some (.iaload, 0, 0, 0) := by decide +kernel
theorem gz_148_167 : mz_pg 148 167 = some (.iconst 3, 0, 0, 0) := by decide +kernel
theorem gz_148_168 : mz_pg 148 168 = some (.if_icmp .ge 7, 0, 0, 0) := by decide +kernel
theorem gz_148_171 : mz_pg 148 171 = some (.iconst 0, 0, 0, 0) := by decide +kernel
theorem gz_148_172 : mz_pg 148 172 = some (.goto 5, 0, 0, 0) := by decide +kernel
theorem gz_148_175 : mz_pg 148 175 = some (.iload 4, 0, 0, 0) := by decide +kernel
theorem gz_148_177 : mz_pg 148 177 = some (.aload_n 0, 0, 0, 0) := by decide +kernel
theorem gz_148_178 : mz_pg 148 178 = some (.getfield 61, 10, 10, 1223) := by decide +kernel
theorem gz_148_181 : mz_pg 148 181 = some (.iload_n 1, 0, 0, 0) := by decide +kernel
theorem gz_148_182 : mz_pg 148 182 = some (.iaload, 0, 0, 0) := by decide +kernel
theorem gz_148_183 : mz_pg 148 183 = some (.iconst 4, 0, 0, 0) := by decide +kernel
theorem gz_148_184 : mz_pg 148 184 = some (.if_icmp .ge 7, 0, 0, 0) := by decide +kernel
theorem gz_148_187 : mz_pg 148 187 = some (.iconst 0, 0, 0, 0) := by decide +kernel
theorem gz_148_188 : mz_pg 148 188 = some (.goto 5, 0, 0, 0) := by decide +kernel
theorem gz_148_191 : mz_pg 148 191 = some (.iload 5, 0, 0, 0) := by decide +kernel
theorem gz_148_193 : mz_pg 148 193 = some (.invokevirtual 271, 1, 153, 1438) := by decide +kernel
theorem gz_148_196 : mz_pg 148 196 = some (.aload_n 0, 0, 0, 0) := by decide +kernel
theorem gz_148_197 : mz_pg 148 197 = some (.invokevirtual 275, 1, 154, 1441) := by decide +kernel
theorem gz_148_200 : mz_pg 148 200 = some (.ireturn, 0, 0, 0) := by decide +kernel
theorem gz_149_0 : mz_pg 149 0 = some (.iload_n 1, 0, 0, 0) := by decide +kernel
theorem gz_149_1 : mz_pg 149 1 = some (.ifCond .lt 21, 0, 0, 0) := by decide +kernel
theorem gz_149_4 : mz_pg 149 4 = some (.iload_n 1, 0, 0, 0) := by decide +kernel
theorem gz_149_5 : mz_pg 149 5 = some (.iconst 3, 0, 0, 0) := by decide +kernel
theorem gz_149_6 : mz_pg 149 6 = some (.if_icmp .ge 16, 0, 0, 0) := by decide +kernel
theorem gz_149_9 : mz_pg 149 9 = some (.aload_n 0, 0, 0, 0) := by decide +kernel
theorem gz_149_10 : mz_pg 149 10 = some (.getfield 61, 10, 10, 1223) := by decide +kernel
theorem gz_149_13 : mz_pg 149 13 = some (.iload_n 1, 0, 0, 0) := by decide +kernel
theorem gz_149_14 : mz_pg 149 14 = some (.iaload, 0, 0, 0) := by decide +kernel
theorem gz_149_15 : mz_pg 149 15 = some (.ifCond .le 7, 0, 0, 0) := by decide +kernel
theorem gz_149_18 : mz_pg 149 18 = some (.iconst 1, 0, 0, 0) := by decide +kernel
theorem gz_149_19 : mz_pg 149 19 = some (.goto 4, 0, 0, 0) := by decide +kernel
theorem gz_149_22 : mz_pg 149 22 = some (.iconst 0, 0, 0, 0) := by decide +kernel
theorem gz_149_23 : mz_pg 149 23 = some (.ireturn, 0, 0, 0) := by decide +kernel
theorem gz_150_0 : mz_pg 150 0 = some (.bipush 60, 0, 0, 0) := by decide +kernel
theorem gz_150_2 : mz_pg 150 2 = some (.iload_n 0, 0, 0, 0) := by decide +kernel
theorem gz_150_3 : mz_pg 150 3 = some (.imul, 0, 0, 0) := by decide +kernel
theorem gz_150_4 : mz_pg 150 4 = some (.bipush 20, 0, 0, 0) := by decide +kernel
theorem gz_150_6 : mz_pg 150 6 = some (.iload_n 1, 0, 0, 0) := by decide +kernel
theorem gz_150_7 : mz_pg 150 7 = some (.imul, 0, 0, 0) := by decide +kernel
theorem gz_150_8 : mz_pg 150 8 = some (.iadd, 0, 0, 0) := by decide +kernel
theorem gz_150_9 : mz_pg 150 9 = some (.iload_n 2, 0, 0, 0) := by decide +kernel
theorem gz_150_10 : mz_pg 150 10 = some (.iadd, 0, 0, 0) := by decide +kernel
theorem gz_150_11 : mz_pg 150 11 = some (.ireturn, 0, 0, 0) := by decide +kernel
theorem gz_151_0 : mz_pg 151 0 = some (.iconst 0, 0, 0, 0) := by decide +kernel
theorem gz_151_1 : mz_pg 151 1 = some (.istore_n 3, 0, 0, 0) := by decide +kernel
theorem gz_151_2 : mz_pg 151 2 = some (.iconst 0, 0, 0, 0) := by decide +kernel
theorem gz_151_3 : mz_pg 151 3 = some (.istore 4, 0, 0, 0) := by decide +kernel
theorem gz_151_5 : mz_pg 151 5 = some (.iload 4, 0, 0, 0) := by decide +kernel
theorem gz_151_7 : mz_pg 151 7 = some (.bipush 20, 0, 0, 0) := by decide +kernel
theorem gz_151_9 : mz_pg 151 9 = some (.if_icmp .ge 32, 0, 0, 0) := by decide +kernel
theorem gz_151_12 : mz_pg 151 12 = some (.iload_n 3, 0, 0, 0) := by decide +kernel
theorem gz_151_13 : mz_pg 151 13 = some (.aload_n 0, 0, 0, 0) := by decide +kernel
theorem gz_151_14 : mz_pg 151 14 = some (.getfield 77, 10, 15, 1228) := by decide +kernel
theorem gz_151_17 : mz_pg 151 17 = some (.iload_n 1, 0, 0, 0) := by decide +kernel
theorem gz_151_18 : mz_pg 151 18 = some (.iload_n 2, 0, 0, 0) := by decide +kernel
theorem gz_151_19 : mz_pg 151 19 = some (.iload 4, 0, 0, 0) := by decide +kernel
theorem gz_151_21 : mz_pg 151 21 = some (.invokestatic 242, 1, 150, 1429) := by decide +kernel
theorem gz_151_24 : mz_pg 151 24 = some (.baload, 0, 0, 0) := by decide +kernel
theorem gz_151_25 : mz_pg 151 25 = some (.ifCond .eq 7, 0, 0, 0) := by decide +kernel
theorem gz_151_28 : mz_pg 151 28 = some (.iconst 1, 0, 0, 0) := by decide +kernel
theorem gz_151_29 : mz_pg 151 29 = some (.goto 4, 0, 0, 0) := by decide +kernel
theorem gz_151_32 : mz_pg 151 32 = some (.iconst 0, 0, 0, 0) := by decide +kernel
theorem gz_151_33 : mz_pg 151 33 = some (.iadd, 0, 0, 0) := by decide +kernel
theorem gz_151_34 : mz_pg 151 34 = some (.istore_n 3, 0, 0, 0) := by decide +kernel
theorem gz_151_35 : mz_pg 151 35 = some (.iinc 4 1, 0, 0, 0) := by decide +kernel
theorem gz_151_38 : mz_pg 151 38 = some (.goto (-33), 0, 0, 0) := by decide +kernel
theorem gz_151_41 : mz_pg 151 41 = some (.iload_n 3, 0, 0, 0) := by decide +kernel
theorem gz_151_42 : mz_pg 151 42 = some (.ireturn, 0, 0, 0) := by decide +kernel
theorem gz_152_0 : mz_pg 152 0 = some (.iconst 0, 0, 0, 0) := by decide +kernel
theorem gz_152_1 : mz_pg 152 1 = some (.istore_n 3, 0, 0, 0) := by decide +kernel
theorem gz_152_2 : mz_pg 152 2 = some (.iload_n 3, 0, 0, 0) := by decide +kernel
theorem gz_152_3 : mz_pg 152 3 = some (.bipush 60, 0, 0, 0) := by decide +kernel
theorem gz_152_5 : mz_pg 152 5 = some (.if_icmp .ge 31, 0, 0, 0) := by decide +kernel
theorem gz_152_8 : mz_pg 152 8 = some (.aload_n 0, 0, 0, 0) := by decide +kernel
theorem gz_152_9 : mz_pg 152 9 = some (.getfield 77, 10, 15, 1228) := by decide +kernel
theorem gz_152_12 : mz_pg 152 12 = some (.bipush 60, 0, 0, 0) := by decide +kernel
theorem gz_152_14 : mz_pg 152 14 = some (.iload_n 2, 0, 0, 0) := by decide +kernel
theorem gz_152_15 : mz_pg 152 15 = some (.imul, 0, 0, 0) := by decide +kernel
theorem gz_152_16 : mz_pg 152 16 = some (.iload_n 3, 0, 0, 0) := by decide +kernel
theorem gz_152_17 : mz_pg 152 17 = some (.iadd, 0, 0, 0) := by decide +kernel
theorem gz_152_18 : mz_pg 152 18 = some (.aload_n 0, 0, 0, 0) := by decide +kernel
theorem gz_152_19 : mz_pg 152 19 = some (.getfield 77, 10, 15, 1228) := by decide +kernel
theorem gz_152_22 : mz_pg 152 22 = some (.bipush 60, 0, 0, 0) := by decide +kernel
theorem gz_152_24 : mz_pg 152 24 = some (.iload_n 1, 0, 0, 0) := by decide +kernel
theorem gz_152_25 : mz_pg 152 25 = some (.imul, 0, 0, 0) := by decide +kernel
theorem gz_152_26 : mz_pg 152 26 = some (.iload_n 3, 0, 0, 0) := by decide +kernel
theorem gz_152_27 : mz_pg 152 27 = some (.iadd, 0, 0, 0) := by decide +kernel
theorem gz_152_28 : mz_pg 152 28 = some (.baload, 0, 0, 0) := by decide +kernel
theorem gz_152_29 : mz_pg 152 29 = some (.bastore, 0, 0, 0) := by decide +kernel
theorem gz_152_30 : mz_pg 152 30 = some (.iinc 3 1, 0, 0, 0) := by decide +kernel
theorem gz_152_33 : mz_pg 152 33 = some (.goto (-31), 0, 0, 0) := by decide +kernel
theorem gz_152_36 : mz_pg 152 36 = some (.iconst 0, 0, 0, 0) := by decide +kernel
theorem gz_152_37 : mz_pg 152 37 = some (.istore_n 3, 0, 0, 0) := by decide +kernel
theorem gz_152_38 : mz_pg 152 38 = some (.iload_n 3, 0, 0, 0) := by decide +kernel
theorem gz_152_39 : mz_pg 152 39 = some (.sipush 240, 0, 0, 0) := by decide +kernel
theorem gz_152_42 : mz_pg 152 42 = some (.if_icmp .ge 33, 0, 0, 0) := by decide +kernel
theorem gz_152_45 : mz_pg 152 45 = some (.aload_n 0, 0, 0, 0) := by decide +kernel
theorem gz_152_46 : mz_pg 152 46 = some (.getfield 80, 10, 16, 1229) := by decide +kernel
theorem gz_152_49 : mz_pg 152 49 = some (.sipush 240, 0, 0, 0) := by decide +kernel
theorem gz_152_52 : mz_pg 152 52 = some (.iload_n 2, 0, 0, 0) := by decide +kernel
theorem gz_152_53 : mz_pg 152 53 = some (.imul, 0, 0, 0) := by decide +kernel
theorem gz_152_54 : mz_pg 152 54 = some (.iload_n 3, 0, 0, 0) := by decide +kernel
theorem gz_152_55 : mz_pg 152 55 = some (.iadd, 0, 0, 0) := by decide +kernel
theorem gz_152_56 : mz_pg 152 56 = some (.aload_n 0, 0, 0, 0) := by decide +kernel
theorem gz_152_57 : mz_pg 152 57 = some (.getfield 80, 10, 16, 1229) := by decide +kernel
theorem gz_152_60 : mz_pg 152 60 = some (.sipush 240, 0, 0, 0) := by decide +kernel
theorem gz_152_63 : mz_pg 152 63 = some (.iload_n 1, 0, 0, 0) := by decide +kernel
theorem gz_152_64 : mz_pg 152 64 = some (.imul, 0, 0, 0) := by decide +kernel
theorem gz_152_65 : mz_pg 152 65 = some (.iload_n 3, 0, 0, 0) := by decide +kernel
theorem gz_152_66 : mz_pg 152 66 = some (.iadd, 0, 0, 0) := by decide +kernel
theorem gz_152_67 : mz_pg 152 67 = some (.iaload, 0, 0, 0) := by decide +kernel
theorem gz_152_68 : mz_pg 152 68 = some (.iastore, 0, 0, 0) := by decide +kernel
theorem gz_152_69 : mz_pg 152 69 = some (.iinc 3 1, 0, 0, 0) := by decide +kernel
theorem gz_152_72 : mz_pg 152 72 = some (.goto (-34), 0, 0, 0) := by decide +kernel
theorem gz_152_75 : mz_pg 152 75 = some (.return_, 0, 0, 0) := by decide +kernel
theorem gz_153_0 : mz_pg 153 0 = some (.iload_n 1, 0, 0, 0) := by decide +kernel
theorem gz_153_1 : mz_pg 153 1 = some (.iload_n 2, 0, 0, 0) := by decide +kernel
theorem gz_153_2 : mz_pg 153 2 = some (.iload_n 3, 0, 0, 0) := by decide +kernel
theorem gz_153_3 : mz_pg 153 3 = some (.invokestatic 242, 1, 150, 1429) := by decide +kernel
theorem gz_153_6 : mz_pg 153 6 = some (.istore 7, 0, 0, 0) := by decide +kernel
theorem gz_153_8 : mz_pg 153 8 = some (.aload_n 0, 0, 0, 0) := by decide +kernel
theorem gz_153_9 : mz_pg 153 9 = some (.getfield 77, 10, 15, 1228) := by decide +kernel
theorem gz_153_12 : mz_pg 153 12 = some (.iload 7, 0, 0, 0) := by decide +kernel
theorem gz_153_14 : mz_pg 153 14 = some (.iconst 1, 0, 0, 0) := by decide +kernel
theorem gz_153_15 : mz_pg 153 15 = some (.bastore, 0, 0, 0) := by decide +kernel
theorem gz_153_16 : mz_pg 153 16 = some (.aload_n 0, 0, 0, 0) := by decide +kernel
theorem gz_153_17 : mz_pg 153 17 = some (.getfield 80, 10, 16, 1229) := by decide +kernel
theorem gz_153_20 : mz_pg 153 20 = some (.iconst 4, 0, 0, 0) := by decide +kernel
theorem gz_153_21 : mz_pg 153 21 = some (.iload 7, 0, 0, 0) := by decide +kernel
theorem gz_153_23 : mz_pg 153 23 = some (.imul, 0, 0, 0) := by decide +kernel
theorem gz_153_24 : mz_pg 153 24 = some (.iload_n 3, 0, 0, 0) := by decide +kernel
theorem gz_153_25 : mz_pg 153 25 = some (.iastore, 0, 0, 0) := by decide +kernel
theorem gz_153_26 : mz_pg 153 26 = some (.aload_n 0, 0, 0, 0) := by decide +kernel
theorem gz_153_27 : mz_pg 153 27 = some (.getfield 80, 10, 16, 1229) := by decide +kernel
theorem gz_153_30 : mz_pg 153 30 = some (.iconst 4, 0, 0, 0) := by decide +kernel
theorem gz_153_31 : mz_pg 153 31 = some (.iload 7, 0, 0, 0) := by decide +kernel
theorem gz_153_33 : mz_pg 153 33 = some (.imul, 0, 0, 0) := by decide +kernel
theorem gz_153_34 : mz_pg 153 34 = some (.iconst 1, 0, 0, 0) := by decide +kernel
theorem gz_153_35 : mz_pg 153 35 = some (.iadd, 0, 0, 0) := by decide +kernel
theorem gz_153_36 : mz_pg 153 36 = some (.iload 4, 0, 0, 0) := by decide +kernel
theorem gz_153_38 : mz_pg 153 38 = some (.iastore, 0, 0, 0) := by decide +kernel
theorem gz_153_39 : mz_pg 153 39 = some (.aload_n 0, 0, 0, 0) := by decide +kernel
theorem gz_153_40 : mz_pg 153 40 = some (.getfield 80, 10, 16, 1229) := by decide +kernel
theorem gz_153_43 : mz_pg 153 43 = some (.iconst 4, 0, 0, 0) := by decide +kernel
theorem gz_153_44 : mz_pg 153 44 = some (.iload 7, 0, 0, 0) := by decide +kernel
theorem gz_153_46 : mz_pg 153 46 = some (.imul, 0, 0, 0) := by decide +kernel
theorem gz_153_47 : mz_pg 153 47 = some (.iconst 2, 0, 0, 0) := by decide +kernel
theorem gz_153_48 : mz_pg 153 48 = some (.iadd, 0, 0, 0) := by decide +kernel
theorem gz_153_49 : mz_pg 153 49 = some (.iload 5, 0, 0, 0) := by decide +kernel
theorem gz_153_51 : mz_pg 153 51 = some (.iastore, 0, 0, 0) := by decide +kernel
theorem gz_153_52 : mz_pg 153 52 = some (.aload_n 0, 0, 0, 0) := by decide +kernel
theorem gz_153_53 : mz_pg 153 53 = some (.getfield 80, 10, 16, 1229) := by decide +kernel
theorem gz_153_56 : mz_pg 153 56 = some (.iconst 4, 0, 0, 0) := by decide +kernel
theorem gz_153_57 : mz_pg 153 57 = some (.iload 7, 0, 0, 0) := by decide +kernel
theorem gz_153_59 : mz_pg 153 59 = some (.imul, 0, 0, 0) := by decide +kernel
theorem gz_153_60 : mz_pg 153 60 = some (.iconst 3, 0, 0, 0) := by decide +kernel
theorem gz_153_61 : mz_pg 153 61 = some (.iadd, 0, 0, 0) := by decide +kernel
theorem gz_153_62 : mz_pg 153 62 = some (.iload 6, 0, 0, 0) := by decide +kernel
theorem gz_153_64 : mz_pg 153 64 = some (.iastore, 0, 0, 0) := by decide +kernel
theorem gz_153_65 : mz_pg 153 65 = some (.return_, 0, 0, 0) := by decide +kernel
theorem gz_154_0 : mz_pg 154 0 = some (.aload_n 0, 0, 0, 0) := by decide +kernel
theorem gz_154_1 : mz_pg 154 1 = some (.iconst 5, 0, 0, 0) := by decide +kernel
theorem gz_154_2 : mz_pg 154 2 = some (.invokevirtual 260, 1, 155, 1444) := by decide +kernel
theorem gz_154_5 : mz_pg 154 5 = some (.ifCond .ne 5, 0, 0, 0) := by decide +kernel
theorem gz_154_8 : mz_pg 154 8 = some (.iconst 0, 0, 0, 0) := by decide +kernel
theorem gz_154_9 : mz_pg 154 9 = some (.ireturn, 0, 0, 0) := by decide +kernel
theorem gz_154_10 : mz_pg 154 10 = some (.aload_n 0, 0, 0, 0) := by decide +kernel
theorem gz_154_11 : mz_pg 154 11 = some (.iconst 5, 0, 0, 0) := by decide +kernel
theorem gz_154_12 : mz_pg 154 12 = some (.iconst 0, 0, 0, 0) := by decide +kernel
theorem gz_154_13 : mz_pg 154 13 = some (.invokevirtual 263, 1, 152, 1435) := by decide +kernel
theorem gz_154_16 : mz_pg 154 16 = some (.iconst 1, 0, 0, 0) := by decide +kernel
theorem gz_154_17 : mz_pg 154 17 = some (.ireturn, 0, 0, 0) := by decide +kernel
theorem gz_155_0 : mz_pg 155 0 = some (.iconst 0, 0, 0, 0) := by decide +kernel
theorem gz_155_1 : mz_pg 155 1 = some (.istore_n 2, 0, 0, 0) := by decide +kernel
theorem gz_155_2 : mz_pg 155 2 = some (.iload_n 2, 0, 0, 0) := by decide +kernel
theorem gz_155_3 : mz_pg 155 3 = some (.iconst 3, 0, 0, 0) := by decide +kernel
theorem gz_155_4 : mz_pg 155 4 = some (.if_icmp .ge 49, 0, 0, 0) := by decide +kernel
theorem gz_155_7 : mz_pg 155 7 = some (.iconst 0, 0, 0, 0) := by decide +kernel
theorem gz_155_8 : mz_pg 155 8 = some (.istore_n 3, 0, 0, 0) := by decide +kernel
theorem gz_155_9 : mz_pg 155 9 = some (.iload_n 3, 0, 0, 0) := by decide +kernel
theorem gz_155_10 : mz_pg 155 10 = some (.bipush 20, 0, 0, 0) := by decide +kernel
theorem gz_155_12 : mz_pg 155 12 = some (.if_icmp .ge 35, 0, 0, 0) := by decide +kernel
theorem gz_155_15 : mz_pg 155 15 = some (.aload_n 0, 0, 0, 0) := by decide +kernel
theorem gz_155_16 : mz_pg 155 16 = some (.getfield 77, 10, 15, 1228) := by decide +kernel
theorem gz_155_19 : mz_pg 155 19 = some (.iload_n 1, 0, 0, 0) := by decide +kernel
theorem gz_155_20 : mz_pg 155 20 = some (.iload_n 2, 0, 0, 0) := by decide +kernel
theorem gz_155_21 : mz_pg 155 21 = some (.iload_n 3, 0, 0, 0) := by decide +kernel
theorem gz_155_22 : mz_pg 155 22 = some (.invokestatic 242, 1, 150, 1429) := by decide +kernel
theorem gz_155_25 : mz_pg 155 25 = some (.baload, 0, 0, 0) := by decide +kernel
theorem gz_155_26 : mz_pg 155 26 = some (.ifCond .eq 15, 0, 0, 0) := by decide +kernel
theorem gz_155_29 : mz_pg 155 29 = some (.aload_n 0, 0, 0, 0) := by decide +kernel
theorem gz_155_30 : mz_pg 155 30 = some (.iload_n 1, 0, 0, 0) := by decide +kernel
theorem gz_155_31 : mz_pg 155 31 = some (.iload_n 2, 0, 0, 0) := by decide +kernel
theorem gz_155_32 : mz_pg 155 32 = some (.iload_n 3, 0, 0, 0) := by decide +kernel
theorem gz_155_33 : mz_pg 155 33 = some (.invokevirtual 254, 1, 156, 1447) := by decide +kernel
theorem gz_155_36 : mz_pg 155 36 = some (.ifCond .ne 5, 0, 0, 0) := by decide +kernel
theorem gz_155_39 : mz_pg 155 39 = some (.iconst 0, 0, 0, 0) := by decide +kernel
theorem gz_155_40 : mz_pg 155 40 = some (.ireturn, 0, 0, 0) := by decide +kernel
theorem gz_155_41 : mz_pg 155 41 = some (.iinc 3 1, 0, 0, 0) := by decide +kernel
theorem gz_155_44 : mz_pg 155 44 = some (.goto (-35), 0, 0, 0) := by decide +kernel
theorem gz_155_47 : mz_pg 155 47 = some (.iinc 2 1, 0, 0, 0) := by decide +kernel
theorem gz_155_50 : mz_pg 155 50 = some (.goto (-48), 0, 0, 0) := by decide +kernel
theorem gz_155_53 : mz_pg 155 53 = some (.iconst 1, 0, 0, 0) := by decide +kernel
theorem gz_155_54 : mz_pg 155 54 = some (.ireturn, 0, 0, 0) := by decide +kernel
theorem gz_156_0 : mz_pg 156 0 = some (.iconst 0, 0, 0, 0) := by decide +kernel
theorem gz_156_1 : mz_pg 156 1 = some (.istore 4, 0, 0, 0) := by decide +kernel
theorem gz_156_3 : mz_pg 156 3 = some (.iload 4, 0, 0, 0) := by decide +kernel
theorem gz_156_5 : mz_pg 156 5 = some (.aload_n 0, 0, 0, 0) := by decide +kernel
theorem gz_156_6 : mz_pg 156 6 = some (.getfield 61, 10, 10, 1223) := by decide +kernel
theorem gz_156_9 : mz_pg 156 9 = some (.iload_n 2, 0, 0, 0) := by decide +kernel
theorem gz_156_10 : mz_pg 156 10 = some (.iaload, 0, 0, 0) := by decide +kernel
theorem gz_156_11 : mz_pg 156 11 = some (.if_icmp .ge 140, 0, 0, 0) := by decide +kernel
theorem gz_156_14 : mz_pg 156 14 = some (.aload_n 0, 0, 0, 0) := by decide +kernel
theorem gz_156_15 : mz_pg 156 15 = some (.iload_n 1, 0, 0, 0) := by decide +kernel
theorem gz_156_16 : mz_pg 156 16 = some (.iload_n 2, 0, 0, 0) := by decide +kernel
theorem gz_156_17 : mz_pg 156 17 = some (.iload_n 3, 0, 0, 0) := by decide +kernel
theorem gz_156_18 : mz_pg 156 18 = some (.iload 4, 0, 0, 0) := by decide +kernel
theorem gz_156_20 : mz_pg 156 20 = some (.invokevirtual 246, 1, 157, 1450) := by decide +kernel
theorem gz_156_23 : mz_pg 156 23 = some (.istore 5, 0, 0, 0) := by decide +kernel
theorem gz_156_25 : mz_pg 156 25 = some (.iconst 4, 0, 0, 0) := by decide +kernel
theorem gz_156_26 : mz_pg 156 26 = some (.iload_n 2, 0, 0, 0) := by decide +kernel
theorem gz_156_27 : mz_pg 156 27 = some (.imul, 0, 0, 0) := by decide +kernel
theorem gz_156_28 : mz_pg 156 28 = some (.iload 4, 0, 0, 0) := by decide +kernel
theorem gz_156_30 : mz_pg 156 30 = some (.iadd, 0, 0, 0) := by decide +kernel
theorem gz_156_31 : mz_pg 156 31 = some (.istore 6, 0, 0, 0) := by decide +kernel
theorem gz_156_33 : mz_pg 156 33 = some (.iload 5, 0, 0, 0) := by decide +kernel
theorem gz_156_35 : mz_pg 156 35 = some (.aload_n 0, 0, 0, 0) := by decide +kernel
theorem gz_156_36 : mz_pg 156 36 = some (.getfield 64, 10, 11, 1224) := by decide +kernel
theorem gz_156_39 : mz_pg 156 39 = some (.iload 6, 0, 0, 0) := by decide +kernel
theorem gz_156_41 : mz_pg 156 41 = some (.iaload, 0, 0, 0) := by decide +kernel
theorem gz_156_42 : mz_pg 156 42 = some (.aload_n 0, 0, 0, 0) := by decide +kernel
theorem gz_156_43 : mz_pg 156 43 = some (.getfield 67, 10, 12, 1225) := by decide +kernel
theorem gz_156_46 : mz_pg 156 46 = some (.iload 6, 0, 0, 0) := by decide +kernel
theorem gz_156_48 : mz_pg 156 48 = some (.iaload, 0, 0, 0) := by decide +kernel
theorem gz_156_49 : mz_pg 156 49 = some (.invokestatic 250, 1, 147, 1419) := by decide +kernel
theorem gz_156_52 : mz_pg 156 52 = some (.ifCond .eq 34, 0, 0, 0) := by decide +kernel
theorem gz_156_55 : mz_pg 156 55 = some (.aload_n 0, 0, 0, 0) := by decide +kernel
theorem gz_156_56 : mz_pg 156 56 = some (.getfield 70, 10, 13, 1226) := by decide +kernel
theorem gz_156_59 : mz_pg 156 59 = some (.iload 6, 0, 0, 0) := by decide +kernel
theorem gz_156_61 : mz_pg 156 61 = some (.iaload, 0, 0, 0) := by decide +kernel
theorem gz_156_62 : mz_pg 156 62 = some (.ifCond .lt 26, 0, 0, 0) := by decide +kernel
theorem gz_156_65 : mz_pg 156 65 = some (.aload_n 0, 0, 0, 0) := by decide +kernel
theorem gz_156_66 : mz_pg 156 66 = some (.getfield 77, 10, 15, 1228) := by decide +kernel
theorem gz_156_69 : mz_pg 156 69 = some (.iload_n 1, 0, 0, 0) := by decide +kernel
theorem gz_156_70 : mz_pg 156 70 = some (.aload_n 0, 0, 0, 0) := by decide +kernel
theorem gz_156_71 : mz_pg 156 71 = some (.getfield 70, 10, 13, 1226) := by decide +kernel
theorem gz_156_74 : mz_pg 156 74 = some (.iload 6, 0, 0, 0) := by decide +kernel
theorem gz_156_76 : mz_pg 156 76 = some (.iaload, 0, 0, 0) := by decide +kernel
theorem gz_156_77 : mz_pg 156 77 = some (.iload 5, 0, 0, 0) := by decide +kernel
theorem gz_156_79 : mz_pg 156 79 = some (.invokestatic 242, 1, 150, 1429) := by decide +kernel
theorem gz_156_82 : mz_pg 156 82 = some (.baload, 0, 0, 0) := by decide +kernel
theorem gz_156_83 : mz_pg 156 83 = some (.ifCond .ne 5, 0, 0, 0) := by decide +kernel
theorem gz_156_86 : mz_pg 156 86 = some (.iconst 0, 0, 0, 0) := by decide +kernel
theorem gz_156_87 : mz_pg 156 87 = some (.ireturn, 0, 0, 0) := by decide +kernel
theorem gz_156_88 : mz_pg 156 88 = some (.iconst 0, 0, 0, 0) := by decide +kernel
theorem gz_156_89 : mz_pg 156 89 = some (.istore 7, 0, 0, 0) := by decide +kernel
theorem gz_156_91 : mz_pg 156 91 = some (.iload 7, 0, 0, 0) := by decide +kernel
theorem gz_156_93 : mz_pg 156 93 = some (.iload_n 3, 0, 0, 0) := by decide +kernel
theorem gz_156_94 : mz_pg 156 94 = some (.if_icmp .ge 51, 0, 0, 0) := by decide +kernel
theorem gz_156_97 : mz_pg 156 97 = some (.aload_n 0, 0, 0, 0) := by decide +kernel
theorem gz_156_98 : mz_pg 156 98 = some (.getfield 73, 10, 14, 1227) := by decide +kernel
theorem gz_156_101 : mz_pg 156 101 = some (.iload 6, 0, 0, 0) := by decide +kernel
theorem gz_156_103 : mz_pg 156 103 = some (.baload, 0, 0, 0) := by decide +kernel
theorem gz_156_104 : mz_pg 156 104 = some (.ifCond .eq 41, 0, 0, 0) := by decide +kernel
theorem gz_156_107 : mz_pg 156 107 = some (.aload_n 0, 0, 0, 0) := by decide +kernel
theorem gz_156_108 : mz_pg 156 108 = some (.getfield 77, 10, 15, 1228) := by decide +kernel
theorem gz_156_111 : mz_pg 156 111 = some (.iload_n 1, 0, 0, 0) := by decide +kernel
theorem gz_156_112 : mz_pg 156 112 = some (.iload_n 2, 0, 0, 0) := by decide +kernel
theorem gz_156_113 : mz_pg 156 113 = some (.iload 7, 0, 0, 0) := by decide +kernel
theorem gz_156_115 : mz_pg 156 115 = some (.invokestatic 242, 1, 150, 1429) := by decide +kernel
theorem gz_156_118 : mz_pg 156 118 = some (.baload, 0, 0, 0) := by decide +kernel
theorem gz_156_119 : mz_pg 156 119 = some (.ifCond .eq 20, 0, 0, 0) := by decide +kernel
theorem gz_156_122 : mz_pg 156 122 = some (.aload_n 0, 0, 0, 0) := by decide +kernel
theorem gz_156_123 : mz_pg 156 123 = some (.iload_n 1, 0, 0, 0) := by decide +kernel
theorem gz_156_124 : mz_pg 156 124 = some (.iload_n 2, 0, 0, 0) := by decide +kernel
theorem gz_156_125 : mz_pg 156 125 = some (.iload 7, 0, 0, 0) := by decide +kernel
theorem gz_156_127 : mz_pg 156 127 = some (.iload 4, 0, 0, 0) := by decide +kernel
theorem gz_156_129 : mz_pg 156 129 = some (.invokevirtual 246, 1, 157, 1450) := by decide +kernel
theorem gz_156_132 : mz_pg 156 132 = some (.iload 5, 0, 0, 0) := by decide +kernel
theorem gz_156_134 : mz_pg 156 134 = some (.if_icmp .ne 5, 0, 0, 0) := by decide +kernel
theorem gz_156_137 : mz_pg 156 137 = some (.iconst 0, 0, 0, 0) := by decide +kernel
theorem gz_156_138 : mz_pg 156 138 = some (.ireturn, 0, 0, 0) := by decide +kernel
theorem gz_156_139 : mz_pg 156 139 = some (.iinc 7 1, 0, 0, 0) := by decide +kernel
theorem gz_156_142 : mz_pg 156 142 = some (.goto (-51), 0, 0, 0) := by decide +kernel
theorem gz_156_145 : mz_pg 156 145 = some (.iinc 4 1, 0, 0, 0) := by decide +kernel
theorem gz_156_148 : mz_pg 156 148 = some (.goto (-145), 0, 0, 0) := by decide +kernel
theorem gz_156_151 : mz_pg 156 151 = some (.iconst 1, 0, 0, 0) := by decide +kernel
theorem gz_156_152 : mz_pg 156 152 = some (.ireturn, 0, 0, 0) := by decide +kernel
theorem gz_157_0 : mz_pg 157 0 = some (.aload_n 0, 0, 0, 0) := by decide +kernel
theorem gz_157_1 : mz_pg 157 1 = some (.getfield 80, 10, 16, 1229) := by decide +kernel
theorem gz_157_4 : mz_pg 157 4 = some (.iconst 4, 0, 0, 0) := by decide +kernel
theorem gz_157_5 : mz_pg 157 5 = some (.iload_n 1, 0, 0, 0) := by decide +kernel
theorem gz_157_6 : mz_pg 157 6 = some (.iload_n 2, 0, 0, 0) := by decide +kernel
theorem gz_157_7 : mz_pg 157 7 = some (.iload_n 3, 0, 0, 0) := by decide +kernel
theorem gz_157_8 : mz_pg 157 8 = some (.invokestatic 242, 1, 150, 1429) := by decide +kernel
theorem gz_157_11 : mz_pg 157 11 = some (.imul, 0, 0, 0) := by decide +kernel
theorem gz_157_12 : mz_pg 157 12 = some (.iload 4, 0, 0, 0) := by decide +kernel
theorem gz_157_14 : mz_pg 157 14 = some (.iadd, 0, 0, 0) := by decide +kernel
theorem gz_157_15 : mz_pg 157 15 = some (.iaload, 0, 0, 0) := by decide +kernel
theorem gz_157_16 : mz_pg 157 16 = some (.ireturn, 0, 0, 0) := by decide +kernel
theorem gz_158_0 : mz_pg 158 0 = some (.aload_n 0, 0, 0, 0) := by decide +kernel
theorem gz_158_1 : mz_pg 158 1 = some (.iconst 0, 0, 0, 0) := by decide +kernel
theorem gz_158_2 : mz_pg 158 2 = some (.putfield 1, 10, 0, 1213) := by decide +kernel
theorem gz_158_5 : mz_pg 158 5 = some (.aload_n 0, 0, 0, 0) := by decide +kernel
theorem gz_158_6 : mz_pg 158 6 = some (.iload_n 1, 0, 0, 0) := by decide +kernel
theorem gz_158_7 : mz_pg 158 7 = some (.iload_n 2, 0, 0, 0) := by decide +kernel
theorem gz_158_8 : mz_pg 158 8 = some (.invokevirtual 279, 1, 159, 1457) := by decide +kernel
theorem gz_158_11 : mz_pg 158 11 = some (.ifCond .ne 5, 0, 0, 0) := by decide +kernel
theorem gz_158_14 : mz_pg 158 14 = some (.iconst 0, 0, 0, 0) := by decide +kernel
theorem gz_158_15 : mz_pg 158 15 = some (.ireturn, 0, 0, 0) := by decide +kernel
theorem gz_158_16 : mz_pg 158 16 = some (.aload_n 0, 0, 0, 0) := by decide +kernel
theorem gz_158_17 : mz_pg 158 17 = some (.iconst 0, 0, 0, 0) := by decide +kernel
theorem gz_158_18 : mz_pg 158 18 = some (.iconst 5, 0, 0, 0) := by decide +kernel
theorem gz_158_19 : mz_pg 158 19 = some (.invokevirtual 263, 1, 152, 1435) := by decide +kernel
theorem gz_158_22 : mz_pg 158 22 = some (.aload_n 0, 0, 0, 0) := by decide +kernel
theorem gz_158_23 : mz_pg 158 23 = some (.getfield 77, 10, 15, 1228) := by decide +kernel
theorem gz_158_26 : mz_pg 158 26 = some (.iconst 5, 0, 0, 0) := by decide +kernel
theorem gz_158_27 : mz_pg 158 27 = some (.iload_n 1, 0, 0, 0) := by decide +kernel
theorem gz_158_28 : mz_pg 158 28 = some (.iload_n 2, 0, 0, 0) := by decide +kernel
theorem gz_158_29 : mz_pg 158 29 = some (.invokestatic 242, 1, 150, 1429) := by decide +kernel
theorem gz_158_32 : mz_pg 158 32 = some (.iconst 0, 0, 0, 0) := by decide +kernel
theorem gz_158_33 : mz_pg 158 33 = some (.bastore, 0, 0, 0) := by decide +kernel
theorem gz_158_34 : mz_pg 158 34 = some (.aload_n 0, 0, 0, 0) := by decide +kernel
theorem gz_158_35 : mz_pg 158 35 = some (.invokevirtual 275, 1, 154, 1441) := by decide +kernel
theorem gz_158_38 : mz_pg 158 38 = some (.ireturn, 0, 0, 0) := by decide +kernel
theorem gz_159_0 : mz_pg 159 0 = some (.aload_n 0, 0, 0, 0) := by decide +kernel
theorem gz_159_1 : mz_pg 159 1 = some (.iload_n 1, 0, 0, 0) := by decide +kernel
theorem gz_159_2 : mz_pg 159 2 = some (.invokevirtual 257, 1, 149, 1426) := by decide +kernel
theorem gz_159_5 : mz_pg 159 5 = some (.ifCond .eq 31, 0, 0, 0) := by decide +kernel
theorem gz_159_8 : mz_pg 159 8 = some (.iload_n 2, 0, 0, 0) := by decide +kernel
theorem gz_159_9 : mz_pg 159 9 = some (.iconst 0, 0, 0, 0) := by decide +kernel
theorem gz_159_10 : mz_pg 159 10 = some (.bipush 19, 0, 0, 0) := by decide +kernel
theorem gz_159_12 : mz_pg 159 12 = some (.invokestatic 250, 1, 147, 1419) := by decide +kernel
theorem gz_159_15 : mz_pg 159 15 = some (.ifCond .eq 21, 0, 0, 0) := by decide +kernel
theorem gz_159_18 : mz_pg 159 18 = some (.aload_n 0, 0, 0, 0) := by decide +kernel
theorem gz_159_19 : mz_pg 159 19 = some (.getfield 77, 10, 15, 1228) := by decide +kernel
theorem gz_159_22 : mz_pg 159 22 = some (.iconst 0, 0, 0, 0) := by decide +kernel
theorem gz_159_23 : mz_pg 159 23 = some (.iload_n 1, 0, 0, 0) := by decide +kernel
theorem gz_159_24 : mz_pg 159 24 = some (.iload_n 2, 0, 0, 0) := by decide +kernel
theorem gz_159_25 : mz_pg 159 25 = some (.invokestatic 242, 1, 150, 1429) := by decide +kernel
theorem gz_159_28 : mz_pg 159 28 = some (.baload, 0, 0, 0) := by decide +kernel
theorem gz_159_29 : mz_pg 159 29 = some (.ifCond .eq 7, 0, 0, 0) := by decide +kernel
theorem gz_159_32 : mz_pg 159 32 = some (.iconst 1, 0, 0, 0) := by decide +kernel
theorem gz_159_33 : mz_pg 159 33 = some (.goto 4, 0, 0, 0) := by decide +kernel
theorem gz_159_36 : mz_pg 159 36 = some (.iconst 0, 0, 0, 0) := by decide +kernel
theorem gz_159_37 : mz_pg 159 37 = some (.ireturn, 0, 0, 0) := by decide +kernel
theorem gz_160_0 : mz_pg 160 0 = some (.aload_n 0, 0, 0, 0) := by decide +kernel
theorem gz_160_1 : mz_pg 160 1 = some (.iconst 0, 0, 0, 0) := by decide +kernel
theorem gz_160_2 : mz_pg 160 2 = some (.putfield 1, 10, 0, 1213) := by decide +kernel
theorem gz_160_5 : mz_pg 160 5 = some (.aload_n 0, 0, 0, 0) := by decide +kernel
theorem gz_160_6 : mz_pg 160 6 = some (.iload_n 1, 0, 0, 0) := by decide +kernel
theorem gz_160_7 : mz_pg 160 7 = some (.iload_n 2, 0, 0, 0) := by decide +kernel
theorem gz_160_8 : mz_pg 160 8 = some (.iload_n 3, 0, 0, 0) := by decide +kernel
theorem gz_160_9 : mz_pg 160 9 = some (.iload 4, 0, 0, 0) := by decide +kernel
theorem gz_160_11 : mz_pg 160 11 = some (.invokevirtual 286, 1, 161, 1464) := by decide +kernel
theorem gz_160_14 : mz_pg 160 14 = some (.ifCond .eq 15, 0, 0, 0) := by decide +kernel
theorem gz_160_17 : mz_pg 160 17 = some (.aload_n 0, 0, 0, 0) := by decide +kernel
theorem gz_160_18 : mz_pg 160 18 = some (.iload_n 1, 0, 0, 0) := by decide +kernel
theorem gz_160_19 : mz_pg 160 19 = some (.iload_n 2, 0, 0, 0) := by decide +kernel
theorem gz_160_20 : mz_pg 160 20 = some (.iload_n 3, 0, 0, 0) := by decide +kernel
theorem gz_160_21 : mz_pg 160 21 = some (.iload 4, 0, 0, 0) := by decide +kernel
theorem gz_160_23 : mz_pg 160 23 = some (.invokevirtual 290, 1, 163, 1470) := by decide +kernel
theorem gz_160_26 : mz_pg 160 26 = some (.ifCond .le 5, 0, 0, 0) := by decide +kernel
theorem gz_160_29 : mz_pg 160 29 = some (.iconst 0, 0, 0, 0) := by decide +kernel
theorem gz_160_30 : mz_pg 160 30 = some (.ireturn, 0, 0, 0) := by decide +kernel
theorem gz_160_31 : mz_pg 160 31 = some (.aload_n 0, 0, 0, 0) := by decide +kernel
theorem gz_160_32 : mz_pg 160 32 = some (.getfield 64, 10, 11, 1224) := by decide +kernel
theorem gz_160_35 : mz_pg 160 35 = some (.iconst 4, 0, 0, 0) := by decide +kernel
theorem gz_160_36 : mz_pg 160 36 = some (.iload_n 1, 0, 0, 0) := by decide +kernel
theorem gz_160_37 : mz_pg 160 37 = some (.imul, 0, 0, 0) := by decide +kernel
theorem gz_160_38 : mz_pg 160 38 = some (.iload_n 2, 0, 0, 0) := by decide +kernel
theorem gz_160_39 : mz_pg 160 39 = some (.iadd, 0, 0, 0) := by decide +kernel
theorem gz_160_40 : mz_pg 160 40 = some (.iload_n 3, 0, 0, 0) := by decide +kernel
theorem gz_160_41 : mz_pg 160 41 = some (.iastore, 0, 0, 0) := by decide +kernel
theorem gz_160_42 : mz_pg 160 42 = some (.aload_n 0, 0, 0, 0) := by decide +kernel
theorem gz_160_43 : mz_pg 160 43 = some (.getfield 67, 10, 12, 1225) := by decide +kernel
theorem gz_160_46 : mz_pg 160 46 = some (.iconst 4, 0, 0, 0) := by decide +kernel
theorem gz_160_47 : mz_pg 160 47 = some (.iload_n 1, 0, 0, 0) := by decide +kernel
theorem gz_160_48 : mz_pg 160 48 = some (.imul, 0, 0, 0) := by decide +kernel
theorem gz_160_49 : mz_pg 160 49 = some (.iload_n 2, 0, 0, 0) := by decide +kernel
theorem gz_160_50 : mz_pg 160 50 = some (.iadd, 0, 0, 0) := by decide +kernel
theorem gz_160_51 : mz_pg 160 51 = some (.iload 4, 0, 0, 0) := by decide +kernel
theorem gz_160_53 : mz_pg 160 53 = some (.iastore, 0, 0, 0) := by decide +kernel
theorem gz_160_54 : mz_pg 160 54 = some (.iconst 1, 0, 0, 0) := by decide +kernel
theorem gz_160_55 : mz_pg 160 55 = some (.ireturn, 0, 0, 0) := by decide +kernel
theorem gz_161_0 : mz_pg 161 0 = some (.aload_n 0, 0, 0, 0) := by decide +kernel
theorem gz_161_1 : mz_pg 161 1 = some (.iload_n 1, 0, 0, 0) := by decide +kernel
theorem gz_161_2 : mz_pg 161 2 = some (.iload_n 2, 0, 0, 0) := by decide +kernel
theorem gz_161_3 : mz_pg 161 3 = some (.invokevirtual 283, 1, 162, 1467) := by decide +kernel
theorem gz_161_6 : mz_pg 161 6 = some (.ifCond .eq 28, 0, 0, 0) := by decide +kernel
theorem gz_161_9 : mz_pg 161 9 = some (.iload_n 3, 0, 0, 0) := by decide +kernel
theorem gz_161_10 : mz_pg 161 10 = some (.iconst 0, 0, 0, 0) := by decide +kernel
theorem gz_161_11 : mz_pg 161 11 = some (.bipush 19, 0, 0, 0) := by decide +kernel
theorem gz_161_13 : mz_pg 161 13 = some (.invokestatic 250, 1, 147, 1419) := by decide +kernel
theorem gz_161_16 : mz_pg 161 16 = some (.ifCond .eq 18, 0, 0, 0) := by decide +kernel
theorem gz_161_19 : mz_pg 161 19 = some (.iload 4, 0, 0, 0) := by decide +kernel
theorem gz_161_21 : mz_pg 161 21 = some (.iload_n 3, 0, 0, 0) := by decide +kernel
theorem gz_161_22 : mz_pg 161 22 = some (.bipush 19, 0, 0, 0) := by decide +kernel
theorem gz_161_24 : mz_pg 161 24 = some (.invokestatic 250, 1, 147, 1419) := by decide +kernel
theorem gz_161_27 : mz_pg 161 27 = some (.ifCond .eq 7, 0, 0, 0) := by decide +kernel
theorem gz_161_30 : mz_pg 161 30 = some (.iconst 1, 0, 0, 0) := by decide +kernel
theorem gz_161_31 : mz_pg 161 31 = some (.goto 4, 0, 0, 0) := by decide +kernel
theorem gz_161_34 : mz_pg 161 34 = some (.iconst 0, 0, 0, 0) := by decide +kernel
theorem gz_161_35 : mz_pg 161 35 = some (.ireturn, 0, 0, 0) := by decide +kernel
theorem gz_162_0 : mz_pg 162 0 = some (.aload_n 0, 0, 0, 0) := by decide +kernel
theorem gz_162_1 : mz_pg 162 1 = some (.iload_n 1, 0, 0, 0) := by decide +kernel
theorem gz_162_2 : mz_pg 162 2 = some (.invokevirtual 257, 1, 149, 1426) := by decide +kernel
theorem gz_162_5 : mz_pg 162 5 = some (.ifCond .eq 21, 0, 0, 0) := by decide +kernel
theorem gz_162_8 : mz_pg 162 8 = some (.iload_n 2, 0, 0, 0) := by decide +kernel
theorem gz_162_9 : mz_pg 162 9 = some (.ifCond .lt 17, 0, 0, 0) := by decide +kernel
theorem gz_162_12 : mz_pg 162 12 = some (.iload_n 2, 0, 0, 0) := by decide +kernel
theorem gz_162_13 : mz_pg 162 13 = some (.aload_n 0, 0, 0, 0) := by decide +kernel
theorem gz_162_14 : mz_pg 162 14 = some (.getfield 61, 10, 10, 1223) := by decide +kernel
theorem gz_162_17 : mz_pg 162 17 = some (.iload_n 1, 0, 0, 0) := by decide +kernel
theorem gz_162_18 : mz_pg 162 18 = some (.iaload, 0, 0, 0) := by decide +kernel
theorem gz_162_19 : mz_pg 162 19 = some (.if_icmp .ge 7, 0, 0, 0) := by decide +kernel
theorem gz_162_22 : mz_pg 162 22 = some (.iconst 1, 0, 0, 0) := by decide +kernel
theorem gz_162_23 : mz_pg 162 23 = some (.goto 4, 0, 0, 0) := by decide +kernel
theorem gz_162_26 : mz_pg 162 26 = some (.iconst 0, 0, 0, 0) := by decide +kernel
theorem gz_162_27 : mz_pg 162 27 = some (.ireturn, 0, 0, 0) := by decide +kernel
theorem gz_163_0 : mz_pg 163 0 = some (.iconst 0, 0, 0, 0) := by decide +kernel
theorem gz_163_1 : mz_pg 163 1 = some (.istore 5, 0, 0, 0) := by decide +kernel
theorem gz_163_3 : mz_pg 163 3 = some (.iconst 0, 0, 0, 0) := by decide +kernel
theorem gz_163_4 : mz_pg 163 4 = some (.istore 6, 0, 0, 0) := by decide +kernel
theorem gz_163_6 : mz_pg 163 6 = some (.iload 6, 0, 0, 0) := by decide +kernel
theorem gz_163_8 : mz_pg 163 8 = some (.bipush 20, 0, 0, 0) := by decide +kernel
theorem gz_163_10 : mz_pg 163 10 = some (.if_icmp .ge 52, 0, 0, 0) := by decide +kernel
theorem gz_163_13 : mz_pg 163 13 = some (.iload 5, 0, 0, 0) := by decide +kernel
theorem gz_163_15 : mz_pg 163 15 = some (.aload_n 0, 0, 0, 0) := by decide +kernel
theorem gz_163_16 : mz_pg 163 16 = some (.getfield 77, 10, 15, 1228) := by decide +kernel
theorem gz_163_19 : mz_pg 163 19 = some (.iconst 0, 0, 0, 0) := by decide +kernel
theorem gz_163_20 : mz_pg 163 20 = some (.iload_n 1, 0, 0, 0) := by decide +kernel
theorem gz_163_21 : mz_pg 163 21 = some (.iload 6, 0, 0, 0) := by decide +kernel
theorem gz_163_23 : mz_pg 163 23 = some (.invokestatic 242, 1, 150, 1429) := by decide +kernel
theorem gz_163_26 : mz_pg 163 26 = some (.baload, 0, 0, 0) := by decide +kernel
theorem gz_163_27 : mz_pg 163 27 = some (.ifCond .eq 25, 0, 0, 0) := by decide +kernel
theorem gz_163_30 : mz_pg 163 30 = some (.aload_n 0, 0, 0, 0) := by decide +kernel
theorem gz_163_31 : mz_pg 163 31 = some (.iconst 0, 0, 0, 0) := by decide +kernel
theorem gz_163_32 : mz_pg 163 32 = some (.iload_n 1, 0, 0, 0) := by decide +kernel
theorem gz_163_33 : mz_pg 163 33 = some (.iload 6, 0, 0, 0) := by decide +kernel
theorem gz_163_35 : mz_pg 163 35 = some (.iload_n 2, 0, 0, 0) := by decide +kernel
theorem gz_163_36 : mz_pg 163 36 = some (.invokevirtual 246, 1, 157, 1450) := by decide +kernel
theorem gz_163_39 : mz_pg 163 39 = some (.iload_n 3, 0, 0, 0) := by decide +kernel
theorem gz_163_40 : mz_pg 163 40 = some (.iload 4, 0, 0, 0) := by decide +kernel
theorem gz_163_42 : mz_pg 163 42 = some (.invokestatic 250, 1, 147, 1419) := by decide +kernel
theorem gz_163_45 : mz_pg 163 45 = some (.ifCond .ne 7, 0, 0, 0) := by decide +kernel
theorem gz_163_48 : mz_pg 163 48 = some (.iconst 1, 0, 0, 0) := by decide +kernel
theorem gz_163_49 : mz_pg 163 49 = some (.goto 4, 0, 0, 0) := by decide +kernel
theorem gz_163_52 : mz_pg 163 52 = some (.iconst 0, 0, 0, 0) := by decide +kernel
theorem gz_163_53 : mz_pg 163 53 = some (.iadd, 0, 0, 0) := by decide +kernel
theorem gz_163_54 : mz_pg 163 54 = some (.istore 5, 0, 0, 0) := by decide +kernel
theorem gz_163_56 : mz_pg 163 56 = some (.iinc 6 1, 0, 0, 0) := by decide +kernel
theorem gz_163_59 : mz_pg 163 59 = some (.goto (-53), 0, 0, 0) := by decide +kernel
theorem gz_163_62 : mz_pg 163 62 = some (.iload 5, 0, 0, 0) := by decide +kernel
theorem gz_163_64 : mz_pg 163 64 = some (.ireturn, 0, 0, 0) := by decide +kernel
theorem gz_164_0 : mz_pg 164 0 = some (.aload_n 0, 0, 0, 0) := by decide +kernel
theorem gz_164_1 : mz_pg 164 1 = some (.iconst 0, 0, 0, 0) := by decide +kernel
theorem gz_164_2 : mz_pg 164 2 = some (.putfield 1, 10, 0, 1213) := by decide +kernel
theorem gz_164_5 : mz_pg 164 5 = some (.aload_n 0, 0, 0, 0) := by decide +kernel
theorem gz_164_6 : mz_pg 164 6 = some (.iload_n 1, 0, 0, 0) := by decide +kernel
theorem gz_164_7 : mz_pg 164 7 = some (.iload_n 2, 0, 0, 0) := by decide +kernel
theorem gz_164_8 : mz_pg 164 8 = some (.iload_n 3, 0, 0, 0) := by decide +kernel
theorem gz_164_9 : mz_pg 164 9 = some (.iload 4, 0, 0, 0) := by decide +kernel
theorem gz_164_11 : mz_pg 164 11 = some (.invokevirtual 286, 1, 161, 1464) := by decide +kernel
theorem gz_164_14 : mz_pg 164 14 = some (.ifCond .eq 15, 0, 0, 0) := by decide +kernel
theorem gz_164_17 : mz_pg 164 17 = some (.aload_n 0, 0, 0, 0) := by decide +kernel
theorem gz_164_18 : mz_pg 164 18 = some (.iload_n 1, 0, 0, 0) := by decide +kernel
theorem gz_164_19 : mz_pg 164 19 = some (.iload_n 2, 0, 0, 0) := by decide +kernel
theorem gz_164_20 : mz_pg 164 20 = some (.iload_n 3, 0, 0, 0) := by decide +kernel
theorem gz_164_21 : mz_pg 164 21 = some (.iload 4, 0, 0, 0) := by decide +kernel
theorem gz_164_23 : mz_pg 164 23 = some (.invokevirtual 290, 1, 163, 1470) := by decide +kernel
theorem gz_164_26 : mz_pg 164 26 = some (.goto 4, 0, 0, 0) := by decide +kernel
theorem gz_164_29 : mz_pg 164 29 = some (.iconst (-1), 0, 0, 0) := by decide +kernel
theorem gz_164_30 : mz_pg 164 30 = some (.ireturn, 0, 0, 0) := by decide +kernel
theorem gz_165_0 : mz_pg 165 0 = some (.aload_n 0, 0, 0, 0) := by decide +kernel
theorem gz_165_1 : mz_pg 165 1 = some (.iconst 0, 0, 0, 0) := by decide +kernel
theorem gz_165_2 : mz_pg 165 2 = some (.putfield 1, 10, 0, 1213) := by decide +kernel
theorem gz_165_5 : mz_pg 165 5 = some (.aload_n 0, 0, 0, 0) := by decide +kernel
theorem gz_165_6 : mz_pg 165 6 = some (.iload_n 1, 0, 0, 0) := by decide +kernel
theorem gz_165_7 : mz_pg 165 7 = some (.iload_n 2, 0, 0, 0) := by decide +kernel
theorem gz_165_8 : mz_pg 165 8 = some (.invokevirtual 283, 1, 162, 1467) := by decide +kernel
theorem gz_165_11 : mz_pg 165 11 = some (.ifCond .eq 25, 0, 0, 0) := by decide +kernel
theorem gz_165_14 : mz_pg 165 14 = some (.iload_n 2, 0, 0, 0) := by decide +kernel
theorem gz_165_15 : mz_pg 165 15 = some (.ifCond .eq 21, 0, 0, 0) := by decide +kernel
theorem gz_165_18 : mz_pg 165 18 = some (.iload_n 3, 0, 0, 0) := by decide +kernel
theorem gz_165_19 : mz_pg 165 19 = some (.iconst (-1), 0, 0, 0) := by decide +kernel
theorem gz_165_20 : mz_pg 165 20 = some (.if_icmp .eq 18, 0, 0, 0) := by decide +kernel
theorem gz_165_23 : mz_pg 165 23 = some (.aload_n 0, 0, 0, 0) := by decide +kernel
theorem gz_165_24 : mz_pg 165 24 = some (.iload_n 3, 0, 0, 0) := by decide +kernel
theorem gz_165_25 : mz_pg 165 25 = some (.invokevirtual 257, 1, 149, 1426) := by decide +kernel
theorem gz_165_28 : mz_pg 165 28 = some (.ifCond .eq 8, 0, 0, 0) := by decide +kernel
theorem gz_165_31 : mz_pg 165 31 = some (.iload_n 3, 0, 0, 0) := by decide +kernel
theorem gz_165_32 : mz_pg 165 32 = some (.iload_n 1, 0, 0, 0) := by decide +kernel
theorem gz_165_33 : mz_pg 165 33 = some (.if_icmp .ne 5, 0, 0, 0) := by decide +kernel
theorem gz_165_36 : mz_pg 165 36 = some (.iconst 0, 0, 0, 0) := by decide +kernel
theorem gz_165_37 : mz_pg 165 37 = some (.ireturn, 0, 0, 0) := by decide +kernel
theorem gz_165_38 : mz_pg 165 38 = some (.aload_n 0, 0, 0, 0) := by decide +kernel
theorem gz_165_39 : mz_pg 165 39 = some (.getfield 70, 10, 13, 1226) := by decide +kernel
theorem gz_165_42 : mz_pg 165 42 = some (.iconst 4, 0, 0, 0) := by decide +kernel
theorem gz_165_43 : mz_pg 165 43 = some (.iload_n 1, 0, 0, 0) := by decide +kernel
theorem gz_165_44 : mz_pg 165 44 = some (.imul, 0, 0, 0) := by decide +kernel
theorem gz_165_45 : mz_pg 165 45 = some (.iload_n 2, 0, 0, 0) := by decide +kernel
theorem gz_165_46 : mz_pg 165 46 = some (.iadd, 0, 0, 0) := by decide +kernel
theorem gz_165_47 : mz_pg 165 47 = some (.iaload, 0, 0, 0) := by decide +kernel
theorem gz_165_48 : mz_pg 165 48 = some (.istore 4, 0, 0, 0) := by decide +kernel
theorem gz_165_50 : mz_pg 165 50 = some (.aload_n 0, 0, 0, 0) := by decide +kernel
theorem gz_165_51 : mz_pg 165 51 = some (.getfield 70, 10, 13, 1226) := by decide +kernel
theorem gz_165_54 : mz_pg 165 54 = some (.iconst 4, 0, 0, 0) := by decide +kernel
theorem gz_165_55 : mz_pg 165 55 = some (.iload_n 1, 0, 0, 0) := by decide +kernel
theorem gz_165_56 : mz_pg 165 56 = some (.imul, 0, 0, 0) := by decide +kernel
theorem gz_165_57 : mz_pg 165 57 = some (.iload_n 2, 0, 0, 0) := by decide +kernel
theorem gz_165_58 : mz_pg 165 58 = some (.iadd, 0, 0, 0) := by decide +kernel
theorem gz_165_59 : mz_pg 165 59 = some (.iload_n 3, 0, 0, 0) := by decide +kernel
theorem gz_165_60 : mz_pg 165 60 = some (.iastore, 0, 0, 0) := by decide +kernel
theorem gz_165_61 : mz_pg 165 61 = some (.aload_n 0, 0, 0, 0) := by decide +kernel
theorem gz_165_62 : mz_pg 165 62 = some (.iconst 0, 0, 0, 0) := by decide +kernel
theorem gz_165_63 : mz_pg 165 63 = some (.invokevirtual 260, 1, 155, 1444) := by decide +kernel
theorem gz_165_66 : mz_pg 165 66 = some (.ifCond .ne 17, 0, 0, 0) := by decide +kernel
theorem gz_165_69 : mz_pg 165 69 = some (.aload_n 0, 0, 0, 0) := by decide +kernel
theorem gz_165_70 : mz_pg 165 70 = some (.getfield 70, 10, 13, 1226) := by decide +kernel
theorem gz_165_73 : mz_pg 165 73 = some (.iconst 4, 0, 0, 0) := by decide +kernel
theorem gz_165_74 : mz_pg 165 74 = some (.iload_n 1, 0, 0, 0) := by decide +kernel
theorem gz_165_75 : mz_pg 165 75 = some (.imul, 0, 0, 0) := by decide +kernel
theorem gz_165_76 : mz_pg 165 76 = some (.iload_n 2, 0, 0, 0) := by decide +kernel
theorem gz_165_77 : mz_pg 165 77 = some (.iadd, 0, 0, 0) := by decide +kernel
theorem gz_165_78 : mz_pg 165 78 = some (.iload 4, 0, 0, 0) := by decide +kernel
theorem gz_165_80 : mz_pg 165 80 = some (.iastore, 0, 0, 0) := by decide +kernel
theorem gz_165_81 : mz_pg 165 81 = some (.iconst 0, 0, 0, 0) := by decide +kernel
theorem gz_165_82 : mz_pg 165 82 = some (.ireturn, 0, 0, 0) := by decide +kernel
theorem gz_165_83 : mz_pg 165 83 = some (.iconst 1, 0, 0, 0) := by decide +kernel
theorem gz_165_84 : mz_pg 165 84 = some (.ireturn, 0, 0, 0) := by decide +kernel
theorem gz_166_0 : mz_pg 166 0 = some (.aload_n 0, 0, 0, 0) := by decide +kernel
theorem gz_166_1 : mz_pg 166 1 = some (.iconst 0, 0, 0, 0) := by decide +kernel
theorem gz_166_2 : mz_pg 166 2 = some (.putfield 1, 10, 0, 1213) := by decide +kernel
theorem gz_166_5 : mz_pg 166 5 = some (.aload_n 0, 0, 0, 0) := by decide +kernel
theorem gz_166_6 : mz_pg 166 6 = some (.iload_n 1, 0, 0, 0) := by decide +kernel
theorem gz_166_7 : mz_pg 166 7 = some (.iload_n 2, 0, 0, 0) := by decide +kernel
theorem gz_166_8 : mz_pg 166 8 = some (.invokevirtual 283, 1, 162, 1467) := by decide +kernel
theorem gz_166_11 : mz_pg 166 11 = some (.ifCond .eq 7, 0, 0, 0) := by decide +kernel
theorem gz_166_14 : mz_pg 166 14 = some (.iload_n 2, 0, 0, 0) := by decide +kernel
theorem gz_166_15 : mz_pg 166 15 = some (.ifCond .ne 5, 0, 0, 0) := by decide +kernel
theorem gz_166_18 : mz_pg 166 18 = some (.iconst 0, 0, 0, 0) := by decide +kernel
theorem gz_166_19 : mz_pg 166 19 = some (.ireturn, 0, 0, 0) := by decide +kernel
theorem gz_166_20 : mz_pg 166 20 = some (.aload_n 0, 0, 0, 0) := by decide +kernel
theorem gz_166_21 : mz_pg 166 21 = some (.getfield 73, 10, 14, 1227) := by decide +kernel
theorem gz_166_24 : mz_pg 166 24 = some (.iconst 4, 0, 0, 0) := by decide +kernel
theorem gz_166_25 : mz_pg 166 25 = some (.iload_n 1, 0, 0, 0) := by decide +kernel
theorem gz_166_26 : mz_pg 166 26 = some (.imul, 0, 0, 0) := by decide +kernel
theorem gz_166_27 : mz_pg 166 27 = some (.iload_n 2, 0, 0, 0) := by decide +kernel
theorem gz_166_28 : mz_pg 166 28 = some (.iadd, 0, 0, 0) := by decide +kernel
theorem gz_166_29 : mz_pg 166 29 = some (.baload, 0, 0, 0) := by decide +kernel
theorem gz_166_30 : mz_pg 166 30 = some (.istore 4, 0, 0, 0) := by decide +kernel
theorem gz_166_32 : mz_pg 166 32 = some (.aload_n 0, 0, 0, 0) := by decide +kernel
theorem gz_166_33 : mz_pg 166 33 = some (.getfield 73, 10, 14, 1227) := by decide +kernel
theorem gz_166_36 : mz_pg 166 36 = some (.iconst 4, 0, 0, 0) := by decide +kernel
theorem gz_166_37 : mz_pg 166 37 = some (.iload_n 1, 0, 0, 0) := by decide +kernel
theorem gz_166_38 : mz_pg 166 38 = some (.imul, 0, 0, 0) := by decide +kernel
theorem gz_166_39 : mz_pg 166 39 = some (.iload_n 2, 0, 0, 0) := by decide +kernel
theorem gz_166_40 : mz_pg 166 40 = some (.iadd, 0, 0, 0) := by decide +kernel
theorem gz_166_41 : mz_pg 166 41 = some (.iload_n 3, 0, 0, 0) := by decide +kernel
theorem gz_166_42 : mz_pg 166 42 = some (.bastore, 0, 0, 0) := by decide +kernel
theorem gz_166_43 : mz_pg 166 43 = some (.aload_n 0, 0, 0, 0) := by decide +kernel
theorem gz_166_44 : mz_pg 166 44 = some (.iconst 0, 0, 0, 0) := by decide +kernel
theorem gz_166_45 : mz_pg 166 45 = some (.invokevirtual 260, 1, 155, 1444) := by decide +kernel
theorem gz_166_48 : mz_pg 166 48 = some (.ifCond .ne 17, 0, 0, 0) := by decide +kernel
theorem gz_166_51 : mz_pg 166 51 = some (.aload_n 0, 0, 0, 0) := by decide +kernel
theorem gz_166_52 : mz_pg 166 52 = some (.getfield 73, 10, 14, 1227) := by decide +kernel
theorem gz_166_55 : mz_pg 166 55 = some (.iconst 4, 0, 0, 0) := by decide +kernel
theorem gz_166_56 : mz_pg 166 56 = some (.iload_n 1, 0, 0, 0) := by decide +kernel
theorem gz_166_57 : mz_pg 166 57 = some (.imul, 0, 0, 0) := by decide +kernel
theorem gz_166_58 : mz_pg 166 58 = some (.iload_n 2, 0, 0, 0) := by decide +kernel
theorem gz_166_59 : mz_pg 166 59 = some (.iadd, 0, 0, 0) := by decide +kernel
theorem gz_166_60 : mz_pg 166 60 = some (.iload 4, 0, 0, 0) := by decide +kernel
theorem gz_166_62 : mz_pg 166 62 = some (.bastore, 0, 0, 0) := by decide +kernel
theorem gz_166_63 : mz_pg 166 63 = some (.iconst 0, 0, 0, 0) := by decide +kernel
theorem gz_166_64 : mz_pg 166 64 = some (.ireturn, 0, 0, 0) := by decide +kernel
theorem gz_166_65 : mz_pg 166 65 = some (.iconst 1, 0, 0, 0) := by decide +kernel
theorem gz_166_66 : mz_pg 166 66 = some (.ireturn, 0, 0, 0) := by decide +kernel
theorem gz_167_0 : mz_pg 167 0 = some (.aload_n 0, 0, 0, 0) := by decide +kernel
theorem gz_167_1 : mz_pg 167 1 = some (.aload_n 0, 0, 0, 0) := by decide +kernel
theorem gz_167_2 : mz_pg 167 2 = some (.iload_n 1, 0, 0, 0) := by decide +kernel
theorem gz_167_3 : mz_pg 167 3 = some (.iload_n 3, 0, 0, 0) := by decide +kernel
theorem gz_167_4 : mz_pg 167 4 = some (.invokevirtual 283, 1, 162, 1467) := by decide +kernel
theorem gz_167_7 : mz_pg 167 7 = some (.ifCond .eq 16, 0, 0, 0) := by decide +kernel
theorem gz_167_10 : mz_pg 167 10 = some (.aload_n 0, 0, 0, 0) := by decide +kernel
theorem gz_167_11 : mz_pg 167 11 = some (.iload_n 1, 0, 0, 0) := by decide +kernel
theorem gz_167_12 : mz_pg 167 12 = some (.iload_n 2, 0, 0, 0) := by decide +kernel
theorem gz_167_13 : mz_pg 167 13 = some (.invokevirtual 279, 1, 159, 1457) := by decide +kernel
theorem gz_167_16 : mz_pg 167 16 = some (.ifCond .eq 7, 0, 0, 0) := by decide +kernel
theorem gz_167_19 : mz_pg 167 19 = some (.iconst 0, 0, 0, 0) := by decide +kernel
theorem gz_167_20 : mz_pg 167 20 = some (.goto 4, 0, 0, 0) := by decide +kernel
theorem gz_167_23 : mz_pg 167 23 = some (.iconst 1, 0, 0, 0) := by decide +kernel
theorem gz_167_24 : mz_pg 167 24 = some (.putfield 1, 10, 0, 1213) := by decide +kernel
theorem gz_167_27 : mz_pg 167 27 = some (.aload_n 0, 0, 0, 0) := by decide +kernel
theorem gz_167_28 : mz_pg 167 28 = some (.getfield 1, 10, 0, 1213) := by decide +kernel
theorem gz_167_31 : mz_pg 167 31 = some (.ifCond .le 7, 0, 0, 0) := by decide +kernel
theorem gz_167_34 : mz_pg 167 34 = some (.iconst 0, 0, 0, 0) := by decide +kernel
theorem gz_167_35 : mz_pg 167 35 = some (.goto 11, 0, 0, 0) := by decide +kernel
theorem gz_167_38 : mz_pg 167 38 = some (.aload_n 0, 0, 0, 0) := by decide +kernel
theorem gz_167_39 : mz_pg 167 39 = some (.iconst 0, 0, 0, 0) := by decide +kernel
theorem gz_167_40 : mz_pg 167 40 = some (.iload_n 1, 0, 0, 0) := by decide +kernel
theorem gz_167_41 : mz_pg 167 41 = some (.iload_n 2, 0, 0, 0) := by decide +kernel
theorem gz_167_42 : mz_pg 167 42 = some (.iload_n 3, 0, 0, 0) := by decide +kernel
theorem gz_167_43 : mz_pg 167 43 = some (.invokevirtual 246, 1, 157, 1450) := by decide +kernel
theorem gz_167_46 : mz_pg 167 46 = some (.ireturn, 0, 0, 0) := by decide +kernel
theorem gz_168_0 : mz_pg 168 0 = some (.aload_n 0, 0, 0, 0) := by decide +kernel
theorem gz_168_1 : mz_pg 168 1 = some (.iconst 0, 0, 0, 0) := by decide +kernel
theorem gz_168_2 : mz_pg 168 2 = some (.putfield 1, 10, 0, 1213) := by decide +kernel
theorem gz_168_5 : mz_pg 168 5 = some (.iconst 0, 0, 0, 0) := by decide +kernel
theorem gz_168_6 : mz_pg 168 6 = some (.istore_n 2, 0, 0, 0) := by decide +kernel
theorem gz_168_7 : mz_pg 168 7 = some (.iconst 0, 0, 0, 0) := by decide +kernel
theorem gz_168_8 : mz_pg 168 8 = some (.istore_n 3, 0, 0, 0) := by decide +kernel
theorem gz_168_9 : mz_pg 168 9 = some (.iload_n 3, 0, 0, 0) := by decide +kernel
theorem gz_168_10 : mz_pg 168 10 = some (.bipush 6, 0, 0, 0) := by decide +kernel
theorem gz_168_12 : mz_pg 168 12 = some (.if_icmp .ge 47, 0, 0, 0) := by decide +kernel
theorem gz_168_15 : mz_pg 168 15 = some (.iload_n 2, 0, 0, 0) := by decide +kernel
theorem gz_168_16 : mz_pg 168 16 = some (.ifCond .ne 31, 0, 0, 0) := by decide +kernel
theorem gz_168_19 : mz_pg 168 19 = some (.aload_n 0, 0, 0, 0) := by decide +kernel
theorem gz_168_20 : mz_pg 168 20 = some (.getfield 83, 10, 17, 1230) := by decide +kernel
theorem gz_168_23 : mz_pg 168 23 = some (.iload_n 3, 0, 0, 0) := by decide +kernel
theorem gz_168_24 : mz_pg 168 24 = some (.baload, 0, 0, 0) := by decide +kernel
theorem gz_168_25 : mz_pg 168 25 = some (.ifCond .eq 26, 0, 0, 0) := by decide +kernel
theorem gz_168_28 : mz_pg 168 28 = some (.aload_n 0, 0, 0, 0) := by decide +kernel
theorem gz_168_29 : mz_pg 168 29 = some (.getfield 86, 10, 18, 1231) := by decide +kernel
theorem gz_168_32 : mz_pg 168 32 = some (.iload_n 3, 0, 0, 0) := by decide +kernel
theorem gz_168_33 : mz_pg 168 33 = some (.baload, 0, 0, 0) := by decide +kernel
theorem gz_168_34 : mz_pg 168 34 = some (.ifCond .ne 17, 0, 0, 0) := by decide +kernel
theorem gz_168_37 : mz_pg 168 37 = some (.aload_n 0, 0, 0, 0) := by decide +kernel
theorem gz_168_38 : mz_pg 168 38 = some (.getfield 89, 10, 19, 1232) := by decide +kernel
theorem gz_168_41 : mz_pg 168 41 = some (.iload_n 3, 0, 0, 0) := by decide +kernel
theorem gz_168_42 : mz_pg 168 42 = some (.iaload, 0, 0, 0) := by decide +kernel
theorem gz_168_43 : mz_pg 168 43 = some (.iload_n 1, 0, 0, 0) := by decide +kernel
theorem gz_168_44 : mz_pg 168 44 = some (.if_icmp .ne 7, 0, 0, 0) := by decide +kernel
theorem gz_168_47 : mz_pg 168 47 = some (.iconst 1, 0, 0, 0) := by decide +kernel
theorem gz_168_48 : mz_pg 168 48 = some (.goto 4, 0, 0, 0) := by decide +kernel
theorem gz_168_51 : mz_pg 168 51 = some (.iconst 0, 0, 0, 0) := by decide +kernel
theorem gz_168_52 : mz_pg 168 52 = some (.istore_n 2, 0, 0, 0) := by decide +kernel
theorem gz_168_53 : mz_pg 168 53 = some (.iinc 3 1, 0, 0, 0) := by decide +kernel
theorem gz_168_56 : mz_pg 168 56 = some (.goto (-47), 0, 0, 0) := by decide +kernel
theorem gz_168_59 : mz_pg 168 59 = some (.iload_n 1, 0, 0, 0) := by decide +kernel
theorem gz_168_60 : mz_pg 168 60 = some (.iconst 0, 0, 0, 0) := by decide +kernel
end MGZ2
