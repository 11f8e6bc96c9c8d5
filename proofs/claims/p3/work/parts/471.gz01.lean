/-! what stands where (printed by wip/gen/gy.py) -/
section MGZ1
theorem gz_39_6 : mz_pg 39 6 = some (.ifCond .ne 4, 0, 0, 0) := by decide +kernel
theorem gz_39_9 : mz_pg 39 9 = some (.return_, 0, 0, 0) := by decide +kernel
theorem gz_39_10 : mz_pg 39 10 = some (.aload_n 0, 0, 0, 0) := by decide +kernel
theorem gz_39_11 : mz_pg 39 11 = some (.ldc 63, 2, 1, 0) := by decide +kernel
theorem gz_39_13 : mz_pg 39 13 = some (.invokevirtual 65, 1, 41, 685) := by decide +kernel
theorem gz_39_16 : mz_pg 39 16 = some (.ifCond .eq 41, 0, 0, 0) := by decide +kernel
theorem gz_39_19 : mz_pg 39 19 = some (.aload_n 0, 0, 0, 0) := by decide +kernel
theorem gz_39_20 : mz_pg 39 20 = some (.invokevirtual 40, 1, 37, 673) := by decide +kernel
theorem gz_39_23 : mz_pg 39 23 = some (.aload_n 0, 0, 0, 0) := by decide +kernel
theorem gz_39_24 : mz_pg 39 24 = some (.invokevirtual 68, 1, 43, 734) := by decide +kernel
theorem gz_39_27 : mz_pg 39 27 = some (.istore_n 2, 0, 0, 0) := by decide +kernel
theorem gz_39_28 : mz_pg 39 28 = some (.iload_n 2, 0, 0, 0) := by decide +kernel
theorem gz_39_29 : mz_pg 39 29 = some (.iconst (-1), 0, 0, 0) := by decide +kernel
theorem gz_39_30 : mz_pg 39 30 = some (.if_icmp .eq 24, 0, 0, 0) := by decide +kernel
theorem gz_39_33 : mz_pg 39 33 = some (.aload_n 0, 0, 0, 0) := by decide +kernel
theorem gz_39_34 : mz_pg 39 34 = some (.getfield 12, 5, 2, 283) := by decide +kernel
theorem gz_39_37 : mz_pg 39 37 = some (.iload_n 2, 0, 0, 0) := by decide +kernel
theorem gz_39_38 : mz_pg 39 38 = some (.aload_n 0, 0, 0, 0) := by decide +kernel
theorem gz_39_39 : mz_pg 39 39 = some (.getfield 22, 5, 0, 281) := by decide +kernel
theorem gz_39_42 : mz_pg 39 42 = some (.getfield 72, 3, 0, 147) := by decide +kernel
theorem gz_39_45 : mz_pg 39 45 = some (.iload_n 2, 0, 0, 0) := by decide +kernel
theorem gz_39_46 : mz_pg 39 46 = some (.iaload, 0, 0, 0) := by decide +kernel
theorem gz_39_47 : mz_pg 39 47 = some (.invokevirtual 78, 1, 45, 741) := by decide +kernel
theorem gz_39_50 : mz_pg 39 50 = some (.aload_n 0, 0, 0, 0) := by decide +kernel
theorem gz_39_51 : mz_pg 39 51 = some (.invokevirtual 82, 1, 46, 745) := by decide +kernel
theorem gz_39_54 : mz_pg 39 54 = some (.goto 78, 0, 0, 0) := by decide +kernel
theorem gz_39_57 : mz_pg 39 57 = some (.aload_n 0, 0, 0, 0) := by decide +kernel
theorem gz_39_58 : mz_pg 39 58 = some (.ldc 85, 3, 1, 0) := by decide +kernel
theorem gz_39_60 : mz_pg 39 60 = some (.invokevirtual 65, 1, 41, 685) := by decide +kernel
theorem gz_39_63 : mz_pg 39 63 = some (.ifCond .eq 64, 0, 0, 0) := by decide +kernel
theorem gz_39_66 : mz_pg 39 66 = some (.aload_n 0, 0, 0, 0) := by decide +kernel
theorem gz_39_67 : mz_pg 39 67 = some (.invokevirtual 40, 1, 37, 673) := by decide +kernel
theorem gz_39_70 : mz_pg 39 70 = some (.aload_n 0, 0, 0, 0) := by decide +kernel
theorem gz_39_71 : mz_pg 39 71 = some (.iload_n 1, 0, 0, 0) := by decide +kernel
theorem gz_39_72 : mz_pg 39 72 = some (.invokevirtual 87, 1, 44, 737) := by decide +kernel
theorem gz_39_75 : mz_pg 39 75 = some (.istore_n 2, 0, 0, 0) := by decide +kernel
theorem gz_39_76 : mz_pg 39 76 = some (.iload_n 2, 0, 0, 0) := by decide +kernel
theorem gz_39_77 : mz_pg 39 77 = some (.iconst (-1), 0, 0, 0) := by decide +kernel
theorem gz_39_78 : mz_pg 39 78 = some (.if_icmp .eq 23, 0, 0, 0) := by decide +kernel
theorem gz_39_81 : mz_pg 39 81 = some (.aload_n 0, 0, 0, 0) := by decide +kernel
theorem gz_39_82 : mz_pg 39 82 = some (.getfield 26, 5, 1, 282) := by decide +kernel
theorem gz_39_85 : mz_pg 39 85 = some (.iload_n 2, 0, 0, 0) := by decide +kernel
theorem gz_39_86 : mz_pg 39 86 = some (.aaload, 0, 0, 0) := by decide +kernel
theorem gz_39_87 : mz_pg 39 87 = some (.getfield 53, 4, 0, 196) := by decide +kernel
theorem gz_39_90 : mz_pg 39 90 = some (.ifCond .ne 11, 0, 0, 0) := by decide +kernel
theorem gz_39_93 : mz_pg 39 93 = some (.aload_n 0, 0, 0, 0) := by decide +kernel
theorem gz_39_94 : mz_pg 39 94 = some (.iconst 2, 0, 0, 0) := by decide +kernel
theorem gz_39_95 : mz_pg 39 95 = some (.invokevirtual 91, 1, 42, 731) := by decide +kernel
theorem gz_39_98 : mz_pg 39 98 = some (.goto 26, 0, 0, 0) := by decide +kernel
theorem gz_39_101 : mz_pg 39 101 = some (.iload_n 2, 0, 0, 0) := by decide +kernel
theorem gz_39_102 : mz_pg 39 102 = some (.iconst (-1), 0, 0, 0) := by decide +kernel
theorem gz_39_103 : mz_pg 39 103 = some (.if_icmp .eq 21, 0, 0, 0) := by decide +kernel
theorem gz_39_106 : mz_pg 39 106 = some (.aload_n 0, 0, 0, 0) := by decide +kernel
theorem gz_39_107 : mz_pg 39 107 = some (.getfield 12, 5, 2, 283) := by decide +kernel
theorem gz_39_110 : mz_pg 39 110 = some (.iload_n 2, 0, 0, 0) := by decide +kernel
theorem gz_39_111 : mz_pg 39 111 = some (.aload_n 0, 0, 0, 0) := by decide +kernel
theorem gz_39_112 : mz_pg 39 112 = some (.getfield 26, 5, 1, 282) := by decide +kernel
theorem gz_39_115 : mz_pg 39 115 = some (.iload_n 2, 0, 0, 0) := by decide +kernel
theorem gz_39_116 : mz_pg 39 116 = some (.aaload, 0, 0, 0) := by decide +kernel
theorem gz_39_117 : mz_pg 39 117 = some (.invokevirtual 94, 1, 48, 751) := by decide +kernel
theorem gz_39_120 : mz_pg 39 120 = some (.aload_n 0, 0, 0, 0) := by decide +kernel
theorem gz_39_121 : mz_pg 39 121 = some (.invokevirtual 82, 1, 46, 745) := by decide +kernel
theorem gz_39_124 : mz_pg 39 124 = some (.goto 8, 0, 0, 0) := by decide +kernel
theorem gz_39_127 : mz_pg 39 127 = some (.aload_n 0, 0, 0, 0) := by decide +kernel
theorem gz_39_128 : mz_pg 39 128 = some (.iconst 1, 0, 0, 0) := by decide +kernel
theorem gz_39_129 : mz_pg 39 129 = some (.invokevirtual 91, 1, 42, 731) := by decide +kernel
theorem gz_39_132 : mz_pg 39 132 = some (.return_, 0, 0, 0) := by decide +kernel
theorem gz_40_0 : mz_pg 40 0 = some (.aload_n 0, 0, 0, 0) := by decide +kernel
theorem gz_40_1 : mz_pg 40 1 = some (.aload_n 1, 0, 0, 0) := by decide +kernel
theorem gz_40_2 : mz_pg 40 2 = some (.invokevirtual 65, 1, 41, 685) := by decide +kernel
theorem gz_40_5 : mz_pg 40 5 = some (.ifCond .ne 10, 0, 0, 0) := by decide +kernel
theorem gz_40_8 : mz_pg 40 8 = some (.aload_n 0, 0, 0, 0) := by decide +kernel
theorem gz_40_9 : mz_pg 40 9 = some (.iconst 1, 0, 0, 0) := by decide +kernel
theorem gz_40_10 : mz_pg 40 10 = some (.invokevirtual 91, 1, 42, 731) := by decide +kernel
theorem gz_40_13 : mz_pg 40 13 = some (.iconst 0, 0, 0, 0) := by decide +kernel
theorem gz_40_14 : mz_pg 40 14 = some (.ireturn, 0, 0, 0) := by decide +kernel
theorem gz_40_15 : mz_pg 40 15 = some (.aload_n 0, 0, 0, 0) := by decide +kernel
theorem gz_40_16 : mz_pg 40 16 = some (.invokevirtual 40, 1, 37, 673) := by decide +kernel
theorem gz_40_19 : mz_pg 40 19 = some (.iconst 1, 0, 0, 0) := by decide +kernel
theorem gz_40_20 : mz_pg 40 20 = some (.ireturn, 0, 0, 0) := by decide +kernel
theorem gz_41_0 : mz_pg 41 0 = some (.aload_n 0, 0, 0, 0) := by decide +kernel
theorem gz_41_1 : mz_pg 41 1 = some (.getfield 47, 5, 6, 288) := by decide +kernel
theorem gz_41_4 : mz_pg 41 4 = some (.iconst 1, 0, 0, 0) := by decide +kernel
theorem gz_41_5 : mz_pg 41 5 = some (.if_icmp .ne 19, 0, 0, 0) := by decide +kernel
theorem gz_41_8 : mz_pg 41 8 = some (.aload_n 0, 0, 0, 0) := by decide +kernel
theorem gz_41_9 : mz_pg 41 9 = some (.getfield 34, 5, 5, 287) := by decide +kernel
theorem gz_41_12 : mz_pg 41 12 = some (.aload_n 0, 0, 0, 0) := by decide +kernel
theorem gz_41_13 : mz_pg 41 13 = some (.getfield 174, 5, 7, 289) := by decide +kernel
theorem gz_41_16 : mz_pg 41 16 = some (.isub, 0, 0, 0) := by decide +kernel
theorem gz_41_17 : mz_pg 41 17 = some (.aload_n 1, 0, 0, 0) := by decide +kernel
theorem gz_41_21 : mz_pg 41 21 = some (.if_icmp .eq 5, 0, 0, 0) := by decide +kernel
theorem gz_41_24 : mz_pg 41 24 = some (.iconst 0, 0, 0, 0) := by decide +kernel
theorem gz_41_25 : mz_pg 41 25 = some (.ireturn, 0, 0, 0) := by decide +kernel
theorem gz_41_26 : mz_pg 41 26 = some (.iconst 0, 0, 0, 0) := by decide +kernel
theorem gz_41_27 : mz_pg 41 27 = some (.istore_n 2, 0, 0, 0) := by decide +kernel
theorem gz_41_28 : mz_pg 41 28 = some (.iload_n 2, 0, 0, 0) := by decide +kernel
theorem gz_41_29 : mz_pg 41 29 = some (.aload_n 1, 0, 0, 0) := by decide +kernel
theorem gz_41_33 : mz_pg 41 33 = some (.if_icmp .ge 30, 0, 0, 0) := by decide +kernel
theorem gz_41_36 : mz_pg 41 36 = some (.aload_n 0, 0, 0, 0) := by decide +kernel
theorem gz_41_37 : mz_pg 41 37 = some (.getfield 18, 5, 3, 284) := by decide +kernel
theorem gz_41_40 : mz_pg 41 40 = some (.aload_n 0, 0, 0, 0) := by decide +kernel
theorem gz_41_41 : mz_pg 41 41 = some (.getfield 174, 5, 7, 289) := by decide +kernel
theorem gz_41_44 : mz_pg 41 44 = some (.iload_n 2, 0, 0, 0) := by decide +kernel
theorem gz_41_45 : mz_pg 41 45 = some (.iadd, 0, 0, 0) := by decide +kernel
theorem gz_41_46 : mz_pg 41 46 = some (.baload, 0, 0, 0) := by decide +kernel
theorem gz_41_47 : mz_pg 41 47 = some (.aload_n 1, 0, 0, 0) := by decide +kernel
theorem gz_41_48 : mz_pg 41 48 = some (.iload_n 2, 0, 0, 0) := by decide +kernel
theorem gz_41_52 : mz_pg 41 52 = some (.if_icmp .eq 5, 0, 0, 0) := by decide +kernel
theorem gz_41_55 : mz_pg 41 55 = some (.iconst 0, 0, 0, 0) := by decide +kernel
theorem gz_41_56 : mz_pg 41 56 = some (.ireturn, 0, 0, 0) := by decide +kernel
theorem gz_41_57 : mz_pg 41 57 = some (.iinc 2 1, 0, 0, 0) := by decide +kernel
theorem gz_41_60 : mz_pg 41 60 = some (.goto (-32), 0, 0, 0) := by decide +kernel
theorem gz_41_63 : mz_pg 41 63 = some (.iconst 1, 0, 0, 0) := by decide +kernel
theorem gz_41_64 : mz_pg 41 64 = some (.ireturn, 0, 0, 0) := by decide +kernel
theorem gz_42_0 : mz_pg 42 0 = some (.aload_n 0, 0, 0, 0) := by decide +kernel
theorem gz_42_1 : mz_pg 42 1 = some (.getfield 37, 5, 9, 291) := by decide +kernel
theorem gz_42_4 : mz_pg 42 4 = some (.ifCond .ne 16, 0, 0, 0) := by decide +kernel
theorem gz_42_7 : mz_pg 42 7 = some (.aload_n 0, 0, 0, 0) := by decide +kernel
theorem gz_42_8 : mz_pg 42 8 = some (.iload_n 1, 0, 0, 0) := by decide +kernel
theorem gz_42_9 : mz_pg 42 9 = some (.bipush 16, 0, 0, 0) := by decide +kernel
theorem gz_42_11 : mz_pg 42 11 = some (.aload_n 0, 0, 0, 0) := by decide +kernel
theorem gz_42_12 : mz_pg 42 12 = some (.getfield 174, 5, 7, 289) := by decide +kernel
theorem gz_42_15 : mz_pg 42 15 = some (.imul, 0, 0, 0) := by decide +kernel
theorem gz_42_16 : mz_pg 42 16 = some (.iadd, 0, 0, 0) := by decide +kernel
theorem gz_42_17 : mz_pg 42 17 = some (.putfield 37, 5, 9, 291) := by decide +kernel
theorem gz_42_20 : mz_pg 42 20 = some (.return_, 0, 0, 0) := by decide +kernel
theorem gz_43_0 : mz_pg 43 0 = some (.aload_n 0, 0, 0, 0) := by decide +kernel
theorem gz_43_1 : mz_pg 43 1 = some (.iconst 3, 0, 0, 0) := by decide +kernel
theorem gz_43_2 : mz_pg 43 2 = some (.invokevirtual 87, 1, 44, 737) := by decide +kernel
theorem gz_43_5 : mz_pg 43 5 = some (.istore_n 1, 0, 0, 0) := by decide +kernel
theorem gz_43_6 : mz_pg 43 6 = some (.iload_n 1, 0, 0, 0) := by decide +kernel
theorem gz_43_7 : mz_pg 43 7 = some (.iconst (-1), 0, 0, 0) := by decide +kernel
theorem gz_43_8 : mz_pg 43 8 = some (.if_icmp .eq 21, 0, 0, 0) := by decide +kernel
theorem gz_43_11 : mz_pg 43 11 = some (.aload_n 0, 0, 0, 0) := by decide +kernel
theorem gz_43_12 : mz_pg 43 12 = some (.getfield 22, 5, 0, 281) := by decide +kernel
theorem gz_43_15 : mz_pg 43 15 = some (.iload_n 1, 0, 0, 0) := by decide +kernel
theorem gz_43_16 : mz_pg 43 16 = some (.invokevirtual 168, 1, 13, 740) := by decide +kernel
theorem gz_43_19 : mz_pg 43 19 = some (.ifCond .ne 10, 0, 0, 0) := by decide +kernel
theorem gz_43_22 : mz_pg 43 22 = some (.aload_n 0, 0, 0, 0) := by decide +kernel
theorem gz_43_23 : mz_pg 43 23 = some (.iconst 2, 0, 0, 0) := by decide +kernel
theorem gz_43_24 : mz_pg 43 24 = some (.invokevirtual 91, 1, 42, 731) := by decide +kernel
theorem gz_43_27 : mz_pg 43 27 = some (.iconst (-1), 0, 0, 0) := by decide +kernel
theorem gz_43_28 : mz_pg 43 28 = some (.ireturn, 0, 0, 0) := by decide +kernel
theorem gz_43_29 : mz_pg 43 29 = some (.iload_n 1, 0, 0, 0) := by decide +kernel
theorem gz_43_30 : mz_pg 43 30 = some (.ireturn, 0, 0, 0) := by decide +kernel
theorem gz_44_0 : mz_pg 44 0 = some (.aload_n 0, 0, 0, 0) := by decide +kernel
theorem gz_44_1 : mz_pg 44 1 = some (.getfield 47, 5, 6, 288) := by decide +kernel
theorem gz_44_4 : mz_pg 44 4 = some (.iconst 2, 0, 0, 0) := by decide +kernel
theorem gz_44_5 : mz_pg 44 5 = some (.if_icmp .eq 10, 0, 0, 0) := by decide +kernel
theorem gz_44_8 : mz_pg 44 8 = some (.aload_n 0, 0, 0, 0) := by decide +kernel
theorem gz_44_9 : mz_pg 44 9 = some (.iconst 1, 0, 0, 0) := by decide +kernel
theorem gz_44_10 : mz_pg 44 10 = some (.invokevirtual 91, 1, 42, 731) := by decide +kernel
theorem gz_44_13 : mz_pg 44 13 = some (.iconst (-1), 0, 0, 0) := by decide +kernel
theorem gz_44_14 : mz_pg 44 14 = some (.ireturn, 0, 0, 0) := by decide +kernel
theorem gz_44_15 : mz_pg 44 15 = some (.aload_n 0, 0, 0, 0) := by decide +kernel
theorem gz_44_16 : mz_pg 44 16 = some (.getfield 171, 5, 8, 290) := by decide +kernel
theorem gz_44_19 : mz_pg 44 19 = some (.iload_n 1, 0, 0, 0) := by decide +kernel
theorem gz_44_20 : mz_pg 44 20 = some (.if_icmp .lt 10, 0, 0, 0) := by decide +kernel
theorem gz_44_23 : mz_pg 44 23 = some (.aload_n 0, 0, 0, 0) := by decide +kernel
theorem gz_44_24 : mz_pg 44 24 = some (.iconst 4, 0, 0, 0) := by decide +kernel
theorem gz_44_25 : mz_pg 44 25 = some (.invokevirtual 91, 1, 42, 731) := by decide +kernel
theorem gz_44_28 : mz_pg 44 28 = some (.iconst (-1), 0, 0, 0) := by decide +kernel
theorem gz_44_29 : mz_pg 44 29 = some (.ireturn, 0, 0, 0) := by decide +kernel
theorem gz_44_30 : mz_pg 44 30 = some (.aload_n 0, 0, 0, 0) := by decide +kernel
theorem gz_44_31 : mz_pg 44 31 = some (.getfield 37, 5, 9, 291) := by decide +kernel
theorem gz_44_34 : mz_pg 44 34 = some (.ifCond .ne 10, 0, 0, 0) := by decide +kernel
theorem gz_44_37 : mz_pg 44 37 = some (.aload_n 0, 0, 0, 0) := by decide +kernel
theorem gz_44_38 : mz_pg 44 38 = some (.getfield 171, 5, 8, 290) := by decide +kernel
theorem gz_44_41 : mz_pg 44 41 = some (.goto 4, 0, 0, 0) := by decide +kernel
theorem gz_44_44 : mz_pg 44 44 = some (.iconst (-1), 0, 0, 0) := by decide +kernel
theorem gz_44_45 : mz_pg 44 45 = some (.ireturn, 0, 0, 0) := by decide +kernel
theorem gz_45_0 : mz_pg 45 0 = some (.aload_n 0, 0, 0, 0) := by decide +kernel
theorem gz_45_1 : mz_pg 45 1 = some (.iconst (-1), 0, 0, 0) := by decide +kernel
theorem gz_45_2 : mz_pg 45 2 = some (.putfield 36, 4, 1, 198) := by decide +kernel
theorem gz_45_5 : mz_pg 45 5 = some (.aload_n 0, 0, 0, 0) := by decide +kernel
theorem gz_45_6 : mz_pg 45 6 = some (.iload_n 1, 0, 0, 0) := by decide +kernel
theorem gz_45_7 : mz_pg 45 7 = some (.putfield 40, 4, 2, 201) := by decide +kernel
theorem gz_45_10 : mz_pg 45 10 = some (.aload_n 0, 0, 0, 0) := by decide +kernel
theorem gz_45_11 : mz_pg 45 11 = some (.iload_n 2, 0, 0, 0) := by decide +kernel
theorem gz_45_12 : mz_pg 45 12 = some (.putfield 43, 4, 3, 205) := by decide +kernel
theorem gz_45_15 : mz_pg 45 15 = some (.aload_n 0, 0, 0, 0) := by decide +kernel
theorem gz_45_16 : mz_pg 45 16 = some (.iload_n 2, 0, 0, 0) := by decide +kernel
theorem gz_45_17 : mz_pg 45 17 = some (.putfield 46, 4, 4, 208) := by decide +kernel
theorem gz_45_20 : mz_pg 45 20 = some (.aload_n 0, 0, 0, 0) := by decide +kernel
theorem gz_45_21 : mz_pg 45 21 = some (.iconst 0, 0, 0, 0) := by decide +kernel
theorem gz_45_22 : mz_pg 45 22 = some (.putfield 49, 4, 5, 211) := by decide +kernel
theorem gz_45_25 : mz_pg 45 25 = some (.aload_n 0, 0, 0, 0) := by decide +kernel
theorem gz_45_26 : mz_pg 45 26 = some (.iconst 1, 0, 0, 0) := by decide +kernel
theorem gz_45_27 : mz_pg 45 27 = some (.iload_n 1, 0, 0, 0) := by decide +kernel
theorem gz_45_28 : mz_pg 45 28 = some (.ishl, 0, 0, 0) := by decide +kernel
theorem gz_45_29 : mz_pg 45 29 = some (.putfield 52, 4, 6, 213) := by decide +kernel
theorem gz_45_32 : mz_pg 45 32 = some (.aload_n 0, 0, 0, 0) := by decide +kernel
theorem gz_45_33 : mz_pg 45 33 = some (.iconst 0, 0, 0, 0) := by decide +kernel
theorem gz_45_34 : mz_pg 45 34 = some (.putfield 55, 4, 7, 216) := by decide +kernel
theorem gz_45_37 : mz_pg 45 37 = some (.aload_n 0, 0, 0, 0) := by decide +kernel
theorem gz_45_38 : mz_pg 45 38 = some (.iconst 0, 0, 0, 0) := by decide +kernel
theorem gz_45_39 : mz_pg 45 39 = some (.putfield 59, 4, 8, 218) := by decide +kernel
theorem gz_45_42 : mz_pg 45 42 = some (.aload_n 0, 0, 0, 0) := by decide +kernel
theorem gz_45_43 : mz_pg 45 43 = some (.iconst 0, 0, 0, 0) := by decide +kernel
theorem gz_45_44 : mz_pg 45 44 = some (.putfield 62, 4, 9, 219) := by decide +kernel
theorem gz_45_47 : mz_pg 45 47 = some (.iconst 0, 0, 0, 0) := by decide +kernel
theorem gz_45_48 : mz_pg 45 48 = some (.istore_n 3, 0, 0, 0) := by decide +kernel
theorem gz_45_49 : mz_pg 45 49 = some (.iload_n 3, 0, 0, 0) := by decide +kernel
theorem gz_45_50 : mz_pg 45 50 = some (.iconst 4, 0, 0, 0) := by decide +kernel
theorem gz_45_51 : mz_pg 45 51 = some (.if_icmp .ge 27, 0, 0, 0) := by decide +kernel
theorem gz_45_54 : mz_pg 45 54 = some (.aload_n 0, 0, 0, 0) := by decide +kernel
theorem gz_45_55 : mz_pg 45 55 = some (.getfield 30, 4, 16, 233) := by decide +kernel
theorem gz_45_58 : mz_pg 45 58 = some (.iload_n 3, 0, 0, 0) := by decide +kernel
theorem gz_45_59 : mz_pg 45 59 = some (.iconst 0, 0, 0, 0) := by decide +kernel
theorem gz_45_60 : mz_pg 45 60 = some (.iastore, 0, 0, 0) := by decide +kernel
theorem gz_45_61 : mz_pg 45 61 = some (.aload_n 0, 0, 0, 0) := by decide +kernel
theorem gz_45_62 : mz_pg 45 62 = some (.getfield 27, 4, 15, 232) := by decide +kernel
theorem gz_45_65 : mz_pg 45 65 = some (.iload_n 3, 0, 0, 0) := by decide +kernel
theorem gz_45_66 : mz_pg 45 66 = some (.iload_n 1, 0, 0, 0) := by decide +kernel
theorem gz_45_67 : mz_pg 45 67 = some (.iload_n 3, 0, 0, 0) := by decide +kernel
theorem gz_45_68 : mz_pg 45 68 = some (.invokestatic 65, 2, 29, 6) := by decide +kernel
theorem gz_45_71 : mz_pg 45 71 = some (.iastore, 0, 0, 0) := by decide +kernel
theorem gz_45_72 : mz_pg 45 72 = some (.iinc 3 1, 0, 0, 0) := by decide +kernel
theorem gz_45_75 : mz_pg 45 75 = some (.goto (-26), 0, 0, 0) := by decide +kernel
theorem gz_45_78 : mz_pg 45 78 = some (.return_, 0, 0, 0) := by decide +kernel
theorem gz_46_0 : mz_pg 46 0 = some (.aload_n 0, 0, 0, 0) := by decide +kernel
theorem gz_46_1 : mz_pg 46 1 = some (.invokevirtual 40, 1, 37, 673) := by decide +kernel
theorem gz_46_4 : mz_pg 46 4 = some (.aload_n 0, 0, 0, 0) := by decide +kernel
theorem gz_46_5 : mz_pg 46 5 = some (.invokevirtual 132, 1, 47, 748) := by decide +kernel
theorem gz_46_8 : mz_pg 46 8 = some (.pop, 0, 0, 0) := by decide +kernel
theorem gz_46_9 : mz_pg 46 9 = some (.return_, 0, 0, 0) := by decide +kernel
theorem gz_47_0 : mz_pg 47 0 = some (.aload_n 0, 0, 0, 0) := by decide +kernel
theorem gz_47_1 : mz_pg 47 1 = some (.getfield 47, 5, 6, 288) := by decide +kernel
theorem gz_47_4 : mz_pg 47 4 = some (.iconst 3, 0, 0, 0) := by decide +kernel
theorem gz_47_5 : mz_pg 47 5 = some (.if_icmp .eq 10, 0, 0, 0) := by decide +kernel
theorem gz_47_8 : mz_pg 47 8 = some (.aload_n 0, 0, 0, 0) := by decide +kernel
theorem gz_47_9 : mz_pg 47 9 = some (.iconst 1, 0, 0, 0) := by decide +kernel
theorem gz_47_10 : mz_pg 47 10 = some (.invokevirtual 91, 1, 42, 731) := by decide +kernel
theorem gz_47_13 : mz_pg 47 13 = some (.iconst 0, 0, 0, 0) := by decide +kernel
theorem gz_47_14 : mz_pg 47 14 = some (.ireturn, 0, 0, 0) := by decide +kernel
theorem gz_47_15 : mz_pg 47 15 = some (.aload_n 0, 0, 0, 0) := by decide +kernel
theorem gz_47_16 : mz_pg 47 16 = some (.invokevirtual 40, 1, 37, 673) := by decide +kernel
theorem gz_47_19 : mz_pg 47 19 = some (.iconst 1, 0, 0, 0) := by decide +kernel
theorem gz_47_20 : mz_pg 47 20 = some (.ireturn, 0, 0, 0) := by decide +kernel
theorem gz_48_0 : mz_pg 48 0 = some (.aload_n 0, 0, 0, 0) := by decide +kernel
theorem gz_48_1 : mz_pg 48 1 = some (.iload_n 1, 0, 0, 0) := by decide +kernel
theorem gz_48_2 : mz_pg 48 2 = some (.putfield 36, 4, 1, 198) := by decide +kernel
theorem gz_48_5 : mz_pg 48 5 = some (.aload_n 0, 0, 0, 0) := by decide +kernel
theorem gz_48_6 : mz_pg 48 6 = some (.aload_n 2, 0, 0, 0) := by decide +kernel
theorem gz_48_7 : mz_pg 48 7 = some (.getfield 40, 4, 2, 201) := by decide +kernel
theorem gz_48_10 : mz_pg 48 10 = some (.putfield 40, 4, 2, 201) := by decide +kernel
theorem gz_48_13 : mz_pg 48 13 = some (.aload_n 0, 0, 0, 0) := by decide +kernel
theorem gz_48_14 : mz_pg 48 14 = some (.aload_n 2, 0, 0, 0) := by decide +kernel
theorem gz_48_15 : mz_pg 48 15 = some (.getfield 43, 4, 3, 205) := by decide +kernel
theorem gz_48_18 : mz_pg 48 18 = some (.putfield 43, 4, 3, 205) := by decide +kernel
theorem gz_48_21 : mz_pg 48 21 = some (.aload_n 0, 0, 0, 0) := by decide +kernel
theorem gz_48_22 : mz_pg 48 22 = some (.aload_n 2, 0, 0, 0) := by decide +kernel
theorem gz_48_23 : mz_pg 48 23 = some (.getfield 46, 4, 4, 208) := by decide +kernel
theorem gz_48_26 : mz_pg 48 26 = some (.putfield 46, 4, 4, 208) := by decide +kernel
theorem gz_48_29 : mz_pg 48 29 = some (.aload_n 0, 0, 0, 0) := by decide +kernel
theorem gz_48_30 : mz_pg 48 30 = some (.aload_n 2, 0, 0, 0) := by decide +kernel
theorem gz_48_31 : mz_pg 48 31 = some (.getfield 49, 4, 5, 211) := by decide +kernel
theorem gz_48_34 : mz_pg 48 34 = some (.putfield 49, 4, 5, 211) := by decide +kernel
theorem gz_48_37 : mz_pg 48 37 = some (.aload_n 0, 0, 0, 0) := by decide +kernel
theorem gz_48_38 : mz_pg 48 38 = some (.aload_n 2, 0, 0, 0) := by decide +kernel
theorem gz_48_39 : mz_pg 48 39 = some (.getfield 52, 4, 6, 213) := by decide +kernel
theorem gz_48_42 : mz_pg 48 42 = some (.putfield 52, 4, 6, 213) := by decide +kernel
theorem gz_48_45 : mz_pg 48 45 = some (.aload_n 0, 0, 0, 0) := by decide +kernel
theorem gz_48_46 : mz_pg 48 46 = some (.aload_n 2, 0, 0, 0) := by decide +kernel
theorem gz_48_47 : mz_pg 48 47 = some (.getfield 55, 4, 7, 216) := by decide +kernel
theorem gz_48_50 : mz_pg 48 50 = some (.putfield 55, 4, 7, 216) := by decide +kernel
theorem gz_48_53 : mz_pg 48 53 = some (.aload_n 0, 0, 0, 0) := by decide +kernel
theorem gz_48_54 : mz_pg 48 54 = some (.aload_n 2, 0, 0, 0) := by decide +kernel
theorem gz_48_55 : mz_pg 48 55 = some (.getfield 59, 4, 8, 218) := by decide +kernel
theorem gz_48_58 : mz_pg 48 58 = some (.putfield 59, 4, 8, 218) := by decide +kernel
theorem gz_48_61 : mz_pg 48 61 = some (.aload_n 0, 0, 0, 0) := by decide +kernel
theorem gz_48_62 : mz_pg 48 62 = some (.iconst 0, 0, 0, 0) := by decide +kernel
theorem gz_48_63 : mz_pg 48 63 = some (.putfield 62, 4, 9, 219) := by decide +kernel
theorem gz_48_66 : mz_pg 48 66 = some (.aload_n 2, 0, 0, 0) := by decide +kernel
theorem gz_48_67 : mz_pg 48 67 = some (.getfield 30, 4, 16, 233) := by decide +kernel
theorem gz_48_70 : mz_pg 48 70 = some (.iconst 0, 0, 0, 0) := by decide +kernel
theorem gz_48_71 : mz_pg 48 71 = some (.aload_n 0, 0, 0, 0) := by decide +kernel
theorem gz_48_72 : mz_pg 48 72 = some (.getfield 30, 4, 16, 233) := by decide +kernel
theorem gz_48_75 : mz_pg 48 75 = some (.iconst 0, 0, 0, 0) := by decide +kernel
theorem gz_48_76 : mz_pg 48 76 = some (.iconst 4, 0, 0, 0) := by decide +kernel
theorem gz_48_77 : mz_pg 48 77 = some (.invokestatic 69, 0, 0, 755) := by decide +kernel
theorem gz_48_80 : mz_pg 48 80 = some (.aload_n 2, 0, 0, 0) := by decide +kernel
theorem gz_48_81 : mz_pg 48 81 = some (.getfield 27, 4, 15, 232) := by decide +kernel
theorem gz_48_84 : mz_pg 48 84 = some (.iconst 0, 0, 0, 0) := by decide +kernel
theorem gz_48_85 : mz_pg 48 85 = some (.aload_n 0, 0, 0, 0) := by decide +kernel
theorem gz_48_86 : mz_pg 48 86 = some (.getfield 27, 4, 15, 232) := by decide +kernel
theorem gz_48_89 : mz_pg 48 89 = some (.iconst 0, 0, 0, 0) := by decide +kernel
theorem gz_48_90 : mz_pg 48 90 = some (.bipush 8, 0, 0, 0) := by decide +kernel
theorem gz_48_92 : mz_pg 48 92 = some (.invokestatic 69, 0, 0, 755) := by decide +kernel
theorem gz_48_95 : mz_pg 48 95 = some (.return_, 0, 0, 0) := by decide +kernel
theorem gz_49_0 : mz_pg 49 0 = some (.aload_n 0, 0, 0, 0) := by decide +kernel
theorem gz_49_1 : mz_pg 49 1 = some (.ldc 98, 4, 1, 0) := by decide +kernel
theorem gz_49_3 : mz_pg 49 3 = some (.invokevirtual 65, 1, 41, 685) := by decide +kernel
theorem gz_49_6 : mz_pg 49 6 = some (.istore_n 1, 0, 0, 0) := by decide +kernel
theorem gz_49_7 : mz_pg 49 7 = some (.aload_n 0, 0, 0, 0) := by decide +kernel
theorem gz_49_8 : mz_pg 49 8 = some (.ldc 100, 5, 1, 0) := by decide +kernel
theorem gz_49_10 : mz_pg 49 10 = some (.invokevirtual 65, 1, 41, 685) := by decide +kernel
theorem gz_49_13 : mz_pg 49 13 = some (.istore_n 2, 0, 0, 0) := by decide +kernel
theorem gz_49_14 : mz_pg 49 14 = some (.aload_n 0, 0, 0, 0) := by decide +kernel
theorem gz_49_15 : mz_pg 49 15 = some (.ldc 102, 6, 1, 0) := by decide +kernel
theorem gz_49_17 : mz_pg 49 17 = some (.invokevirtual 65, 1, 41, 685) := by decide +kernel
theorem gz_49_20 : mz_pg 49 20 = some (.istore_n 3, 0, 0, 0) := by decide +kernel
theorem gz_49_21 : mz_pg 49 21 = some (.aload_n 0, 0, 0, 0) := by decide +kernel
theorem gz_49_22 : mz_pg 49 22 = some (.ldc 104, 7, 1, 0) := by decide +kernel
theorem gz_49_24 : mz_pg 49 24 = some (.invokevirtual 65, 1, 41, 685) := by decide +kernel
theorem gz_49_27 : mz_pg 49 27 = some (.istore 4, 0, 0, 0) := by decide +kernel
theorem gz_49_29 : mz_pg 49 29 = some (.aload_n 0, 0, 0, 0) := by decide +kernel
theorem gz_49_30 : mz_pg 49 30 = some (.ldc 106, 8, 1, 0) := by decide +kernel
theorem gz_49_32 : mz_pg 49 32 = some (.invokevirtual 65, 1, 41, 685) := by decide +kernel
theorem gz_49_35 : mz_pg 49 35 = some (.istore 5, 0, 0, 0) := by decide +kernel
theorem gz_49_37 : mz_pg 49 37 = some (.iload_n 1, 0, 0, 0) := by decide +kernel
theorem gz_49_38 : mz_pg 49 38 = some (.ifCond .ne 27, 0, 0, 0) := by decide +kernel
theorem gz_49_41 : mz_pg 49 41 = some (.iload_n 2, 0, 0, 0) := by decide +kernel
theorem gz_49_42 : mz_pg 49 42 = some (.ifCond .ne 23, 0, 0, 0) := by decide +kernel
theorem gz_49_45 : mz_pg 49 45 = some (.iload_n 3, 0, 0, 0) := by decide +kernel
theorem gz_49_46 : mz_pg 49 46 = some (.ifCond .ne 19, 0, 0, 0) := by decide +kernel
theorem gz_49_49 : mz_pg 49 49 = some (.iload 4, 0, 0, 0) := by decide +kernel
theorem gz_49_51 : mz_pg 49 51 = some (.ifCond .ne 14, 0, 0, 0) := by decide +kernel
theorem gz_49_54 : mz_pg 49 54 = some (.iload 5, 0, 0, 0) := by decide +kernel
theorem gz_49_56 : mz_pg 49 56 = some (.ifCond .ne 9, 0, 0, 0) := by decide +kernel
theorem gz_49_59 : mz_pg 49 59 = some (.aload_n 0, 0, 0, 0) := by decide +kernel
theorem gz_49_60 : mz_pg 49 60 = some (.iconst 1, 0, 0, 0) := by decide +kernel
theorem gz_49_61 : mz_pg 49 61 = some (.invokevirtual 91, 1, 42, 731) := by decide +kernel
theorem gz_49_64 : mz_pg 49 64 = some (.return_, 0, 0, 0) := by decide +kernel
theorem gz_49_65 : mz_pg 49 65 = some (.iload_n 1, 0, 0, 0) := by decide +kernel
theorem gz_49_66 : mz_pg 49 66 = some (.ifCond .ne 21, 0, 0, 0) := by decide +kernel
theorem gz_49_69 : mz_pg 49 69 = some (.aload_n 0, 0, 0, 0) := by decide +kernel
theorem gz_49_70 : mz_pg 49 70 = some (.getfield 12, 5, 2, 283) := by decide +kernel
theorem gz_49_73 : mz_pg 49 73 = some (.getfield 108, 4, 9, 220) := by decide +kernel
theorem gz_49_76 : mz_pg 49 76 = some (.bipush 6, 0, 0, 0) := by decide +kernel
theorem gz_49_78 : mz_pg 49 78 = some (.if_icmp .lt 9, 0, 0, 0) := by decide +kernel
theorem gz_49_81 : mz_pg 49 81 = some (.aload_n 0, 0, 0, 0) := by decide +kernel
theorem gz_49_82 : mz_pg 49 82 = some (.iconst 5, 0, 0, 0) := by decide +kernel
theorem gz_49_83 : mz_pg 49 83 = some (.invokevirtual 91, 1, 42, 731) := by decide +kernel
theorem gz_49_86 : mz_pg 49 86 = some (.return_, 0, 0, 0) := by decide +kernel
theorem gz_49_87 : mz_pg 49 87 = some (.aload_n 0, 0, 0, 0) := by decide +kernel
theorem gz_49_88 : mz_pg 49 88 = some (.invokevirtual 40, 1, 37, 673) := by decide +kernel
theorem gz_49_91 : mz_pg 49 91 = some (.iload_n 1, 0, 0, 0) := by decide +kernel
theorem gz_49_92 : mz_pg 49 92 = some (.ifCond .eq 10, 0, 0, 0) := by decide +kernel
theorem gz_49_95 : mz_pg 49 95 = some (.aload_n 0, 0, 0, 0) := by decide +kernel
theorem gz_49_96 : mz_pg 49 96 = some (.invokevirtual 111, 1, 50, 759) := by decide +kernel
theorem gz_49_99 : mz_pg 49 99 = some (.goto 41, 0, 0, 0) := by decide +kernel
theorem gz_49_102 : mz_pg 49 102 = some (.iload_n 2, 0, 0, 0) := by decide +kernel
theorem gz_49_103 : mz_pg 49 103 = some (.ifCond .eq 10, 0, 0, 0) := by decide +kernel
theorem gz_49_106 : mz_pg 49 106 = some (.aload_n 0, 0, 0, 0) := by decide +kernel
theorem gz_49_107 : mz_pg 49 107 = some (.invokevirtual 114, 1, 52, 765) := by decide +kernel
theorem gz_49_110 : mz_pg 49 110 = some (.goto 30, 0, 0, 0) := by decide +kernel
theorem gz_49_113 : mz_pg 49 113 = some (.iload_n 3, 0, 0, 0) := by decide +kernel
theorem gz_49_114 : mz_pg 49 114 = some (.ifCond .eq 10, 0, 0, 0) := by decide +kernel
theorem gz_49_117 : mz_pg 49 117 = some (.aload_n 0, 0, 0, 0) := by decide +kernel
theorem gz_49_118 : mz_pg 49 118 = some (.invokevirtual 117, 1, 56, 778) := by decide +kernel
theorem gz_49_121 : mz_pg 49 121 = some (.goto 19, 0, 0, 0) := by decide +kernel
theorem gz_49_124 : mz_pg 49 124 = some (.iload 4, 0, 0, 0) := by decide +kernel
theorem gz_49_126 : mz_pg 49 126 = some (.ifCond .eq 10, 0, 0, 0) := by decide +kernel
theorem gz_49_129 : mz_pg 49 129 = some (.aload_n 0, 0, 0, 0) := by decide +kernel
theorem gz_49_130 : mz_pg 49 130 = some (.invokevirtual 120, 1, 60, 793) := by decide +kernel
theorem gz_49_133 : mz_pg 49 133 = some (.goto 7, 0, 0, 0) := by decide +kernel
theorem gz_49_136 : mz_pg 49 136 = some (.aload_n 0, 0, 0, 0) := by decide +kernel
theorem gz_49_137 : mz_pg 49 137 = some (.invokevirtual 123, 1, 62, 800) := by decide +kernel
theorem gz_49_140 : mz_pg 49 140 = some (.return_, 0, 0, 0) := by decide +kernel
theorem gz_50_0 : mz_pg 50 0 = some (.aload_n 0, 0, 0, 0) := by decide +kernel
theorem gz_50_1 : mz_pg 50 1 = some (.aload_n 0, 0, 0, 0) := by decide +kernel
theorem gz_50_2 : mz_pg 50 2 = some (.getfield 12, 5, 2, 283) := by decide +kernel
theorem gz_50_5 : mz_pg 50 5 = some (.getfield 126, 4, 3, 206) := by decide +kernel
theorem gz_50_8 : mz_pg 50 8 = some (.invokevirtual 129, 1, 51, 762) := by decide +kernel
theorem gz_50_11 : mz_pg 50 11 = some (.istore_n 1, 0, 0, 0) := by decide +kernel
theorem gz_50_12 : mz_pg 50 12 = some (.aload_n 0, 0, 0, 0) := by decide +kernel
theorem gz_50_13 : mz_pg 50 13 = some (.bipush 20, 0, 0, 0) := by decide +kernel
theorem gz_50_15 : mz_pg 50 15 = some (.invokevirtual 129, 1, 51, 762) := by decide +kernel
theorem gz_50_18 : mz_pg 50 18 = some (.istore_n 2, 0, 0, 0) := by decide +kernel
theorem gz_50_19 : mz_pg 50 19 = some (.aload_n 0, 0, 0, 0) := by decide +kernel
theorem gz_50_20 : mz_pg 50 20 = some (.getfield 37, 5, 9, 291) := by decide +kernel
theorem gz_50_23 : mz_pg 50 23 = some (.ifCond .ne 20, 0, 0, 0) := by decide +kernel
theorem gz_50_26 : mz_pg 50 26 = some (.aload_n 0, 0, 0, 0) := by decide +kernel
theorem gz_50_27 : mz_pg 50 27 = some (.invokevirtual 132, 1, 47, 748) := by decide +kernel
theorem gz_50_30 : mz_pg 50 30 = some (.ifCond .eq 13, 0, 0, 0) := by decide +kernel
theorem gz_50_33 : mz_pg 50 33 = some (.aload_n 0, 0, 0, 0) := by decide +kernel
theorem gz_50_34 : mz_pg 50 34 = some (.getfield 12, 5, 2, 283) := by decide +kernel
theorem gz_50_37 : mz_pg 50 37 = some (.getfield 136, 4, 16, 234) := by decide +kernel
theorem gz_50_40 : mz_pg 50 40 = some (.iload_n 1, 0, 0, 0) := by decide +kernel
theorem gz_50_41 : mz_pg 50 41 = some (.iload_n 2, 0, 0, 0) := by decide +kernel
theorem gz_50_42 : mz_pg 50 42 = some (.iastore, 0, 0, 0) := by decide +kernel
theorem gz_50_43 : mz_pg 50 43 = some (.return_, 0, 0, 0) := by decide +kernel
theorem gz_51_0 : mz_pg 51 0 = some (.aload_n 0, 0, 0, 0) := by decide +kernel
theorem gz_51_1 : mz_pg 51 1 = some (.iload_n 1, 0, 0, 0) := by decide +kernel
theorem gz_51_2 : mz_pg 51 2 = some (.invokevirtual 87, 1, 44, 737) := by decide +kernel
theorem gz_51_5 : mz_pg 51 5 = some (.istore_n 2, 0, 0, 0) := by decide +kernel
theorem gz_51_6 : mz_pg 51 6 = some (.iload_n 2, 0, 0, 0) := by decide +kernel
theorem gz_51_7 : mz_pg 51 7 = some (.iconst (-1), 0, 0, 0) := by decide +kernel
theorem gz_51_8 : mz_pg 51 8 = some (.if_icmp .eq 7, 0, 0, 0) := by decide +kernel
theorem gz_51_11 : mz_pg 51 11 = some (.aload_n 0, 0, 0, 0) := by decide +kernel
theorem gz_51_12 : mz_pg 51 12 = some (.invokevirtual 40, 1, 37, 673) := by decide +kernel
theorem gz_51_15 : mz_pg 51 15 = some (.iload_n 2, 0, 0, 0) := by decide +kernel
theorem gz_51_16 : mz_pg 51 16 = some (.ireturn, 0, 0, 0) := by decide +kernel
theorem gz_52_0 : mz_pg 52 0 = some (.aload_n 0, 0, 0, 0) := by decide +kernel
theorem gz_52_1 : mz_pg 52 1 = some (.aload_n 0, 0, 0, 0) := by decide +kernel
theorem gz_52_2 : mz_pg 52 2 = some (.getfield 12, 5, 2, 283) := by decide +kernel
theorem gz_52_5 : mz_pg 52 5 = some (.getfield 138, 4, 4, 209) := by decide +kernel
theorem gz_52_8 : mz_pg 52 8 = some (.invokevirtual 129, 1, 51, 762) := by decide +kernel
theorem gz_52_11 : mz_pg 52 11 = some (.istore_n 1, 0, 0, 0) := by decide +kernel
theorem gz_52_12 : mz_pg 52 12 = some (.aload_n 0, 0, 0, 0) := by decide +kernel
theorem gz_52_13 : mz_pg 52 13 = some (.ldc 140, 9, 1, 0) := by decide +kernel
theorem gz_52_15 : mz_pg 52 15 = some (.invokevirtual 65, 1, 41, 685) := by decide +kernel
theorem gz_52_18 : mz_pg 52 18 = some (.ifCond .eq 7, 0, 0, 0) := by decide +kernel
theorem gz_52_21 : mz_pg 52 21 = some (.iconst 0, 0, 0, 0) := by decide +kernel
theorem gz_52_22 : mz_pg 52 22 = some (.goto 30, 0, 0, 0) := by decide +kernel
theorem gz_52_25 : mz_pg 52 25 = some (.aload_n 0, 0, 0, 0) := by decide +kernel
theorem gz_52_26 : mz_pg 52 26 = some (.ldc 142, 10, 1, 0) := by decide +kernel
theorem gz_52_28 : mz_pg 52 28 = some (.invokevirtual 65, 1, 41, 685) := by decide +kernel
theorem gz_52_31 : mz_pg 52 31 = some (.ifCond .eq 7, 0, 0, 0) := by decide +kernel
theorem gz_52_34 : mz_pg 52 34 = some (.iconst 1, 0, 0, 0) := by decide +kernel
theorem gz_52_35 : mz_pg 52 35 = some (.goto 17, 0, 0, 0) := by decide +kernel
theorem gz_52_38 : mz_pg 52 38 = some (.aload_n 0, 0, 0, 0) := by decide +kernel
theorem gz_52_39 : mz_pg 52 39 = some (.ldc 144, 11, 1, 0) := by decide +kernel
theorem gz_52_41 : mz_pg 52 41 = some (.invokevirtual 65, 1, 41, 685) := by decide +kernel
theorem gz_52_44 : mz_pg 52 44 = some (.ifCond .eq 7, 0, 0, 0) := by decide +kernel
theorem gz_52_47 : mz_pg 52 47 = some (.iconst 2, 0, 0, 0) := by decide +kernel
theorem gz_52_48 : mz_pg 52 48 = some (.goto 4, 0, 0, 0) := by decide +kernel
theorem gz_52_51 : mz_pg 52 51 = some (.iconst (-1), 0, 0, 0) := by decide +kernel
theorem gz_52_52 : mz_pg 52 52 = some (.istore_n 2, 0, 0, 0) := by decide +kernel
theorem gz_52_53 : mz_pg 52 53 = some (.iload_n 2, 0, 0, 0) := by decide +kernel
theorem gz_52_54 : mz_pg 52 54 = some (.iconst (-1), 0, 0, 0) := by decide +kernel
theorem gz_52_55 : mz_pg 52 55 = some (.if_icmp .ne 11, 0, 0, 0) := by decide +kernel
theorem gz_52_58 : mz_pg 52 58 = some (.aload_n 0, 0, 0, 0) := by decide +kernel
theorem gz_52_59 : mz_pg 52 59 = some (.iconst 1, 0, 0, 0) := by decide +kernel
theorem gz_52_60 : mz_pg 52 60 = some (.invokevirtual 91, 1, 42, 731) := by decide +kernel
theorem gz_52_63 : mz_pg 52 63 = some (.goto 7, 0, 0, 0) := by decide +kernel
theorem gz_52_66 : mz_pg 52 66 = some (.aload_n 0, 0, 0, 0) := by decide +kernel
theorem gz_52_67 : mz_pg 52 67 = some (.invokevirtual 40, 1, 37, 673) := by decide +kernel
theorem gz_52_70 : mz_pg 52 70 = some (.aload_n 0, 0, 0, 0) := by decide +kernel
theorem gz_52_71 : mz_pg 52 71 = some (.sipush 200, 0, 0, 0) := by decide +kernel
theorem gz_52_74 : mz_pg 52 74 = some (.invokevirtual 129, 1, 51, 762) := by decide +kernel
theorem gz_52_77 : mz_pg 52 77 = some (.istore_n 3, 0, 0, 0) := by decide +kernel
theorem gz_52_78 : mz_pg 52 78 = some (.aload_n 0, 0, 0, 0) := by decide +kernel
theorem gz_52_79 : mz_pg 52 79 = some (.getfield 37, 5, 9, 291) := by decide +kernel
theorem gz_52_82 : mz_pg 52 82 = some (.ifCond .ne 20, 0, 0, 0) := by decide +kernel
theorem gz_52_85 : mz_pg 52 85 = some (.aload_n 0, 0, 0, 0) := by decide +kernel
theorem gz_52_86 : mz_pg 52 86 = some (.invokevirtual 132, 1, 47, 748) := by decide +kernel
theorem gz_52_89 : mz_pg 52 89 = some (.ifCond .eq 13, 0, 0, 0) := by decide +kernel
theorem gz_52_92 : mz_pg 52 92 = some (.aload_n 0, 0, 0, 0) := by decide +kernel
theorem gz_52_93 : mz_pg 52 93 = some (.getfield 12, 5, 2, 283) := by decide +kernel
theorem gz_52_96 : mz_pg 52 96 = some (.iload_n 2, 0, 0, 0) := by decide +kernel
theorem gz_52_97 : mz_pg 52 97 = some (.iload_n 1, 0, 0, 0) := by decide +kernel
theorem gz_52_98 : mz_pg 52 98 = some (.iload_n 3, 0, 0, 0) := by decide +kernel
theorem gz_52_99 : mz_pg 52 99 = some (.invokevirtual 146, 1, 53, 768) := by decide +kernel
theorem gz_52_102 : mz_pg 52 102 = some (.return_, 0, 0, 0) := by decide +kernel
theorem gz_53_0 : mz_pg 53 0 = some (.aload_n 0, 0, 0, 0) := by decide +kernel
theorem gz_53_1 : mz_pg 53 1 = some (.iload_n 2, 0, 0, 0) := by decide +kernel
theorem gz_53_2 : mz_pg 53 2 = some (.invokevirtual 75, 1, 54, 772) := by decide +kernel
theorem gz_53_5 : mz_pg 53 5 = some (.aload_n 0, 0, 0, 0) := by decide +kernel
theorem gz_53_6 : mz_pg 53 6 = some (.iload_n 1, 0, 0, 0) := by decide +kernel
theorem gz_53_7 : mz_pg 53 7 = some (.iload_n 2, 0, 0, 0) := by decide +kernel
theorem gz_53_8 : mz_pg 53 8 = some (.iload_n 3, 0, 0, 0) := by decide +kernel
theorem gz_53_9 : mz_pg 53 9 = some (.iconst 0, 0, 0, 0) := by decide +kernel
theorem gz_53_10 : mz_pg 53 10 = some (.invokevirtual 79, 1, 55, 775) := by decide +kernel
theorem gz_53_13 : mz_pg 53 13 = some (.return_, 0, 0, 0) := by decide +kernel
theorem gz_54_0 : mz_pg 54 0 = some (.aload_n 0, 0, 0, 0) := by decide +kernel
theorem gz_54_1 : mz_pg 54 1 = some (.getfield 27, 4, 15, 232) := by decide +kernel
theorem gz_54_4 : mz_pg 54 4 = some (.iload_n 1, 0, 0, 0) := by decide +kernel
theorem gz_54_5 : mz_pg 54 5 = some (.iaload, 0, 0, 0) := by decide +kernel
theorem gz_54_6 : mz_pg 54 6 = some (.iconst (-1), 0, 0, 0) := by decide +kernel
theorem gz_54_7 : mz_pg 54 7 = some (.if_icmp .eq 23, 0, 0, 0) := by decide +kernel
theorem gz_54_10 : mz_pg 54 10 = some (.aload_n 0, 0, 0, 0) := by decide +kernel
theorem gz_54_11 : mz_pg 54 11 = some (.dup, 0, 0, 0) := by decide +kernel
theorem gz_54_12 : mz_pg 54 12 = some (.getfield 59, 4, 8, 218) := by decide +kernel
theorem gz_54_15 : mz_pg 54 15 = some (.iconst 1, 0, 0, 0) := by decide +kernel
theorem gz_54_16 : mz_pg 54 16 = some (.aload_n 0, 0, 0, 0) := by decide +kernel
theorem gz_54_17 : mz_pg 54 17 = some (.getfield 27, 4, 15, 232) := by decide +kernel
theorem gz_54_20 : mz_pg 54 20 = some (.iload_n 1, 0, 0, 0) := by decide +kernel
theorem gz_54_21 : mz_pg 54 21 = some (.iaload, 0, 0, 0) := by decide +kernel
theorem gz_54_22 : mz_pg 54 22 = some (.bipush 16, 0, 0, 0) := by decide +kernel
theorem gz_54_24 : mz_pg 54 24 = some (.irem, 0, 0, 0) := by decide +kernel
theorem gz_54_25 : mz_pg 54 25 = some (.ishl, 0, 0, 0) := by decide +kernel
theorem gz_54_26 : mz_pg 54 26 = some (.ior, 0, 0, 0) := by decide +kernel
theorem gz_54_27 : mz_pg 54 27 = some (.putfield 59, 4, 8, 218) := by decide +kernel
theorem gz_54_30 : mz_pg 54 30 = some (.return_, 0, 0, 0) := by decide +kernel
theorem gz_55_0 : mz_pg 55 0 = some (.aload_n 0, 0, 0, 0) := by decide +kernel
theorem gz_55_1 : mz_pg 55 1 = some (.getfield 9, 4, 10, 222) := by decide +kernel
theorem gz_55_4 : mz_pg 55 4 = some (.aload_n 0, 0, 0, 0) := by decide +kernel
theorem gz_55_5 : mz_pg 55 5 = some (.getfield 62, 4, 9, 219) := by decide +kernel
theorem gz_55_8 : mz_pg 55 8 = some (.iload_n 1, 0, 0, 0) := by decide +kernel
theorem gz_55_9 : mz_pg 55 9 = some (.iastore, 0, 0, 0) := by decide +kernel
theorem gz_55_10 : mz_pg 55 10 = some (.aload_n 0, 0, 0, 0) := by decide +kernel
theorem gz_55_11 : mz_pg 55 11 = some (.getfield 15, 4, 11, 224) := by decide +kernel
theorem gz_55_14 : mz_pg 55 14 = some (.aload_n 0, 0, 0, 0) := by decide +kernel
theorem gz_55_15 : mz_pg 55 15 = some (.getfield 62, 4, 9, 219) := by decide +kernel
theorem gz_55_18 : mz_pg 55 18 = some (.iload_n 2, 0, 0, 0) := by decide +kernel
theorem gz_55_19 : mz_pg 55 19 = some (.iastore, 0, 0, 0) := by decide +kernel
theorem gz_55_20 : mz_pg 55 20 = some (.aload_n 0, 0, 0, 0) := by decide +kernel
theorem gz_55_21 : mz_pg 55 21 = some (.getfield 18, 4, 12, 226) := by decide +kernel
theorem gz_55_24 : mz_pg 55 24 = some (.aload_n 0, 0, 0, 0) := by decide +kernel
theorem gz_55_25 : mz_pg 55 25 = some (.getfield 62, 4, 9, 219) := by decide +kernel
theorem gz_55_28 : mz_pg 55 28 = some (.iload_n 3, 0, 0, 0) := by decide +kernel
theorem gz_55_29 : mz_pg 55 29 = some (.iastore, 0, 0, 0) := by decide +kernel
theorem gz_55_30 : mz_pg 55 30 = some (.aload_n 0, 0, 0, 0) := by decide +kernel
theorem gz_55_31 : mz_pg 55 31 = some (.getfield 21, 4, 13, 228) := by decide +kernel
theorem gz_55_34 : mz_pg 55 34 = some (.aload_n 0, 0, 0, 0) := by decide +kernel
theorem gz_55_35 : mz_pg 55 35 = some (.getfield 62, 4, 9, 219) := by decide +kernel
theorem gz_55_38 : mz_pg 55 38 = some (.iload 4, 0, 0, 0) := by decide +kernel
theorem gz_55_40 : mz_pg 55 40 = some (.iastore, 0, 0, 0) := by decide +kernel
theorem gz_55_41 : mz_pg 55 41 = some (.aload_n 0, 0, 0, 0) := by decide +kernel
theorem gz_55_42 : mz_pg 55 42 = some (.dup, 0, 0, 0) := by decide +kernel
theorem gz_55_43 : mz_pg 55 43 = some (.getfield 62, 4, 9, 219) := by decide +kernel
theorem gz_55_46 : mz_pg 55 46 = some (.iconst 1, 0, 0, 0) := by decide +kernel
theorem gz_55_47 : mz_pg 55 47 = some (.iadd, 0, 0, 0) := by decide +kernel
theorem gz_55_48 : mz_pg 55 48 = some (.putfield 62, 4, 9, 219) := by decide +kernel
theorem gz_55_51 : mz_pg 55 51 = some (.aload_n 0, 0, 0, 0) := by decide +kernel
theorem gz_55_52 : mz_pg 55 52 = some (.dup, 0, 0, 0) := by decide +kernel
theorem gz_55_53 : mz_pg 55 53 = some (.getfield 49, 4, 5, 211) := by decide +kernel
theorem gz_55_56 : mz_pg 55 56 = some (.iconst 1, 0, 0, 0) := by decide +kernel
theorem gz_55_57 : mz_pg 55 57 = some (.iadd, 0, 0, 0) := by decide +kernel
theorem gz_55_58 : mz_pg 55 58 = some (.putfield 49, 4, 5, 211) := by decide +kernel
theorem gz_55_61 : mz_pg 55 61 = some (.return_, 0, 0, 0) := by decide +kernel
theorem gz_56_0 : mz_pg 56 0 = some (.iconst 0, 0, 0, 0) := by decide +kernel
theorem gz_56_1 : mz_pg 56 1 = some (.istore_n 1, 0, 0, 0) := by decide +kernel
theorem gz_56_2 : mz_pg 56 2 = some (.aload_n 0, 0, 0, 0) := by decide +kernel
theorem gz_56_3 : mz_pg 56 3 = some (.aload_n 0, 0, 0, 0) := by decide +kernel
theorem gz_56_4 : mz_pg 56 4 = some (.getfield 12, 5, 2, 283) := by decide +kernel
theorem gz_56_7 : mz_pg 56 7 = some (.getfield 138, 4, 4, 209) := by decide +kernel
theorem gz_56_10 : mz_pg 56 10 = some (.invokevirtual 87, 1, 44, 737) := by decide +kernel
theorem gz_56_13 : mz_pg 56 13 = some (.istore_n 2, 0, 0, 0) := by decide +kernel
theorem gz_56_14 : mz_pg 56 14 = some (.iload_n 2, 0, 0, 0) := by decide +kernel
theorem gz_56_15 : mz_pg 56 15 = some (.iconst (-1), 0, 0, 0) := by decide +kernel
theorem gz_56_16 : mz_pg 56 16 = some (.if_icmp .ne 4, 0, 0, 0) := by decide +kernel
theorem gz_56_19 : mz_pg 56 19 = some (.return_, 0, 0, 0) := by decide +kernel
theorem gz_56_20 : mz_pg 56 20 = some (.aload_n 0, 0, 0, 0) := by decide +kernel
theorem gz_56_21 : mz_pg 56 21 = some (.getfield 12, 5, 2, 283) := by decide +kernel
theorem gz_56_24 : mz_pg 56 24 = some (.iload_n 2, 0, 0, 0) := by decide +kernel
theorem gz_56_25 : mz_pg 56 25 = some (.iload_n 1, 0, 0, 0) := by decide +kernel
theorem gz_56_26 : mz_pg 56 26 = some (.invokevirtual 150, 1, 57, 781) := by decide +kernel
theorem gz_56_29 : mz_pg 56 29 = some (.ifCond .eq 9, 0, 0, 0) := by decide +kernel
theorem gz_56_32 : mz_pg 56 32 = some (.aload_n 0, 0, 0, 0) := by decide +kernel
theorem gz_56_33 : mz_pg 56 33 = some (.iconst 3, 0, 0, 0) := by decide +kernel
theorem gz_56_34 : mz_pg 56 34 = some (.invokevirtual 91, 1, 42, 731) := by decide +kernel
theorem gz_56_37 : mz_pg 56 37 = some (.return_, 0, 0, 0) := by decide +kernel
theorem gz_56_38 : mz_pg 56 38 = some (.aload_n 0, 0, 0, 0) := by decide +kernel
theorem gz_56_39 : mz_pg 56 39 = some (.getfield 12, 5, 2, 283) := by decide +kernel
theorem gz_56_42 : mz_pg 56 42 = some (.iload_n 1, 0, 0, 0) := by decide +kernel
theorem gz_56_43 : mz_pg 56 43 = some (.iinc 1 1, 0, 0, 0) := by decide +kernel
theorem gz_56_46 : mz_pg 56 46 = some (.iload_n 2, 0, 0, 0) := by decide +kernel
theorem gz_56_47 : mz_pg 56 47 = some (.invokevirtual 154, 1, 58, 785) := by decide +kernel
theorem gz_56_50 : mz_pg 56 50 = some (.aload_n 0, 0, 0, 0) := by decide +kernel
theorem gz_56_51 : mz_pg 56 51 = some (.invokevirtual 40, 1, 37, 673) := by decide +kernel
theorem gz_56_54 : mz_pg 56 54 = some (.aload_n 0, 0, 0, 0) := by decide +kernel
theorem gz_56_55 : mz_pg 56 55 = some (.getfield 47, 5, 6, 288) := by decide +kernel
theorem gz_56_58 : mz_pg 56 58 = some (.iconst 3, 0, 0, 0) := by decide +kernel
theorem gz_56_59 : mz_pg 56 59 = some (.if_icmp .eq 9, 0, 0, 0) := by decide +kernel
theorem gz_56_62 : mz_pg 56 62 = some (.iload_n 1, 0, 0, 0) := by decide +kernel
theorem gz_56_63 : mz_pg 56 63 = some (.bipush 8, 0, 0, 0) := by decide +kernel
theorem gz_56_65 : mz_pg 56 65 = some (.if_icmp .le (-63), 0, 0, 0) := by decide +kernel
theorem gz_56_68 : mz_pg 56 68 = some (.aload_n 0, 0, 0, 0) := by decide +kernel
theorem gz_56_69 : mz_pg 56 69 = some (.invokevirtual 40, 1, 37, 673) := by decide +kernel
theorem gz_56_72 : mz_pg 56 72 = some (.aload_n 0, 0, 0, 0) := by decide +kernel
theorem gz_56_73 : mz_pg 56 73 = some (.getfield 12, 5, 2, 283) := by decide +kernel
theorem gz_56_76 : mz_pg 56 76 = some (.iload_n 1, 0, 0, 0) := by decide +kernel
theorem gz_56_77 : mz_pg 56 77 = some (.invokevirtual 157, 1, 59, 789) := by decide +kernel
theorem gz_56_80 : mz_pg 56 80 = some (.return_, 0, 0, 0) := by decide +kernel
theorem gz_57_0 : mz_pg 57 0 = some (.iconst 0, 0, 0, 0) := by decide +kernel
theorem gz_57_1 : mz_pg 57 1 = some (.istore_n 3, 0, 0, 0) := by decide +kernel
theorem gz_57_2 : mz_pg 57 2 = some (.iload_n 3, 0, 0, 0) := by decide +kernel
theorem gz_57_3 : mz_pg 57 3 = some (.iload_n 2, 0, 0, 0) := by decide +kernel
theorem gz_57_4 : mz_pg 57 4 = some (.if_icmp .ge 29, 0, 0, 0) := by decide +kernel
theorem gz_57_7 : mz_pg 57 7 = some (.aload_n 0, 0, 0, 0) := by decide +kernel
theorem gz_57_8 : mz_pg 57 8 = some (.getfield 24, 4, 14, 230) := by decide +kernel
theorem gz_57_11 : mz_pg 57 11 = some (.aload_n 0, 0, 0, 0) := by decide +kernel
theorem gz_57_12 : mz_pg 57 12 = some (.getfield 62, 4, 9, 219) := by decide +kernel
theorem gz_57_15 : mz_pg 57 15 = some (.bipush 8, 0, 0, 0) := by decide +kernel
theorem gz_57_17 : mz_pg 57 17 = some (.imul, 0, 0, 0) := by decide +kernel
theorem gz_57_18 : mz_pg 57 18 = some (.iload_n 3, 0, 0, 0) := by decide +kernel
theorem gz_57_19 : mz_pg 57 19 = some (.iadd, 0, 0, 0) := by decide +kernel
theorem gz_57_20 : mz_pg 57 20 = some (.iaload, 0, 0, 0) := by decide +kernel
theorem gz_57_21 : mz_pg 57 21 = some (.iload_n 1, 0, 0, 0) := by decide +kernel
theorem gz_57_22 : mz_pg 57 22 = some (.if_icmp .ne 5, 0, 0, 0) := by decide +kernel
theorem gz_57_25 : mz_pg 57 25 = some (.iconst 1, 0, 0, 0) := by decide +kernel
theorem gz_57_26 : mz_pg 57 26 = some (.ireturn, 0, 0, 0) := by decide +kernel
theorem gz_57_27 : mz_pg 57 27 = some (.iinc 3 1, 0, 0, 0) := by decide +kernel
theorem gz_57_30 : mz_pg 57 30 = some (.goto (-28), 0, 0, 0) := by decide +kernel
theorem gz_57_33 : mz_pg 57 33 = some (.iconst 0, 0, 0, 0) := by decide +kernel
theorem gz_57_34 : mz_pg 57 34 = some (.ireturn, 0, 0, 0) := by decide +kernel
theorem gz_58_0 : mz_pg 58 0 = some (.aload_n 0, 0, 0, 0) := by decide +kernel
theorem gz_58_1 : mz_pg 58 1 = some (.getfield 24, 4, 14, 230) := by decide +kernel
theorem gz_58_4 : mz_pg 58 4 = some (.aload_n 0, 0, 0, 0) := by decide +kernel
theorem gz_58_5 : mz_pg 58 5 = some (.getfield 62, 4, 9, 219) := by decide +kernel
theorem gz_58_8 : mz_pg 58 8 = some (.bipush 8, 0, 0, 0) := by decide +kernel
theorem gz_58_10 : mz_pg 58 10 = some (.imul, 0, 0, 0) := by decide +kernel
theorem gz_58_11 : mz_pg 58 11 = some (.iload_n 1, 0, 0, 0) := by decide +kernel
theorem gz_58_12 : mz_pg 58 12 = some (.iadd, 0, 0, 0) := by decide +kernel
theorem gz_58_13 : mz_pg 58 13 = some (.iload_n 2, 0, 0, 0) := by decide +kernel
theorem gz_58_14 : mz_pg 58 14 = some (.iastore, 0, 0, 0) := by decide +kernel
theorem gz_58_15 : mz_pg 58 15 = some (.return_, 0, 0, 0) := by decide +kernel
theorem gz_59_0 : mz_pg 59 0 = some (.aload_n 0, 0, 0, 0) := by decide +kernel
theorem gz_59_1 : mz_pg 59 1 = some (.getfield 27, 4, 15, 232) := by decide +kernel
theorem gz_59_4 : mz_pg 59 4 = some (.iconst 0, 0, 0, 0) := by decide +kernel
theorem gz_59_5 : mz_pg 59 5 = some (.aload_n 0, 0, 0, 0) := by decide +kernel
theorem gz_59_6 : mz_pg 59 6 = some (.getfield 33, 4, 17, 236) := by decide +kernel
theorem gz_59_9 : mz_pg 59 9 = some (.iconst 0, 0, 0, 0) := by decide +kernel
theorem gz_59_10 : mz_pg 59 10 = some (.bipush 8, 0, 0, 0) := by decide +kernel
theorem gz_59_12 : mz_pg 59 12 = some (.invokestatic 69, 0, 0, 755) := by decide +kernel
theorem gz_59_15 : mz_pg 59 15 = some (.iconst 0, 0, 0, 0) := by decide +kernel
theorem gz_59_16 : mz_pg 59 16 = some (.istore_n 2, 0, 0, 0) := by decide +kernel
theorem gz_59_17 : mz_pg 59 17 = some (.iload_n 2, 0, 0, 0) := by decide +kernel
theorem gz_59_18 : mz_pg 59 18 = some (.iload_n 1, 0, 0, 0) := by decide +kernel
theorem gz_59_19 : mz_pg 59 19 = some (.if_icmp .ge 34, 0, 0, 0) := by decide +kernel
theorem gz_59_22 : mz_pg 59 22 = some (.aload_n 0, 0, 0, 0) := by decide +kernel
theorem gz_59_23 : mz_pg 59 23 = some (.getfield 27, 4, 15, 232) := by decide +kernel
theorem gz_59_26 : mz_pg 59 26 = some (.iload_n 2, 0, 0, 0) := by decide +kernel
theorem gz_59_27 : mz_pg 59 27 = some (.aload_n 0, 0, 0, 0) := by decide +kernel
theorem gz_59_28 : mz_pg 59 28 = some (.getfield 33, 4, 17, 236) := by decide +kernel
theorem gz_59_31 : mz_pg 59 31 = some (.aload_n 0, 0, 0, 0) := by decide +kernel
theorem gz_59_32 : mz_pg 59 32 = some (.getfield 24, 4, 14, 230) := by decide +kernel
theorem gz_59_35 : mz_pg 59 35 = some (.aload_n 0, 0, 0, 0) := by decide +kernel
theorem gz_59_36 : mz_pg 59 36 = some (.getfield 62, 4, 9, 219) := by decide +kernel
theorem gz_59_39 : mz_pg 59 39 = some (.bipush 8, 0, 0, 0) := by decide +kernel
theorem gz_59_41 : mz_pg 59 41 = some (.imul, 0, 0, 0) := by decide +kernel
theorem gz_59_42 : mz_pg 59 42 = some (.iload_n 2, 0, 0, 0) := by decide +kernel
theorem gz_59_43 : mz_pg 59 43 = some (.iadd, 0, 0, 0) := by decide +kernel
theorem gz_59_44 : mz_pg 59 44 = some (.iaload, 0, 0, 0) := by decide +kernel
theorem gz_59_45 : mz_pg 59 45 = some (.iaload, 0, 0, 0) := by decide +kernel
theorem gz_59_46 : mz_pg 59 46 = some (.iastore, 0, 0, 0) := by decide +kernel
theorem gz_59_47 : mz_pg 59 47 = some (.iinc 2 1, 0, 0, 0) := by decide +kernel
theorem gz_59_50 : mz_pg 59 50 = some (.goto (-33), 0, 0, 0) := by decide +kernel
theorem gz_59_53 : mz_pg 59 53 = some (.aload_n 0, 0, 0, 0) := by decide +kernel
theorem gz_59_54 : mz_pg 59 54 = some (.iload_n 1, 0, 0, 0) := by decide +kernel
theorem gz_59_55 : mz_pg 59 55 = some (.putfield 46, 4, 4, 208) := by decide +kernel
theorem gz_59_58 : mz_pg 59 58 = some (.aload_n 0, 0, 0, 0) := by decide +kernel
theorem gz_59_59 : mz_pg 59 59 = some (.iconst 3, 0, 0, 0) := by decide +kernel
theorem gz_59_60 : mz_pg 59 60 = some (.iconst 0, 0, 0, 0) := by decide +kernel
theorem gz_59_61 : mz_pg 59 61 = some (.iconst 0, 0, 0, 0) := by decide +kernel
theorem gz_59_62 : mz_pg 59 62 = some (.iload_n 1, 0, 0, 0) := by decide +kernel
theorem gz_59_63 : mz_pg 59 63 = some (.invokevirtual 79, 1, 55, 775) := by decide +kernel
theorem gz_59_66 : mz_pg 59 66 = some (.return_, 0, 0, 0) := by decide +kernel
theorem gz_60_0 : mz_pg 60 0 = some (.aload_n 0, 0, 0, 0) := by decide +kernel
theorem gz_60_1 : mz_pg 60 1 = some (.invokevirtual 68, 1, 43, 734) := by decide +kernel
theorem gz_60_4 : mz_pg 60 4 = some (.istore_n 1, 0, 0, 0) := by decide +kernel
theorem gz_60_5 : mz_pg 60 5 = some (.iload_n 1, 0, 0, 0) := by decide +kernel
theorem gz_60_6 : mz_pg 60 6 = some (.iconst (-1), 0, 0, 0) := by decide +kernel
theorem gz_60_7 : mz_pg 60 7 = some (.if_icmp .ne 4, 0, 0, 0) := by decide +kernel
theorem gz_60_10 : mz_pg 60 10 = some (.return_, 0, 0, 0) := by decide +kernel
theorem gz_60_11 : mz_pg 60 11 = some (.aload_n 0, 0, 0, 0) := by decide +kernel
theorem gz_60_12 : mz_pg 60 12 = some (.getfield 22, 5, 0, 281) := by decide +kernel
theorem gz_60_15 : mz_pg 60 15 = some (.getfield 72, 3, 0, 147) := by decide +kernel
theorem gz_60_18 : mz_pg 60 18 = some (.iload_n 1, 0, 0, 0) := by decide +kernel
theorem gz_60_19 : mz_pg 60 19 = some (.iaload, 0, 0, 0) := by decide +kernel
theorem gz_60_20 : mz_pg 60 20 = some (.istore_n 2, 0, 0, 0) := by decide +kernel
theorem gz_60_21 : mz_pg 60 21 = some (.aload_n 0, 0, 0, 0) := by decide +kernel
theorem gz_60_22 : mz_pg 60 22 = some (.getfield 12, 5, 2, 283) := by decide +kernel
theorem gz_60_25 : mz_pg 60 25 = some (.getfield 138, 4, 4, 209) := by decide +kernel
theorem gz_60_28 : mz_pg 60 28 = some (.iload_n 2, 0, 0, 0) := by decide +kernel
theorem gz_60_29 : mz_pg 60 29 = some (.iadd, 0, 0, 0) := by decide +kernel
theorem gz_60_30 : mz_pg 60 30 = some (.iconst 1, 0, 0, 0) := by decide +kernel
theorem gz_60_31 : mz_pg 60 31 = some (.isub, 0, 0, 0) := by decide +kernel
theorem gz_60_32 : mz_pg 60 32 = some (.bipush 8, 0, 0, 0) := by decide +kernel
theorem gz_60_34 : mz_pg 60 34 = some (.if_icmp .le 9, 0, 0, 0) := by decide +kernel
theorem gz_60_37 : mz_pg 60 37 = some (.aload_n 0, 0, 0, 0) := by decide +kernel
theorem gz_60_38 : mz_pg 60 38 = some (.iconst 5, 0, 0, 0) := by decide +kernel
theorem gz_60_39 : mz_pg 60 39 = some (.invokevirtual 91, 1, 42, 731) := by decide +kernel
theorem gz_60_42 : mz_pg 60 42 = some (.return_, 0, 0, 0) := by decide +kernel
theorem gz_60_43 : mz_pg 60 43 = some (.aload_n 0, 0, 0, 0) := by decide +kernel
theorem gz_60_44 : mz_pg 60 44 = some (.invokevirtual 40, 1, 37, 673) := by decide +kernel
theorem gz_60_47 : mz_pg 60 47 = some (.aload_n 0, 0, 0, 0) := by decide +kernel
theorem gz_60_48 : mz_pg 60 48 = some (.ldc 160, 12, 1, 0) := by decide +kernel
theorem gz_60_50 : mz_pg 60 50 = some (.invokevirtual 59, 1, 40, 682) := by decide +kernel
theorem gz_60_53 : mz_pg 60 53 = some (.ifCond .ne 4, 0, 0, 0) := by decide +kernel
theorem gz_60_56 : mz_pg 60 56 = some (.return_, 0, 0, 0) := by decide +kernel
theorem gz_60_57 : mz_pg 60 57 = some (.aload_n 0, 0, 0, 0) := by decide +kernel
theorem gz_60_58 : mz_pg 60 58 = some (.aload_n 0, 0, 0, 0) := by decide +kernel
theorem gz_60_59 : mz_pg 60 59 = some (.getfield 12, 5, 2, 283) := by decide +kernel
theorem gz_60_62 : mz_pg 60 62 = some (.getfield 138, 4, 4, 209) := by decide +kernel
theorem gz_60_65 : mz_pg 60 65 = some (.invokevirtual 129, 1, 51, 762) := by decide +kernel
theorem gz_60_68 : mz_pg 60 68 = some (.istore_n 3, 0, 0, 0) := by decide +kernel
theorem gz_60_69 : mz_pg 60 69 = some (.aload_n 0, 0, 0, 0) := by decide +kernel
theorem gz_60_70 : mz_pg 60 70 = some (.getfield 37, 5, 9, 291) := by decide +kernel
theorem gz_60_73 : mz_pg 60 73 = some (.ifCond .ne 20, 0, 0, 0) := by decide +kernel
theorem gz_60_76 : mz_pg 60 76 = some (.aload_n 0, 0, 0, 0) := by decide +kernel
theorem gz_60_77 : mz_pg 60 77 = some (.invokevirtual 132, 1, 47, 748) := by decide +kernel
theorem gz_60_80 : mz_pg 60 80 = some (.ifCond .eq 13, 0, 0, 0) := by decide +kernel
theorem gz_60_83 : mz_pg 60 83 = some (.aload_n 0, 0, 0, 0) := by decide +kernel
theorem gz_60_84 : mz_pg 60 84 = some (.getfield 12, 5, 2, 283) := by decide +kernel
theorem gz_60_87 : mz_pg 60 87 = some (.iload_n 1, 0, 0, 0) := by decide +kernel
theorem gz_60_88 : mz_pg 60 88 = some (.iload_n 2, 0, 0, 0) := by decide +kernel
theorem gz_60_89 : mz_pg 60 89 = some (.iload_n 3, 0, 0, 0) := by decide +kernel
theorem gz_60_90 : mz_pg 60 90 = some (.invokevirtual 162, 1, 61, 796) := by decide +kernel
theorem gz_60_93 : mz_pg 60 93 = some (.return_, 0, 0, 0) := by decide +kernel
theorem gz_61_0 : mz_pg 61 0 = some (.aload_n 0, 0, 0, 0) := by decide +kernel
theorem gz_61_1 : mz_pg 61 1 = some (.iload_n 3, 0, 0, 0) := by decide +kernel
theorem gz_61_2 : mz_pg 61 2 = some (.invokevirtual 75, 1, 54, 772) := by decide +kernel
theorem gz_61_5 : mz_pg 61 5 = some (.iconst 1, 0, 0, 0) := by decide +kernel
theorem gz_61_6 : mz_pg 61 6 = some (.istore 4, 0, 0, 0) := by decide +kernel
theorem gz_61_8 : mz_pg 61 8 = some (.iload 4, 0, 0, 0) := by decide +kernel
theorem gz_61_10 : mz_pg 61 10 = some (.iload_n 2, 0, 0, 0) := by decide +kernel
theorem gz_61_11 : mz_pg 61 11 = some (.if_icmp .ge 32, 0, 0, 0) := by decide +kernel
theorem gz_61_14 : mz_pg 61 14 = some (.aload_n 0, 0, 0, 0) := by decide +kernel
theorem gz_61_15 : mz_pg 61 15 = some (.getfield 27, 4, 15, 232) := by decide +kernel
theorem gz_61_18 : mz_pg 61 18 = some (.aload_n 0, 0, 0, 0) := by decide +kernel
theorem gz_61_19 : mz_pg 61 19 = some (.getfield 46, 4, 4, 208) := by decide +kernel
theorem gz_61_22 : mz_pg 61 22 = some (.iload 4, 0, 0, 0) := by decide +kernel
theorem gz_61_24 : mz_pg 61 24 = some (.iadd, 0, 0, 0) := by decide +kernel
theorem gz_61_25 : mz_pg 61 25 = some (.iconst 1, 0, 0, 0) := by decide +kernel
theorem gz_61_26 : mz_pg 61 26 = some (.isub, 0, 0, 0) := by decide +kernel
theorem gz_61_27 : mz_pg 61 27 = some (.bipush 16, 0, 0, 0) := by decide +kernel
theorem gz_61_29 : mz_pg 61 29 = some (.iload_n 1, 0, 0, 0) := by decide +kernel
theorem gz_61_30 : mz_pg 61 30 = some (.iload 4, 0, 0, 0) := by decide +kernel
theorem gz_61_32 : mz_pg 61 32 = some (.invokestatic 65, 2, 29, 6) := by decide +kernel
theorem gz_61_35 : mz_pg 61 35 = some (.iadd, 0, 0, 0) := by decide +kernel
theorem gz_61_36 : mz_pg 61 36 = some (.iastore, 0, 0, 0) := by decide +kernel
theorem gz_61_37 : mz_pg 61 37 = some (.iinc 4 1, 0, 0, 0) := by decide +kernel
theorem gz_61_40 : mz_pg 61 40 = some (.goto (-32), 0, 0, 0) := by decide +kernel
theorem gz_61_43 : mz_pg 61 43 = some (.aload_n 0, 0, 0, 0) := by decide +kernel
theorem gz_61_44 : mz_pg 61 44 = some (.dup, 0, 0, 0) := by decide +kernel
theorem gz_61_45 : mz_pg 61 45 = some (.getfield 46, 4, 4, 208) := by decide +kernel
theorem gz_61_48 : mz_pg 61 48 = some (.iload_n 2, 0, 0, 0) := by decide +kernel
theorem gz_61_49 : mz_pg 61 49 = some (.iconst 1, 0, 0, 0) := by decide +kernel
theorem gz_61_50 : mz_pg 61 50 = some (.isub, 0, 0, 0) := by decide +kernel
theorem gz_61_51 : mz_pg 61 51 = some (.iadd, 0, 0, 0) := by decide +kernel
theorem gz_61_52 : mz_pg 61 52 = some (.putfield 46, 4, 4, 208) := by decide +kernel
theorem gz_61_55 : mz_pg 61 55 = some (.aload_n 0, 0, 0, 0) := by decide +kernel
theorem gz_61_56 : mz_pg 61 56 = some (.dup, 0, 0, 0) := by decide +kernel
theorem gz_61_57 : mz_pg 61 57 = some (.getfield 52, 4, 6, 213) := by decide +kernel
theorem gz_61_60 : mz_pg 61 60 = some (.iconst 1, 0, 0, 0) := by decide +kernel
theorem gz_61_61 : mz_pg 61 61 = some (.iload_n 1, 0, 0, 0) := by decide +kernel
theorem gz_61_62 : mz_pg 61 62 = some (.ishl, 0, 0, 0) := by decide +kernel
theorem gz_61_63 : mz_pg 61 63 = some (.ior, 0, 0, 0) := by decide +kernel
theorem gz_61_64 : mz_pg 61 64 = some (.putfield 52, 4, 6, 213) := by decide +kernel
theorem gz_61_67 : mz_pg 61 67 = some (.aload_n 0, 0, 0, 0) := by decide +kernel
theorem gz_61_68 : mz_pg 61 68 = some (.iconst 4, 0, 0, 0) := by decide +kernel
theorem gz_61_69 : mz_pg 61 69 = some (.iload_n 3, 0, 0, 0) := by decide +kernel
theorem gz_61_70 : mz_pg 61 70 = some (.iload_n 1, 0, 0, 0) := by decide +kernel
theorem gz_61_71 : mz_pg 61 71 = some (.iload_n 2, 0, 0, 0) := by decide +kernel
theorem gz_61_72 : mz_pg 61 72 = some (.invokevirtual 79, 1, 55, 775) := by decide +kernel
theorem gz_61_75 : mz_pg 61 75 = some (.return_, 0, 0, 0) := by decide +kernel
theorem gz_62_0 : mz_pg 62 0 = some (.aload_n 0, 0, 0, 0) := by decide +kernel
theorem gz_62_1 : mz_pg 62 1 = some (.aload_n 0, 0, 0, 0) := by decide +kernel
theorem gz_62_2 : mz_pg 62 2 = some (.getfield 12, 5, 2, 283) := by decide +kernel
theorem gz_62_5 : mz_pg 62 5 = some (.getfield 138, 4, 4, 209) := by decide +kernel
theorem gz_62_8 : mz_pg 62 8 = some (.invokevirtual 129, 1, 51, 762) := by decide +kernel
theorem gz_62_11 : mz_pg 62 11 = some (.istore_n 1, 0, 0, 0) := by decide +kernel
theorem gz_62_12 : mz_pg 62 12 = some (.aload_n 0, 0, 0, 0) := by decide +kernel
theorem gz_62_13 : mz_pg 62 13 = some (.getfield 37, 5, 9, 291) := by decide +kernel
theorem gz_62_16 : mz_pg 62 16 = some (.ifCond .ne 12, 0, 0, 0) := by decide +kernel
theorem gz_62_19 : mz_pg 62 19 = some (.aload_n 0, 0, 0, 0) := by decide +kernel
theorem gz_62_20 : mz_pg 62 20 = some (.ldc 160, 12, 1, 0) := by decide +kernel
theorem gz_62_22 : mz_pg 62 22 = some (.invokevirtual 59, 1, 40, 682) := by decide +kernel
theorem gz_62_25 : mz_pg 62 25 = some (.ifCond .ne 4, 0, 0, 0) := by decide +kernel
theorem gz_62_28 : mz_pg 62 28 = some (.return_, 0, 0, 0) := by decide +kernel
theorem gz_62_29 : mz_pg 62 29 = some (.aload_n 0, 0, 0, 0) := by decide +kernel
theorem gz_62_30 : mz_pg 62 30 = some (.aload_n 0, 0, 0, 0) := by decide +kernel
theorem gz_62_31 : mz_pg 62 31 = some (.getfield 12, 5, 2, 283) := by decide +kernel
theorem gz_62_34 : mz_pg 62 34 = some (.getfield 138, 4, 4, 209) := by decide +kernel
theorem gz_62_37 : mz_pg 62 37 = some (.invokevirtual 87, 1, 44, 737) := by decide +kernel
theorem gz_62_40 : mz_pg 62 40 = some (.istore_n 2, 0, 0, 0) := by decide +kernel
theorem gz_62_41 : mz_pg 62 41 = some (.iload_n 2, 0, 0, 0) := by decide +kernel
theorem gz_62_42 : mz_pg 62 42 = some (.iconst (-1), 0, 0, 0) := by decide +kernel
theorem gz_62_43 : mz_pg 62 43 = some (.if_icmp .eq 16, 0, 0, 0) := by decide +kernel
theorem gz_62_46 : mz_pg 62 46 = some (.iload_n 2, 0, 0, 0) := by decide +kernel
theorem gz_62_47 : mz_pg 62 47 = some (.iload_n 1, 0, 0, 0) := by decide +kernel
theorem gz_62_48 : mz_pg 62 48 = some (.if_icmp .ne 11, 0, 0, 0) := by decide +kernel
theorem gz_62_51 : mz_pg 62 51 = some (.aload_n 0, 0, 0, 0) := by decide +kernel
theorem gz_62_52 : mz_pg 62 52 = some (.iconst 3, 0, 0, 0) := by decide +kernel
theorem gz_62_53 : mz_pg 62 53 = some (.invokevirtual 91, 1, 42, 731) := by decide +kernel
theorem gz_62_56 : mz_pg 62 56 = some (.goto 28, 0, 0, 0) := by decide +kernel
theorem gz_62_59 : mz_pg 62 59 = some (.iload_n 2, 0, 0, 0) := by decide +kernel
theorem gz_62_60 : mz_pg 62 60 = some (.iconst (-1), 0, 0, 0) := by decide +kernel
theorem gz_62_61 : mz_pg 62 61 = some (.if_icmp .eq 23, 0, 0, 0) := by decide +kernel
theorem gz_62_64 : mz_pg 62 64 = some (.aload_n 0, 0, 0, 0) := by decide +kernel
theorem gz_62_65 : mz_pg 62 65 = some (.invokevirtual 40, 1, 37, 673) := by decide +kernel
theorem gz_62_68 : mz_pg 62 68 = some (.aload_n 0, 0, 0, 0) := by decide +kernel
theorem gz_62_69 : mz_pg 62 69 = some (.invokevirtual 132, 1, 47, 748) := by decide +kernel
theorem gz_62_72 : mz_pg 62 72 = some (.ifCond .eq 12, 0, 0, 0) := by decide +kernel
theorem gz_62_75 : mz_pg 62 75 = some (.aload_n 0, 0, 0, 0) := by decide +kernel
theorem gz_62_76 : mz_pg 62 76 = some (.getfield 12, 5, 2, 283) := by decide +kernel
theorem gz_62_79 : mz_pg 62 79 = some (.iload_n 1, 0, 0, 0) := by decide +kernel
theorem gz_62_80 : mz_pg 62 80 = some (.iload_n 2, 0, 0, 0) := by decide +kernel
theorem gz_62_81 : mz_pg 62 81 = some (.invokevirtual 165, 1, 63, 803) := by decide +kernel
theorem gz_62_84 : mz_pg 62 84 = some (.return_, 0, 0, 0) := by decide +kernel
theorem gz_63_0 : mz_pg 63 0 = some (.aload_n 0, 0, 0, 0) := by decide +kernel
theorem gz_63_1 : mz_pg 63 1 = some (.iload_n 1, 0, 0, 0) := by decide +kernel
theorem gz_63_2 : mz_pg 63 2 = some (.invokevirtual 75, 1, 54, 772) := by decide +kernel
theorem gz_63_5 : mz_pg 63 5 = some (.aload_n 0, 0, 0, 0) := by decide +kernel
theorem gz_63_6 : mz_pg 63 6 = some (.iload_n 2, 0, 0, 0) := by decide +kernel
theorem gz_63_7 : mz_pg 63 7 = some (.invokevirtual 75, 1, 54, 772) := by decide +kernel
theorem gz_63_10 : mz_pg 63 10 = some (.aload_n 0, 0, 0, 0) := by decide +kernel
theorem gz_63_11 : mz_pg 63 11 = some (.getfield 27, 4, 15, 232) := by decide +kernel
theorem gz_63_14 : mz_pg 63 14 = some (.iconst 0, 0, 0, 0) := by decide +kernel
theorem gz_63_15 : mz_pg 63 15 = some (.iconst (-1), 0, 0, 0) := by decide +kernel
theorem gz_63_16 : mz_pg 63 16 = some (.iastore, 0, 0, 0) := by decide +kernel
theorem gz_63_17 : mz_pg 63 17 = some (.aload_n 0, 0, 0, 0) := by decide +kernel
theorem gz_63_18 : mz_pg 63 18 = some (.getfield 27, 4, 15, 232) := by decide +kernel
theorem gz_63_21 : mz_pg 63 21 = some (.iconst 1, 0, 0, 0) := by decide +kernel
theorem gz_63_22 : mz_pg 63 22 = some (.iconst (-1), 0, 0, 0) := by decide +kernel
theorem gz_63_23 : mz_pg 63 23 = some (.iastore, 0, 0, 0) := by decide +kernel
theorem gz_63_24 : mz_pg 63 24 = some (.aload_n 0, 0, 0, 0) := by decide +kernel
theorem gz_63_25 : mz_pg 63 25 = some (.iconst 2, 0, 0, 0) := by decide +kernel
theorem gz_63_26 : mz_pg 63 26 = some (.putfield 46, 4, 4, 208) := by decide +kernel
theorem gz_63_29 : mz_pg 63 29 = some (.aload_n 0, 0, 0, 0) := by decide +kernel
theorem gz_63_30 : mz_pg 63 30 = some (.iconst 1, 0, 0, 0) := by decide +kernel
theorem gz_63_31 : mz_pg 63 31 = some (.putfield 55, 4, 7, 216) := by decide +kernel
theorem gz_63_34 : mz_pg 63 34 = some (.aload_n 0, 0, 0, 0) := by decide +kernel
theorem gz_63_35 : mz_pg 63 35 = some (.iconst 5, 0, 0, 0) := by decide +kernel
theorem gz_63_36 : mz_pg 63 36 = some (.iload_n 1, 0, 0, 0) := by decide +kernel
theorem gz_63_37 : mz_pg 63 37 = some (.iload_n 2, 0, 0, 0) := by decide +kernel
theorem gz_63_38 : mz_pg 63 38 = some (.iconst 0, 0, 0, 0) := by decide +kernel
theorem gz_63_39 : mz_pg 63 39 = some (.invokevirtual 79, 1, 55, 775) := by decide +kernel
theorem gz_63_42 : mz_pg 63 42 = some (.return_, 0, 0, 0) := by decide +kernel
theorem gz_64_0 : mz_pg 64 0 = some (.aload_n 0, 0, 0, 0) := by decide +kernel
theorem gz_64_1 : mz_pg 64 1 = some (.getfield 59, 9, 9, 537) := by decide +kernel
theorem gz_64_4 : mz_pg 64 4 = some (.getfield 166, 2, 4, 396) := by decide +kernel
theorem gz_64_7 : mz_pg 64 7 = some (.astore 4, 0, 0, 0) := by decide +kernel
theorem gz_64_9 : mz_pg 64 9 = some (.aload_n 0, 0, 0, 0) := by decide +kernel
theorem gz_64_10 : mz_pg 64 10 = some (.getfield 59, 9, 9, 537) := by decide +kernel
theorem gz_64_13 : mz_pg 64 13 = some (.aload_n 0, 0, 0, 0) := by decide +kernel
theorem gz_64_14 : mz_pg 64 14 = some (.getfield 19, 9, 1, 529) := by decide +kernel
theorem gz_64_17 : mz_pg 64 17 = some (.iload_n 1, 0, 0, 0) := by decide +kernel
theorem gz_64_18 : mz_pg 64 18 = some (.invokevirtual 170, 1, 65, 811) := by decide +kernel
theorem gz_64_21 : mz_pg 64 21 = some (.ifCond .eq 13, 0, 0, 0) := by decide +kernel
theorem gz_64_24 : mz_pg 64 24 = some (.aload 4, 0, 0, 0) := by decide +kernel
theorem gz_64_26 : mz_pg 64 26 = some (.iload_n 2, 0, 0, 0) := by decide +kernel
theorem gz_64_27 : mz_pg 64 27 = some (.iload_n 3, 0, 0, 0) := by decide +kernel
theorem gz_64_28 : mz_pg 64 28 = some (.invokevirtual 174, 1, 81, 868) := by decide +kernel
theorem gz_64_31 : mz_pg 64 31 = some (.ifCond .ne 5, 0, 0, 0) := by decide +kernel
theorem gz_64_34 : mz_pg 64 34 = some (.iconst (-1), 0, 0, 0) := by decide +kernel
theorem gz_64_35 : mz_pg 64 35 = some (.ireturn, 0, 0, 0) := by decide +kernel
theorem gz_64_36 : mz_pg 64 36 = some (.aload 4, 0, 0, 0) := by decide +kernel
theorem gz_64_38 : mz_pg 64 38 = some (.iload_n 2, 0, 0, 0) := by decide +kernel
theorem gz_64_39 : mz_pg 64 39 = some (.iload_n 3, 0, 0, 0) := by decide +kernel
theorem gz_64_40 : mz_pg 64 40 = some (.invokevirtual 177, 1, 74, 872) := by decide +kernel
theorem gz_64_43 : mz_pg 64 43 = some (.ireturn, 0, 0, 0) := by decide +kernel
theorem gz_65_0 : mz_pg 65 0 = some (.aload_n 0, 0, 0, 0) := by decide +kernel
theorem gz_65_1 : mz_pg 65 1 = some (.iload_n 2, 0, 0, 0) := by decide +kernel
theorem gz_65_2 : mz_pg 65 2 = some (.invokevirtual 65, 1, 66, 815) := by decide +kernel
theorem gz_65_5 : mz_pg 65 5 = some (.ifCond .ne 5, 0, 0, 0) := by decide +kernel
theorem gz_65_8 : mz_pg 65 8 = some (.iconst 0, 0, 0, 0) := by decide +kernel
theorem gz_65_9 : mz_pg 65 9 = some (.ireturn, 0, 0, 0) := by decide +kernel
theorem gz_65_10 : mz_pg 65 10 = some (.aload_n 0, 0, 0, 0) := by decide +kernel
theorem gz_65_11 : mz_pg 65 11 = some (.getfield 21, 2, 4, 395) := by decide +kernel
theorem gz_65_14 : mz_pg 65 14 = some (.aload_n 0, 0, 0, 0) := by decide +kernel
theorem gz_65_15 : mz_pg 65 15 = some (.getfield 52, 2, 1, 391) := by decide +kernel
theorem gz_65_18 : mz_pg 65 18 = some (.iload_n 2, 0, 0, 0) := by decide +kernel
theorem gz_65_19 : mz_pg 65 19 = some (.aload_n 1, 0, 0, 0) := by decide +kernel
theorem gz_65_20 : mz_pg 65 20 = some (.invokevirtual 69, 1, 67, 819) := by decide +kernel
theorem gz_65_23 : mz_pg 65 23 = some (.pop, 0, 0, 0) := by decide +kernel
theorem gz_65_24 : mz_pg 65 24 = some (.iconst 1, 0, 0, 0) := by decide +kernel
theorem gz_65_25 : mz_pg 65 25 = some (.ireturn, 0, 0, 0) := by decide +kernel
theorem gz_66_0 : mz_pg 66 0 = some (.iload_n 1, 0, 0, 0) := by decide +kernel
theorem gz_66_1 : mz_pg 66 1 = some (.ifCond .lt 25, 0, 0, 0) := by decide +kernel
theorem gz_66_4 : mz_pg 66 4 = some (.iload_n 1, 0, 0, 0) := by decide +kernel
theorem gz_66_5 : mz_pg 66 5 = some (.bipush 6, 0, 0, 0) := by decide +kernel
theorem gz_66_7 : mz_pg 66 7 = some (.if_icmp .ge 19, 0, 0, 0) := by decide +kernel
theorem gz_66_10 : mz_pg 66 10 = some (.aload_n 0, 0, 0, 0) := by decide +kernel
theorem gz_66_11 : mz_pg 66 11 = some (.getfield 52, 2, 1, 391) := by decide +kernel
theorem gz_66_14 : mz_pg 66 14 = some (.iload_n 1, 0, 0, 0) := by decide +kernel
theorem gz_66_15 : mz_pg 66 15 = some (.aaload, 0, 0, 0) := by decide +kernel
theorem gz_66_16 : mz_pg 66 16 = some (.getfield 59, 4, 0, 195) := by decide +kernel
theorem gz_66_19 : mz_pg 66 19 = some (.ifCond .eq 7, 0, 0, 0) := by decide +kernel
theorem gz_66_22 : mz_pg 66 22 = some (.iconst 1, 0, 0, 0) := by decide +kernel
theorem gz_66_23 : mz_pg 66 23 = some (.goto 4, 0, 0, 0) := by decide +kernel
theorem gz_66_26 : mz_pg 66 26 = some (.iconst 0, 0, 0, 0) := by decide +kernel
theorem gz_66_27 : mz_pg 66 27 = some (.ireturn, 0, 0, 0) := by decide +kernel
theorem gz_67_0 : mz_pg 67 0 = some (.iconst 0, 0, 0, 0) := by decide +kernel
theorem gz_67_1 : mz_pg 67 1 = some (.istore 4, 0, 0, 0) := by decide +kernel
theorem gz_67_3 : mz_pg 67 3 = some (.iload_n 2, 0, 0, 0) := by decide +kernel
theorem gz_67_4 : mz_pg 67 4 = some (.istore 5, 0, 0, 0) := by decide +kernel
theorem gz_67_6 : mz_pg 67 6 = some (.iload 5, 0, 0, 0) := by decide +kernel
theorem gz_67_8 : mz_pg 67 8 = some (.iconst (-1), 0, 0, 0) := by decide +kernel
theorem gz_67_9 : mz_pg 67 9 = some (.if_icmp .eq 34, 0, 0, 0) := by decide +kernel
theorem gz_67_12 : mz_pg 67 12 = some (.iload 4, 0, 0, 0) := by decide +kernel
theorem gz_67_14 : mz_pg 67 14 = some (.bipush 6, 0, 0, 0) := by decide +kernel
theorem gz_67_16 : mz_pg 67 16 = some (.if_icmp .ge 27, 0, 0, 0) := by decide +kernel
theorem gz_67_19 : mz_pg 67 19 = some (.aload_n 0, 0, 0, 0) := by decide +kernel
theorem gz_67_20 : mz_pg 67 20 = some (.getfield 15, 8, 3, 334) := by decide +kernel
theorem gz_67_23 : mz_pg 67 23 = some (.iload 4, 0, 0, 0) := by decide +kernel
theorem gz_67_25 : mz_pg 67 25 = some (.iinc 4 1, 0, 0, 0) := by decide +kernel
theorem gz_67_28 : mz_pg 67 28 = some (.iload 5, 0, 0, 0) := by decide +kernel
theorem gz_67_30 : mz_pg 67 30 = some (.iastore, 0, 0, 0) := by decide +kernel
theorem gz_67_31 : mz_pg 67 31 = some (.aload_n 1, 0, 0, 0) := by decide +kernel
theorem gz_67_32 : mz_pg 67 32 = some (.iload 5, 0, 0, 0) := by decide +kernel
theorem gz_67_34 : mz_pg 67 34 = some (.aaload, 0, 0, 0) := by decide +kernel
theorem gz_67_35 : mz_pg 67 35 = some (.getfield 29, 4, 1, 199) := by decide +kernel
theorem gz_67_38 : mz_pg 67 38 = some (.istore 5, 0, 0, 0) := by decide +kernel
theorem gz_67_40 : mz_pg 67 40 = some (.goto (-34), 0, 0, 0) := by decide +kernel
theorem gz_67_43 : mz_pg 67 43 = some (.aload_n 0, 0, 0, 0) := by decide +kernel
theorem gz_67_44 : mz_pg 67 44 = some (.aload_n 3, 0, 0, 0) := by decide +kernel
theorem gz_67_45 : mz_pg 67 45 = some (.aload_n 1, 0, 0, 0) := by decide +kernel
theorem gz_67_46 : mz_pg 67 46 = some (.iload_n 2, 0, 0, 0) := by decide +kernel
theorem gz_67_47 : mz_pg 67 47 = some (.aaload, 0, 0, 0) := by decide +kernel
theorem gz_67_48 : mz_pg 67 48 = some (.getfield 34, 4, 2, 202) := by decide +kernel
theorem gz_67_51 : mz_pg 67 51 = some (.aload_n 1, 0, 0, 0) := by decide +kernel
theorem gz_67_52 : mz_pg 67 52 = some (.iload_n 2, 0, 0, 0) := by decide +kernel
theorem gz_67_53 : mz_pg 67 53 = some (.aaload, 0, 0, 0) := by decide +kernel
theorem gz_67_54 : mz_pg 67 54 = some (.getfield 37, 4, 3, 207) := by decide +kernel
theorem gz_67_57 : mz_pg 67 57 = some (.iconst (-1), 0, 0, 0) := by decide +kernel
theorem gz_67_58 : mz_pg 67 58 = some (.invokevirtual 40, 1, 68, 823) := by decide +kernel
theorem gz_67_61 : mz_pg 67 61 = some (.iload 4, 0, 0, 0) := by decide +kernel
theorem gz_67_63 : mz_pg 67 63 = some (.iconst 1, 0, 0, 0) := by decide +kernel
theorem gz_67_64 : mz_pg 67 64 = some (.isub, 0, 0, 0) := by decide +kernel
theorem gz_67_65 : mz_pg 67 65 = some (.istore 5, 0, 0, 0) := by decide +kernel
theorem gz_67_67 : mz_pg 67 67 = some (.iload 5, 0, 0, 0) := by decide +kernel
theorem gz_67_69 : mz_pg 67 69 = some (.ifCond .lt 187, 0, 0, 0) := by decide +kernel
theorem gz_67_72 : mz_pg 67 72 = some (.aload_n 1, 0, 0, 0) := by decide +kernel
theorem gz_67_73 : mz_pg 67 73 = some (.aload_n 0, 0, 0, 0) := by decide +kernel
theorem gz_67_74 : mz_pg 67 74 = some (.getfield 15, 8, 3, 334) := by decide +kernel
theorem gz_67_77 : mz_pg 67 77 = some (.iload 5, 0, 0, 0) := by decide +kernel
theorem gz_67_79 : mz_pg 67 79 = some (.iaload, 0, 0, 0) := by decide +kernel
theorem gz_67_80 : mz_pg 67 80 = some (.aaload, 0, 0, 0) := by decide +kernel
theorem gz_67_81 : mz_pg 67 81 = some (.astore 6, 0, 0, 0) := by decide +kernel
theorem gz_67_83 : mz_pg 67 83 = some (.iconst 0, 0, 0, 0) := by decide +kernel
theorem gz_67_84 : mz_pg 67 84 = some (.istore 7, 0, 0, 0) := by decide +kernel
theorem gz_67_86 : mz_pg 67 86 = some (.iload 7, 0, 0, 0) := by decide +kernel
theorem gz_67_88 : mz_pg 67 88 = some (.aload 6, 0, 0, 0) := by decide +kernel
theorem gz_67_90 : mz_pg 67 90 = some (.getfield 44, 4, 9, 221) := by decide +kernel
theorem gz_67_93 : mz_pg 67 93 = some (.if_icmp .ge 153, 0, 0, 0) := by decide +kernel
theorem gz_67_96 : mz_pg 67 96 = some (.aload 6, 0, 0, 0) := by decide +kernel
theorem gz_67_98 : mz_pg 67 98 = some (.getfield 47, 4, 10, 223) := by decide +kernel
theorem gz_67_101 : mz_pg 67 101 = some (.iload 7, 0, 0, 0) := by decide +kernel
theorem gz_67_103 : mz_pg 67 103 = some (.iaload, 0, 0, 0) := by decide +kernel
theorem gz_67_104 : mz_pg 67 104 = some (.tableswitch 108 3 5 #[28, 53, 85], 0, 0, 0) := by decide +kernel
theorem gz_67_132 : mz_pg 67 132 = some (.aload_n 0, 0, 0, 0) := by decide +kernel
theorem gz_67_133 : mz_pg 67 133 = some (.aload 6, 0, 0, 0) := by decide +kernel
theorem gz_67_135 : mz_pg 67 135 = some (.getfield 50, 4, 14, 231) := by decide +kernel
theorem gz_67_138 : mz_pg 67 138 = some (.iload 7, 0, 0, 0) := by decide +kernel
theorem gz_67_140 : mz_pg 67 140 = some (.bipush 8, 0, 0, 0) := by decide +kernel
theorem gz_67_142 : mz_pg 67 142 = some (.imul, 0, 0, 0) := by decide +kernel
theorem gz_67_143 : mz_pg 67 143 = some (.aload 6, 0, 0, 0) := by decide +kernel
theorem gz_67_145 : mz_pg 67 145 = some (.getfield 53, 4, 13, 229) := by decide +kernel
theorem gz_67_148 : mz_pg 67 148 = some (.iload 7, 0, 0, 0) := by decide +kernel
theorem gz_67_150 : mz_pg 67 150 = some (.iaload, 0, 0, 0) := by decide +kernel
theorem gz_67_151 : mz_pg 67 151 = some (.invokevirtual 56, 1, 71, 832) := by decide +kernel
theorem gz_67_154 : mz_pg 67 154 = some (.goto 86, 0, 0, 0) := by decide +kernel
theorem gz_67_157 : mz_pg 67 157 = some (.aload_n 0, 0, 0, 0) := by decide +kernel
theorem gz_67_158 : mz_pg 67 158 = some (.aload_n 3, 0, 0, 0) := by decide +kernel
theorem gz_67_159 : mz_pg 67 159 = some (.aload 6, 0, 0, 0) := by decide +kernel
theorem gz_67_161 : mz_pg 67 161 = some (.getfield 60, 4, 12, 227) := by decide +kernel
theorem gz_67_164 : mz_pg 67 164 = some (.iload 7, 0, 0, 0) := by decide +kernel
theorem gz_67_166 : mz_pg 67 166 = some (.iaload, 0, 0, 0) := by decide +kernel
theorem gz_67_167 : mz_pg 67 167 = some (.aload 6, 0, 0, 0) := by decide +kernel
theorem gz_67_169 : mz_pg 67 169 = some (.getfield 53, 4, 13, 229) := by decide +kernel
theorem gz_67_172 : mz_pg 67 172 = some (.iload 7, 0, 0, 0) := by decide +kernel
theorem gz_67_174 : mz_pg 67 174 = some (.iaload, 0, 0, 0) := by decide +kernel
theorem gz_67_175 : mz_pg 67 175 = some (.aload 6, 0, 0, 0) := by decide +kernel
theorem gz_67_177 : mz_pg 67 177 = some (.getfield 63, 4, 11, 225) := by decide +kernel
theorem gz_67_180 : mz_pg 67 180 = some (.iload 7, 0, 0, 0) := by decide +kernel
theorem gz_67_182 : mz_pg 67 182 = some (.iaload, 0, 0, 0) := by decide +kernel
theorem gz_67_183 : mz_pg 67 183 = some (.invokevirtual 66, 1, 73, 840) := by decide +kernel
theorem gz_67_186 : mz_pg 67 186 = some (.goto 54, 0, 0, 0) := by decide +kernel
theorem gz_67_189 : mz_pg 67 189 = some (.aload_n 0, 0, 0, 0) := by decide +kernel
theorem gz_67_190 : mz_pg 67 190 = some (.aload 6, 0, 0, 0) := by decide +kernel
theorem gz_67_192 : mz_pg 67 192 = some (.getfield 63, 4, 11, 225) := by decide +kernel
theorem gz_67_195 : mz_pg 67 195 = some (.iload 7, 0, 0, 0) := by decide +kernel
theorem gz_67_197 : mz_pg 67 197 = some (.iaload, 0, 0, 0) := by decide +kernel
theorem gz_67_198 : mz_pg 67 198 = some (.aload 6, 0, 0, 0) := by decide +kernel
theorem gz_67_200 : mz_pg 67 200 = some (.getfield 60, 4, 12, 227) := by decide +kernel
theorem gz_67_203 : mz_pg 67 203 = some (.iload 7, 0, 0, 0) := by decide +kernel
theorem gz_67_205 : mz_pg 67 205 = some (.iaload, 0, 0, 0) := by decide +kernel
theorem gz_67_206 : mz_pg 67 206 = some (.invokevirtual 69, 1, 76, 852) := by decide +kernel
theorem gz_67_209 : mz_pg 67 209 = some (.goto 31, 0, 0, 0) := by decide +kernel
theorem gz_67_212 : mz_pg 67 212 = some (.aload_n 0, 0, 0, 0) := by decide +kernel
theorem gz_67_213 : mz_pg 67 213 = some (.aload 6, 0, 0, 0) := by decide +kernel
theorem gz_67_215 : mz_pg 67 215 = some (.getfield 47, 4, 10, 223) := by decide +kernel
theorem gz_67_218 : mz_pg 67 218 = some (.iload 7, 0, 0, 0) := by decide +kernel
theorem gz_67_220 : mz_pg 67 220 = some (.iaload, 0, 0, 0) := by decide +kernel
theorem gz_67_221 : mz_pg 67 221 = some (.aload 6, 0, 0, 0) := by decide +kernel
theorem gz_67_223 : mz_pg 67 223 = some (.getfield 63, 4, 11, 225) := by decide +kernel
theorem gz_67_226 : mz_pg 67 226 = some (.iload 7, 0, 0, 0) := by decide +kernel
theorem gz_67_228 : mz_pg 67 228 = some (.iaload, 0, 0, 0) := by decide +kernel
theorem gz_67_229 : mz_pg 67 229 = some (.aload 6, 0, 0, 0) := by decide +kernel
theorem gz_67_231 : mz_pg 67 231 = some (.getfield 60, 4, 12, 227) := by decide +kernel
theorem gz_67_234 : mz_pg 67 234 = some (.iload 7, 0, 0, 0) := by decide +kernel
theorem gz_67_236 : mz_pg 67 236 = some (.iaload, 0, 0, 0) := by decide +kernel
theorem gz_67_237 : mz_pg 67 237 = some (.invokevirtual 73, 1, 77, 855) := by decide +kernel
theorem gz_67_240 : mz_pg 67 240 = some (.iinc 7 1, 0, 0, 0) := by decide +kernel
theorem gz_67_243 : mz_pg 67 243 = some (.goto (-157), 0, 0, 0) := by decide +kernel
theorem gz_67_246 : mz_pg 67 246 = some (.aload_n 0, 0, 0, 0) := by decide +kernel
theorem gz_67_247 : mz_pg 67 247 = some (.invokevirtual 77, 1, 79, 860) := by decide +kernel
theorem gz_67_250 : mz_pg 67 250 = some (.iinc 5 (-1), 0, 0, 0) := by decide +kernel
theorem gz_67_253 : mz_pg 67 253 = some (.goto (-186), 0, 0, 0) := by decide +kernel
theorem gz_67_256 : mz_pg 67 256 = some (.aload_n 0, 0, 0, 0) := by decide +kernel
theorem gz_67_257 : mz_pg 67 257 = some (.areturn, 0, 0, 0) := by decide +kernel
theorem gz_68_0 : mz_pg 68 0 = some (.aload_n 0, 0, 0, 0) := by decide +kernel
theorem gz_68_1 : mz_pg 68 1 = some (.iconst 0, 0, 0, 0) := by decide +kernel
theorem gz_68_2 : mz_pg 68 2 = some (.putfield 22, 8, 0, 327) := by decide +kernel
theorem gz_68_5 : mz_pg 68 5 = some (.aload_n 0, 0, 0, 0) := by decide +kernel
theorem gz_68_6 : mz_pg 68 6 = some (.iload_n 3, 0, 0, 0) := by decide +kernel
theorem gz_68_7 : mz_pg 68 7 = some (.putfield 26, 8, 1, 331) := by decide +kernel
theorem gz_68_10 : mz_pg 68 10 = some (.iconst 0, 0, 0, 0) := by decide +kernel
theorem gz_68_11 : mz_pg 68 11 = some (.istore 5, 0, 0, 0) := by decide +kernel
theorem gz_68_13 : mz_pg 68 13 = some (.iload 5, 0, 0, 0) := by decide +kernel
theorem gz_68_15 : mz_pg 68 15 = some (.bipush 20, 0, 0, 0) := by decide +kernel
theorem gz_68_17 : mz_pg 68 17 = some (.if_icmp .ge 106, 0, 0, 0) := by decide +kernel
theorem gz_68_20 : mz_pg 68 20 = some (.aload_n 0, 0, 0, 0) := by decide +kernel
theorem gz_68_21 : mz_pg 68 21 = some (.getfield 22, 8, 0, 327) := by decide +kernel
theorem gz_68_24 : mz_pg 68 24 = some (.bipush 10, 0, 0, 0) := by decide +kernel
theorem gz_68_26 : mz_pg 68 26 = some (.if_icmp .ge 97, 0, 0, 0) := by decide +kernel
theorem gz_68_29 : mz_pg 68 29 = some (.iload_n 2, 0, 0, 0) := by decide +kernel
theorem gz_68_30 : mz_pg 68 30 = some (.iload 5, 0, 0, 0) := by decide +kernel
theorem gz_68_32 : mz_pg 68 32 = some (.invokestatic 80, 2, 17, 7) := by decide +kernel
theorem gz_68_35 : mz_pg 68 35 = some (.istore 6, 0, 0, 0) := by decide +kernel
theorem gz_68_37 : mz_pg 68 37 = some (.aload_n 1, 0, 0, 0) := by decide +kernel
theorem gz_68_38 : mz_pg 68 38 = some (.getfield 84, 6, 0, 180) := by decide +kernel
theorem gz_68_41 : mz_pg 68 41 = some (.iload 6, 0, 0, 0) := by decide +kernel
theorem gz_68_43 : mz_pg 68 43 = some (.iaload, 0, 0, 0) := by decide +kernel
theorem gz_68_44 : mz_pg 68 44 = some (.iconst (-1), 0, 0, 0) := by decide +kernel
theorem gz_68_45 : mz_pg 68 45 = some (.if_icmp .eq 72, 0, 0, 0) := by decide +kernel
theorem gz_68_48 : mz_pg 68 48 = some (.iload 4, 0, 0, 0) := by decide +kernel
theorem gz_68_50 : mz_pg 68 50 = some (.i2l, 0, 0, 0) := by decide +kernel
theorem gz_68_51 : mz_pg 68 51 = some (.iload 5, 0, 0, 0) := by decide +kernel
theorem gz_68_53 : mz_pg 68 53 = some (.invokestatic 89, 2, 69, 8) := by decide +kernel
theorem gz_68_56 : mz_pg 68 56 = some (.ifCond .eq 61, 0, 0, 0) := by decide +kernel
theorem gz_68_59 : mz_pg 68 59 = some (.aload_n 0, 0, 0, 0) := by decide +kernel
theorem gz_68_60 : mz_pg 68 60 = some (.aload_n 1, 0, 0, 0) := by decide +kernel
theorem gz_68_61 : mz_pg 68 61 = some (.iload 6, 0, 0, 0) := by decide +kernel
theorem gz_68_63 : mz_pg 68 63 = some (.aload_n 0, 0, 0, 0) := by decide +kernel
theorem gz_68_64 : mz_pg 68 64 = some (.getfield 22, 8, 0, 327) := by decide +kernel
theorem gz_68_67 : mz_pg 68 67 = some (.bipush 17, 0, 0, 0) := by decide +kernel
theorem gz_68_69 : mz_pg 68 69 = some (.imul, 0, 0, 0) := by decide +kernel
theorem gz_68_70 : mz_pg 68 70 = some (.iload_n 3, 0, 0, 0) := by decide +kernel
theorem gz_68_71 : mz_pg 68 71 = some (.invokevirtual 93, 1, 70, 829) := by decide +kernel
theorem gz_68_74 : mz_pg 68 74 = some (.aload_n 0, 0, 0, 0) := by decide +kernel
theorem gz_68_75 : mz_pg 68 75 = some (.getfield 11, 8, 2, 333) := by decide +kernel
theorem gz_68_78 : mz_pg 68 78 = some (.aload_n 0, 0, 0, 0) := by decide +kernel
theorem gz_68_79 : mz_pg 68 79 = some (.getfield 22, 8, 0, 327) := by decide +kernel
theorem gz_68_82 : mz_pg 68 82 = some (.bipush 17, 0, 0, 0) := by decide +kernel
theorem gz_68_84 : mz_pg 68 84 = some (.imul, 0, 0, 0) := by decide +kernel
theorem gz_68_85 : mz_pg 68 85 = some (.bipush 16, 0, 0, 0) := by decide +kernel
theorem gz_68_87 : mz_pg 68 87 = some (.iadd, 0, 0, 0) := by decide +kernel
theorem gz_68_88 : mz_pg 68 88 = some (.iload 5, 0, 0, 0) := by decide +kernel
theorem gz_68_90 : mz_pg 68 90 = some (.iastore, 0, 0, 0) := by decide +kernel
theorem gz_68_91 : mz_pg 68 91 = some (.aload_n 0, 0, 0, 0) := by decide +kernel
theorem gz_68_92 : mz_pg 68 92 = some (.getfield 18, 8, 4, 335) := by decide +kernel
theorem gz_68_95 : mz_pg 68 95 = some (.iload 5, 0, 0, 0) := by decide +kernel
theorem gz_68_97 : mz_pg 68 97 = some (.lconst 1, 0, 0, 0) := by decide +kernel
theorem gz_68_98 : mz_pg 68 98 = some (.iload_n 2, 0, 0, 0) := by decide +kernel
theorem gz_68_99 : mz_pg 68 99 = some (.bipush 20, 0, 0, 0) := by decide +kernel
theorem gz_68_101 : mz_pg 68 101 = some (.imul, 0, 0, 0) := by decide +kernel
theorem gz_68_102 : mz_pg 68 102 = some (.iload 5, 0, 0, 0) := by decide +kernel
theorem gz_68_104 : mz_pg 68 104 = some (.iadd, 0, 0, 0) := by decide +kernel
theorem gz_68_105 : mz_pg 68 105 = some (.lshl, 0, 0, 0) := by decide +kernel
theorem gz_68_106 : mz_pg 68 106 = some (.lastore, 0, 0, 0) := by decide +kernel
theorem gz_68_107 : mz_pg 68 107 = some (.aload_n 0, 0, 0, 0) := by decide +kernel
theorem gz_68_108 : mz_pg 68 108 = some (.dup, 0, 0, 0) := by decide +kernel
theorem gz_68_109 : mz_pg 68 109 = some (.getfield 22, 8, 0, 327) := by decide +kernel
theorem gz_68_112 : mz_pg 68 112 = some (.iconst 1, 0, 0, 0) := by decide +kernel
theorem gz_68_113 : mz_pg 68 113 = some (.iadd, 0, 0, 0) := by decide +kernel
theorem gz_68_114 : mz_pg 68 114 = some (.putfield 22, 8, 0, 327) := by decide +kernel
theorem gz_68_117 : mz_pg 68 117 = some (.iinc 5 1, 0, 0, 0) := by decide +kernel
theorem gz_68_120 : mz_pg 68 120 = some (.goto (-107), 0, 0, 0) := by decide +kernel
theorem gz_68_123 : mz_pg 68 123 = some (.return_, 0, 0, 0) := by decide +kernel
theorem gz_69_0 : mz_pg 69 0 = some (.lload_n 0, 0, 0, 0) := by decide +kernel
theorem gz_69_1 : mz_pg 69 1 = some (.iload_n 2, 0, 0, 0) := by decide +kernel
theorem gz_69_2 : mz_pg 69 2 = some (.lshr, 0, 0, 0) := by decide +kernel
theorem gz_69_3 : mz_pg 69 3 = some (.lconst 1, 0, 0, 0) := by decide +kernel
theorem gz_69_4 : mz_pg 69 4 = some (.land, 0, 0, 0) := by decide +kernel
theorem gz_69_5 : mz_pg 69 5 = some (.lconst 0, 0, 0, 0) := by decide +kernel
theorem gz_69_6 : mz_pg 69 6 = some (.lcmp, 0, 0, 0) := by decide +kernel
theorem gz_69_7 : mz_pg 69 7 = some (.ifCond .eq 7, 0, 0, 0) := by decide +kernel
theorem gz_69_10 : mz_pg 69 10 = some (.iconst 1, 0, 0, 0) := by decide +kernel
theorem gz_69_11 : mz_pg 69 11 = some (.goto 4, 0, 0, 0) := by decide +kernel
theorem gz_69_14 : mz_pg 69 14 = some (.iconst 0, 0, 0, 0) := by decide +kernel
theorem gz_69_15 : mz_pg 69 15 = some (.ireturn, 0, 0, 0) := by decide +kernel
theorem gz_70_0 : mz_pg 70 0 = some (.iconst 0, 0, 0, 0) := by decide +kernel
theorem gz_70_1 : mz_pg 70 1 = some (.istore 5, 0, 0, 0) := by decide +kernel
theorem gz_70_3 : mz_pg 70 3 = some (.iload 5, 0, 0, 0) := by decide +kernel
theorem gz_70_5 : mz_pg 70 5 = some (.iload 4, 0, 0, 0) := by decide +kernel
theorem gz_70_7 : mz_pg 70 7 = some (.if_icmp .ge 43, 0, 0, 0) := by decide +kernel
theorem gz_70_10 : mz_pg 70 10 = some (.aload_n 0, 0, 0, 0) := by decide +kernel
theorem gz_70_11 : mz_pg 70 11 = some (.getfield 11, 8, 2, 333) := by decide +kernel
theorem gz_70_14 : mz_pg 70 14 = some (.iload_n 3, 0, 0, 0) := by decide +kernel
theorem gz_70_15 : mz_pg 70 15 = some (.iload 5, 0, 0, 0) := by decide +kernel
theorem gz_70_17 : mz_pg 70 17 = some (.iadd, 0, 0, 0) := by decide +kernel
theorem gz_70_18 : mz_pg 70 18 = some (.aload_n 1, 0, 0, 0) := by decide +kernel
theorem gz_70_19 : mz_pg 70 19 = some (.getfield 84, 6, 0, 180) := by decide +kernel
theorem gz_70_22 : mz_pg 70 22 = some (.iload_n 2, 0, 0, 0) := by decide +kernel
theorem gz_70_23 : mz_pg 70 23 = some (.iload 5, 0, 0, 0) := by decide +kernel
theorem gz_70_25 : mz_pg 70 25 = some (.iadd, 0, 0, 0) := by decide +kernel
theorem gz_70_26 : mz_pg 70 26 = some (.iaload, 0, 0, 0) := by decide +kernel
theorem gz_70_27 : mz_pg 70 27 = some (.iastore, 0, 0, 0) := by decide +kernel
theorem gz_70_28 : mz_pg 70 28 = some (.aload_n 0, 0, 0, 0) := by decide +kernel
theorem gz_70_29 : mz_pg 70 29 = some (.getfield 11, 8, 2, 333) := by decide +kernel
theorem gz_70_32 : mz_pg 70 32 = some (.iload_n 3, 0, 0, 0) := by decide +kernel
theorem gz_70_33 : mz_pg 70 33 = some (.bipush 8, 0, 0, 0) := by decide +kernel
theorem gz_70_35 : mz_pg 70 35 = some (.iadd, 0, 0, 0) := by decide +kernel
theorem gz_70_36 : mz_pg 70 36 = some (.iload 5, 0, 0, 0) := by decide +kernel
theorem gz_70_38 : mz_pg 70 38 = some (.iadd, 0, 0, 0) := by decide +kernel
theorem gz_70_39 : mz_pg 70 39 = some (.iload_n 2, 0, 0, 0) := by decide +kernel
theorem gz_70_40 : mz_pg 70 40 = some (.iload 5, 0, 0, 0) := by decide +kernel
theorem gz_70_42 : mz_pg 70 42 = some (.iadd, 0, 0, 0) := by decide +kernel
theorem gz_70_43 : mz_pg 70 43 = some (.iastore, 0, 0, 0) := by decide +kernel
theorem gz_70_44 : mz_pg 70 44 = some (.iinc 5 1, 0, 0, 0) := by decide +kernel
theorem gz_70_47 : mz_pg 70 47 = some (.goto (-44), 0, 0, 0) := by decide +kernel
theorem gz_70_50 : mz_pg 70 50 = some (.return_, 0, 0, 0) := by decide +kernel
theorem gz_71_0 : mz_pg 71 0 = some (.iconst 0, 0, 0, 0) := by decide +kernel
theorem gz_71_1 : mz_pg 71 1 = some (.istore 4, 0, 0, 0) := by decide +kernel
theorem gz_71_3 : mz_pg 71 3 = some (.iload 4, 0, 0, 0) := by decide +kernel
theorem gz_71_5 : mz_pg 71 5 = some (.aload_n 0, 0, 0, 0) := by decide +kernel
theorem gz_71_6 : mz_pg 71 6 = some (.getfield 22, 8, 0, 327) := by decide +kernel
theorem gz_71_9 : mz_pg 71 9 = some (.if_icmp .ge 90, 0, 0, 0) := by decide +kernel
theorem gz_71_12 : mz_pg 71 12 = some (.aload_n 0, 0, 0, 0) := by decide +kernel
theorem gz_71_13 : mz_pg 71 13 = some (.iload 4, 0, 0, 0) := by decide +kernel
theorem gz_71_15 : mz_pg 71 15 = some (.bipush 11, 0, 0, 0) := by decide +kernel
theorem gz_71_17 : mz_pg 71 17 = some (.invokevirtual 109, 1, 72, 836) := by decide +kernel
theorem gz_71_20 : mz_pg 71 20 = some (.iconst 0, 0, 0, 0) := by decide +kernel
theorem gz_71_21 : mz_pg 71 21 = some (.istore 5, 0, 0, 0) := by decide +kernel
theorem gz_71_23 : mz_pg 71 23 = some (.iload 5, 0, 0, 0) := by decide +kernel
theorem gz_71_25 : mz_pg 71 25 = some (.iload_n 3, 0, 0, 0) := by decide +kernel
theorem gz_71_26 : mz_pg 71 26 = some (.if_icmp .ge 67, 0, 0, 0) := by decide +kernel
theorem gz_71_29 : mz_pg 71 29 = some (.sipush 187, 0, 0, 0) := by decide +kernel
theorem gz_71_32 : mz_pg 71 32 = some (.aload_n 1, 0, 0, 0) := by decide +kernel
theorem gz_71_33 : mz_pg 71 33 = some (.iload_n 2, 0, 0, 0) := by decide +kernel
theorem gz_71_34 : mz_pg 71 34 = some (.iload 5, 0, 0, 0) := by decide +kernel
theorem gz_71_36 : mz_pg 71 36 = some (.iadd, 0, 0, 0) := by decide +kernel
theorem gz_71_37 : mz_pg 71 37 = some (.iaload, 0, 0, 0) := by decide +kernel
theorem gz_71_38 : mz_pg 71 38 = some (.iadd, 0, 0, 0) := by decide +kernel
theorem gz_71_39 : mz_pg 71 39 = some (.istore 6, 0, 0, 0) := by decide +kernel
theorem gz_71_41 : mz_pg 71 41 = some (.aload_n 0, 0, 0, 0) := by decide +kernel
theorem gz_71_42 : mz_pg 71 42 = some (.getfield 11, 8, 2, 333) := by decide +kernel
theorem gz_71_45 : mz_pg 71 45 = some (.iload 4, 0, 0, 0) := by decide +kernel
theorem gz_71_47 : mz_pg 71 47 = some (.bipush 17, 0, 0, 0) := by decide +kernel
theorem gz_71_49 : mz_pg 71 49 = some (.imul, 0, 0, 0) := by decide +kernel
theorem gz_71_50 : mz_pg 71 50 = some (.iload 5, 0, 0, 0) := by decide +kernel
theorem gz_71_52 : mz_pg 71 52 = some (.iadd, 0, 0, 0) := by decide +kernel
theorem gz_71_53 : mz_pg 71 53 = some (.aload_n 0, 0, 0, 0) := by decide +kernel
theorem gz_71_54 : mz_pg 71 54 = some (.getfield 11, 8, 2, 333) := by decide +kernel
theorem gz_71_57 : mz_pg 71 57 = some (.iload 6, 0, 0, 0) := by decide +kernel
theorem gz_71_59 : mz_pg 71 59 = some (.iaload, 0, 0, 0) := by decide +kernel
theorem gz_71_60 : mz_pg 71 60 = some (.iastore, 0, 0, 0) := by decide +kernel
theorem gz_71_61 : mz_pg 71 61 = some (.aload_n 0, 0, 0, 0) := by decide +kernel
theorem gz_71_62 : mz_pg 71 62 = some (.getfield 11, 8, 2, 333) := by decide +kernel
theorem gz_71_65 : mz_pg 71 65 = some (.iload 4, 0, 0, 0) := by decide +kernel
theorem gz_71_67 : mz_pg 71 67 = some (.bipush 17, 0, 0, 0) := by decide +kernel
theorem gz_71_69 : mz_pg 71 69 = some (.imul, 0, 0, 0) := by decide +kernel
theorem gz_71_70 : mz_pg 71 70 = some (.bipush 8, 0, 0, 0) := by decide +kernel
theorem gz_71_72 : mz_pg 71 72 = some (.iadd, 0, 0, 0) := by decide +kernel
theorem gz_71_73 : mz_pg 71 73 = some (.iload 5, 0, 0, 0) := by decide +kernel
theorem gz_71_75 : mz_pg 71 75 = some (.iadd, 0, 0, 0) := by decide +kernel
theorem gz_71_76 : mz_pg 71 76 = some (.aload_n 0, 0, 0, 0) := by decide +kernel
theorem gz_71_77 : mz_pg 71 77 = some (.getfield 11, 8, 2, 333) := by decide +kernel
theorem gz_71_80 : mz_pg 71 80 = some (.iload 6, 0, 0, 0) := by decide +kernel
theorem gz_71_82 : mz_pg 71 82 = some (.bipush 8, 0, 0, 0) := by decide +kernel
theorem gz_71_84 : mz_pg 71 84 = some (.iadd, 0, 0, 0) := by decide +kernel
theorem gz_71_85 : mz_pg 71 85 = some (.iaload, 0, 0, 0) := by decide +kernel
theorem gz_71_86 : mz_pg 71 86 = some (.iastore, 0, 0, 0) := by decide +kernel
theorem gz_71_87 : mz_pg 71 87 = some (.iinc 5 1, 0, 0, 0) := by decide +kernel
theorem gz_71_90 : mz_pg 71 90 = some (.goto (-67), 0, 0, 0) := by decide +kernel
theorem gz_71_93 : mz_pg 71 93 = some (.iinc 4 1, 0, 0, 0) := by decide +kernel
theorem gz_71_96 : mz_pg 71 96 = some (.goto (-93), 0, 0, 0) := by decide +kernel
theorem gz_71_99 : mz_pg 71 99 = some (.aload_n 0, 0, 0, 0) := by decide +kernel
theorem gz_71_100 : mz_pg 71 100 = some (.iload_n 3, 0, 0, 0) := by decide +kernel
theorem gz_71_101 : mz_pg 71 101 = some (.putfield 26, 8, 1, 331) := by decide +kernel
theorem gz_71_104 : mz_pg 71 104 = some (.return_, 0, 0, 0) := by decide +kernel
theorem gz_72_0 : mz_pg 72 0 = some (.iload_n 1, 0, 0, 0) := by decide +kernel
theorem gz_72_1 : mz_pg 72 1 = some (.iload_n 2, 0, 0, 0) := by decide +kernel
theorem gz_72_2 : mz_pg 72 2 = some (.if_icmp .eq 24, 0, 0, 0) := by decide +kernel
theorem gz_72_5 : mz_pg 72 5 = some (.aload_n 0, 0, 0, 0) := by decide +kernel
theorem gz_72_6 : mz_pg 72 6 = some (.getfield 11, 8, 2, 333) := by decide +kernel
theorem gz_72_9 : mz_pg 72 9 = some (.iload_n 1, 0, 0, 0) := by decide +kernel
theorem gz_72_10 : mz_pg 72 10 = some (.bipush 17, 0, 0, 0) := by decide +kernel
theorem gz_72_12 : mz_pg 72 12 = some (.imul, 0, 0, 0) := by decide +kernel
theorem gz_72_13 : mz_pg 72 13 = some (.aload_n 0, 0, 0, 0) := by decide +kernel
theorem gz_72_14 : mz_pg 72 14 = some (.getfield 11, 8, 2, 333) := by decide +kernel
theorem gz_72_17 : mz_pg 72 17 = some (.iload_n 2, 0, 0, 0) := by decide +kernel
theorem gz_72_18 : mz_pg 72 18 = some (.bipush 17, 0, 0, 0) := by decide +kernel
theorem gz_72_20 : mz_pg 72 20 = some (.imul, 0, 0, 0) := by decide +kernel
theorem gz_72_21 : mz_pg 72 21 = some (.bipush 17, 0, 0, 0) := by decide +kernel
theorem gz_72_23 : mz_pg 72 23 = some (.invokestatic 96, 0, 0, 839) := by decide +kernel
theorem gz_72_26 : mz_pg 72 26 = some (.return_, 0, 0, 0) := by decide +kernel
theorem gz_73_0 : mz_pg 73 0 = some (.iconst 0, 0, 0, 0) := by decide +kernel
theorem gz_73_1 : mz_pg 73 1 = some (.istore 5, 0, 0, 0) := by decide +kernel
theorem gz_73_3 : mz_pg 73 3 = some (.iconst 0, 0, 0, 0) := by decide +kernel
theorem gz_73_4 : mz_pg 73 4 = some (.istore 6, 0, 0, 0) := by decide +kernel
theorem gz_73_6 : mz_pg 73 6 = some (.iload 6, 0, 0, 0) := by decide +kernel
theorem gz_73_8 : mz_pg 73 8 = some (.aload_n 0, 0, 0, 0) := by decide +kernel
theorem gz_73_9 : mz_pg 73 9 = some (.getfield 22, 8, 0, 327) := by decide +kernel
theorem gz_73_12 : mz_pg 73 12 = some (.if_icmp .ge 89, 0, 0, 0) := by decide +kernel
theorem gz_73_15 : mz_pg 73 15 = some (.aload_n 0, 0, 0, 0) := by decide +kernel
theorem gz_73_16 : mz_pg 73 16 = some (.iload 6, 0, 0, 0) := by decide +kernel
theorem gz_73_18 : mz_pg 73 18 = some (.iload 4, 0, 0, 0) := by decide +kernel
theorem gz_73_20 : mz_pg 73 20 = some (.invokevirtual 102, 1, 74, 843) := by decide +kernel
theorem gz_73_23 : mz_pg 73 23 = some (.istore 7, 0, 0, 0) := by decide +kernel
theorem gz_73_25 : mz_pg 73 25 = some (.aload_n 1, 0, 0, 0) := by decide +kernel
theorem gz_73_26 : mz_pg 73 26 = some (.iload_n 2, 0, 0, 0) := by decide +kernel
theorem gz_73_27 : mz_pg 73 27 = some (.iload 7, 0, 0, 0) := by decide +kernel
theorem gz_73_29 : mz_pg 73 29 = some (.invokevirtual 112, 1, 15, 847) := by decide +kernel
theorem gz_73_32 : mz_pg 73 32 = some (.ifCond .eq 63, 0, 0, 0) := by decide +kernel
theorem gz_73_35 : mz_pg 73 35 = some (.aload_n 0, 0, 0, 0) := by decide +kernel
theorem gz_73_36 : mz_pg 73 36 = some (.iload 6, 0, 0, 0) := by decide +kernel
theorem gz_73_38 : mz_pg 73 38 = some (.iload 5, 0, 0, 0) := by decide +kernel
theorem gz_73_40 : mz_pg 73 40 = some (.invokevirtual 109, 1, 72, 836) := by decide +kernel
theorem gz_73_43 : mz_pg 73 43 = some (.aload_n 0, 0, 0, 0) := by decide +kernel
theorem gz_73_44 : mz_pg 73 44 = some (.aload_n 1, 0, 0, 0) := by decide +kernel
theorem gz_73_45 : mz_pg 73 45 = some (.iload_n 2, 0, 0, 0) := by decide +kernel
theorem gz_73_46 : mz_pg 73 46 = some (.iload 7, 0, 0, 0) := by decide +kernel
theorem gz_73_48 : mz_pg 73 48 = some (.invokestatic 80, 2, 17, 7) := by decide +kernel
theorem gz_73_51 : mz_pg 73 51 = some (.iconst 1, 0, 0, 0) := by decide +kernel
theorem gz_73_52 : mz_pg 73 52 = some (.iadd, 0, 0, 0) := by decide +kernel
theorem gz_73_53 : mz_pg 73 53 = some (.iload 5, 0, 0, 0) := by decide +kernel
theorem gz_73_55 : mz_pg 73 55 = some (.bipush 17, 0, 0, 0) := by decide +kernel
theorem gz_73_57 : mz_pg 73 57 = some (.imul, 0, 0, 0) := by decide +kernel
theorem gz_73_58 : mz_pg 73 58 = some (.aload_n 0, 0, 0, 0) := by decide +kernel
theorem gz_73_59 : mz_pg 73 59 = some (.getfield 26, 8, 1, 331) := by decide +kernel
theorem gz_73_62 : mz_pg 73 62 = some (.iadd, 0, 0, 0) := by decide +kernel
theorem gz_73_63 : mz_pg 73 63 = some (.iload_n 3, 0, 0, 0) := by decide +kernel
theorem gz_73_64 : mz_pg 73 64 = some (.iconst 1, 0, 0, 0) := by decide +kernel
theorem gz_73_65 : mz_pg 73 65 = some (.isub, 0, 0, 0) := by decide +kernel
theorem gz_73_66 : mz_pg 73 66 = some (.invokevirtual 93, 1, 70, 829) := by decide +kernel
theorem gz_73_69 : mz_pg 73 69 = some (.aload_n 0, 0, 0, 0) := by decide +kernel
theorem gz_73_70 : mz_pg 73 70 = some (.getfield 18, 8, 4, 335) := by decide +kernel
theorem gz_73_73 : mz_pg 73 73 = some (.aload_n 0, 0, 0, 0) := by decide +kernel
theorem gz_73_74 : mz_pg 73 74 = some (.iload 5, 0, 0, 0) := by decide +kernel
theorem gz_73_76 : mz_pg 73 76 = some (.invokevirtual 116, 1, 75, 848) := by decide +kernel
theorem gz_73_79 : mz_pg 73 79 = some (.dup2, 0, 0, 0) := by decide +kernel
theorem gz_73_80 : mz_pg 73 80 = some (.laload, 0, 0, 0) := by decide +kernel
theorem gz_73_81 : mz_pg 73 81 = some (.lconst 1, 0, 0, 0) := by decide +kernel
theorem gz_73_82 : mz_pg 73 82 = some (.iload_n 2, 0, 0, 0) := by decide +kernel
theorem gz_73_83 : mz_pg 73 83 = some (.bipush 20, 0, 0, 0) := by decide +kernel
theorem gz_73_85 : mz_pg 73 85 = some (.imul, 0, 0, 0) := by decide +kernel
theorem gz_73_86 : mz_pg 73 86 = some (.iload 7, 0, 0, 0) := by decide +kernel
theorem gz_73_88 : mz_pg 73 88 = some (.iadd, 0, 0, 0) := by decide +kernel
theorem gz_73_89 : mz_pg 73 89 = some (.lshl, 0, 0, 0) := by decide +kernel
theorem gz_73_90 : mz_pg 73 90 = some (.lor, 0, 0, 0) := by decide +kernel
theorem gz_73_91 : mz_pg 73 91 = some (.lastore, 0, 0, 0) := by decide +kernel
theorem gz_73_92 : mz_pg 73 92 = some (.iinc 5 1, 0, 0, 0) := by decide +kernel
theorem gz_73_95 : mz_pg 73 95 = some (.iinc 6 1, 0, 0, 0) := by decide +kernel
theorem gz_73_98 : mz_pg 73 98 = some (.goto (-92), 0, 0, 0) := by decide +kernel
theorem gz_73_101 : mz_pg 73 101 = some (.aload_n 0, 0, 0, 0) := by decide +kernel
theorem gz_73_102 : mz_pg 73 102 = some (.iload 5, 0, 0, 0) := by decide +kernel
theorem gz_73_104 : mz_pg 73 104 = some (.putfield 22, 8, 0, 327) := by decide +kernel
theorem gz_73_107 : mz_pg 73 107 = some (.aload_n 0, 0, 0, 0) := by decide +kernel
theorem gz_73_108 : mz_pg 73 108 = some (.dup, 0, 0, 0) := by decide +kernel
theorem gz_73_109 : mz_pg 73 109 = some (.getfield 26, 8, 1, 331) := by decide +kernel
theorem gz_73_112 : mz_pg 73 112 = some (.iload_n 3, 0, 0, 0) := by decide +kernel
theorem gz_73_113 : mz_pg 73 113 = some (.iconst 1, 0, 0, 0) := by decide +kernel
theorem gz_73_114 : mz_pg 73 114 = some (.isub, 0, 0, 0) := by decide +kernel
theorem gz_73_115 : mz_pg 73 115 = some (.iadd, 0, 0, 0) := by decide +kernel
theorem gz_73_116 : mz_pg 73 116 = some (.putfield 26, 8, 1, 331) := by decide +kernel
theorem gz_73_119 : mz_pg 73 119 = some (.return_, 0, 0, 0) := by decide +kernel
theorem gz_74_0 : mz_pg 74 0 = some (.aload_n 0, 0, 0, 0) := by decide +kernel
theorem gz_74_1 : mz_pg 74 1 = some (.getfield 11, 8, 2, 333) := by decide +kernel
theorem gz_74_4 : mz_pg 74 4 = some (.iload_n 1, 0, 0, 0) := by decide +kernel
theorem gz_74_5 : mz_pg 74 5 = some (.bipush 17, 0, 0, 0) := by decide +kernel
theorem gz_74_7 : mz_pg 74 7 = some (.imul, 0, 0, 0) := by decide +kernel
theorem gz_74_8 : mz_pg 74 8 = some (.iload_n 2, 0, 0, 0) := by decide +kernel
theorem gz_74_9 : mz_pg 74 9 = some (.iadd, 0, 0, 0) := by decide +kernel
theorem gz_74_10 : mz_pg 74 10 = some (.iaload, 0, 0, 0) := by decide +kernel
theorem gz_74_11 : mz_pg 74 11 = some (.ireturn, 0, 0, 0) := by decide +kernel
theorem gz_75_0 : mz_pg 75 0 = some (.aload_n 0, 0, 0, 0) := by decide +kernel
theorem gz_75_1 : mz_pg 75 1 = some (.getfield 11, 8, 2, 333) := by decide +kernel
theorem gz_75_4 : mz_pg 75 4 = some (.iload_n 1, 0, 0, 0) := by decide +kernel
theorem gz_75_5 : mz_pg 75 5 = some (.bipush 17, 0, 0, 0) := by decide +kernel
theorem gz_75_7 : mz_pg 75 7 = some (.imul, 0, 0, 0) := by decide +kernel
theorem gz_75_8 : mz_pg 75 8 = some (.bipush 16, 0, 0, 0) := by decide +kernel
theorem gz_75_10 : mz_pg 75 10 = some (.iadd, 0, 0, 0) := by decide +kernel
theorem gz_75_11 : mz_pg 75 11 = some (.iaload, 0, 0, 0) := by decide +kernel
theorem gz_75_12 : mz_pg 75 12 = some (.ireturn, 0, 0, 0) := by decide +kernel
theorem gz_76_0 : mz_pg 76 0 = some (.iconst 0, 0, 0, 0) := by decide +kernel
theorem gz_76_1 : mz_pg 76 1 = some (.istore_n 3, 0, 0, 0) := by decide +kernel
theorem gz_76_2 : mz_pg 76 2 = some (.iconst 0, 0, 0, 0) := by decide +kernel
theorem gz_76_3 : mz_pg 76 3 = some (.istore 4, 0, 0, 0) := by decide +kernel
theorem gz_76_5 : mz_pg 76 5 = some (.iload 4, 0, 0, 0) := by decide +kernel
theorem gz_76_7 : mz_pg 76 7 = some (.aload_n 0, 0, 0, 0) := by decide +kernel
theorem gz_76_8 : mz_pg 76 8 = some (.getfield 22, 8, 0, 327) := by decide +kernel
theorem gz_76_11 : mz_pg 76 11 = some (.if_icmp .ge 142, 0, 0, 0) := by decide +kernel
theorem gz_76_14 : mz_pg 76 14 = some (.aload_n 0, 0, 0, 0) := by decide +kernel
theorem gz_76_15 : mz_pg 76 15 = some (.iload 4, 0, 0, 0) := by decide +kernel
theorem gz_76_17 : mz_pg 76 17 = some (.iload_n 2, 0, 0, 0) := by decide +kernel
theorem gz_76_18 : mz_pg 76 18 = some (.invokevirtual 102, 1, 74, 843) := by decide +kernel
theorem gz_76_21 : mz_pg 76 21 = some (.istore 5, 0, 0, 0) := by decide +kernel
theorem gz_76_23 : mz_pg 76 23 = some (.aload_n 0, 0, 0, 0) := by decide +kernel
theorem gz_76_24 : mz_pg 76 24 = some (.iload 4, 0, 0, 0) := by decide +kernel
theorem gz_76_26 : mz_pg 76 26 = some (.iload_n 1, 0, 0, 0) := by decide +kernel
theorem gz_76_27 : mz_pg 76 27 = some (.invokevirtual 102, 1, 74, 843) := by decide +kernel
theorem gz_76_30 : mz_pg 76 30 = some (.istore 6, 0, 0, 0) := by decide +kernel
theorem gz_76_32 : mz_pg 76 32 = some (.iconst 0, 0, 0, 0) := by decide +kernel
theorem gz_76_33 : mz_pg 76 33 = some (.istore 7, 0, 0, 0) := by decide +kernel
theorem gz_76_35 : mz_pg 76 35 = some (.iload 7, 0, 0, 0) := by decide +kernel
theorem gz_76_37 : mz_pg 76 37 = some (.iload_n 3, 0, 0, 0) := by decide +kernel
theorem gz_76_38 : mz_pg 76 38 = some (.if_icmp .ge 21, 0, 0, 0) := by decide +kernel
theorem gz_76_41 : mz_pg 76 41 = some (.aload_n 0, 0, 0, 0) := by decide +kernel
theorem gz_76_42 : mz_pg 76 42 = some (.iload 7, 0, 0, 0) := by decide +kernel
theorem gz_76_44 : mz_pg 76 44 = some (.iconst 0, 0, 0, 0) := by decide +kernel
theorem gz_76_45 : mz_pg 76 45 = some (.invokevirtual 102, 1, 74, 843) := by decide +kernel
theorem gz_76_48 : mz_pg 76 48 = some (.iload 5, 0, 0, 0) := by decide +kernel
theorem gz_76_50 : mz_pg 76 50 = some (.if_icmp .eq 9, 0, 0, 0) := by decide +kernel
theorem gz_76_53 : mz_pg 76 53 = some (.iinc 7 1, 0, 0, 0) := by decide +kernel
theorem gz_76_56 : mz_pg 76 56 = some (.goto (-21), 0, 0, 0) := by decide +kernel
theorem gz_76_59 : mz_pg 76 59 = some (.iload 7, 0, 0, 0) := by decide +kernel
theorem gz_76_61 : mz_pg 76 61 = some (.bipush 17, 0, 0, 0) := by decide +kernel
theorem gz_76_63 : mz_pg 76 63 = some (.imul, 0, 0, 0) := by decide +kernel
theorem gz_76_64 : mz_pg 76 64 = some (.istore 8, 0, 0, 0) := by decide +kernel
theorem gz_76_66 : mz_pg 76 66 = some (.iload 7, 0, 0, 0) := by decide +kernel
theorem gz_76_68 : mz_pg 76 68 = some (.iload_n 3, 0, 0, 0) := by decide +kernel
theorem gz_76_69 : mz_pg 76 69 = some (.if_icmp .ge 20, 0, 0, 0) := by decide +kernel
theorem gz_76_72 : mz_pg 76 72 = some (.aload_n 0, 0, 0, 0) := by decide +kernel
theorem gz_76_73 : mz_pg 76 73 = some (.getfield 11, 8, 2, 333) := by decide +kernel
theorem gz_76_76 : mz_pg 76 76 = some (.iload 8, 0, 0, 0) := by decide +kernel
theorem gz_76_78 : mz_pg 76 78 = some (.iconst 1, 0, 0, 0) := by decide +kernel
theorem gz_76_79 : mz_pg 76 79 = some (.iadd, 0, 0, 0) := by decide +kernel
theorem gz_76_80 : mz_pg 76 80 = some (.dup2, 0, 0, 0) := by decide +kernel
theorem gz_76_81 : mz_pg 76 81 = some (.iaload, 0, 0, 0) := by decide +kernel
theorem gz_76_82 : mz_pg 76 82 = some (.iload 6, 0, 0, 0) := by decide +kernel
theorem gz_76_84 : mz_pg 76 84 = some (.iadd, 0, 0, 0) := by decide +kernel
theorem gz_76_85 : mz_pg 76 85 = some (.iastore, 0, 0, 0) := by decide +kernel
theorem gz_76_86 : mz_pg 76 86 = some (.goto 61, 0, 0, 0) := by decide +kernel
theorem gz_76_89 : mz_pg 76 89 = some (.aload_n 0, 0, 0, 0) := by decide +kernel
theorem gz_76_90 : mz_pg 76 90 = some (.getfield 11, 8, 2, 333) := by decide +kernel
theorem gz_76_93 : mz_pg 76 93 = some (.iload 8, 0, 0, 0) := by decide +kernel
theorem gz_76_95 : mz_pg 76 95 = some (.iload 5, 0, 0, 0) := by decide +kernel
theorem gz_76_97 : mz_pg 76 97 = some (.iastore, 0, 0, 0) := by decide +kernel
theorem gz_76_98 : mz_pg 76 98 = some (.aload_n 0, 0, 0, 0) := by decide +kernel
theorem gz_76_99 : mz_pg 76 99 = some (.getfield 11, 8, 2, 333) := by decide +kernel
theorem gz_76_102 : mz_pg 76 102 = some (.iload 8, 0, 0, 0) := by decide +kernel
theorem gz_76_104 : mz_pg 76 104 = some (.iconst 1, 0, 0, 0) := by decide +kernel
theorem gz_76_105 : mz_pg 76 105 = some (.iadd, 0, 0, 0) := by decide +kernel
theorem gz_76_106 : mz_pg 76 106 = some (.iload 6, 0, 0, 0) := by decide +kernel
theorem gz_76_108 : mz_pg 76 108 = some (.iastore, 0, 0, 0) := by decide +kernel
theorem gz_76_109 : mz_pg 76 109 = some (.aload_n 0, 0, 0, 0) := by decide +kernel
theorem gz_76_110 : mz_pg 76 110 = some (.getfield 11, 8, 2, 333) := by decide +kernel
theorem gz_76_113 : mz_pg 76 113 = some (.iload 8, 0, 0, 0) := by decide +kernel
theorem gz_76_115 : mz_pg 76 115 = some (.bipush 8, 0, 0, 0) := by decide +kernel
theorem gz_76_117 : mz_pg 76 117 = some (.iadd, 0, 0, 0) := by decide +kernel
theorem gz_76_118 : mz_pg 76 118 = some (.iconst (-1), 0, 0, 0) := by decide +kernel
theorem gz_76_119 : mz_pg 76 119 = some (.iastore, 0, 0, 0) := by decide +kernel
theorem gz_76_120 : mz_pg 76 120 = some (.aload_n 0, 0, 0, 0) := by decide +kernel
theorem gz_76_121 : mz_pg 76 121 = some (.getfield 11, 8, 2, 333) := by decide +kernel
theorem gz_76_124 : mz_pg 76 124 = some (.iload 8, 0, 0, 0) := by decide +kernel
theorem gz_76_126 : mz_pg 76 126 = some (.bipush 8, 0, 0, 0) := by decide +kernel
theorem gz_76_128 : mz_pg 76 128 = some (.iadd, 0, 0, 0) := by decide +kernel
theorem gz_76_129 : mz_pg 76 129 = some (.iconst 1, 0, 0, 0) := by decide +kernel
theorem gz_76_130 : mz_pg 76 130 = some (.iadd, 0, 0, 0) := by decide +kernel
theorem gz_76_131 : mz_pg 76 131 = some (.iconst (-1), 0, 0, 0) := by decide +kernel
theorem gz_76_132 : mz_pg 76 132 = some (.iastore, 0, 0, 0) := by decide +kernel
theorem gz_76_133 : mz_pg 76 133 = some (.aload_n 0, 0, 0, 0) := by decide +kernel
theorem gz_76_134 : mz_pg 76 134 = some (.getfield 11, 8, 2, 333) := by decide +kernel
theorem gz_76_137 : mz_pg 76 137 = some (.iload 8, 0, 0, 0) := by decide +kernel
theorem gz_76_139 : mz_pg 76 139 = some (.bipush 16, 0, 0, 0) := by decide +kernel
theorem gz_76_141 : mz_pg 76 141 = some (.iadd, 0, 0, 0) := by decide +kernel
theorem gz_76_142 : mz_pg 76 142 = some (.iload_n 3, 0, 0, 0) := by decide +kernel
theorem gz_76_143 : mz_pg 76 143 = some (.iinc 3 1, 0, 0, 0) := by decide +kernel
theorem gz_76_146 : mz_pg 76 146 = some (.iastore, 0, 0, 0) := by decide +kernel
theorem gz_76_147 : mz_pg 76 147 = some (.iinc 4 1, 0, 0, 0) := by decide +kernel
theorem gz_76_150 : mz_pg 76 150 = some (.goto (-145), 0, 0, 0) := by decide +kernel
theorem gz_76_153 : mz_pg 76 153 = some (.aload_n 0, 0, 0, 0) := by decide +kernel
theorem gz_76_154 : mz_pg 76 154 = some (.iload_n 3, 0, 0, 0) := by decide +kernel
theorem gz_76_155 : mz_pg 76 155 = some (.putfield 22, 8, 0, 327) := by decide +kernel
theorem gz_76_158 : mz_pg 76 158 = some (.aload_n 0, 0, 0, 0) := by decide +kernel
theorem gz_76_159 : mz_pg 76 159 = some (.iconst 2, 0, 0, 0) := by decide +kernel
theorem gz_76_160 : mz_pg 76 160 = some (.putfield 26, 8, 1, 331) := by decide +kernel
theorem gz_76_163 : mz_pg 76 163 = some (.return_, 0, 0, 0) := by decide +kernel
theorem gz_77_0 : mz_pg 77 0 = some (.iconst 0, 0, 0, 0) := by decide +kernel
theorem gz_77_1 : mz_pg 77 1 = some (.istore 4, 0, 0, 0) := by decide +kernel
theorem gz_77_3 : mz_pg 77 3 = some (.iconst 0, 0, 0, 0) := by decide +kernel
theorem gz_77_4 : mz_pg 77 4 = some (.istore 5, 0, 0, 0) := by decide +kernel
theorem gz_77_6 : mz_pg 77 6 = some (.iload 5, 0, 0, 0) := by decide +kernel
theorem gz_77_8 : mz_pg 77 8 = some (.aload_n 0, 0, 0, 0) := by decide +kernel
theorem gz_77_9 : mz_pg 77 9 = some (.getfield 22, 8, 0, 327) := by decide +kernel
theorem gz_77_12 : mz_pg 77 12 = some (.if_icmp .ge 35, 0, 0, 0) := by decide +kernel
theorem gz_77_15 : mz_pg 77 15 = some (.iload_n 1, 0, 0, 0) := by decide +kernel
theorem gz_77_16 : mz_pg 77 16 = some (.aload_n 0, 0, 0, 0) := by decide +kernel
theorem gz_77_17 : mz_pg 77 17 = some (.iload 5, 0, 0, 0) := by decide +kernel
theorem gz_77_19 : mz_pg 77 19 = some (.iload_n 2, 0, 0, 0) := by decide +kernel
theorem gz_77_20 : mz_pg 77 20 = some (.invokevirtual 102, 1, 74, 843) := by decide +kernel
theorem gz_77_23 : mz_pg 77 23 = some (.iload_n 3, 0, 0, 0) := by decide +kernel
theorem gz_77_24 : mz_pg 77 24 = some (.invokestatic 105, 2, 78, 9) := by decide +kernel
theorem gz_77_27 : mz_pg 77 27 = some (.ifCond .eq 14, 0, 0, 0) := by decide +kernel
theorem gz_77_30 : mz_pg 77 30 = some (.aload_n 0, 0, 0, 0) := by decide +kernel
theorem gz_77_31 : mz_pg 77 31 = some (.iload 5, 0, 0, 0) := by decide +kernel
theorem gz_77_33 : mz_pg 77 33 = some (.iload 4, 0, 0, 0) := by decide +kernel
theorem gz_77_35 : mz_pg 77 35 = some (.iinc 4 1, 0, 0, 0) := by decide +kernel
theorem gz_77_38 : mz_pg 77 38 = some (.invokevirtual 109, 1, 72, 836) := by decide +kernel
theorem gz_77_41 : mz_pg 77 41 = some (.iinc 5 1, 0, 0, 0) := by decide +kernel
theorem gz_77_44 : mz_pg 77 44 = some (.goto (-38), 0, 0, 0) := by decide +kernel
theorem gz_77_47 : mz_pg 77 47 = some (.aload_n 0, 0, 0, 0) := by decide +kernel
theorem gz_77_48 : mz_pg 77 48 = some (.iload 4, 0, 0, 0) := by decide +kernel
theorem gz_77_50 : mz_pg 77 50 = some (.putfield 22, 8, 0, 327) := by decide +kernel
theorem gz_77_53 : mz_pg 77 53 = some (.return_, 0, 0, 0) := by decide +kernel
theorem gz_78_0 : mz_pg 78 0 = some (.iload_n 0, 0, 0, 0) := by decide +kernel
theorem gz_78_1 : mz_pg 78 1 = some (.ifCond .ne 16, 0, 0, 0) := by decide +kernel
theorem gz_78_4 : mz_pg 78 4 = some (.iload_n 1, 0, 0, 0) := by decide +kernel
theorem gz_78_5 : mz_pg 78 5 = some (.iload_n 2, 0, 0, 0) := by decide +kernel
theorem gz_78_6 : mz_pg 78 6 = some (.if_icmp .ge 7, 0, 0, 0) := by decide +kernel
theorem gz_78_9 : mz_pg 78 9 = some (.iconst 1, 0, 0, 0) := by decide +kernel
theorem gz_78_10 : mz_pg 78 10 = some (.goto 35, 0, 0, 0) := by decide +kernel
theorem gz_78_13 : mz_pg 78 13 = some (.iconst 0, 0, 0, 0) := by decide +kernel
theorem gz_78_14 : mz_pg 78 14 = some (.goto 31, 0, 0, 0) := by decide +kernel
theorem gz_78_17 : mz_pg 78 17 = some (.iload_n 0, 0, 0, 0) := by decide +kernel
theorem gz_78_18 : mz_pg 78 18 = some (.iconst 1, 0, 0, 0) := by decide +kernel
theorem gz_78_19 : mz_pg 78 19 = some (.if_icmp .ne 16, 0, 0, 0) := by decide +kernel
theorem gz_78_22 : mz_pg 78 22 = some (.iload_n 1, 0, 0, 0) := by decide +kernel
theorem gz_78_23 : mz_pg 78 23 = some (.iload_n 2, 0, 0, 0) := by decide +kernel
theorem gz_78_24 : mz_pg 78 24 = some (.if_icmp .ne 7, 0, 0, 0) := by decide +kernel
theorem gz_78_27 : mz_pg 78 27 = some (.iconst 1, 0, 0, 0) := by decide +kernel
theorem gz_78_28 : mz_pg 78 28 = some (.goto 17, 0, 0, 0) := by decide +kernel
theorem gz_78_31 : mz_pg 78 31 = some (.iconst 0, 0, 0, 0) := by decide +kernel
theorem gz_78_32 : mz_pg 78 32 = some (.goto 13, 0, 0, 0) := by decide +kernel
theorem gz_78_35 : mz_pg 78 35 = some (.iload_n 1, 0, 0, 0) := by decide +kernel
theorem gz_78_36 : mz_pg 78 36 = some (.iload_n 2, 0, 0, 0) := by decide +kernel
theorem gz_78_37 : mz_pg 78 37 = some (.if_icmp .le 7, 0, 0, 0) := by decide +kernel
theorem gz_78_40 : mz_pg 78 40 = some (.iconst 1, 0, 0, 0) := by decide +kernel
theorem gz_78_41 : mz_pg 78 41 = some (.goto 4, 0, 0, 0) := by decide +kernel
theorem gz_78_44 : mz_pg 78 44 = some (.iconst 0, 0, 0, 0) := by decide +kernel
theorem gz_78_45 : mz_pg 78 45 = some (.ireturn, 0, 0, 0) := by decide +kernel
theorem gz_79_0 : mz_pg 79 0 = some (.iconst 1, 0, 0, 0) := by decide +kernel
theorem gz_79_1 : mz_pg 79 1 = some (.istore_n 1, 0, 0, 0) := by decide +kernel
theorem gz_79_2 : mz_pg 79 2 = some (.iload_n 1, 0, 0, 0) := by decide +kernel
theorem gz_79_3 : mz_pg 79 3 = some (.aload_n 0, 0, 0, 0) := by decide +kernel
theorem gz_79_4 : mz_pg 79 4 = some (.getfield 22, 8, 0, 327) := by decide +kernel
theorem gz_79_7 : mz_pg 79 7 = some (.if_icmp .ge 97, 0, 0, 0) := by decide +kernel
theorem gz_79_10 : mz_pg 79 10 = some (.iload_n 1, 0, 0, 0) := by decide +kernel
theorem gz_79_11 : mz_pg 79 11 = some (.istore_n 2, 0, 0, 0) := by decide +kernel
theorem gz_79_12 : mz_pg 79 12 = some (.iload_n 2, 0, 0, 0) := by decide +kernel
theorem gz_79_13 : mz_pg 79 13 = some (.ifCond .le 45, 0, 0, 0) := by decide +kernel
theorem gz_79_16 : mz_pg 79 16 = some (.aload_n 0, 0, 0, 0) := by decide +kernel
theorem gz_79_17 : mz_pg 79 17 = some (.iload_n 1, 0, 0, 0) := by decide +kernel
theorem gz_79_18 : mz_pg 79 18 = some (.aload_n 0, 0, 0, 0) := by decide +kernel
theorem gz_79_19 : mz_pg 79 19 = some (.iload_n 2, 0, 0, 0) := by decide +kernel
theorem gz_79_20 : mz_pg 79 20 = some (.iconst 1, 0, 0, 0) := by decide +kernel
theorem gz_79_21 : mz_pg 79 21 = some (.isub, 0, 0, 0) := by decide +kernel
theorem gz_79_22 : mz_pg 79 22 = some (.invokevirtual 120, 1, 80, 864) := by decide +kernel
theorem gz_79_25 : mz_pg 79 25 = some (.istore_n 3, 0, 0, 0) := by decide +kernel
theorem gz_79_26 : mz_pg 79 26 = some (.iload_n 3, 0, 0, 0) := by decide +kernel
theorem gz_79_27 : mz_pg 79 27 = some (.ifCond .gt 31, 0, 0, 0) := by decide +kernel
theorem gz_79_30 : mz_pg 79 30 = some (.iload_n 3, 0, 0, 0) := by decide +kernel
theorem gz_79_31 : mz_pg 79 31 = some (.ifCond .ne 21, 0, 0, 0) := by decide +kernel
theorem gz_79_34 : mz_pg 79 34 = some (.aload_n 0, 0, 0, 0) := by decide +kernel
theorem gz_79_35 : mz_pg 79 35 = some (.iload_n 1, 0, 0, 0) := by decide +kernel
theorem gz_79_36 : mz_pg 79 36 = some (.invokevirtual 116, 1, 75, 848) := by decide +kernel
theorem gz_79_39 : mz_pg 79 39 = some (.aload_n 0, 0, 0, 0) := by decide +kernel
theorem gz_79_40 : mz_pg 79 40 = some (.iload_n 2, 0, 0, 0) := by decide +kernel
theorem gz_79_41 : mz_pg 79 41 = some (.iconst 1, 0, 0, 0) := by decide +kernel
theorem gz_79_42 : mz_pg 79 42 = some (.isub, 0, 0, 0) := by decide +kernel
theorem gz_79_43 : mz_pg 79 43 = some (.invokevirtual 116, 1, 75, 848) := by decide +kernel
theorem gz_79_46 : mz_pg 79 46 = some (.if_icmp .lt 6, 0, 0, 0) := by decide +kernel
theorem gz_79_49 : mz_pg 79 49 = some (.goto 9, 0, 0, 0) := by decide +kernel
theorem gz_79_52 : mz_pg 79 52 = some (.iinc 2 (-1), 0, 0, 0) := by decide +kernel
theorem gz_79_55 : mz_pg 79 55 = some (.goto (-43), 0, 0, 0) := by decide +kernel
theorem gz_79_58 : mz_pg 79 58 = some (.iload_n 2, 0, 0, 0) := by decide +kernel
theorem gz_79_59 : mz_pg 79 59 = some (.iload_n 1, 0, 0, 0) := by decide +kernel
theorem gz_79_60 : mz_pg 79 60 = some (.if_icmp .ge 38, 0, 0, 0) := by decide +kernel
theorem gz_79_63 : mz_pg 79 63 = some (.aload_n 0, 0, 0, 0) := by decide +kernel
theorem gz_79_64 : mz_pg 79 64 = some (.iload_n 1, 0, 0, 0) := by decide +kernel
theorem gz_79_65 : mz_pg 79 65 = some (.bipush 11, 0, 0, 0) := by decide +kernel
theorem gz_79_67 : mz_pg 79 67 = some (.invokevirtual 109, 1, 72, 836) := by decide +kernel
theorem gz_79_70 : mz_pg 79 70 = some (.iload_n 1, 0, 0, 0) := by decide +kernel
theorem gz_79_71 : mz_pg 79 71 = some (.istore_n 3, 0, 0, 0) := by decide +kernel
theorem gz_79_72 : mz_pg 79 72 = some (.iload_n 3, 0, 0, 0) := by decide +kernel
theorem gz_79_73 : mz_pg 79 73 = some (.iload_n 2, 0, 0, 0) := by decide +kernel
theorem gz_79_74 : mz_pg 79 74 = some (.if_icmp .le 17, 0, 0, 0) := by decide +kernel
theorem gz_79_77 : mz_pg 79 77 = some (.aload_n 0, 0, 0, 0) := by decide +kernel
theorem gz_79_78 : mz_pg 79 78 = some (.iload_n 3, 0, 0, 0) := by decide +kernel
theorem gz_79_79 : mz_pg 79 79 = some (.iconst 1, 0, 0, 0) := by decide +kernel
theorem gz_79_80 : mz_pg 79 80 = some (.isub, 0, 0, 0) := by decide +kernel
theorem gz_79_81 : mz_pg 79 81 = some (.iload_n 3, 0, 0, 0) := by decide +kernel
theorem gz_79_82 : mz_pg 79 82 = some (.invokevirtual 109, 1, 72, 836) := by decide +kernel
theorem gz_79_85 : mz_pg 79 85 = some (.iinc 3 (-1), 0, 0, 0) := by decide +kernel
theorem gz_79_88 : mz_pg 79 88 = some (.goto (-16), 0, 0, 0) := by decide +kernel
theorem gz_79_91 : mz_pg 79 91 = some (.aload_n 0, 0, 0, 0) := by decide +kernel
theorem gz_79_92 : mz_pg 79 92 = some (.bipush 11, 0, 0, 0) := by decide +kernel
theorem gz_79_94 : mz_pg 79 94 = some (.iload_n 2, 0, 0, 0) := by decide +kernel
theorem gz_79_95 : mz_pg 79 95 = some (.invokevirtual 109, 1, 72, 836) := by decide +kernel
theorem gz_79_98 : mz_pg 79 98 = some (.iinc 1 1, 0, 0, 0) := by decide +kernel
theorem gz_79_101 : mz_pg 79 101 = some (.goto (-99), 0, 0, 0) := by decide +kernel
theorem gz_79_104 : mz_pg 79 104 = some (.return_, 0, 0, 0) := by decide +kernel
theorem gz_80_0 : mz_pg 80 0 = some (.iconst 0, 0, 0, 0) := by decide +kernel
theorem gz_80_1 : mz_pg 80 1 = some (.istore 4, 0, 0, 0) := by decide +kernel
theorem gz_80_3 : mz_pg 80 3 = some (.iload 4, 0, 0, 0) := by decide +kernel
theorem gz_80_5 : mz_pg 80 5 = some (.aload_n 0, 0, 0, 0) := by decide +kernel
theorem gz_80_6 : mz_pg 80 6 = some (.getfield 26, 8, 1, 331) := by decide +kernel
theorem gz_80_9 : mz_pg 80 9 = some (.if_icmp .ge 44, 0, 0, 0) := by decide +kernel
theorem gz_80_12 : mz_pg 80 12 = some (.aload_n 0, 0, 0, 0) := by decide +kernel
theorem gz_80_13 : mz_pg 80 13 = some (.getfield 11, 8, 2, 333) := by decide +kernel
theorem gz_80_16 : mz_pg 80 16 = some (.iload_n 1, 0, 0, 0) := by decide +kernel
theorem gz_80_17 : mz_pg 80 17 = some (.bipush 17, 0, 0, 0) := by decide +kernel
theorem gz_80_19 : mz_pg 80 19 = some (.imul, 0, 0, 0) := by decide +kernel
theorem gz_80_20 : mz_pg 80 20 = some (.iload 4, 0, 0, 0) := by decide +kernel
theorem gz_80_22 : mz_pg 80 22 = some (.iadd, 0, 0, 0) := by decide +kernel
theorem gz_80_23 : mz_pg 80 23 = some (.iaload, 0, 0, 0) := by decide +kernel
theorem gz_80_24 : mz_pg 80 24 = some (.aload_n 2, 0, 0, 0) := by decide +kernel
theorem gz_80_25 : mz_pg 80 25 = some (.getfield 11, 8, 2, 333) := by decide +kernel
theorem gz_80_28 : mz_pg 80 28 = some (.iload_n 3, 0, 0, 0) := by decide +kernel
theorem gz_80_29 : mz_pg 80 29 = some (.bipush 17, 0, 0, 0) := by decide +kernel
theorem gz_80_31 : mz_pg 80 31 = some (.imul, 0, 0, 0) := by decide +kernel
theorem gz_80_32 : mz_pg 80 32 = some (.iload 4, 0, 0, 0) := by decide +kernel
theorem gz_80_34 : mz_pg 80 34 = some (.iadd, 0, 0, 0) := by decide +kernel
theorem gz_80_35 : mz_pg 80 35 = some (.iaload, 0, 0, 0) := by decide +kernel
theorem gz_80_36 : mz_pg 80 36 = some (.isub, 0, 0, 0) := by decide +kernel
theorem gz_80_37 : mz_pg 80 37 = some (.istore 5, 0, 0, 0) := by decide +kernel
theorem gz_80_39 : mz_pg 80 39 = some (.iload 5, 0, 0, 0) := by decide +kernel
theorem gz_80_41 : mz_pg 80 41 = some (.ifCond .eq 6, 0, 0, 0) := by decide +kernel
theorem gz_80_44 : mz_pg 80 44 = some (.iload 5, 0, 0, 0) := by decide +kernel
theorem gz_80_46 : mz_pg 80 46 = some (.ireturn, 0, 0, 0) := by decide +kernel
theorem gz_80_47 : mz_pg 80 47 = some (.iinc 4 1, 0, 0, 0) := by decide +kernel
theorem gz_80_50 : mz_pg 80 50 = some (.goto (-47), 0, 0, 0) := by decide +kernel
theorem gz_80_53 : mz_pg 80 53 = some (.iconst 0, 0, 0, 0) := by decide +kernel
theorem gz_80_54 : mz_pg 80 54 = some (.ireturn, 0, 0, 0) := by decide +kernel
theorem gz_81_0 : mz_pg 81 0 = some (.iload_n 1, 0, 0, 0) := by decide +kernel
theorem gz_81_1 : mz_pg 81 1 = some (.ifCond .lt 27, 0, 0, 0) := by decide +kernel
theorem gz_81_4 : mz_pg 81 4 = some (.iload_n 1, 0, 0, 0) := by decide +kernel
theorem gz_81_5 : mz_pg 81 5 = some (.aload_n 0, 0, 0, 0) := by decide +kernel
theorem gz_81_6 : mz_pg 81 6 = some (.getfield 22, 8, 0, 327) := by decide +kernel
theorem gz_81_9 : mz_pg 81 9 = some (.if_icmp .ge 19, 0, 0, 0) := by decide +kernel
theorem gz_81_12 : mz_pg 81 12 = some (.iload_n 2, 0, 0, 0) := by decide +kernel
theorem gz_81_13 : mz_pg 81 13 = some (.ifCond .lt 15, 0, 0, 0) := by decide +kernel
theorem gz_81_16 : mz_pg 81 16 = some (.iload_n 2, 0, 0, 0) := by decide +kernel
theorem gz_81_17 : mz_pg 81 17 = some (.aload_n 0, 0, 0, 0) := by decide +kernel
theorem gz_81_18 : mz_pg 81 18 = some (.getfield 26, 8, 1, 331) := by decide +kernel
theorem gz_81_21 : mz_pg 81 21 = some (.if_icmp .ge 7, 0, 0, 0) := by decide +kernel
theorem gz_81_24 : mz_pg 81 24 = some (.iconst 1, 0, 0, 0) := by decide +kernel
theorem gz_81_25 : mz_pg 81 25 = some (.goto 4, 0, 0, 0) := by decide +kernel
theorem gz_81_28 : mz_pg 81 28 = some (.iconst 0, 0, 0, 0) := by decide +kernel
theorem gz_81_29 : mz_pg 81 29 = some (.ireturn, 0, 0, 0) := by decide +kernel
theorem gz_82_0 : mz_pg 82 0 = some (.aload_n 0, 0, 0, 0) := by decide +kernel
theorem gz_82_1 : mz_pg 82 1 = some (.getfield 59, 9, 9, 537) := by decide +kernel
theorem gz_82_4 : mz_pg 82 4 = some (.getfield 166, 2, 4, 396) := by decide +kernel
theorem gz_82_7 : mz_pg 82 7 = some (.astore 5, 0, 0, 0) := by decide +kernel
theorem gz_82_9 : mz_pg 82 9 = some (.aload_n 0, 0, 0, 0) := by decide +kernel
theorem gz_82_10 : mz_pg 82 10 = some (.getfield 59, 9, 9, 537) := by decide +kernel
theorem gz_82_13 : mz_pg 82 13 = some (.aload_n 0, 0, 0, 0) := by decide +kernel
theorem gz_82_14 : mz_pg 82 14 = some (.getfield 19, 9, 1, 529) := by decide +kernel
theorem gz_82_17 : mz_pg 82 17 = some (.iload_n 1, 0, 0, 0) := by decide +kernel
theorem gz_82_18 : mz_pg 82 18 = some (.invokevirtual 170, 1, 65, 811) := by decide +kernel
theorem gz_82_21 : mz_pg 82 21 = some (.ifCond .eq 13, 0, 0, 0) := by decide +kernel
theorem gz_82_24 : mz_pg 82 24 = some (.aload 5, 0, 0, 0) := by decide +kernel
theorem gz_82_26 : mz_pg 82 26 = some (.iload_n 2, 0, 0, 0) := by decide +kernel
theorem gz_82_27 : mz_pg 82 27 = some (.iload_n 3, 0, 0, 0) := by decide +kernel
theorem gz_82_28 : mz_pg 82 28 = some (.invokevirtual 174, 1, 81, 868) := by decide +kernel
theorem gz_82_31 : mz_pg 82 31 = some (.ifCond .ne 5, 0, 0, 0) := by decide +kernel
theorem gz_82_34 : mz_pg 82 34 = some (.iconst (-1), 0, 0, 0) := by decide +kernel
theorem gz_82_35 : mz_pg 82 35 = some (.ireturn, 0, 0, 0) := by decide +kernel
theorem gz_82_36 : mz_pg 82 36 = some (.aload 5, 0, 0, 0) := by decide +kernel
theorem gz_82_38 : mz_pg 82 38 = some (.iload_n 2, 0, 0, 0) := by decide +kernel
theorem gz_82_39 : mz_pg 82 39 = some (.iload_n 3, 0, 0, 0) := by decide +kernel
theorem gz_82_40 : mz_pg 82 40 = some (.invokevirtual 180, 1, 83, 877) := by decide +kernel
theorem gz_82_43 : mz_pg 82 43 = some (.istore 6, 0, 0, 0) := by decide +kernel
theorem gz_82_45 : mz_pg 82 45 = some (.iload 6, 0, 0, 0) := by decide +kernel
theorem gz_82_47 : mz_pg 82 47 = some (.iconst (-1), 0, 0, 0) := by decide +kernel
theorem gz_82_48 : mz_pg 82 48 = some (.if_icmp .ne 5, 0, 0, 0) := by decide +kernel
theorem gz_82_51 : mz_pg 82 51 = some (.iconst (-1), 0, 0, 0) := by decide +kernel
theorem gz_82_52 : mz_pg 82 52 = some (.ireturn, 0, 0, 0) := by decide +kernel
theorem gz_82_53 : mz_pg 82 53 = some (.iload 4, 0, 0, 0) := by decide +kernel
theorem gz_82_55 : mz_pg 82 55 = some (.tableswitch 44 0 2 #[25, 31, 39], 0, 0, 0) := by decide +kernel
theorem gz_82_80 : mz_pg 82 80 = some (.iload 6, 0, 0, 0) := by decide +kernel
theorem gz_82_82 : mz_pg 82 82 = some (.bipush 80, 0, 0, 0) := by decide +kernel
theorem gz_82_84 : mz_pg 82 84 = some (.idiv, 0, 0, 0) := by decide +kernel
theorem gz_82_85 : mz_pg 82 85 = some (.ireturn, 0, 0, 0) := by decide +kernel
theorem gz_82_86 : mz_pg 82 86 = some (.iload 6, 0, 0, 0) := by decide +kernel
theorem gz_82_88 : mz_pg 82 88 = some (.iconst 4, 0, 0, 0) := by decide +kernel
theorem gz_82_89 : mz_pg 82 89 = some (.idiv, 0, 0, 0) := by decide +kernel
theorem gz_82_90 : mz_pg 82 90 = some (.bipush 20, 0, 0, 0) := by decide +kernel
theorem gz_82_92 : mz_pg 82 92 = some (.irem, 0, 0, 0) := by decide +kernel
theorem gz_82_93 : mz_pg 82 93 = some (.ireturn, 0, 0, 0) := by decide +kernel
theorem gz_82_94 : mz_pg 82 94 = some (.iload 6, 0, 0, 0) := by decide +kernel
theorem gz_82_96 : mz_pg 82 96 = some (.iconst 4, 0, 0, 0) := by decide +kernel
theorem gz_82_97 : mz_pg 82 97 = some (.irem, 0, 0, 0) := by decide +kernel
theorem gz_82_98 : mz_pg 82 98 = some (.ireturn, 0, 0, 0) := by decide +kernel
theorem gz_82_99 : mz_pg 82 99 = some (.iconst (-1), 0, 0, 0) := by decide +kernel
theorem gz_82_100 : mz_pg 82 100 = some (.ireturn, 0, 0, 0) := by decide +kernel
theorem gz_83_0 : mz_pg 83 0 = some (.aload_n 0, 0, 0, 0) := by decide +kernel
theorem gz_83_1 : mz_pg 83 1 = some (.getfield 11, 8, 2, 333) := by decide +kernel
theorem gz_83_4 : mz_pg 83 4 = some (.iload_n 1, 0, 0, 0) := by decide +kernel
theorem gz_83_5 : mz_pg 83 5 = some (.bipush 17, 0, 0, 0) := by decide +kernel
theorem gz_83_7 : mz_pg 83 7 = some (.imul, 0, 0, 0) := by decide +kernel
theorem gz_83_8 : mz_pg 83 8 = some (.bipush 8, 0, 0, 0) := by decide +kernel
theorem gz_83_10 : mz_pg 83 10 = some (.iadd, 0, 0, 0) := by decide +kernel
theorem gz_83_11 : mz_pg 83 11 = some (.iload_n 2, 0, 0, 0) := by decide +kernel
theorem gz_83_12 : mz_pg 83 12 = some (.iadd, 0, 0, 0) := by decide +kernel
theorem gz_83_13 : mz_pg 83 13 = some (.iaload, 0, 0, 0) := by decide +kernel
theorem gz_83_14 : mz_pg 83 14 = some (.ireturn, 0, 0, 0) := by decide +kernel
theorem gz_84_0 : mz_pg 84 0 = some (.aload_n 0, 0, 0, 0) := by decide +kernel
theorem gz_84_1 : mz_pg 84 1 = some (.getfield 59, 9, 9, 537) := by decide +kernel
theorem gz_84_4 : mz_pg 84 4 = some (.aload_n 0, 0, 0, 0) := by decide +kernel
theorem gz_84_5 : mz_pg 84 5 = some (.getfield 19, 9, 1, 529) := by decide +kernel
theorem gz_84_8 : mz_pg 84 8 = some (.iload_n 1, 0, 0, 0) := by decide +kernel
theorem gz_84_9 : mz_pg 84 9 = some (.invokevirtual 170, 1, 65, 811) := by decide +kernel
theorem gz_84_12 : mz_pg 84 12 = some (.ifCond .ne 5, 0, 0, 0) := by decide +kernel
theorem gz_84_15 : mz_pg 84 15 = some (.iconst (-1), 0, 0, 0) := by decide +kernel
theorem gz_84_16 : mz_pg 84 16 = some (.ireturn, 0, 0, 0) := by decide +kernel
theorem gz_84_17 : mz_pg 84 17 = some (.aload_n 0, 0, 0, 0) := by decide +kernel
theorem gz_84_18 : mz_pg 84 18 = some (.getfield 36, 9, 6, 534) := by decide +kernel
theorem gz_84_21 : mz_pg 84 21 = some (.iload_n 1, 0, 0, 0) := by decide +kernel
theorem gz_84_22 : mz_pg 84 22 = some (.aaload, 0, 0, 0) := by decide +kernel
theorem gz_84_23 : mz_pg 84 23 = some (.astore_n 3, 0, 0, 0) := by decide +kernel
theorem gz_84_24 : mz_pg 84 24 = some (.iload_n 2, 0, 0, 0) := by decide +kernel
theorem gz_84_25 : mz_pg 84 25 = some (.tableswitch 66 0 4 #[35, 46, 51, 56, 61], 0, 0, 0) := by decide +kernel
theorem gz_84_60 : mz_pg 84 60 = some (.aload_n 0, 0, 0, 0) := by decide +kernel
theorem gz_84_61 : mz_pg 84 61 = some (.getfield 59, 9, 9, 537) := by decide +kernel
theorem gz_84_64 : mz_pg 84 64 = some (.getfield 166, 2, 4, 396) := by decide +kernel
theorem gz_84_67 : mz_pg 84 67 = some (.getfield 183, 8, 0, 330) := by decide +kernel
theorem gz_84_70 : mz_pg 84 70 = some (.ireturn, 0, 0, 0) := by decide +kernel
theorem gz_84_71 : mz_pg 84 71 = some (.aload_n 3, 0, 0, 0) := by decide +kernel
theorem gz_84_72 : mz_pg 84 72 = some (.getfield 186, 4, 4, 210) := by decide +kernel
theorem gz_84_75 : mz_pg 84 75 = some (.ireturn, 0, 0, 0) := by decide +kernel
theorem gz_84_76 : mz_pg 84 76 = some (.aload_n 3, 0, 0, 0) := by decide +kernel
theorem gz_84_77 : mz_pg 84 77 = some (.getfield 188, 4, 5, 212) := by decide +kernel
theorem gz_84_80 : mz_pg 84 80 = some (.ireturn, 0, 0, 0) := by decide +kernel
theorem gz_84_81 : mz_pg 84 81 = some (.aload_n 3, 0, 0, 0) := by decide +kernel
theorem gz_84_82 : mz_pg 84 82 = some (.getfield 191, 4, 2, 204) := by decide +kernel
theorem gz_84_85 : mz_pg 84 85 = some (.ireturn, 0, 0, 0) := by decide +kernel
theorem gz_84_86 : mz_pg 84 86 = some (.aload_n 3, 0, 0, 0) := by decide +kernel
theorem gz_84_87 : mz_pg 84 87 = some (.getfield 194, 4, 6, 215) := by decide +kernel
theorem gz_84_90 : mz_pg 84 90 = some (.ireturn, 0, 0, 0) := by decide +kernel
theorem gz_84_91 : mz_pg 84 91 = some (.iconst (-1), 0, 0, 0) := by decide +kernel
theorem gz_84_92 : mz_pg 84 92 = some (.ireturn, 0, 0, 0) := by decide +kernel
theorem gz_85_0 : mz_pg 85 0 = some (.iload_n 1, 0, 0, 0) := by decide +kernel
theorem gz_85_1 : mz_pg 85 1 = some (.ifCond .lt 19, 0, 0, 0) := by decide +kernel
theorem gz_85_4 : mz_pg 85 4 = some (.iload_n 1, 0, 0, 0) := by decide +kernel
theorem gz_85_5 : mz_pg 85 5 = some (.bipush 8, 0, 0, 0) := by decide +kernel
theorem gz_85_7 : mz_pg 85 7 = some (.if_icmp .ge 13, 0, 0, 0) := by decide +kernel
theorem gz_85_10 : mz_pg 85 10 = some (.iload_n 2, 0, 0, 0) := by decide +kernel
theorem gz_85_11 : mz_pg 85 11 = some (.ifCond .lt 9, 0, 0, 0) := by decide +kernel
theorem gz_85_14 : mz_pg 85 14 = some (.iload_n 2, 0, 0, 0) := by decide +kernel
theorem gz_85_15 : mz_pg 85 15 = some (.bipush 20, 0, 0, 0) := by decide +kernel
theorem gz_85_17 : mz_pg 85 17 = some (.if_icmp .lt 5, 0, 0, 0) := by decide +kernel
theorem gz_85_20 : mz_pg 85 20 = some (.iconst 0, 0, 0, 0) := by decide +kernel
theorem gz_85_21 : mz_pg 85 21 = some (.ireturn, 0, 0, 0) := by decide +kernel
theorem gz_85_22 : mz_pg 85 22 = some (.aload_n 0, 0, 0, 0) := by decide +kernel
theorem gz_85_23 : mz_pg 85 23 = some (.getfield 50, 9, 8, 536) := by decide +kernel
theorem gz_85_26 : mz_pg 85 26 = some (.iload_n 1, 0, 0, 0) := by decide +kernel
theorem gz_85_27 : mz_pg 85 27 = some (.iload_n 2, 0, 0, 0) := by decide +kernel
theorem gz_85_28 : mz_pg 85 28 = some (.iastore, 0, 0, 0) := by decide +kernel
theorem gz_85_29 : mz_pg 85 29 = some (.iconst 1, 0, 0, 0) := by decide +kernel
theorem gz_85_30 : mz_pg 85 30 = some (.ireturn, 0, 0, 0) := by decide +kernel
theorem gz_86_0 : mz_pg 86 0 = some (.aload_n 0, 0, 0, 0) := by decide +kernel
theorem gz_86_1 : mz_pg 86 1 = some (.getfield 59, 9, 9, 537) := by decide +kernel
theorem gz_86_4 : mz_pg 86 4 = some (.aload_n 0, 0, 0, 0) := by decide +kernel
theorem gz_86_5 : mz_pg 86 5 = some (.getfield 19, 9, 1, 529) := by decide +kernel
theorem gz_86_8 : mz_pg 86 8 = some (.iload_n 1, 0, 0, 0) := by decide +kernel
theorem gz_86_9 : mz_pg 86 9 = some (.iload_n 2, 0, 0, 0) := by decide +kernel
theorem gz_86_10 : mz_pg 86 10 = some (.iload_n 3, 0, 0, 0) := by decide +kernel
theorem gz_86_11 : mz_pg 86 11 = some (.iload 4, 0, 0, 0) := by decide +kernel
theorem gz_86_13 : mz_pg 86 13 = some (.iload 5, 0, 0, 0) := by decide +kernel
theorem gz_86_15 : mz_pg 86 15 = some (.invokevirtual 197, 1, 87, 893) := by decide +kernel
theorem gz_86_18 : mz_pg 86 18 = some (.ifCond .ne 5, 0, 0, 0) := by decide +kernel
theorem gz_86_21 : mz_pg 86 21 = some (.iconst (-1), 0, 0, 0) := by decide +kernel
theorem gz_86_22 : mz_pg 86 22 = some (.ireturn, 0, 0, 0) := by decide +kernel
theorem gz_86_23 : mz_pg 86 23 = some (.aload_n 0, 0, 0, 0) := by decide +kernel
theorem gz_86_24 : mz_pg 86 24 = some (.getfield 59, 9, 9, 537) := by decide +kernel
theorem gz_86_27 : mz_pg 86 27 = some (.aload_n 0, 0, 0, 0) := by decide +kernel
theorem gz_86_28 : mz_pg 86 28 = some (.getfield 19, 9, 1, 529) := by decide +kernel
theorem gz_86_31 : mz_pg 86 31 = some (.iload_n 1, 0, 0, 0) := by decide +kernel
theorem gz_86_32 : mz_pg 86 32 = some (.iconst (-1), 0, 0, 0) := by decide +kernel
theorem gz_86_33 : mz_pg 86 33 = some (.iconst 0, 0, 0, 0) := by decide +kernel
theorem gz_86_34 : mz_pg 86 34 = some (.invokevirtual 201, 1, 92, 916) := by decide +kernel
theorem gz_86_37 : mz_pg 86 37 = some (.aload_n 0, 0, 0, 0) := by decide +kernel
theorem gz_86_38 : mz_pg 86 38 = some (.getfield 59, 9, 9, 537) := by decide +kernel
theorem gz_86_41 : mz_pg 86 41 = some (.getfield 205, 2, 11, 407) := by decide +kernel
theorem gz_86_44 : mz_pg 86 44 = some (.ireturn, 0, 0, 0) := by decide +kernel
theorem gz_87_0 : mz_pg 87 0 = some (.iload_n 3, 0, 0, 0) := by decide +kernel
theorem gz_87_1 : mz_pg 87 1 = some (.ifCond .lt 17, 0, 0, 0) := by decide +kernel
theorem gz_87_4 : mz_pg 87 4 = some (.iload_n 3, 0, 0, 0) := by decide +kernel
theorem gz_87_5 : mz_pg 87 5 = some (.iconst 2, 0, 0, 0) := by decide +kernel
theorem gz_87_6 : mz_pg 87 6 = some (.if_icmp .gt 12, 0, 0, 0) := by decide +kernel
theorem gz_87_9 : mz_pg 87 9 = some (.aload_n 0, 0, 0, 0) := by decide +kernel
theorem gz_87_10 : mz_pg 87 10 = some (.aload_n 1, 0, 0, 0) := by decide +kernel
theorem gz_87_11 : mz_pg 87 11 = some (.iload_n 2, 0, 0, 0) := by decide +kernel
theorem gz_87_12 : mz_pg 87 12 = some (.invokevirtual 73, 1, 65, 897) := by decide +kernel
theorem gz_87_15 : mz_pg 87 15 = some (.ifCond .ne 5, 0, 0, 0) := by decide +kernel
theorem gz_87_18 : mz_pg 87 18 = some (.iconst 0, 0, 0, 0) := by decide +kernel
theorem gz_87_19 : mz_pg 87 19 = some (.ireturn, 0, 0, 0) := by decide +kernel
theorem gz_87_20 : mz_pg 87 20 = some (.iload_n 3, 0, 0, 0) := by decide +kernel
theorem gz_87_21 : mz_pg 87 21 = some (.iconst 2, 0, 0, 0) := by decide +kernel
theorem gz_87_22 : mz_pg 87 22 = some (.if_icmp .eq 22, 0, 0, 0) := by decide +kernel
theorem gz_87_25 : mz_pg 87 25 = some (.iload 4, 0, 0, 0) := by decide +kernel
theorem gz_87_27 : mz_pg 87 27 = some (.ifCond .lt 15, 0, 0, 0) := by decide +kernel
theorem gz_87_30 : mz_pg 87 30 = some (.iload 4, 0, 0, 0) := by decide +kernel
theorem gz_87_32 : mz_pg 87 32 = some (.aload_n 0, 0, 0, 0) := by decide +kernel
theorem gz_87_33 : mz_pg 87 33 = some (.getfield 21, 2, 4, 395) := by decide +kernel
theorem gz_87_36 : mz_pg 87 36 = some (.getfield 77, 8, 0, 328) := by decide +kernel
theorem gz_87_39 : mz_pg 87 39 = some (.if_icmp .lt 5, 0, 0, 0) := by decide +kernel
theorem gz_87_42 : mz_pg 87 42 = some (.iconst 0, 0, 0, 0) := by decide +kernel
theorem gz_87_43 : mz_pg 87 43 = some (.ireturn, 0, 0, 0) := by decide +kernel
theorem gz_87_44 : mz_pg 87 44 = some (.iload_n 3, 0, 0, 0) := by decide +kernel
theorem gz_87_45 : mz_pg 87 45 = some (.ifCond .ne 32, 0, 0, 0) := by decide +kernel
theorem gz_87_48 : mz_pg 87 48 = some (.aload_n 0, 0, 0, 0) := by decide +kernel
theorem gz_87_49 : mz_pg 87 49 = some (.getfield 21, 2, 4, 395) := by decide +kernel
theorem gz_87_52 : mz_pg 87 52 = some (.iload 4, 0, 0, 0) := by decide +kernel
theorem gz_87_54 : mz_pg 87 54 = some (.iload 5, 0, 0, 0) := by decide +kernel
theorem gz_87_56 : mz_pg 87 56 = some (.invokevirtual 81, 1, 81, 898) := by decide +kernel
theorem gz_87_59 : mz_pg 87 59 = some (.ifCond .eq 16, 0, 0, 0) := by decide +kernel
theorem gz_87_62 : mz_pg 87 62 = some (.iload 6, 0, 0, 0) := by decide +kernel
theorem gz_87_64 : mz_pg 87 64 = some (.ifCond .lt 11, 0, 0, 0) := by decide +kernel
theorem gz_87_67 : mz_pg 87 67 = some (.iload 6, 0, 0, 0) := by decide +kernel
theorem gz_87_69 : mz_pg 87 69 = some (.sipush 200, 0, 0, 0) := by decide +kernel
theorem gz_87_72 : mz_pg 87 72 = some (.if_icmp .lt 5, 0, 0, 0) := by decide +kernel
theorem gz_87_75 : mz_pg 87 75 = some (.iconst 0, 0, 0, 0) := by decide +kernel
theorem gz_87_76 : mz_pg 87 76 = some (.ireturn, 0, 0, 0) := by decide +kernel
theorem gz_87_77 : mz_pg 87 77 = some (.aload_n 0, 0, 0, 0) := by decide +kernel
theorem gz_87_78 : mz_pg 87 78 = some (.iload_n 3, 0, 0, 0) := by decide +kernel
theorem gz_87_79 : mz_pg 87 79 = some (.putfield 85, 2, 15, 411) := by decide +kernel
theorem gz_87_82 : mz_pg 87 82 = some (.aload_n 0, 0, 0, 0) := by decide +kernel
theorem gz_87_83 : mz_pg 87 83 = some (.iload 4, 0, 0, 0) := by decide +kernel
theorem gz_87_85 : mz_pg 87 85 = some (.putfield 88, 2, 16, 412) := by decide +kernel
theorem gz_87_88 : mz_pg 87 88 = some (.aload_n 0, 0, 0, 0) := by decide +kernel
theorem gz_87_89 : mz_pg 87 89 = some (.getfield 25, 2, 5, 397) := by decide +kernel
theorem gz_87_92 : mz_pg 87 92 = some (.aload_n 0, 0, 0, 0) := by decide +kernel
theorem gz_87_93 : mz_pg 87 93 = some (.getfield 21, 2, 4, 395) := by decide +kernel
theorem gz_87_96 : mz_pg 87 96 = some (.invokevirtual 91, 1, 88, 899) := by decide +kernel
theorem gz_87_99 : mz_pg 87 99 = some (.iload_n 3, 0, 0, 0) := by decide +kernel
theorem gz_87_100 : mz_pg 87 100 = some (.ifCond .ne 19, 0, 0, 0) := by decide +kernel
theorem gz_87_103 : mz_pg 87 103 = some (.aload_n 0, 0, 0, 0) := by decide +kernel
theorem gz_87_104 : mz_pg 87 104 = some (.getfield 25, 2, 5, 397) := by decide +kernel
theorem gz_87_107 : mz_pg 87 107 = some (.iload 4, 0, 0, 0) := by decide +kernel
theorem gz_87_109 : mz_pg 87 109 = some (.iload 5, 0, 0, 0) := by decide +kernel
theorem gz_87_111 : mz_pg 87 111 = some (.iload 6, 0, 0, 0) := by decide +kernel
theorem gz_87_113 : mz_pg 87 113 = some (.invokevirtual 95, 1, 89, 903) := by decide +kernel
theorem gz_87_116 : mz_pg 87 116 = some (.goto 31, 0, 0, 0) := by decide +kernel
theorem gz_87_119 : mz_pg 87 119 = some (.iload_n 3, 0, 0, 0) := by decide +kernel
theorem gz_87_120 : mz_pg 87 120 = some (.iconst 1, 0, 0, 0) := by decide +kernel
theorem gz_87_121 : mz_pg 87 121 = some (.if_icmp .ne 15, 0, 0, 0) := by decide +kernel
theorem gz_87_124 : mz_pg 87 124 = some (.aload_n 0, 0, 0, 0) := by decide +kernel
theorem gz_87_125 : mz_pg 87 125 = some (.getfield 25, 2, 5, 397) := by decide +kernel
theorem gz_87_128 : mz_pg 87 128 = some (.iload 4, 0, 0, 0) := by decide +kernel
theorem gz_87_130 : mz_pg 87 130 = some (.invokevirtual 99, 1, 90, 907) := by decide +kernel
theorem gz_87_133 : mz_pg 87 133 = some (.goto 14, 0, 0, 0) := by decide +kernel
theorem gz_87_136 : mz_pg 87 136 = some (.aload_n 0, 0, 0, 0) := by decide +kernel
theorem gz_87_137 : mz_pg 87 137 = some (.getfield 25, 2, 5, 397) := by decide +kernel
theorem gz_87_140 : mz_pg 87 140 = some (.aload_n 0, 0, 0, 0) := by decide +kernel
theorem gz_87_141 : mz_pg 87 141 = some (.getfield 56, 2, 2, 392) := by decide +kernel
theorem gz_87_144 : mz_pg 87 144 = some (.invokevirtual 103, 1, 91, 911) := by decide +kernel
theorem gz_87_147 : mz_pg 87 147 = some (.aload_n 0, 0, 0, 0) := by decide +kernel
theorem gz_87_148 : mz_pg 87 148 = some (.getfield 25, 2, 5, 397) := by decide +kernel
theorem gz_87_151 : mz_pg 87 151 = some (.invokevirtual 107, 1, 79, 915) := by decide +kernel
theorem gz_87_154 : mz_pg 87 154 = some (.iconst 1, 0, 0, 0) := by decide +kernel
theorem gz_87_155 : mz_pg 87 155 = some (.ireturn, 0, 0, 0) := by decide +kernel
theorem gz_88_0 : mz_pg 88 0 = some (.aload_n 0, 0, 0, 0) := by decide +kernel
theorem gz_88_1 : mz_pg 88 1 = some (.aload_n 1, 0, 0, 0) := by decide +kernel
theorem gz_88_2 : mz_pg 88 2 = some (.getfield 22, 8, 0, 327) := by decide +kernel
theorem gz_88_5 : mz_pg 88 5 = some (.putfield 22, 8, 0, 327) := by decide +kernel
theorem gz_88_8 : mz_pg 88 8 = some (.aload_n 0, 0, 0, 0) := by decide +kernel
theorem gz_88_9 : mz_pg 88 9 = some (.aload_n 1, 0, 0, 0) := by decide +kernel
theorem gz_88_10 : mz_pg 88 10 = some (.getfield 26, 8, 1, 331) := by decide +kernel
theorem gz_88_13 : mz_pg 88 13 = some (.putfield 26, 8, 1, 331) := by decide +kernel
theorem gz_88_16 : mz_pg 88 16 = some (.aload_n 1, 0, 0, 0) := by decide +kernel
theorem gz_88_17 : mz_pg 88 17 = some (.getfield 11, 8, 2, 333) := by decide +kernel
theorem gz_88_20 : mz_pg 88 20 = some (.iconst 0, 0, 0, 0) := by decide +kernel
theorem gz_88_21 : mz_pg 88 21 = some (.aload_n 0, 0, 0, 0) := by decide +kernel
theorem gz_88_22 : mz_pg 88 22 = some (.getfield 11, 8, 2, 333) := by decide +kernel
theorem gz_88_25 : mz_pg 88 25 = some (.iconst 0, 0, 0, 0) := by decide +kernel
theorem gz_88_26 : mz_pg 88 26 = some (.aload_n 0, 0, 0, 0) := by decide +kernel
theorem gz_88_27 : mz_pg 88 27 = some (.getfield 11, 8, 2, 333) := by decide +kernel
theorem gz_88_30 : mz_pg 88 30 = some (.arraylength, 0, 0, 0) := by decide +kernel
theorem gz_88_31 : mz_pg 88 31 = some (.invokestatic 96, 0, 0, 839) := by decide +kernel
theorem gz_88_34 : mz_pg 88 34 = some (.return_, 0, 0, 0) := by decide +kernel
theorem gz_89_0 : mz_pg 89 0 = some (.aload_n 0, 0, 0, 0) := by decide +kernel
theorem gz_89_1 : mz_pg 89 1 = some (.getfield 11, 8, 2, 333) := by decide +kernel
theorem gz_89_4 : mz_pg 89 4 = some (.iload_n 1, 0, 0, 0) := by decide +kernel
theorem gz_89_5 : mz_pg 89 5 = some (.bipush 17, 0, 0, 0) := by decide +kernel
theorem gz_89_7 : mz_pg 89 7 = some (.imul, 0, 0, 0) := by decide +kernel
theorem gz_89_8 : mz_pg 89 8 = some (.iload_n 2, 0, 0, 0) := by decide +kernel
theorem gz_89_9 : mz_pg 89 9 = some (.iadd, 0, 0, 0) := by decide +kernel
theorem gz_89_10 : mz_pg 89 10 = some (.iload_n 3, 0, 0, 0) := by decide +kernel
theorem gz_89_11 : mz_pg 89 11 = some (.iastore, 0, 0, 0) := by decide +kernel
theorem gz_89_12 : mz_pg 89 12 = some (.return_, 0, 0, 0) := by decide +kernel
theorem gz_90_0 : mz_pg 90 0 = some (.iload_n 1, 0, 0, 0) := by decide +kernel
theorem gz_90_1 : mz_pg 90 1 = some (.iconst 1, 0, 0, 0) := by decide +kernel
theorem gz_90_2 : mz_pg 90 2 = some (.iadd, 0, 0, 0) := by decide +kernel
theorem gz_90_3 : mz_pg 90 3 = some (.istore_n 2, 0, 0, 0) := by decide +kernel
theorem gz_90_4 : mz_pg 90 4 = some (.iload_n 2, 0, 0, 0) := by decide +kernel
theorem gz_90_5 : mz_pg 90 5 = some (.aload_n 0, 0, 0, 0) := by decide +kernel
theorem gz_90_6 : mz_pg 90 6 = some (.getfield 22, 8, 0, 327) := by decide +kernel
theorem gz_90_9 : mz_pg 90 9 = some (.if_icmp .ge 17, 0, 0, 0) := by decide +kernel
theorem gz_90_12 : mz_pg 90 12 = some (.aload_n 0, 0, 0, 0) := by decide +kernel
theorem gz_90_13 : mz_pg 90 13 = some (.iload_n 2, 0, 0, 0) := by decide +kernel
theorem gz_90_14 : mz_pg 90 14 = some (.iload_n 2, 0, 0, 0) := by decide +kernel
theorem gz_90_15 : mz_pg 90 15 = some (.iconst 1, 0, 0, 0) := by decide +kernel
theorem gz_90_16 : mz_pg 90 16 = some (.isub, 0, 0, 0) := by decide +kernel
theorem gz_90_17 : mz_pg 90 17 = some (.invokevirtual 109, 1, 72, 836) := by decide +kernel
theorem gz_90_20 : mz_pg 90 20 = some (.iinc 2 1, 0, 0, 0) := by decide +kernel
theorem gz_90_23 : mz_pg 90 23 = some (.goto (-19), 0, 0, 0) := by decide +kernel
theorem gz_90_26 : mz_pg 90 26 = some (.aload_n 0, 0, 0, 0) := by decide +kernel
theorem gz_90_27 : mz_pg 90 27 = some (.dup, 0, 0, 0) := by decide +kernel
theorem gz_90_28 : mz_pg 90 28 = some (.getfield 22, 8, 0, 327) := by decide +kernel
theorem gz_90_31 : mz_pg 90 31 = some (.iconst 1, 0, 0, 0) := by decide +kernel
theorem gz_90_32 : mz_pg 90 32 = some (.isub, 0, 0, 0) := by decide +kernel
theorem gz_90_33 : mz_pg 90 33 = some (.putfield 22, 8, 0, 327) := by decide +kernel
theorem gz_90_36 : mz_pg 90 36 = some (.return_, 0, 0, 0) := by decide +kernel
theorem gz_91_0 : mz_pg 91 0 = some (.aload_n 1, 0, 0, 0) := by decide +kernel
theorem gz_91_1 : mz_pg 91 1 = some (.iconst 0, 0, 0, 0) := by decide +kernel
theorem gz_91_2 : mz_pg 91 2 = some (.aload_n 0, 0, 0, 0) := by decide +kernel
theorem gz_91_3 : mz_pg 91 3 = some (.getfield 11, 8, 2, 333) := by decide +kernel
theorem gz_91_6 : mz_pg 91 6 = some (.aload_n 0, 0, 0, 0) := by decide +kernel
theorem gz_91_7 : mz_pg 91 7 = some (.getfield 22, 8, 0, 327) := by decide +kernel
theorem gz_91_10 : mz_pg 91 10 = some (.bipush 17, 0, 0, 0) := by decide +kernel
theorem gz_91_12 : mz_pg 91 12 = some (.imul, 0, 0, 0) := by decide +kernel
theorem gz_91_13 : mz_pg 91 13 = some (.aload_n 0, 0, 0, 0) := by decide +kernel
theorem gz_91_14 : mz_pg 91 14 = some (.getfield 26, 8, 1, 331) := by decide +kernel
theorem gz_91_17 : mz_pg 91 17 = some (.invokestatic 96, 0, 0, 839) := by decide +kernel
theorem gz_91_20 : mz_pg 91 20 = some (.aload_n 0, 0, 0, 0) := by decide +kernel
theorem gz_91_21 : mz_pg 91 21 = some (.dup, 0, 0, 0) := by decide +kernel
theorem gz_91_22 : mz_pg 91 22 = some (.getfield 22, 8, 0, 327) := by decide +kernel
theorem gz_91_25 : mz_pg 91 25 = some (.iconst 1, 0, 0, 0) := by decide +kernel
theorem gz_91_26 : mz_pg 91 26 = some (.iadd, 0, 0, 0) := by decide +kernel
theorem gz_91_27 : mz_pg 91 27 = some (.putfield 22, 8, 0, 327) := by decide +kernel
theorem gz_91_30 : mz_pg 91 30 = some (.return_, 0, 0, 0) := by decide +kernel
theorem gz_92_0 : mz_pg 92 0 = some (.aload_n 0, 0, 0, 0) := by decide +kernel
theorem gz_92_1 : mz_pg 92 1 = some (.iload 4, 0, 0, 0) := by decide +kernel
theorem gz_92_3 : mz_pg 92 3 = some (.putfield 151, 2, 13, 409) := by decide +kernel
theorem gz_92_6 : mz_pg 92 6 = some (.aload_n 0, 0, 0, 0) := by decide +kernel
theorem gz_92_7 : mz_pg 92 7 = some (.iconst 0, 0, 0, 0) := by decide +kernel
theorem gz_92_8 : mz_pg 92 8 = some (.putfield 154, 2, 11, 406) := by decide +kernel
theorem gz_92_11 : mz_pg 92 11 = some (.aload_n 0, 0, 0, 0) := by decide +kernel
theorem gz_92_12 : mz_pg 92 12 = some (.iload_n 3, 0, 0, 0) := by decide +kernel
theorem gz_92_13 : mz_pg 92 13 = some (.putfield 157, 2, 12, 408) := by decide +kernel
theorem gz_92_16 : mz_pg 92 16 = some (.aload_n 0, 0, 0, 0) := by decide +kernel
theorem gz_92_17 : mz_pg 92 17 = some (.getfield 42, 2, 9, 402) := by decide +kernel
theorem gz_92_20 : mz_pg 92 20 = some (.invokevirtual 160, 1, 9, 920) := by decide +kernel
theorem gz_92_23 : mz_pg 92 23 = some (.aload_n 0, 0, 0, 0) := by decide +kernel
theorem gz_92_24 : mz_pg 92 24 = some (.getfield 45, 2, 10, 404) := by decide +kernel
theorem gz_92_27 : mz_pg 92 27 = some (.invokevirtual 160, 1, 9, 920) := by decide +kernel
theorem gz_92_30 : mz_pg 92 30 = some (.aload_n 0, 0, 0, 0) := by decide +kernel
theorem gz_92_31 : mz_pg 92 31 = some (.getfield 38, 2, 8, 401) := by decide +kernel
theorem gz_92_34 : mz_pg 92 34 = some (.invokevirtual 160, 1, 9, 920) := by decide +kernel
theorem gz_92_37 : mz_pg 92 37 = some (.aload_n 0, 0, 0, 0) := by decide +kernel
theorem gz_92_38 : mz_pg 92 38 = some (.aload_n 0, 0, 0, 0) := by decide +kernel
theorem gz_92_39 : mz_pg 92 39 = some (.getfield 21, 2, 4, 395) := by decide +kernel
theorem gz_92_42 : mz_pg 92 42 = some (.aload_n 0, 0, 0, 0) := by decide +kernel
theorem gz_92_43 : mz_pg 92 43 = some (.getfield 25, 2, 5, 397) := by decide +kernel
theorem gz_92_46 : mz_pg 92 46 = some (.invokevirtual 163, 1, 93, 921) := by decide +kernel
theorem gz_92_49 : mz_pg 92 49 = some (.putfield 167, 2, 14, 410) := by decide +kernel
theorem gz_92_52 : mz_pg 92 52 = some (.aload_n 0, 0, 0, 0) := by decide +kernel
theorem gz_92_53 : mz_pg 92 53 = some (.getfield 167, 2, 14, 410) := by decide +kernel
theorem gz_92_56 : mz_pg 92 56 = some (.ifCond .eq 9, 0, 0, 0) := by decide +kernel
theorem gz_92_59 : mz_pg 92 59 = some (.aload_n 0, 0, 0, 0) := by decide +kernel
theorem gz_92_60 : mz_pg 92 60 = some (.iconst 0, 0, 0, 0) := by decide +kernel
theorem gz_92_61 : mz_pg 92 61 = some (.iconst 0, 0, 0, 0) := by decide +kernel
theorem gz_92_62 : mz_pg 92 62 = some (.invokevirtual 170, 1, 94, 925) := by decide +kernel
theorem gz_92_65 : mz_pg 92 65 = some (.aload_n 0, 0, 0, 0) := by decide +kernel
theorem gz_92_66 : mz_pg 92 66 = some (.getfield 12, 2, 3, 393) := by decide +kernel
theorem gz_92_69 : mz_pg 92 69 = some (.aload_n 1, 0, 0, 0) := by decide +kernel
theorem gz_92_70 : mz_pg 92 70 = some (.invokevirtual 173, 1, 25, 932) := by decide +kernel
theorem gz_92_73 : mz_pg 92 73 = some (.aload_n 0, 0, 0, 0) := by decide +kernel
theorem gz_92_74 : mz_pg 92 74 = some (.aload_n 0, 0, 0, 0) := by decide +kernel
theorem gz_92_75 : mz_pg 92 75 = some (.getfield 52, 2, 1, 391) := by decide +kernel
theorem gz_92_78 : mz_pg 92 78 = some (.iload_n 2, 0, 0, 0) := by decide +kernel
theorem gz_92_79 : mz_pg 92 79 = some (.aaload, 0, 0, 0) := by decide +kernel
theorem gz_92_80 : mz_pg 92 80 = some (.invokevirtual 176, 1, 96, 933) := by decide +kernel
theorem gz_92_83 : mz_pg 92 83 = some (.lstore 5, 0, 0, 0) := by decide +kernel
theorem gz_92_85 : mz_pg 92 85 = some (.aload_n 0, 0, 0, 0) := by decide +kernel
theorem gz_92_86 : mz_pg 92 86 = some (.iload_n 2, 0, 0, 0) := by decide +kernel
theorem gz_92_87 : mz_pg 92 87 = some (.lload 5, 0, 0, 0) := by decide +kernel
theorem gz_92_89 : mz_pg 92 89 = some (.invokevirtual 180, 1, 98, 943) := by decide +kernel
theorem gz_92_92 : mz_pg 92 92 = some (.aload_n 0, 0, 0, 0) := by decide +kernel
theorem gz_92_93 : mz_pg 92 93 = some (.aload_n 1, 0, 0, 0) := by decide +kernel
theorem gz_92_94 : mz_pg 92 94 = some (.iload_n 2, 0, 0, 0) := by decide +kernel
theorem gz_92_95 : mz_pg 92 95 = some (.lload 5, 0, 0, 0) := by decide +kernel
theorem gz_92_97 : mz_pg 92 97 = some (.invokevirtual 184, 1, 104, 963) := by decide +kernel
theorem gz_92_100 : mz_pg 92 100 = some (.aload_n 0, 0, 0, 0) := by decide +kernel
theorem gz_92_101 : mz_pg 92 101 = some (.iload_n 2, 0, 0, 0) := by decide +kernel
theorem gz_92_102 : mz_pg 92 102 = some (.invokevirtual 188, 1, 105, 968) := by decide +kernel
theorem gz_92_105 : mz_pg 92 105 = some (.return_, 0, 0, 0) := by decide +kernel
theorem gz_93_0 : mz_pg 93 0 = some (.aload_n 0, 0, 0, 0) := by decide +kernel
theorem gz_93_1 : mz_pg 93 1 = some (.getfield 22, 8, 0, 327) := by decide +kernel
theorem gz_93_4 : mz_pg 93 4 = some (.aload_n 1, 0, 0, 0) := by decide +kernel
theorem gz_93_5 : mz_pg 93 5 = some (.getfield 22, 8, 0, 327) := by decide +kernel
theorem gz_93_8 : mz_pg 93 8 = some (.if_icmp .ne 14, 0, 0, 0) := by decide +kernel
theorem gz_93_11 : mz_pg 93 11 = some (.aload_n 0, 0, 0, 0) := by decide +kernel
theorem gz_93_12 : mz_pg 93 12 = some (.getfield 26, 8, 1, 331) := by decide +kernel
theorem gz_93_15 : mz_pg 93 15 = some (.aload_n 1, 0, 0, 0) := by decide +kernel
theorem gz_93_16 : mz_pg 93 16 = some (.getfield 26, 8, 1, 331) := by decide +kernel
theorem gz_93_19 : mz_pg 93 19 = some (.if_icmp .eq 5, 0, 0, 0) := by decide +kernel
theorem gz_93_22 : mz_pg 93 22 = some (.iconst 0, 0, 0, 0) := by decide +kernel
theorem gz_93_23 : mz_pg 93 23 = some (.ireturn, 0, 0, 0) := by decide +kernel
theorem gz_93_24 : mz_pg 93 24 = some (.iconst 0, 0, 0, 0) := by decide +kernel
theorem gz_93_25 : mz_pg 93 25 = some (.istore_n 2, 0, 0, 0) := by decide +kernel
theorem gz_93_26 : mz_pg 93 26 = some (.iload_n 2, 0, 0, 0) := by decide +kernel
theorem gz_93_27 : mz_pg 93 27 = some (.aload_n 0, 0, 0, 0) := by decide +kernel
theorem gz_93_28 : mz_pg 93 28 = some (.getfield 22, 8, 0, 327) := by decide +kernel
theorem gz_93_31 : mz_pg 93 31 = some (.if_icmp .ge 21, 0, 0, 0) := by decide +kernel
theorem gz_93_34 : mz_pg 93 34 = some (.aload_n 0, 0, 0, 0) := by decide +kernel
theorem gz_93_35 : mz_pg 93 35 = some (.iload_n 2, 0, 0, 0) := by decide +kernel
theorem gz_93_36 : mz_pg 93 36 = some (.aload_n 1, 0, 0, 0) := by decide +kernel
theorem gz_93_37 : mz_pg 93 37 = some (.iload_n 2, 0, 0, 0) := by decide +kernel
theorem gz_93_38 : mz_pg 93 38 = some (.invokevirtual 120, 1, 80, 864) := by decide +kernel
theorem gz_93_41 : mz_pg 93 41 = some (.ifCond .eq 5, 0, 0, 0) := by decide +kernel
theorem gz_93_44 : mz_pg 93 44 = some (.iconst 0, 0, 0, 0) := by decide +kernel
theorem gz_93_45 : mz_pg 93 45 = some (.ireturn, 0, 0, 0) := by decide +kernel
theorem gz_93_46 : mz_pg 93 46 = some (.iinc 2 1, 0, 0, 0) := by decide +kernel
theorem gz_93_49 : mz_pg 93 49 = some (.goto (-23), 0, 0, 0) := by decide +kernel
theorem gz_93_52 : mz_pg 93 52 = some (.iconst 1, 0, 0, 0) := by decide +kernel
theorem gz_93_53 : mz_pg 93 53 = some (.ireturn, 0, 0, 0) := by decide +kernel
theorem gz_94_0 : mz_pg 94 0 = some (.aload_n 0, 0, 0, 0) := by decide +kernel
theorem gz_94_1 : mz_pg 94 1 = some (.getfield 38, 2, 8, 401) := by decide +kernel
theorem gz_94_4 : mz_pg 94 4 = some (.iload_n 1, 0, 0, 0) := by decide +kernel
theorem gz_94_5 : mz_pg 94 5 = some (.putfield 118, 7, 1, 363) := by decide +kernel
theorem gz_94_8 : mz_pg 94 8 = some (.aload_n 0, 0, 0, 0) := by decide +kernel
theorem gz_94_9 : mz_pg 94 9 = some (.getfield 38, 2, 8, 401) := by decide +kernel
theorem gz_94_12 : mz_pg 94 12 = some (.iload_n 2, 0, 0, 0) := by decide +kernel
theorem gz_94_13 : mz_pg 94 13 = some (.putfield 148, 7, 0, 360) := by decide +kernel
theorem gz_94_16 : mz_pg 94 16 = some (.aload_n 0, 0, 0, 0) := by decide +kernel
theorem gz_94_17 : mz_pg 94 17 = some (.getfield 42, 2, 9, 402) := by decide +kernel
theorem gz_94_20 : mz_pg 94 20 = some (.getfield 148, 7, 0, 360) := by decide +kernel
theorem gz_94_23 : mz_pg 94 23 = some (.iconst (-1), 0, 0, 0) := by decide +kernel
theorem gz_94_24 : mz_pg 94 24 = some (.if_icmp .eq 14, 0, 0, 0) := by decide +kernel
theorem gz_94_27 : mz_pg 94 27 = some (.iload_n 2, 0, 0, 0) := by decide +kernel
theorem gz_94_28 : mz_pg 94 28 = some (.aload_n 0, 0, 0, 0) := by decide +kernel
theorem gz_94_29 : mz_pg 94 29 = some (.getfield 42, 2, 9, 402) := by decide +kernel
theorem gz_94_32 : mz_pg 94 32 = some (.getfield 148, 7, 0, 360) := by decide +kernel
theorem gz_94_35 : mz_pg 94 35 = some (.if_icmp .ge 14, 0, 0, 0) := by decide +kernel
theorem gz_94_38 : mz_pg 94 38 = some (.aload_n 0, 0, 0, 0) := by decide +kernel
theorem gz_94_39 : mz_pg 94 39 = some (.getfield 42, 2, 9, 402) := by decide +kernel
theorem gz_94_42 : mz_pg 94 42 = some (.aload_n 0, 0, 0, 0) := by decide +kernel
theorem gz_94_43 : mz_pg 94 43 = some (.getfield 38, 2, 8, 401) := by decide +kernel
theorem gz_94_46 : mz_pg 94 46 = some (.invokevirtual 212, 1, 95, 928) := by decide +kernel
theorem gz_94_49 : mz_pg 94 49 = some (.aload_n 0, 0, 0, 0) := by decide +kernel
theorem gz_94_50 : mz_pg 94 50 = some (.getfield 154, 2, 11, 406) := by decide +kernel
theorem gz_94_53 : mz_pg 94 53 = some (.aload_n 0, 0, 0, 0) := by decide +kernel
theorem gz_94_54 : mz_pg 94 54 = some (.getfield 157, 2, 12, 408) := by decide +kernel
theorem gz_94_57 : mz_pg 94 57 = some (.if_icmp .ne 14, 0, 0, 0) := by decide +kernel
theorem gz_94_60 : mz_pg 94 60 = some (.aload_n 0, 0, 0, 0) := by decide +kernel
theorem gz_94_61 : mz_pg 94 61 = some (.getfield 45, 2, 10, 404) := by decide +kernel
theorem gz_94_64 : mz_pg 94 64 = some (.aload_n 0, 0, 0, 0) := by decide +kernel
theorem gz_94_65 : mz_pg 94 65 = some (.getfield 38, 2, 8, 401) := by decide +kernel
theorem gz_94_68 : mz_pg 94 68 = some (.invokevirtual 212, 1, 95, 928) := by decide +kernel
theorem gz_94_71 : mz_pg 94 71 = some (.aload_n 0, 0, 0, 0) := by decide +kernel
theorem gz_94_72 : mz_pg 94 72 = some (.dup, 0, 0, 0) := by decide +kernel
theorem gz_94_73 : mz_pg 94 73 = some (.getfield 154, 2, 11, 406) := by decide +kernel
theorem gz_94_76 : mz_pg 94 76 = some (.iconst 1, 0, 0, 0) := by decide +kernel
theorem gz_94_77 : mz_pg 94 77 = some (.iadd, 0, 0, 0) := by decide +kernel
theorem gz_94_78 : mz_pg 94 78 = some (.putfield 154, 2, 11, 406) := by decide +kernel
theorem gz_94_81 : mz_pg 94 81 = some (.return_, 0, 0, 0) := by decide +kernel
theorem gz_95_0 : mz_pg 95 0 = some (.aload_n 0, 0, 0, 0) := by decide +kernel
theorem gz_95_1 : mz_pg 95 1 = some (.aload_n 1, 0, 0, 0) := by decide +kernel
theorem gz_95_2 : mz_pg 95 2 = some (.getfield 14, 7, 0, 359) := by decide +kernel
theorem gz_95_5 : mz_pg 95 5 = some (.putfield 14, 7, 0, 359) := by decide +kernel
theorem gz_95_8 : mz_pg 95 8 = some (.aload_n 0, 0, 0, 0) := by decide +kernel
theorem gz_95_9 : mz_pg 95 9 = some (.aload_n 1, 0, 0, 0) := by decide +kernel
theorem gz_95_10 : mz_pg 95 10 = some (.getfield 18, 7, 1, 362) := by decide +kernel
theorem gz_95_13 : mz_pg 95 13 = some (.putfield 18, 7, 1, 362) := by decide +kernel
theorem gz_95_16 : mz_pg 95 16 = some (.aload_n 0, 0, 0, 0) := by decide +kernel
theorem gz_95_17 : mz_pg 95 17 = some (.aload_n 1, 0, 0, 0) := by decide +kernel
theorem gz_95_18 : mz_pg 95 18 = some (.getfield 21, 7, 2, 365) := by decide +kernel
theorem gz_95_21 : mz_pg 95 21 = some (.putfield 21, 7, 2, 365) := by decide +kernel
theorem gz_95_24 : mz_pg 95 24 = some (.aload_n 0, 0, 0, 0) := by decide +kernel
theorem gz_95_25 : mz_pg 95 25 = some (.aload_n 1, 0, 0, 0) := by decide +kernel
theorem gz_95_26 : mz_pg 95 26 = some (.getfield 24, 7, 3, 368) := by decide +kernel
theorem gz_95_29 : mz_pg 95 29 = some (.putfield 24, 7, 3, 368) := by decide +kernel
theorem gz_95_32 : mz_pg 95 32 = some (.aload_n 0, 0, 0, 0) := by decide +kernel
theorem gz_95_33 : mz_pg 95 33 = some (.aload_n 1, 0, 0, 0) := by decide +kernel
theorem gz_95_34 : mz_pg 95 34 = some (.getfield 27, 7, 4, 371) := by decide +kernel
theorem gz_95_37 : mz_pg 95 37 = some (.putfield 27, 7, 4, 371) := by decide +kernel
theorem gz_95_40 : mz_pg 95 40 = some (.aload_n 0, 0, 0, 0) := by decide +kernel
theorem gz_95_41 : mz_pg 95 41 = some (.aload_n 1, 0, 0, 0) := by decide +kernel
theorem gz_95_42 : mz_pg 95 42 = some (.getfield 30, 7, 5, 374) := by decide +kernel
theorem gz_95_45 : mz_pg 95 45 = some (.putfield 30, 7, 5, 374) := by decide +kernel
theorem gz_95_48 : mz_pg 95 48 = some (.return_, 0, 0, 0) := by decide +kernel
theorem gz_96_0 : mz_pg 96 0 = some (.aload_n 1, 0, 0, 0) := by decide +kernel
theorem gz_96_1 : mz_pg 96 1 = some (.getfield 191, 4, 7, 217) := by decide +kernel
theorem gz_96_4 : mz_pg 96 4 = some (.ifCond .eq 7, 0, 0, 0) := by decide +kernel
theorem gz_96_7 : mz_pg 96 7 = some (.ldc2_w 194, 18446744073709551615, 0, 936) := by decide +kernel
theorem gz_96_10 : mz_pg 96 10 = some (.lreturn, 0, 0, 0) := by decide +kernel
theorem gz_96_11 : mz_pg 96 11 = some (.lconst 0, 0, 0, 0) := by decide +kernel
theorem gz_96_12 : mz_pg 96 12 = some (.lstore_n 2, 0, 0, 0) := by decide +kernel
theorem gz_96_13 : mz_pg 96 13 = some (.iconst 0, 0, 0, 0) := by decide +kernel
theorem gz_96_14 : mz_pg 96 14 = some (.istore 4, 0, 0, 0) := by decide +kernel
theorem gz_96_16 : mz_pg 96 16 = some (.iload 4, 0, 0, 0) := by decide +kernel
theorem gz_96_18 : mz_pg 96 18 = some (.bipush 20, 0, 0, 0) := by decide +kernel
theorem gz_96_20 : mz_pg 96 20 = some (.if_icmp .ge 101, 0, 0, 0) := by decide +kernel
theorem gz_96_23 : mz_pg 96 23 = some (.aload_n 0, 0, 0, 0) := by decide +kernel
theorem gz_96_24 : mz_pg 96 24 = some (.getfield 12, 2, 3, 393) := by decide +kernel
theorem gz_96_27 : mz_pg 96 27 = some (.aload_n 1, 0, 0, 0) := by decide +kernel
theorem gz_96_28 : mz_pg 96 28 = some (.getfield 196, 4, 2, 203) := by decide +kernel
theorem gz_96_31 : mz_pg 96 31 = some (.iload 4, 0, 0, 0) := by decide +kernel
theorem gz_96_33 : mz_pg 96 33 = some (.invokevirtual 199, 1, 15, 937) := by decide +kernel
theorem gz_96_36 : mz_pg 96 36 = some (.ifCond .eq 79, 0, 0, 0) := by decide +kernel
theorem gz_96_39 : mz_pg 96 39 = some (.aload_n 0, 0, 0, 0) := by decide +kernel
theorem gz_96_40 : mz_pg 96 40 = some (.getfield 21, 2, 4, 395) := by decide +kernel
theorem gz_96_43 : mz_pg 96 43 = some (.iload 4, 0, 0, 0) := by decide +kernel
theorem gz_96_45 : mz_pg 96 45 = some (.invokevirtual 200, 1, 97, 938) := by decide +kernel
theorem gz_96_48 : mz_pg 96 48 = some (.istore 5, 0, 0, 0) := by decide +kernel
theorem gz_96_50 : mz_pg 96 50 = some (.aload_n 0, 0, 0, 0) := by decide +kernel
theorem gz_96_51 : mz_pg 96 51 = some (.getfield 167, 2, 14, 410) := by decide +kernel
theorem gz_96_54 : mz_pg 96 54 = some (.ifCond .ne 48, 0, 0, 0) := by decide +kernel
theorem gz_96_57 : mz_pg 96 57 = some (.iload 5, 0, 0, 0) := by decide +kernel
theorem gz_96_59 : mz_pg 96 59 = some (.iconst (-1), 0, 0, 0) := by decide +kernel
theorem gz_96_60 : mz_pg 96 60 = some (.if_icmp .ne 14, 0, 0, 0) := by decide +kernel
theorem gz_96_63 : mz_pg 96 63 = some (.aload_n 0, 0, 0, 0) := by decide +kernel
theorem gz_96_64 : mz_pg 96 64 = some (.getfield 85, 2, 15, 411) := by decide +kernel
theorem gz_96_67 : mz_pg 96 67 = some (.iconst 2, 0, 0, 0) := by decide +kernel
theorem gz_96_68 : mz_pg 96 68 = some (.if_icmp .ne 47, 0, 0, 0) := by decide +kernel
theorem gz_96_71 : mz_pg 96 71 = some (.goto 31, 0, 0, 0) := by decide +kernel
theorem gz_96_74 : mz_pg 96 74 = some (.aload_n 0, 0, 0, 0) := by decide +kernel
theorem gz_96_75 : mz_pg 96 75 = some (.getfield 85, 2, 15, 411) := by decide +kernel
theorem gz_96_78 : mz_pg 96 78 = some (.iconst 2, 0, 0, 0) := by decide +kernel
theorem gz_96_79 : mz_pg 96 79 = some (.if_icmp .eq 36, 0, 0, 0) := by decide +kernel
theorem gz_96_82 : mz_pg 96 82 = some (.aload_n 0, 0, 0, 0) := by decide +kernel
theorem gz_96_83 : mz_pg 96 83 = some (.getfield 21, 2, 4, 395) := by decide +kernel
theorem gz_96_86 : mz_pg 96 86 = some (.iload 5, 0, 0, 0) := by decide +kernel
theorem gz_96_88 : mz_pg 96 88 = some (.aload_n 0, 0, 0, 0) := by decide +kernel
theorem gz_96_89 : mz_pg 96 89 = some (.getfield 21, 2, 4, 395) := by decide +kernel
theorem gz_96_92 : mz_pg 96 92 = some (.aload_n 0, 0, 0, 0) := by decide +kernel
theorem gz_96_93 : mz_pg 96 93 = some (.getfield 88, 2, 16, 412) := by decide +kernel
theorem gz_96_96 : mz_pg 96 96 = some (.invokevirtual 204, 1, 80, 942) := by decide +kernel
theorem gz_96_99 : mz_pg 96 99 = some (.ifCond .ne 16, 0, 0, 0) := by decide +kernel
theorem gz_96_102 : mz_pg 96 102 = some (.lload_n 2, 0, 0, 0) := by decide +kernel
theorem gz_96_103 : mz_pg 96 103 = some (.aload_n 0, 0, 0, 0) := by decide +kernel
theorem gz_96_104 : mz_pg 96 104 = some (.getfield 21, 2, 4, 395) := by decide +kernel
theorem gz_96_107 : mz_pg 96 107 = some (.getfield 208, 8, 4, 336) := by decide +kernel
theorem gz_96_110 : mz_pg 96 110 = some (.iload 4, 0, 0, 0) := by decide +kernel
theorem gz_96_112 : mz_pg 96 112 = some (.laload, 0, 0, 0) := by decide +kernel
theorem gz_96_113 : mz_pg 96 113 = some (.lor, 0, 0, 0) := by decide +kernel
theorem gz_96_114 : mz_pg 96 114 = some (.lstore_n 2, 0, 0, 0) := by decide +kernel
theorem gz_96_115 : mz_pg 96 115 = some (.iinc 4 1, 0, 0, 0) := by decide +kernel
theorem gz_96_118 : mz_pg 96 118 = some (.goto (-102), 0, 0, 0) := by decide +kernel
theorem gz_96_121 : mz_pg 96 121 = some (.lload_n 2, 0, 0, 0) := by decide +kernel
theorem gz_96_122 : mz_pg 96 122 = some (.lreturn, 0, 0, 0) := by decide +kernel
theorem gz_97_0 : mz_pg 97 0 = some (.iconst 0, 0, 0, 0) := by decide +kernel
theorem gz_97_1 : mz_pg 97 1 = some (.istore_n 2, 0, 0, 0) := by decide +kernel
theorem gz_97_2 : mz_pg 97 2 = some (.iload_n 2, 0, 0, 0) := by decide +kernel
theorem gz_97_3 : mz_pg 97 3 = some (.aload_n 0, 0, 0, 0) := by decide +kernel
theorem gz_97_4 : mz_pg 97 4 = some (.getfield 22, 8, 0, 327) := by decide +kernel
theorem gz_97_7 : mz_pg 97 7 = some (.if_icmp .ge 20, 0, 0, 0) := by decide +kernel
theorem gz_97_10 : mz_pg 97 10 = some (.aload_n 0, 0, 0, 0) := by decide +kernel
theorem gz_97_11 : mz_pg 97 11 = some (.iload_n 2, 0, 0, 0) := by decide +kernel
theorem gz_97_12 : mz_pg 97 12 = some (.invokevirtual 116, 1, 75, 848) := by decide +kernel
theorem gz_97_15 : mz_pg 97 15 = some (.iload_n 1, 0, 0, 0) := by decide +kernel
theorem gz_97_16 : mz_pg 97 16 = some (.if_icmp .ne 5, 0, 0, 0) := by decide +kernel
theorem gz_97_19 : mz_pg 97 19 = some (.iload_n 2, 0, 0, 0) := by decide +kernel
theorem gz_97_20 : mz_pg 97 20 = some (.ireturn, 0, 0, 0) := by decide +kernel
theorem gz_97_21 : mz_pg 97 21 = some (.iinc 2 1, 0, 0, 0) := by decide +kernel
theorem gz_97_24 : mz_pg 97 24 = some (.goto (-22), 0, 0, 0) := by decide +kernel
theorem gz_97_27 : mz_pg 97 27 = some (.iconst (-1), 0, 0, 0) := by decide +kernel
theorem gz_97_28 : mz_pg 97 28 = some (.ireturn, 0, 0, 0) := by decide +kernel
theorem gz_98_0 : mz_pg 98 0 = some (.aload_n 0, 0, 0, 0) := by decide +kernel
theorem gz_98_1 : mz_pg 98 1 = some (.getfield 52, 2, 1, 391) := by decide +kernel
theorem gz_98_4 : mz_pg 98 4 = some (.iload_n 1, 0, 0, 0) := by decide +kernel
theorem gz_98_5 : mz_pg 98 5 = some (.aaload, 0, 0, 0) := by decide +kernel
theorem gz_98_6 : mz_pg 98 6 = some (.astore 4, 0, 0, 0) := by decide +kernel
theorem gz_98_8 : mz_pg 98 8 = some (.aload 4, 0, 0, 0) := by decide +kernel
theorem gz_98_10 : mz_pg 98 10 = some (.invokevirtual 215, 1, 99, 946) := by decide +kernel
theorem gz_98_13 : mz_pg 98 13 = some (.istore 5, 0, 0, 0) := by decide +kernel
theorem gz_98_15 : mz_pg 98 15 = some (.iconst 0, 0, 0, 0) := by decide +kernel
theorem gz_98_16 : mz_pg 98 16 = some (.istore 6, 0, 0, 0) := by decide +kernel
theorem gz_98_18 : mz_pg 98 18 = some (.iload 6, 0, 0, 0) := by decide +kernel
theorem gz_98_20 : mz_pg 98 20 = some (.aload_n 0, 0, 0, 0) := by decide +kernel
theorem gz_98_21 : mz_pg 98 21 = some (.getfield 12, 2, 3, 393) := by decide +kernel
theorem gz_98_24 : mz_pg 98 24 = some (.getfield 121, 6, 0, 178) := by decide +kernel
theorem gz_98_27 : mz_pg 98 27 = some (.arraylength, 0, 0, 0) := by decide +kernel
theorem gz_98_28 : mz_pg 98 28 = some (.if_icmp .ge 286, 0, 0, 0) := by decide +kernel
theorem gz_98_31 : mz_pg 98 31 = some (.aload_n 0, 0, 0, 0) := by decide +kernel
theorem gz_98_32 : mz_pg 98 32 = some (.invokevirtual 219, 1, 100, 950) := by decide +kernel
theorem gz_98_35 : mz_pg 98 35 = some (.ifCond .ne 279, 0, 0, 0) := by decide +kernel
theorem gz_98_38 : mz_pg 98 38 = some (.aload_n 0, 0, 0, 0) := by decide +kernel
theorem gz_98_39 : mz_pg 98 39 = some (.getfield 38, 2, 8, 401) := by decide +kernel
theorem gz_98_42 : mz_pg 98 42 = some (.iload 6, 0, 0, 0) := by decide +kernel
theorem gz_98_44 : mz_pg 98 44 = some (.iconst 4, 0, 0, 0) := by decide +kernel
theorem gz_98_45 : mz_pg 98 45 = some (.idiv, 0, 0, 0) := by decide +kernel
theorem gz_98_46 : mz_pg 98 46 = some (.bipush 20, 0, 0, 0) := by decide +kernel
theorem gz_98_48 : mz_pg 98 48 = some (.idiv, 0, 0, 0) := by decide +kernel
theorem gz_98_49 : mz_pg 98 49 = some (.putfield 124, 7, 2, 366) := by decide +kernel
theorem gz_98_52 : mz_pg 98 52 = some (.aload_n 0, 0, 0, 0) := by decide +kernel
theorem gz_98_53 : mz_pg 98 53 = some (.getfield 38, 2, 8, 401) := by decide +kernel
theorem gz_98_56 : mz_pg 98 56 = some (.iload 6, 0, 0, 0) := by decide +kernel
theorem gz_98_58 : mz_pg 98 58 = some (.iconst 4, 0, 0, 0) := by decide +kernel
theorem gz_98_59 : mz_pg 98 59 = some (.idiv, 0, 0, 0) := by decide +kernel
theorem gz_98_60 : mz_pg 98 60 = some (.bipush 20, 0, 0, 0) := by decide +kernel
theorem gz_98_62 : mz_pg 98 62 = some (.irem, 0, 0, 0) := by decide +kernel
theorem gz_98_63 : mz_pg 98 63 = some (.putfield 127, 7, 3, 369) := by decide +kernel
theorem gz_98_66 : mz_pg 98 66 = some (.aload_n 0, 0, 0, 0) := by decide +kernel
theorem gz_98_67 : mz_pg 98 67 = some (.getfield 38, 2, 8, 401) := by decide +kernel
theorem gz_98_70 : mz_pg 98 70 = some (.iload 6, 0, 0, 0) := by decide +kernel
theorem gz_98_72 : mz_pg 98 72 = some (.iconst 4, 0, 0, 0) := by decide +kernel
theorem gz_98_73 : mz_pg 98 73 = some (.irem, 0, 0, 0) := by decide +kernel
theorem gz_98_74 : mz_pg 98 74 = some (.putfield 134, 7, 4, 372) := by decide +kernel
theorem gz_98_77 : mz_pg 98 77 = some (.iload 5, 0, 0, 0) := by decide +kernel
theorem gz_98_79 : mz_pg 98 79 = some (.i2l, 0, 0, 0) := by decide +kernel
theorem gz_98_80 : mz_pg 98 80 = some (.aload_n 0, 0, 0, 0) := by decide +kernel
theorem gz_98_81 : mz_pg 98 81 = some (.getfield 38, 2, 8, 401) := by decide +kernel
theorem gz_98_84 : mz_pg 98 84 = some (.getfield 124, 7, 2, 366) := by decide +kernel
theorem gz_98_87 : mz_pg 98 87 = some (.aload_n 0, 0, 0, 0) := by decide +kernel
theorem gz_98_88 : mz_pg 98 88 = some (.getfield 38, 2, 8, 401) := by decide +kernel
theorem gz_98_91 : mz_pg 98 91 = some (.getfield 134, 7, 4, 372) := by decide +kernel
theorem gz_98_94 : mz_pg 98 94 = some (.invokestatic 223, 2, 29, 10) := by decide +kernel
theorem gz_98_97 : mz_pg 98 97 = some (.invokestatic 226, 2, 69, 11) := by decide +kernel
theorem gz_98_100 : mz_pg 98 100 = some (.ifCond .eq 32, 0, 0, 0) := by decide +kernel
theorem gz_98_103 : mz_pg 98 103 = some (.lload_n 2, 0, 0, 0) := by decide +kernel
theorem gz_98_104 : mz_pg 98 104 = some (.aload_n 0, 0, 0, 0) := by decide +kernel
theorem gz_98_105 : mz_pg 98 105 = some (.getfield 38, 2, 8, 401) := by decide +kernel
theorem gz_98_108 : mz_pg 98 108 = some (.getfield 124, 7, 2, 366) := by decide +kernel
theorem gz_98_111 : mz_pg 98 111 = some (.bipush 20, 0, 0, 0) := by decide +kernel
theorem gz_98_113 : mz_pg 98 113 = some (.imul, 0, 0, 0) := by decide +kernel
theorem gz_98_114 : mz_pg 98 114 = some (.aload_n 0, 0, 0, 0) := by decide +kernel
theorem gz_98_115 : mz_pg 98 115 = some (.getfield 38, 2, 8, 401) := by decide +kernel
theorem gz_98_118 : mz_pg 98 118 = some (.getfield 127, 7, 3, 369) := by decide +kernel
theorem gz_98_121 : mz_pg 98 121 = some (.iadd, 0, 0, 0) := by decide +kernel
theorem gz_98_122 : mz_pg 98 122 = some (.invokestatic 226, 2, 69, 11) := by decide +kernel
theorem gz_98_125 : mz_pg 98 125 = some (.ifCond .eq 7, 0, 0, 0) := by decide +kernel
theorem gz_98_128 : mz_pg 98 128 = some (.iconst 1, 0, 0, 0) := by decide +kernel
theorem gz_98_129 : mz_pg 98 129 = some (.goto 4, 0, 0, 0) := by decide +kernel
theorem gz_98_132 : mz_pg 98 132 = some (.iconst 0, 0, 0, 0) := by decide +kernel
theorem gz_98_133 : mz_pg 98 133 = some (.istore 7, 0, 0, 0) := by decide +kernel
theorem gz_98_135 : mz_pg 98 135 = some (.aload_n 0, 0, 0, 0) := by decide +kernel
theorem gz_98_136 : mz_pg 98 136 = some (.aload 4, 0, 0, 0) := by decide +kernel
theorem gz_98_138 : mz_pg 98 138 = some (.invokevirtual 230, 1, 101, 953) := by decide +kernel
theorem gz_98_141 : mz_pg 98 141 = some (.ifCond .eq 167, 0, 0, 0) := by decide +kernel
theorem gz_98_144 : mz_pg 98 144 = some (.iload 7, 0, 0, 0) := by decide +kernel
theorem gz_98_146 : mz_pg 98 146 = some (.ifCond .ne 13, 0, 0, 0) := by decide +kernel
theorem gz_98_149 : mz_pg 98 149 = some (.aload_n 0, 0, 0, 0) := by decide +kernel
theorem gz_98_150 : mz_pg 98 150 = some (.getfield 167, 2, 14, 410) := by decide +kernel
theorem gz_98_153 : mz_pg 98 153 = some (.ifCond .ne 6, 0, 0, 0) := by decide +kernel
theorem gz_98_156 : mz_pg 98 156 = some (.goto 152, 0, 0, 0) := by decide +kernel
theorem gz_98_159 : mz_pg 98 159 = some (.aload_n 0, 0, 0, 0) := by decide +kernel
theorem gz_98_160 : mz_pg 98 160 = some (.getfield 12, 2, 3, 393) := by decide +kernel
theorem gz_98_163 : mz_pg 98 163 = some (.getfield 121, 6, 0, 178) := by decide +kernel
theorem gz_98_166 : mz_pg 98 166 = some (.iload 6, 0, 0, 0) := by decide +kernel
theorem gz_98_168 : mz_pg 98 168 = some (.iaload, 0, 0, 0) := by decide +kernel
theorem gz_98_169 : mz_pg 98 169 = some (.istore 8, 0, 0, 0) := by decide +kernel
theorem gz_98_171 : mz_pg 98 171 = some (.iconst 0, 0, 0, 0) := by decide +kernel
theorem gz_98_172 : mz_pg 98 172 = some (.istore 9, 0, 0, 0) := by decide +kernel
theorem gz_98_174 : mz_pg 98 174 = some (.iload 9, 0, 0, 0) := by decide +kernel
theorem gz_98_176 : mz_pg 98 176 = some (.bipush 20, 0, 0, 0) := by decide +kernel
theorem gz_98_178 : mz_pg 98 178 = some (.if_icmp .ge 118, 0, 0, 0) := by decide +kernel
theorem gz_98_181 : mz_pg 98 181 = some (.aload_n 0, 0, 0, 0) := by decide +kernel
theorem gz_98_182 : mz_pg 98 182 = some (.invokevirtual 219, 1, 100, 950) := by decide +kernel
theorem gz_98_185 : mz_pg 98 185 = some (.ifCond .ne 111, 0, 0, 0) := by decide +kernel
theorem gz_98_188 : mz_pg 98 188 = some (.iload 9, 0, 0, 0) := by decide +kernel
theorem gz_98_190 : mz_pg 98 190 = some (.iload 8, 0, 0, 0) := by decide +kernel
theorem gz_98_192 : mz_pg 98 192 = some (.if_icmp .eq 98, 0, 0, 0) := by decide +kernel
theorem gz_98_195 : mz_pg 98 195 = some (.aload_n 0, 0, 0, 0) := by decide +kernel
theorem gz_98_196 : mz_pg 98 196 = some (.getfield 48, 2, 0, 390) := by decide +kernel
theorem gz_98_199 : mz_pg 98 199 = some (.aload_n 0, 0, 0, 0) := by decide +kernel
theorem gz_98_200 : mz_pg 98 200 = some (.getfield 12, 2, 3, 393) := by decide +kernel
theorem gz_98_203 : mz_pg 98 203 = some (.aload_n 0, 0, 0, 0) := by decide +kernel
theorem gz_98_204 : mz_pg 98 204 = some (.getfield 38, 2, 8, 401) := by decide +kernel
theorem gz_98_207 : mz_pg 98 207 = some (.getfield 124, 7, 2, 366) := by decide +kernel
theorem gz_98_210 : mz_pg 98 210 = some (.aload_n 0, 0, 0, 0) := by decide +kernel
theorem gz_98_211 : mz_pg 98 211 = some (.getfield 38, 2, 8, 401) := by decide +kernel
theorem gz_98_214 : mz_pg 98 214 = some (.getfield 127, 7, 3, 369) := by decide +kernel
theorem gz_98_217 : mz_pg 98 217 = some (.aload_n 0, 0, 0, 0) := by decide +kernel
theorem gz_98_218 : mz_pg 98 218 = some (.getfield 38, 2, 8, 401) := by decide +kernel
theorem gz_98_221 : mz_pg 98 221 = some (.getfield 134, 7, 4, 372) := by decide +kernel
theorem gz_98_224 : mz_pg 98 224 = some (.iload 9, 0, 0, 0) := by decide +kernel
theorem gz_98_226 : mz_pg 98 226 = some (.invokevirtual 234, 1, 102, 956) := by decide +kernel
theorem gz_98_229 : mz_pg 98 229 = some (.ifCond .eq 61, 0, 0, 0) := by decide +kernel
theorem gz_98_232 : mz_pg 98 232 = some (.aload_n 0, 0, 0, 0) := by decide +kernel
theorem gz_98_233 : mz_pg 98 233 = some (.getfield 12, 2, 3, 393) := by decide +kernel
theorem gz_98_236 : mz_pg 98 236 = some (.getfield 121, 6, 0, 178) := by decide +kernel
theorem gz_98_239 : mz_pg 98 239 = some (.iload 6, 0, 0, 0) := by decide +kernel
theorem gz_98_241 : mz_pg 98 241 = some (.iload 9, 0, 0, 0) := by decide +kernel
theorem gz_98_243 : mz_pg 98 243 = some (.iastore, 0, 0, 0) := by decide +kernel
theorem gz_98_244 : mz_pg 98 244 = some (.iload 7, 0, 0, 0) := by decide +kernel
theorem gz_98_246 : mz_pg 98 246 = some (.ifCond .eq 29, 0, 0, 0) := by decide +kernel
theorem gz_98_249 : mz_pg 98 249 = some (.aload_n 0, 0, 0, 0) := by decide +kernel
theorem gz_98_250 : mz_pg 98 250 = some (.getfield 28, 2, 6, 398) := by decide +kernel
theorem gz_98_253 : mz_pg 98 253 = some (.aload_n 0, 0, 0, 0) := by decide +kernel
theorem gz_98_254 : mz_pg 98 254 = some (.getfield 52, 2, 1, 391) := by decide +kernel
theorem gz_98_257 : mz_pg 98 257 = some (.iload_n 1, 0, 0, 0) := by decide +kernel
theorem gz_98_258 : mz_pg 98 258 = some (.aload_n 0, 0, 0, 0) := by decide +kernel
theorem gz_98_259 : mz_pg 98 259 = some (.getfield 12, 2, 3, 393) := by decide +kernel
theorem gz_98_262 : mz_pg 98 262 = some (.invokevirtual 69, 1, 67, 819) := by decide +kernel
theorem gz_98_265 : mz_pg 98 265 = some (.aload_n 0, 0, 0, 0) := by decide +kernel
theorem gz_98_266 : mz_pg 98 266 = some (.getfield 25, 2, 5, 397) := by decide +kernel
theorem gz_98_269 : mz_pg 98 269 = some (.invokevirtual 163, 1, 93, 921) := by decide +kernel
theorem gz_98_272 : mz_pg 98 272 = some (.ifCond .eq 18, 0, 0, 0) := by decide +kernel
theorem gz_98_275 : mz_pg 98 275 = some (.aload_n 0, 0, 0, 0) := by decide +kernel
theorem gz_98_276 : mz_pg 98 276 = some (.getfield 38, 2, 8, 401) := by decide +kernel
theorem gz_98_279 : mz_pg 98 279 = some (.iload 9, 0, 0, 0) := by decide +kernel
theorem gz_98_281 : mz_pg 98 281 = some (.putfield 137, 7, 5, 375) := by decide +kernel
theorem gz_98_284 : mz_pg 98 284 = some (.aload_n 0, 0, 0, 0) := by decide +kernel
theorem gz_98_285 : mz_pg 98 285 = some (.iconst 1, 0, 0, 0) := by decide +kernel
theorem gz_98_286 : mz_pg 98 286 = some (.iconst 1, 0, 0, 0) := by decide +kernel
theorem gz_98_287 : mz_pg 98 287 = some (.invokevirtual 170, 1, 94, 925) := by decide +kernel
theorem gz_98_290 : mz_pg 98 290 = some (.iinc 9 1, 0, 0, 0) := by decide +kernel
theorem gz_98_293 : mz_pg 98 293 = some (.goto (-119), 0, 0, 0) := by decide +kernel
theorem gz_98_296 : mz_pg 98 296 = some (.aload_n 0, 0, 0, 0) := by decide +kernel
theorem gz_98_297 : mz_pg 98 297 = some (.getfield 12, 2, 3, 393) := by decide +kernel
theorem gz_98_300 : mz_pg 98 300 = some (.getfield 121, 6, 0, 178) := by decide +kernel
theorem gz_98_303 : mz_pg 98 303 = some (.iload 6, 0, 0, 0) := by decide +kernel
theorem gz_98_305 : mz_pg 98 305 = some (.iload 8, 0, 0, 0) := by decide +kernel
theorem gz_98_307 : mz_pg 98 307 = some (.iastore, 0, 0, 0) := by decide +kernel
theorem gz_98_308 : mz_pg 98 308 = some (.iinc 6 1, 0, 0, 0) := by decide +kernel
theorem gz_98_311 : mz_pg 98 311 = some (.goto (-293), 0, 0, 0) := by decide +kernel
theorem gz_98_314 : mz_pg 98 314 = some (.return_, 0, 0, 0) := by decide +kernel
theorem gz_99_0 : mz_pg 99 0 = some (.aload_n 0, 0, 0, 0) := by decide +kernel
theorem gz_99_1 : mz_pg 99 1 = some (.getfield 59, 4, 8, 218) := by decide +kernel
theorem gz_99_4 : mz_pg 99 4 = some (.istore_n 1, 0, 0, 0) := by decide +kernel
theorem gz_99_5 : mz_pg 99 5 = some (.iconst 0, 0, 0, 0) := by decide +kernel
theorem gz_99_6 : mz_pg 99 6 = some (.istore_n 2, 0, 0, 0) := by decide +kernel
theorem gz_99_7 : mz_pg 99 7 = some (.iload_n 2, 0, 0, 0) := by decide +kernel
theorem gz_99_8 : mz_pg 99 8 = some (.aload_n 0, 0, 0, 0) := by decide +kernel
theorem gz_99_9 : mz_pg 99 9 = some (.getfield 46, 4, 4, 208) := by decide +kernel
theorem gz_99_12 : mz_pg 99 12 = some (.if_icmp .ge 33, 0, 0, 0) := by decide +kernel
theorem gz_99_15 : mz_pg 99 15 = some (.aload_n 0, 0, 0, 0) := by decide +kernel
theorem gz_99_16 : mz_pg 99 16 = some (.getfield 27, 4, 15, 232) := by decide +kernel
theorem gz_99_19 : mz_pg 99 19 = some (.iload_n 2, 0, 0, 0) := by decide +kernel
theorem gz_99_20 : mz_pg 99 20 = some (.iaload, 0, 0, 0) := by decide +kernel
theorem gz_99_21 : mz_pg 99 21 = some (.iconst (-1), 0, 0, 0) := by decide +kernel
theorem gz_99_22 : mz_pg 99 22 = some (.if_icmp .eq 17, 0, 0, 0) := by decide +kernel
theorem gz_99_25 : mz_pg 99 25 = some (.iload_n 1, 0, 0, 0) := by decide +kernel
theorem gz_99_26 : mz_pg 99 26 = some (.iconst 1, 0, 0, 0) := by decide +kernel
theorem gz_99_27 : mz_pg 99 27 = some (.aload_n 0, 0, 0, 0) := by decide +kernel
theorem gz_99_28 : mz_pg 99 28 = some (.getfield 27, 4, 15, 232) := by decide +kernel
theorem gz_99_31 : mz_pg 99 31 = some (.iload_n 2, 0, 0, 0) := by decide +kernel
theorem gz_99_32 : mz_pg 99 32 = some (.iaload, 0, 0, 0) := by decide +kernel
theorem gz_99_33 : mz_pg 99 33 = some (.bipush 16, 0, 0, 0) := by decide +kernel
theorem gz_99_35 : mz_pg 99 35 = some (.irem, 0, 0, 0) := by decide +kernel
theorem gz_99_36 : mz_pg 99 36 = some (.ishl, 0, 0, 0) := by decide +kernel
theorem gz_99_37 : mz_pg 99 37 = some (.ior, 0, 0, 0) := by decide +kernel
theorem gz_99_38 : mz_pg 99 38 = some (.istore_n 1, 0, 0, 0) := by decide +kernel
theorem gz_99_39 : mz_pg 99 39 = some (.iinc 2 1, 0, 0, 0) := by decide +kernel
theorem gz_99_42 : mz_pg 99 42 = some (.goto (-35), 0, 0, 0) := by decide +kernel
theorem gz_99_45 : mz_pg 99 45 = some (.iload_n 1, 0, 0, 0) := by decide +kernel
theorem gz_99_46 : mz_pg 99 46 = some (.ireturn, 0, 0, 0) := by decide +kernel
theorem gz_100_0 : mz_pg 100 0 = some (.aload_n 0, 0, 0, 0) := by decide +kernel
theorem gz_100_1 : mz_pg 100 1 = some (.getfield 151, 2, 13, 409) := by decide +kernel
theorem gz_100_4 : mz_pg 100 4 = some (.ifCond .eq 29, 0, 0, 0) := by decide +kernel
theorem gz_100_7 : mz_pg 100 7 = some (.aload_n 0, 0, 0, 0) := by decide +kernel
theorem gz_100_8 : mz_pg 100 8 = some (.getfield 42, 2, 9, 402) := by decide +kernel
theorem gz_100_11 : mz_pg 100 11 = some (.getfield 148, 7, 0, 360) := by decide +kernel
theorem gz_100_14 : mz_pg 100 14 = some (.iconst (-1), 0, 0, 0) := by decide +kernel
theorem gz_100_15 : mz_pg 100 15 = some (.if_icmp .eq 18, 0, 0, 0) := by decide +kernel
theorem gz_100_18 : mz_pg 100 18 = some (.aload_n 0, 0, 0, 0) := by decide +kernel
theorem gz_100_19 : mz_pg 100 19 = some (.getfield 42, 2, 9, 402) := by decide +kernel
theorem gz_100_22 : mz_pg 100 22 = some (.getfield 148, 7, 0, 360) := by decide +kernel
theorem gz_100_25 : mz_pg 100 25 = some (.iconst 1, 0, 0, 0) := by decide +kernel
theorem gz_100_26 : mz_pg 100 26 = some (.if_icmp .gt 7, 0, 0, 0) := by decide +kernel
theorem gz_100_29 : mz_pg 100 29 = some (.iconst 1, 0, 0, 0) := by decide +kernel
theorem gz_100_30 : mz_pg 100 30 = some (.goto 4, 0, 0, 0) := by decide +kernel
theorem gz_100_33 : mz_pg 100 33 = some (.iconst 0, 0, 0, 0) := by decide +kernel
theorem gz_100_34 : mz_pg 100 34 = some (.ireturn, 0, 0, 0) := by decide +kernel
theorem gz_101_0 : mz_pg 101 0 = some (.aload_n 0, 0, 0, 0) := by decide +kernel
theorem gz_101_1 : mz_pg 101 1 = some (.getfield 38, 2, 8, 401) := by decide +kernel
theorem gz_101_4 : mz_pg 101 4 = some (.getfield 134, 7, 4, 372) := by decide +kernel
theorem gz_101_7 : mz_pg 101 7 = some (.ifCond .le 74, 0, 0, 0) := by decide +kernel
theorem gz_101_10 : mz_pg 101 10 = some (.aload_n 0, 0, 0, 0) := by decide +kernel
theorem gz_101_11 : mz_pg 101 11 = some (.getfield 38, 2, 8, 401) := by decide +kernel
theorem gz_101_14 : mz_pg 101 14 = some (.getfield 134, 7, 4, 372) := by decide +kernel
theorem gz_101_17 : mz_pg 101 17 = some (.aload_n 0, 0, 0, 0) := by decide +kernel
theorem gz_101_18 : mz_pg 101 18 = some (.getfield 48, 2, 0, 390) := by decide +kernel
theorem gz_101_21 : mz_pg 101 21 = some (.getfield 240, 3, 0, 148) := by decide +kernel
theorem gz_101_24 : mz_pg 101 24 = some (.aload_n 0, 0, 0, 0) := by decide +kernel
theorem gz_101_25 : mz_pg 101 25 = some (.getfield 38, 2, 8, 401) := by decide +kernel
theorem gz_101_28 : mz_pg 101 28 = some (.getfield 124, 7, 2, 366) := by decide +kernel
theorem gz_101_31 : mz_pg 101 31 = some (.iaload, 0, 0, 0) := by decide +kernel
theorem gz_101_32 : mz_pg 101 32 = some (.if_icmp .ge 49, 0, 0, 0) := by decide +kernel
theorem gz_101_35 : mz_pg 101 35 = some (.aload_n 1, 0, 0, 0) := by decide +kernel
theorem gz_101_36 : mz_pg 101 36 = some (.getfield 243, 4, 6, 214) := by decide +kernel
theorem gz_101_39 : mz_pg 101 39 = some (.i2l, 0, 0, 0) := by decide +kernel
theorem gz_101_40 : mz_pg 101 40 = some (.aload_n 0, 0, 0, 0) := by decide +kernel
theorem gz_101_41 : mz_pg 101 41 = some (.getfield 38, 2, 8, 401) := by decide +kernel
theorem gz_101_44 : mz_pg 101 44 = some (.getfield 124, 7, 2, 366) := by decide +kernel
theorem gz_101_47 : mz_pg 101 47 = some (.invokestatic 226, 2, 69, 11) := by decide +kernel
theorem gz_101_50 : mz_pg 101 50 = some (.ifCond .eq 31, 0, 0, 0) := by decide +kernel
theorem gz_101_53 : mz_pg 101 53 = some (.aload_n 0, 0, 0, 0) := by decide +kernel
theorem gz_101_54 : mz_pg 101 54 = some (.getfield 12, 2, 3, 393) := by decide +kernel
theorem gz_101_57 : mz_pg 101 57 = some (.aload_n 0, 0, 0, 0) := by decide +kernel
theorem gz_101_58 : mz_pg 101 58 = some (.getfield 38, 2, 8, 401) := by decide +kernel
theorem gz_101_61 : mz_pg 101 61 = some (.getfield 124, 7, 2, 366) := by decide +kernel
theorem gz_101_64 : mz_pg 101 64 = some (.aload_n 0, 0, 0, 0) := by decide +kernel
theorem gz_101_65 : mz_pg 101 65 = some (.getfield 38, 2, 8, 401) := by decide +kernel
theorem gz_101_68 : mz_pg 101 68 = some (.getfield 127, 7, 3, 369) := by decide +kernel
theorem gz_101_71 : mz_pg 101 71 = some (.invokevirtual 199, 1, 15, 937) := by decide +kernel
theorem gz_101_74 : mz_pg 101 74 = some (.ifCond .eq 7, 0, 0, 0) := by decide +kernel
theorem gz_101_77 : mz_pg 101 77 = some (.iconst 1, 0, 0, 0) := by decide +kernel
theorem gz_101_78 : mz_pg 101 78 = some (.goto 4, 0, 0, 0) := by decide +kernel
theorem gz_101_81 : mz_pg 101 81 = some (.iconst 0, 0, 0, 0) := by decide +kernel
theorem gz_101_82 : mz_pg 101 82 = some (.ireturn, 0, 0, 0) := by decide +kernel
theorem gz_102_0 : mz_pg 102 0 = some (.iload_n 2, 0, 0, 0) := by decide +kernel
theorem gz_102_1 : mz_pg 102 1 = some (.iload 4, 0, 0, 0) := by decide +kernel
theorem gz_102_3 : mz_pg 102 3 = some (.invokestatic 50, 2, 29, 12) := by decide +kernel
theorem gz_102_6 : mz_pg 102 6 = some (.istore 6, 0, 0, 0) := by decide +kernel
theorem gz_102_8 : mz_pg 102 8 = some (.iload 5, 0, 0, 0) := by decide +kernel
theorem gz_102_10 : mz_pg 102 10 = some (.aload_n 0, 0, 0, 0) := by decide +kernel
theorem gz_102_11 : mz_pg 102 11 = some (.getfield 15, 3, 1, 149) := by decide +kernel
theorem gz_102_14 : mz_pg 102 14 = some (.iload 6, 0, 0, 0) := by decide +kernel
theorem gz_102_16 : mz_pg 102 16 = some (.iaload, 0, 0, 0) := by decide +kernel
theorem gz_102_17 : mz_pg 102 17 = some (.if_icmp .lt 15, 0, 0, 0) := by decide +kernel
theorem gz_102_20 : mz_pg 102 20 = some (.iload 5, 0, 0, 0) := by decide +kernel
theorem gz_102_22 : mz_pg 102 22 = some (.aload_n 0, 0, 0, 0) := by decide +kernel
theorem gz_102_23 : mz_pg 102 23 = some (.getfield 18, 3, 2, 151) := by decide +kernel
theorem gz_102_26 : mz_pg 102 26 = some (.iload 6, 0, 0, 0) := by decide +kernel
theorem gz_102_28 : mz_pg 102 28 = some (.iaload, 0, 0, 0) := by decide +kernel
theorem gz_102_29 : mz_pg 102 29 = some (.if_icmp .le 5, 0, 0, 0) := by decide +kernel
theorem gz_102_32 : mz_pg 102 32 = some (.iconst 0, 0, 0, 0) := by decide +kernel
theorem gz_102_33 : mz_pg 102 33 = some (.ireturn, 0, 0, 0) := by decide +kernel
theorem gz_102_34 : mz_pg 102 34 = some (.aload_n 0, 0, 0, 0) := by decide +kernel
theorem gz_102_35 : mz_pg 102 35 = some (.getfield 21, 3, 3, 153) := by decide +kernel
theorem gz_102_38 : mz_pg 102 38 = some (.iload 6, 0, 0, 0) := by decide +kernel
theorem gz_102_40 : mz_pg 102 40 = some (.iaload, 0, 0, 0) := by decide +kernel
theorem gz_102_41 : mz_pg 102 41 = some (.iconst (-1), 0, 0, 0) := by decide +kernel
theorem gz_102_42 : mz_pg 102 42 = some (.if_icmp .eq 21, 0, 0, 0) := by decide +kernel
theorem gz_102_45 : mz_pg 102 45 = some (.aload_n 1, 0, 0, 0) := by decide +kernel
theorem gz_102_46 : mz_pg 102 46 = some (.aload_n 0, 0, 0, 0) := by decide +kernel
theorem gz_102_47 : mz_pg 102 47 = some (.getfield 21, 3, 3, 153) := by decide +kernel
theorem gz_102_50 : mz_pg 102 50 = some (.iload 6, 0, 0, 0) := by decide +kernel
theorem gz_102_52 : mz_pg 102 52 = some (.iaload, 0, 0, 0) := by decide +kernel
theorem gz_102_53 : mz_pg 102 53 = some (.iload 5, 0, 0, 0) := by decide +kernel
theorem gz_102_55 : mz_pg 102 55 = some (.invokevirtual 54, 1, 15, 614) := by decide +kernel
theorem gz_102_58 : mz_pg 102 58 = some (.ifCond .ne 5, 0, 0, 0) := by decide +kernel
theorem gz_102_61 : mz_pg 102 61 = some (.iconst 0, 0, 0, 0) := by decide +kernel
theorem gz_102_62 : mz_pg 102 62 = some (.ireturn, 0, 0, 0) := by decide +kernel
theorem gz_102_63 : mz_pg 102 63 = some (.aload_n 0, 0, 0, 0) := by decide +kernel
theorem gz_102_64 : mz_pg 102 64 = some (.getfield 24, 3, 4, 155) := by decide +kernel
theorem gz_102_67 : mz_pg 102 67 = some (.iload 6, 0, 0, 0) := by decide +kernel
theorem gz_102_69 : mz_pg 102 69 = some (.baload, 0, 0, 0) := by decide +kernel
theorem gz_102_70 : mz_pg 102 70 = some (.ifCond .eq 16, 0, 0, 0) := by decide +kernel
theorem gz_102_73 : mz_pg 102 73 = some (.aload_n 1, 0, 0, 0) := by decide +kernel
theorem gz_102_74 : mz_pg 102 74 = some (.iload_n 2, 0, 0, 0) := by decide +kernel
theorem gz_102_75 : mz_pg 102 75 = some (.iload_n 3, 0, 0, 0) := by decide +kernel
theorem gz_102_76 : mz_pg 102 76 = some (.iload 4, 0, 0, 0) := by decide +kernel
theorem gz_102_78 : mz_pg 102 78 = some (.iload 5, 0, 0, 0) := by decide +kernel
theorem gz_102_80 : mz_pg 102 80 = some (.invokestatic 58, 1, 103, 960) := by decide +kernel
theorem gz_102_83 : mz_pg 102 83 = some (.ifCond .ne 7, 0, 0, 0) := by decide +kernel
theorem gz_102_86 : mz_pg 102 86 = some (.iconst 1, 0, 0, 0) := by decide +kernel
theorem gz_102_87 : mz_pg 102 87 = some (.goto 4, 0, 0, 0) := by decide +kernel
theorem gz_102_90 : mz_pg 102 90 = some (.iconst 0, 0, 0, 0) := by decide +kernel
theorem gz_102_91 : mz_pg 102 91 = some (.ireturn, 0, 0, 0) := by decide +kernel
theorem gz_103_0 : mz_pg 103 0 = some (.iconst 0, 0, 0, 0) := by decide +kernel
theorem gz_103_1 : mz_pg 103 1 = some (.istore 5, 0, 0, 0) := by decide +kernel
theorem gz_103_3 : mz_pg 103 3 = some (.iload 5, 0, 0, 0) := by decide +kernel
theorem gz_103_5 : mz_pg 103 5 = some (.bipush 20, 0, 0, 0) := by decide +kernel
theorem gz_103_7 : mz_pg 103 7 = some (.if_icmp .ge 50, 0, 0, 0) := by decide +kernel
theorem gz_103_10 : mz_pg 103 10 = some (.iload_n 1, 0, 0, 0) := by decide +kernel
theorem gz_103_11 : mz_pg 103 11 = some (.iload 5, 0, 0, 0) := by decide +kernel
theorem gz_103_13 : mz_pg 103 13 = some (.invokestatic 62, 2, 17, 5) := by decide +kernel
theorem gz_103_16 : mz_pg 103 16 = some (.istore 6, 0, 0, 0) := by decide +kernel
theorem gz_103_18 : mz_pg 103 18 = some (.iload 5, 0, 0, 0) := by decide +kernel
theorem gz_103_20 : mz_pg 103 20 = some (.iload_n 2, 0, 0, 0) := by decide +kernel
theorem gz_103_21 : mz_pg 103 21 = some (.if_icmp .eq 30, 0, 0, 0) := by decide +kernel
theorem gz_103_24 : mz_pg 103 24 = some (.aload_n 0, 0, 0, 0) := by decide +kernel
theorem gz_103_25 : mz_pg 103 25 = some (.getfield 65, 6, 0, 179) := by decide +kernel
theorem gz_103_28 : mz_pg 103 28 = some (.iload 6, 0, 0, 0) := by decide +kernel
theorem gz_103_30 : mz_pg 103 30 = some (.iaload, 0, 0, 0) := by decide +kernel
theorem gz_103_31 : mz_pg 103 31 = some (.iconst (-1), 0, 0, 0) := by decide +kernel
theorem gz_103_32 : mz_pg 103 32 = some (.if_icmp .eq 19, 0, 0, 0) := by decide +kernel
theorem gz_103_35 : mz_pg 103 35 = some (.aload_n 0, 0, 0, 0) := by decide +kernel
theorem gz_103_36 : mz_pg 103 36 = some (.getfield 65, 6, 0, 179) := by decide +kernel
theorem gz_103_39 : mz_pg 103 39 = some (.iload 6, 0, 0, 0) := by decide +kernel
theorem gz_103_41 : mz_pg 103 41 = some (.iload_n 3, 0, 0, 0) := by decide +kernel
theorem gz_103_42 : mz_pg 103 42 = some (.iadd, 0, 0, 0) := by decide +kernel
theorem gz_103_43 : mz_pg 103 43 = some (.iaload, 0, 0, 0) := by decide +kernel
theorem gz_103_44 : mz_pg 103 44 = some (.iload 4, 0, 0, 0) := by decide +kernel
theorem gz_103_46 : mz_pg 103 46 = some (.if_icmp .ne 5, 0, 0, 0) := by decide +kernel
theorem gz_103_49 : mz_pg 103 49 = some (.iconst 1, 0, 0, 0) := by decide +kernel
theorem gz_103_50 : mz_pg 103 50 = some (.ireturn, 0, 0, 0) := by decide +kernel
theorem gz_103_51 : mz_pg 103 51 = some (.iinc 5 1, 0, 0, 0) := by decide +kernel
theorem gz_103_54 : mz_pg 103 54 = some (.goto (-51), 0, 0, 0) := by decide +kernel
theorem gz_103_57 : mz_pg 103 57 = some (.iconst 0, 0, 0, 0) := by decide +kernel
theorem gz_103_58 : mz_pg 103 58 = some (.ireturn, 0, 0, 0) := by decide +kernel
theorem gz_104_0 : mz_pg 104 0 = some (.aload_n 0, 0, 0, 0) := by decide +kernel
theorem gz_104_1 : mz_pg 104 1 = some (.getfield 38, 2, 8, 401) := by decide +kernel
theorem gz_104_4 : mz_pg 104 4 = some (.invokevirtual 160, 1, 9, 920) := by decide +kernel
theorem gz_104_7 : mz_pg 104 7 = some (.iconst 0, 0, 0, 0) := by decide +kernel
theorem gz_104_8 : mz_pg 104 8 = some (.istore 5, 0, 0, 0) := by decide +kernel
theorem gz_104_10 : mz_pg 104 10 = some (.iload 5, 0, 0, 0) := by decide +kernel
theorem gz_104_12 : mz_pg 104 12 = some (.iconst 3, 0, 0, 0) := by decide +kernel
theorem gz_104_13 : mz_pg 104 13 = some (.if_icmp .ge 192, 0, 0, 0) := by decide +kernel
theorem gz_104_16 : mz_pg 104 16 = some (.aload_n 0, 0, 0, 0) := by decide +kernel
theorem gz_104_17 : mz_pg 104 17 = some (.getfield 52, 2, 1, 391) := by decide +kernel
theorem gz_104_20 : mz_pg 104 20 = some (.iload_n 2, 0, 0, 0) := by decide +kernel
theorem gz_104_21 : mz_pg 104 21 = some (.aaload, 0, 0, 0) := by decide +kernel
theorem gz_104_22 : mz_pg 104 22 = some (.getfield 243, 4, 6, 214) := by decide +kernel
theorem gz_104_25 : mz_pg 104 25 = some (.i2l, 0, 0, 0) := by decide +kernel
theorem gz_104_26 : mz_pg 104 26 = some (.iload 5, 0, 0, 0) := by decide +kernel
theorem gz_104_28 : mz_pg 104 28 = some (.invokestatic 226, 2, 69, 11) := by decide +kernel
theorem gz_104_31 : mz_pg 104 31 = some (.istore 6, 0, 0, 0) := by decide +kernel
theorem gz_104_33 : mz_pg 104 33 = some (.iconst 0, 0, 0, 0) := by decide +kernel
theorem gz_104_34 : mz_pg 104 34 = some (.istore 7, 0, 0, 0) := by decide +kernel
theorem gz_104_36 : mz_pg 104 36 = some (.iload 7, 0, 0, 0) := by decide +kernel
theorem gz_104_38 : mz_pg 104 38 = some (.bipush 20, 0, 0, 0) := by decide +kernel
theorem gz_104_40 : mz_pg 104 40 = some (.if_icmp .ge 159, 0, 0, 0) := by decide +kernel
theorem gz_104_43 : mz_pg 104 43 = some (.iload 6, 0, 0, 0) := by decide +kernel
theorem gz_104_45 : mz_pg 104 45 = some (.ifCond .eq 154, 0, 0, 0) := by decide +kernel
theorem gz_104_48 : mz_pg 104 48 = some (.aload_n 0, 0, 0, 0) := by decide +kernel
theorem gz_104_49 : mz_pg 104 49 = some (.invokevirtual 219, 1, 100, 950) := by decide +kernel
theorem gz_104_52 : mz_pg 104 52 = some (.ifCond .ne 147, 0, 0, 0) := by decide +kernel
theorem gz_104_55 : mz_pg 104 55 = some (.lload_n 3, 0, 0, 0) := by decide +kernel
theorem gz_104_56 : mz_pg 104 56 = some (.iload 5, 0, 0, 0) := by decide +kernel
theorem gz_104_58 : mz_pg 104 58 = some (.bipush 20, 0, 0, 0) := by decide +kernel
theorem gz_104_60 : mz_pg 104 60 = some (.imul, 0, 0, 0) := by decide +kernel
theorem gz_104_61 : mz_pg 104 61 = some (.iload 7, 0, 0, 0) := by decide +kernel
theorem gz_104_63 : mz_pg 104 63 = some (.iadd, 0, 0, 0) := by decide +kernel
theorem gz_104_64 : mz_pg 104 64 = some (.invokestatic 226, 2, 69, 11) := by decide +kernel
theorem gz_104_67 : mz_pg 104 67 = some (.istore 8, 0, 0, 0) := by decide +kernel
theorem gz_104_69 : mz_pg 104 69 = some (.aload_n 1, 0, 0, 0) := by decide +kernel
theorem gz_104_70 : mz_pg 104 70 = some (.iload 5, 0, 0, 0) := by decide +kernel
theorem gz_104_72 : mz_pg 104 72 = some (.iload 7, 0, 0, 0) := by decide +kernel
theorem gz_104_74 : mz_pg 104 74 = some (.invokevirtual 199, 1, 15, 937) := by decide +kernel
theorem gz_104_77 : mz_pg 104 77 = some (.ifCond .eq 116, 0, 0, 0) := by decide +kernel
theorem gz_104_80 : mz_pg 104 80 = some (.iload 8, 0, 0, 0) := by decide +kernel
theorem gz_104_82 : mz_pg 104 82 = some (.ifCond .ne 13, 0, 0, 0) := by decide +kernel
theorem gz_104_85 : mz_pg 104 85 = some (.aload_n 0, 0, 0, 0) := by decide +kernel
theorem gz_104_86 : mz_pg 104 86 = some (.getfield 167, 2, 14, 410) := by decide +kernel
theorem gz_104_89 : mz_pg 104 89 = some (.ifCond .ne 6, 0, 0, 0) := by decide +kernel
theorem gz_104_92 : mz_pg 104 92 = some (.goto 101, 0, 0, 0) := by decide +kernel
theorem gz_104_95 : mz_pg 104 95 = some (.aload_n 0, 0, 0, 0) := by decide +kernel
theorem gz_104_96 : mz_pg 104 96 = some (.getfield 12, 2, 3, 393) := by decide +kernel
theorem gz_104_99 : mz_pg 104 99 = some (.iload 5, 0, 0, 0) := by decide +kernel
theorem gz_104_101 : mz_pg 104 101 = some (.iload 7, 0, 0, 0) := by decide +kernel
theorem gz_104_103 : mz_pg 104 103 = some (.invokevirtual 140, 1, 23, 966) := by decide +kernel
theorem gz_104_106 : mz_pg 104 106 = some (.aload_n 0, 0, 0, 0) := by decide +kernel
theorem gz_104_107 : mz_pg 104 107 = some (.getfield 48, 2, 0, 390) := by decide +kernel
theorem gz_104_110 : mz_pg 104 110 = some (.aload_n 0, 0, 0, 0) := by decide +kernel
theorem gz_104_111 : mz_pg 104 111 = some (.getfield 12, 2, 3, 393) := by decide +kernel
theorem gz_104_114 : mz_pg 104 114 = some (.invokevirtual 246, 1, 19, 967) := by decide +kernel
theorem gz_104_117 : mz_pg 104 117 = some (.iconst (-1), 0, 0, 0) := by decide +kernel
theorem gz_104_118 : mz_pg 104 118 = some (.if_icmp .ne 67, 0, 0, 0) := by decide +kernel
theorem gz_104_121 : mz_pg 104 121 = some (.iload 8, 0, 0, 0) := by decide +kernel
theorem gz_104_123 : mz_pg 104 123 = some (.ifCond .eq 29, 0, 0, 0) := by decide +kernel
theorem gz_104_126 : mz_pg 104 126 = some (.aload_n 0, 0, 0, 0) := by decide +kernel
theorem gz_104_127 : mz_pg 104 127 = some (.getfield 28, 2, 6, 398) := by decide +kernel
theorem gz_104_130 : mz_pg 104 130 = some (.aload_n 0, 0, 0, 0) := by decide +kernel
theorem gz_104_131 : mz_pg 104 131 = some (.getfield 52, 2, 1, 391) := by decide +kernel
theorem gz_104_134 : mz_pg 104 134 = some (.iload_n 2, 0, 0, 0) := by decide +kernel
theorem gz_104_135 : mz_pg 104 135 = some (.aload_n 0, 0, 0, 0) := by decide +kernel
theorem gz_104_136 : mz_pg 104 136 = some (.getfield 12, 2, 3, 393) := by decide +kernel
theorem gz_104_139 : mz_pg 104 139 = some (.invokevirtual 69, 1, 67, 819) := by decide +kernel
theorem gz_104_142 : mz_pg 104 142 = some (.aload_n 0, 0, 0, 0) := by decide +kernel
theorem gz_104_143 : mz_pg 104 143 = some (.getfield 25, 2, 5, 397) := by decide +kernel
theorem gz_104_146 : mz_pg 104 146 = some (.invokevirtual 163, 1, 93, 921) := by decide +kernel
theorem gz_104_149 : mz_pg 104 149 = some (.ifCond .eq 36, 0, 0, 0) := by decide +kernel
theorem gz_104_152 : mz_pg 104 152 = some (.aload_n 0, 0, 0, 0) := by decide +kernel
theorem gz_104_153 : mz_pg 104 153 = some (.getfield 38, 2, 8, 401) := by decide +kernel
theorem gz_104_156 : mz_pg 104 156 = some (.iload 5, 0, 0, 0) := by decide +kernel
theorem gz_104_158 : mz_pg 104 158 = some (.putfield 124, 7, 2, 366) := by decide +kernel
theorem gz_104_161 : mz_pg 104 161 = some (.aload_n 0, 0, 0, 0) := by decide +kernel
theorem gz_104_162 : mz_pg 104 162 = some (.getfield 38, 2, 8, 401) := by decide +kernel
theorem gz_104_165 : mz_pg 104 165 = some (.iload 7, 0, 0, 0) := by decide +kernel
theorem gz_104_167 : mz_pg 104 167 = some (.putfield 127, 7, 3, 369) := by decide +kernel
theorem gz_104_170 : mz_pg 104 170 = some (.aload_n 0, 0, 0, 0) := by decide +kernel
theorem gz_104_171 : mz_pg 104 171 = some (.iconst 2, 0, 0, 0) := by decide +kernel
theorem gz_104_172 : mz_pg 104 172 = some (.aload_n 0, 0, 0, 0) := by decide +kernel
theorem gz_104_173 : mz_pg 104 173 = some (.getfield 48, 2, 0, 390) := by decide +kernel
theorem gz_104_176 : mz_pg 104 176 = some (.getfield 240, 3, 0, 148) := by decide +kernel
theorem gz_104_179 : mz_pg 104 179 = some (.iload 5, 0, 0, 0) := by decide +kernel
theorem gz_104_181 : mz_pg 104 181 = some (.iaload, 0, 0, 0) := by decide +kernel
theorem gz_104_182 : mz_pg 104 182 = some (.invokevirtual 170, 1, 94, 925) := by decide +kernel
theorem gz_104_185 : mz_pg 104 185 = some (.aload_n 0, 0, 0, 0) := by decide +kernel
theorem gz_104_186 : mz_pg 104 186 = some (.getfield 12, 2, 3, 393) := by decide +kernel
theorem gz_104_189 : mz_pg 104 189 = some (.aload_n 1, 0, 0, 0) := by decide +kernel
theorem gz_104_190 : mz_pg 104 190 = some (.invokevirtual 173, 1, 25, 932) := by decide +kernel
theorem gz_104_193 : mz_pg 104 193 = some (.iinc 7 1, 0, 0, 0) := by decide +kernel
theorem gz_104_196 : mz_pg 104 196 = some (.goto (-160), 0, 0, 0) := by decide +kernel
theorem gz_104_199 : mz_pg 104 199 = some (.iinc 5 1, 0, 0, 0) := by decide +kernel
theorem gz_104_202 : mz_pg 104 202 = some (.goto (-192), 0, 0, 0) := by decide +kernel
theorem gz_104_205 : mz_pg 104 205 = some (.return_, 0, 0, 0) := by decide +kernel
theorem gz_105_0 : mz_pg 105 0 = some (.aload_n 0, 0, 0, 0) := by decide +kernel
theorem gz_105_1 : mz_pg 105 1 = some (.invokevirtual 219, 1, 100, 950) := by decide +kernel
theorem gz_105_4 : mz_pg 105 4 = some (.ifCond .ne 106, 0, 0, 0) := by decide +kernel
theorem gz_105_7 : mz_pg 105 7 = some (.aload_n 0, 0, 0, 0) := by decide +kernel
theorem gz_105_8 : mz_pg 105 8 = some (.aload_n 0, 0, 0, 0) := by decide +kernel
theorem gz_105_9 : mz_pg 105 9 = some (.getfield 52, 2, 1, 391) := by decide +kernel
theorem gz_105_12 : mz_pg 105 12 = some (.iload_n 1, 0, 0, 0) := by decide +kernel
theorem gz_105_13 : mz_pg 105 13 = some (.aaload, 0, 0, 0) := by decide +kernel
theorem gz_105_14 : mz_pg 105 14 = some (.invokevirtual 250, 1, 106, 971) := by decide +kernel
theorem gz_105_17 : mz_pg 105 17 = some (.ifCond .eq 93, 0, 0, 0) := by decide +kernel
theorem gz_105_20 : mz_pg 105 20 = some (.aload_n 0, 0, 0, 0) := by decide +kernel
theorem gz_105_21 : mz_pg 105 21 = some (.getfield 48, 2, 0, 390) := by decide +kernel
theorem gz_105_24 : mz_pg 105 24 = some (.aload_n 0, 0, 0, 0) := by decide +kernel
theorem gz_105_25 : mz_pg 105 25 = some (.getfield 12, 2, 3, 393) := by decide +kernel
theorem gz_105_28 : mz_pg 105 28 = some (.invokevirtual 246, 1, 19, 967) := by decide +kernel
theorem gz_105_31 : mz_pg 105 31 = some (.iconst (-1), 0, 0, 0) := by decide +kernel
theorem gz_105_32 : mz_pg 105 32 = some (.if_icmp .ne 78, 0, 0, 0) := by decide +kernel
theorem gz_105_35 : mz_pg 105 35 = some (.aload_n 0, 0, 0, 0) := by decide +kernel
theorem gz_105_36 : mz_pg 105 36 = some (.getfield 28, 2, 6, 398) := by decide +kernel
theorem gz_105_39 : mz_pg 105 39 = some (.aload_n 0, 0, 0, 0) := by decide +kernel
theorem gz_105_40 : mz_pg 105 40 = some (.getfield 52, 2, 1, 391) := by decide +kernel
theorem gz_105_43 : mz_pg 105 43 = some (.iload_n 1, 0, 0, 0) := by decide +kernel
theorem gz_105_44 : mz_pg 105 44 = some (.aload_n 0, 0, 0, 0) := by decide +kernel
theorem gz_105_45 : mz_pg 105 45 = some (.getfield 12, 2, 3, 393) := by decide +kernel
theorem gz_105_48 : mz_pg 105 48 = some (.invokevirtual 69, 1, 67, 819) := by decide +kernel
theorem gz_105_51 : mz_pg 105 51 = some (.aload_n 0, 0, 0, 0) := by decide +kernel
theorem gz_105_52 : mz_pg 105 52 = some (.getfield 25, 2, 5, 397) := by decide +kernel
theorem gz_105_55 : mz_pg 105 55 = some (.invokevirtual 163, 1, 93, 921) := by decide +kernel
theorem gz_105_58 : mz_pg 105 58 = some (.ifCond .eq 52, 0, 0, 0) := by decide +kernel
theorem gz_105_61 : mz_pg 105 61 = some (.aload_n 0, 0, 0, 0) := by decide +kernel
theorem gz_105_62 : mz_pg 105 62 = some (.getfield 38, 2, 8, 401) := by decide +kernel
theorem gz_105_65 : mz_pg 105 65 = some (.aload_n 0, 0, 0, 0) := by decide +kernel
theorem gz_105_66 : mz_pg 105 66 = some (.getfield 52, 2, 1, 391) := by decide +kernel
theorem gz_105_69 : mz_pg 105 69 = some (.iload_n 1, 0, 0, 0) := by decide +kernel
theorem gz_105_70 : mz_pg 105 70 = some (.aaload, 0, 0, 0) := by decide +kernel
theorem gz_105_71 : mz_pg 105 71 = some (.getfield 196, 4, 2, 203) := by decide +kernel
theorem gz_105_74 : mz_pg 105 74 = some (.putfield 124, 7, 2, 366) := by decide +kernel
theorem gz_105_77 : mz_pg 105 77 = some (.aload_n 0, 0, 0, 0) := by decide +kernel
theorem gz_105_78 : mz_pg 105 78 = some (.getfield 38, 2, 8, 401) := by decide +kernel
theorem gz_105_81 : mz_pg 105 81 = some (.aload_n 0, 0, 0, 0) := by decide +kernel
theorem gz_105_82 : mz_pg 105 82 = some (.getfield 31, 2, 7, 400) := by decide +kernel
theorem gz_105_85 : mz_pg 105 85 = some (.iconst 0, 0, 0, 0) := by decide +kernel
theorem gz_105_86 : mz_pg 105 86 = some (.iaload, 0, 0, 0) := by decide +kernel
theorem gz_105_87 : mz_pg 105 87 = some (.putfield 127, 7, 3, 369) := by decide +kernel
theorem gz_105_90 : mz_pg 105 90 = some (.aload_n 0, 0, 0, 0) := by decide +kernel
theorem gz_105_91 : mz_pg 105 91 = some (.iconst 3, 0, 0, 0) := by decide +kernel
theorem gz_105_92 : mz_pg 105 92 = some (.aload_n 0, 0, 0, 0) := by decide +kernel
theorem gz_105_93 : mz_pg 105 93 = some (.getfield 48, 2, 0, 390) := by decide +kernel
theorem gz_105_96 : mz_pg 105 96 = some (.getfield 240, 3, 0, 148) := by decide +kernel
theorem gz_105_99 : mz_pg 105 99 = some (.aload_n 0, 0, 0, 0) := by decide +kernel
theorem gz_105_100 : mz_pg 105 100 = some (.getfield 38, 2, 8, 401) := by decide +kernel
theorem gz_105_103 : mz_pg 105 103 = some (.getfield 124, 7, 2, 366) := by decide +kernel
theorem gz_105_106 : mz_pg 105 106 = some (.iaload, 0, 0, 0) := by decide +kernel
theorem gz_105_107 : mz_pg 105 107 = some (.invokevirtual 170, 1, 94, 925) := by decide +kernel
theorem gz_105_110 : mz_pg 105 110 = some (.return_, 0, 0, 0) := by decide +kernel
theorem gz_106_0 : mz_pg 106 0 = some (.iconst 0, 0, 0, 0) := by decide +kernel
theorem gz_106_1 : mz_pg 106 1 = some (.istore_n 2, 0, 0, 0) := by decide +kernel
theorem gz_106_2 : mz_pg 106 2 = some (.iload_n 2, 0, 0, 0) := by decide +kernel
theorem gz_106_3 : mz_pg 106 3 = some (.iconst 4, 0, 0, 0) := by decide +kernel
theorem gz_106_4 : mz_pg 106 4 = some (.if_icmp .ge 41, 0, 0, 0) := by decide +kernel
theorem gz_106_7 : mz_pg 106 7 = some (.aload_n 1, 0, 0, 0) := by decide +kernel
theorem gz_106_8 : mz_pg 106 8 = some (.iload_n 2, 0, 0, 0) := by decide +kernel
theorem gz_106_9 : mz_pg 106 9 = some (.invokevirtual 253, 1, 107, 974) := by decide +kernel
theorem gz_106_12 : mz_pg 106 12 = some (.istore_n 3, 0, 0, 0) := by decide +kernel
theorem gz_106_13 : mz_pg 106 13 = some (.aload_n 0, 0, 0, 0) := by decide +kernel
theorem gz_106_14 : mz_pg 106 14 = some (.getfield 31, 2, 7, 400) := by decide +kernel
theorem gz_106_17 : mz_pg 106 17 = some (.iload_n 2, 0, 0, 0) := by decide +kernel
theorem gz_106_18 : mz_pg 106 18 = some (.iload_n 3, 0, 0, 0) := by decide +kernel
theorem gz_106_19 : mz_pg 106 19 = some (.iconst (-1), 0, 0, 0) := by decide +kernel
end MGZ1
