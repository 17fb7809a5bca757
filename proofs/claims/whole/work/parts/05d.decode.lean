/-! what stands at each place of the code -/
theorem d47_6 : decode (mB 47) 6 = .ok (.if_icmp .lt 5, 3) := by decide +kernel
theorem d47_9 : decode (mB 47) 9 = .ok (.iconst 0, 1) := by decide +kernel
theorem d47_10 : decode (mB 47) 10 = .ok (.ireturn, 1) := by decide +kernel
theorem d47_11 : decode (mB 47) 11 = .ok (.aload_n 0, 1) := by decide +kernel
theorem d47_12 : decode (mB 47) 12 = .ok (.getfield 33, 3) := by decide +kernel
theorem d47_15 : decode (mB 47) 15 = .ok (.aload_n 0, 1) := by decide +kernel
theorem d47_16 : decode (mB 47) 16 = .ok (.getfield 53, 3) := by decide +kernel
theorem d47_19 : decode (mB 47) 19 = .ok (.iload_n 1, 1) := by decide +kernel
theorem d47_20 : decode (mB 47) 20 = .ok (.iastore, 1) := by decide +kernel
theorem d47_21 : decode (mB 47) 21 = .ok (.aload_n 0, 1) := by decide +kernel
theorem d47_22 : decode (mB 47) 22 = .ok (.getfield 36, 3) := by decide +kernel
theorem d47_25 : decode (mB 47) 25 = .ok (.aload_n 0, 1) := by decide +kernel
theorem d47_26 : decode (mB 47) 26 = .ok (.getfield 53, 3) := by decide +kernel
theorem d47_29 : decode (mB 47) 29 = .ok (.iload_n 2, 1) := by decide +kernel
theorem d47_30 : decode (mB 47) 30 = .ok (.iastore, 1) := by decide +kernel
theorem d47_31 : decode (mB 47) 31 = .ok (.aload_n 0, 1) := by decide +kernel
theorem d47_32 : decode (mB 47) 32 = .ok (.dup, 1) := by decide +kernel
theorem d47_33 : decode (mB 47) 33 = .ok (.getfield 53, 3) := by decide +kernel
theorem d47_36 : decode (mB 47) 36 = .ok (.iconst 1, 1) := by decide +kernel
theorem d47_37 : decode (mB 47) 37 = .ok (.iadd, 1) := by decide +kernel
theorem d47_38 : decode (mB 47) 38 = .ok (.putfield 53, 3) := by decide +kernel
theorem d47_41 : decode (mB 47) 41 = .ok (.iconst 1, 1) := by decide +kernel
theorem d47_42 : decode (mB 47) 42 = .ok (.ireturn, 1) := by decide +kernel
theorem d72_0 : decode (mB 72) 0 = .ok (.aload_n 0, 1) := by decide +kernel
theorem d72_1 : decode (mB 72) 1 = .ok (.getfield 30, 3) := by decide +kernel
theorem d72_4 : decode (mB 72) 4 = .ok (.iconst 3, 1) := by decide +kernel
theorem d72_5 : decode (mB 72) 5 = .ok (.iload_n 1, 1) := by decide +kernel
theorem d72_6 : decode (mB 72) 6 = .ok (.imul, 1) := by decide +kernel
theorem d72_7 : decode (mB 72) 7 = .ok (.iload_n 2, 1) := by decide +kernel
theorem d72_8 : decode (mB 72) 8 = .ok (.iadd, 1) := by decide +kernel
theorem d72_9 : decode (mB 72) 9 = .ok (.iaload, 1) := by decide +kernel
theorem d72_10 : decode (mB 72) 10 = .ok (.ireturn, 1) := by decide +kernel
theorem d85_0 : decode (mB 85) 0 = .ok (.iconst (-1), 1) := by decide +kernel
theorem d85_1 : decode (mB 85) 1 = .ok (.istore_n 3, 1) := by decide +kernel
theorem d85_2 : decode (mB 85) 2 = .ok (.aload_n 0, 1) := by decide +kernel
theorem d85_3 : decode (mB 85) 3 = .ok (.getfield 21, 3) := by decide +kernel
theorem d85_6 : decode (mB 85) 6 = .ok (.iload_n 1, 1) := by decide +kernel
theorem d85_7 : decode (mB 85) 7 = .ok (.iaload, 1) := by decide +kernel
theorem d85_8 : decode (mB 85) 8 = .ok (.istore 4, 2) := by decide +kernel
theorem d85_10 : decode (mB 85) 10 = .ok (.iload 4, 2) := by decide +kernel
theorem d85_12 : decode (mB 85) 12 = .ok (.aload_n 0, 1) := by decide +kernel
theorem d85_13 : decode (mB 85) 13 = .ok (.getfield 24, 3) := by decide +kernel
theorem d85_16 : decode (mB 85) 16 = .ok (.iload_n 1, 1) := by decide +kernel
theorem d85_17 : decode (mB 85) 17 = .ok (.iaload, 1) := by decide +kernel
theorem d85_18 : decode (mB 85) 18 = .ok (.if_icmp .ge 122, 3) := by decide +kernel
theorem d85_21 : decode (mB 85) 21 = .ok (.aload_n 0, 1) := by decide +kernel
theorem d85_22 : decode (mB 85) 22 = .ok (.getfield 33, 3) := by decide +kernel
theorem d85_25 : decode (mB 85) 25 = .ok (.iload 4, 2) := by decide +kernel
theorem d85_27 : decode (mB 85) 27 = .ok (.iaload, 1) := by decide +kernel
theorem d85_28 : decode (mB 85) 28 = .ok (.istore 5, 2) := by decide +kernel
theorem d85_30 : decode (mB 85) 30 = .ok (.iload 5, 2) := by decide +kernel
theorem d85_32 : decode (mB 85) 32 = .ok (.iconst 4, 1) := by decide +kernel
theorem d85_33 : decode (mB 85) 33 = .ok (.if_icmp .ne 23, 3) := by decide +kernel
theorem d85_36 : decode (mB 85) 36 = .ok (.iinc 3 1, 3) := by decide +kernel
theorem d85_39 : decode (mB 85) 39 = .ok (.aload_n 0, 1) := by decide +kernel
theorem d85_40 : decode (mB 85) 40 = .ok (.getfield 39, 3) := by decide +kernel
theorem d85_43 : decode (mB 85) 43 = .ok (.iload_n 3, 1) := by decide +kernel
theorem d85_44 : decode (mB 85) 44 = .ok (.aload_n 0, 1) := by decide +kernel
theorem d85_45 : decode (mB 85) 45 = .ok (.getfield 36, 3) := by decide +kernel
theorem d85_48 : decode (mB 85) 48 = .ok (.iload 4, 2) := by decide +kernel
theorem d85_50 : decode (mB 85) 50 = .ok (.iaload, 1) := by decide +kernel
theorem d85_51 : decode (mB 85) 51 = .ok (.i2l, 1) := by decide +kernel
theorem d85_52 : decode (mB 85) 52 = .ok (.lastore, 1) := by decide +kernel
theorem d85_53 : decode (mB 85) 53 = .ok (.goto 81, 3) := by decide +kernel
theorem d85_56 : decode (mB 85) 56 = .ok (.iload 5, 2) := by decide +kernel
theorem d85_58 : decode (mB 85) 58 = .ok (.iconst 2, 1) := by decide +kernel
theorem d85_59 : decode (mB 85) 59 = .ok (.if_icmp .ne 24, 3) := by decide +kernel
theorem d85_62 : decode (mB 85) 62 = .ok (.iinc 3 1, 3) := by decide +kernel
theorem d85_65 : decode (mB 85) 65 = .ok (.aload_n 0, 1) := by decide +kernel
theorem d85_66 : decode (mB 85) 66 = .ok (.getfield 39, 3) := by decide +kernel
theorem d85_69 : decode (mB 85) 69 = .ok (.iload_n 3, 1) := by decide +kernel
theorem d85_70 : decode (mB 85) 70 = .ok (.aload_n 2, 1) := by decide +kernel
theorem d85_71 : decode (mB 85) 71 = .ok (.aload_n 0, 1) := by decide +kernel
theorem d85_72 : decode (mB 85) 72 = .ok (.getfield 36, 3) := by decide +kernel
theorem d85_75 : decode (mB 85) 75 = .ok (.iload 4, 2) := by decide +kernel
theorem d85_77 : decode (mB 85) 77 = .ok (.iaload, 1) := by decide +kernel
theorem d85_78 : decode (mB 85) 78 = .ok (.laload, 1) := by decide +kernel
theorem d85_79 : decode (mB 85) 79 = .ok (.lastore, 1) := by decide +kernel
theorem d85_80 : decode (mB 85) 80 = .ok (.goto 54, 3) := by decide +kernel
theorem d85_83 : decode (mB 85) 83 = .ok (.iload 5, 2) := by decide +kernel
theorem d85_85 : decode (mB 85) 85 = .ok (.bipush 24, 2) := by decide +kernel
theorem d85_87 : decode (mB 85) 87 = .ok (.if_icmp .ne 19, 3) := by decide +kernel
theorem d85_90 : decode (mB 85) 90 = .ok (.aload_n 0, 1) := by decide +kernel
theorem d85_91 : decode (mB 85) 91 = .ok (.getfield 39, 3) := by decide +kernel
theorem d85_94 : decode (mB 85) 94 = .ok (.iload_n 3, 1) := by decide +kernel
theorem d85_95 : decode (mB 85) 95 = .ok (.aload_n 0, 1) := by decide +kernel
theorem d85_96 : decode (mB 85) 96 = .ok (.getfield 39, 3) := by decide +kernel
theorem d85_99 : decode (mB 85) 99 = .ok (.iload_n 3, 1) := by decide +kernel
theorem d85_100 : decode (mB 85) 100 = .ok (.laload, 1) := by decide +kernel
theorem d85_101 : decode (mB 85) 101 = .ok (.lneg, 1) := by decide +kernel
theorem d85_102 : decode (mB 85) 102 = .ok (.lastore, 1) := by decide +kernel
theorem d85_103 : decode (mB 85) 103 = .ok (.goto 31, 3) := by decide +kernel
theorem d85_106 : decode (mB 85) 106 = .ok (.iinc 3 (-1), 3) := by decide +kernel
theorem d85_109 : decode (mB 85) 109 = .ok (.aload_n 0, 1) := by decide +kernel
theorem d85_110 : decode (mB 85) 110 = .ok (.getfield 39, 3) := by decide +kernel
theorem d85_113 : decode (mB 85) 113 = .ok (.iload_n 3, 1) := by decide +kernel
theorem d85_114 : decode (mB 85) 114 = .ok (.iload 5, 2) := by decide +kernel
theorem d85_116 : decode (mB 85) 116 = .ok (.aload_n 0, 1) := by decide +kernel
theorem d85_117 : decode (mB 85) 117 = .ok (.getfield 39, 3) := by decide +kernel
theorem d85_120 : decode (mB 85) 120 = .ok (.iload_n 3, 1) := by decide +kernel
theorem d85_121 : decode (mB 85) 121 = .ok (.laload, 1) := by decide +kernel
theorem d85_122 : decode (mB 85) 122 = .ok (.aload_n 0, 1) := by decide +kernel
theorem d85_123 : decode (mB 85) 123 = .ok (.getfield 39, 3) := by decide +kernel
theorem d85_126 : decode (mB 85) 126 = .ok (.iload_n 3, 1) := by decide +kernel
theorem d85_127 : decode (mB 85) 127 = .ok (.iconst 1, 1) := by decide +kernel
theorem d85_128 : decode (mB 85) 128 = .ok (.iadd, 1) := by decide +kernel
theorem d85_129 : decode (mB 85) 129 = .ok (.laload, 1) := by decide +kernel
theorem d85_130 : decode (mB 85) 130 = .ok (.invokestatic 56, 3) := by decide +kernel
theorem d85_133 : decode (mB 85) 133 = .ok (.lastore, 1) := by decide +kernel
theorem d85_134 : decode (mB 85) 134 = .ok (.iinc 4 1, 3) := by decide +kernel
theorem d85_137 : decode (mB 85) 137 = .ok (.goto (-127), 3) := by decide +kernel
theorem d85_140 : decode (mB 85) 140 = .ok (.aload_n 0, 1) := by decide +kernel
theorem d85_141 : decode (mB 85) 141 = .ok (.getfield 39, 3) := by decide +kernel
theorem d85_144 : decode (mB 85) 144 = .ok (.iconst 0, 1) := by decide +kernel
theorem d85_145 : decode (mB 85) 145 = .ok (.laload, 1) := by decide +kernel
theorem d85_146 : decode (mB 85) 146 = .ok (.lreturn, 1) := by decide +kernel
theorem d86_0 : decode (mB 86) 0 = .ok (.iload_n 0, 1) := by decide +kernel
theorem d86_1 : decode (mB 86) 1 = .ok (.lookupswitch 87 #[(42, 59), (43, 51), (45, 55), (60, 63), (61, 75)], 51) := by decide +kernel
theorem d86_52 : decode (mB 86) 52 = .ok (.lload_n 1, 1) := by decide +kernel
theorem d86_53 : decode (mB 86) 53 = .ok (.lload_n 3, 1) := by decide +kernel
theorem d86_54 : decode (mB 86) 54 = .ok (.ladd, 1) := by decide +kernel
theorem d86_55 : decode (mB 86) 55 = .ok (.lreturn, 1) := by decide +kernel
theorem d86_56 : decode (mB 86) 56 = .ok (.lload_n 1, 1) := by decide +kernel
theorem d86_57 : decode (mB 86) 57 = .ok (.lload_n 3, 1) := by decide +kernel
theorem d86_58 : decode (mB 86) 58 = .ok (.lsub, 1) := by decide +kernel
theorem d86_59 : decode (mB 86) 59 = .ok (.lreturn, 1) := by decide +kernel
theorem d86_60 : decode (mB 86) 60 = .ok (.lload_n 1, 1) := by decide +kernel
theorem d86_61 : decode (mB 86) 61 = .ok (.lload_n 3, 1) := by decide +kernel
theorem d86_62 : decode (mB 86) 62 = .ok (.lmul, 1) := by decide +kernel
theorem d86_63 : decode (mB 86) 63 = .ok (.lreturn, 1) := by decide +kernel
theorem d86_64 : decode (mB 86) 64 = .ok (.lload_n 1, 1) := by decide +kernel
theorem d86_65 : decode (mB 86) 65 = .ok (.lload_n 3, 1) := by decide +kernel
theorem d86_66 : decode (mB 86) 66 = .ok (.lcmp, 1) := by decide +kernel
theorem d86_67 : decode (mB 86) 67 = .ok (.ifCond .ge 7, 3) := by decide +kernel
theorem d86_70 : decode (mB 86) 70 = .ok (.lconst 1, 1) := by decide +kernel
theorem d86_71 : decode (mB 86) 71 = .ok (.goto 4, 3) := by decide +kernel
theorem d86_74 : decode (mB 86) 74 = .ok (.lconst 0, 1) := by decide +kernel
theorem d86_75 : decode (mB 86) 75 = .ok (.lreturn, 1) := by decide +kernel
theorem d86_76 : decode (mB 86) 76 = .ok (.lload_n 1, 1) := by decide +kernel
theorem d86_77 : decode (mB 86) 77 = .ok (.lload_n 3, 1) := by decide +kernel
theorem d86_78 : decode (mB 86) 78 = .ok (.lcmp, 1) := by decide +kernel
theorem d86_79 : decode (mB 86) 79 = .ok (.ifCond .ne 7, 3) := by decide +kernel
theorem d86_82 : decode (mB 86) 82 = .ok (.lconst 1, 1) := by decide +kernel
theorem d86_83 : decode (mB 86) 83 = .ok (.goto 4, 3) := by decide +kernel
theorem d86_86 : decode (mB 86) 86 = .ok (.lconst 0, 1) := by decide +kernel
theorem d86_87 : decode (mB 86) 87 = .ok (.lreturn, 1) := by decide +kernel
theorem d86_88 : decode (mB 86) 88 = .ok (.lload_n 1, 1) := by decide +kernel
theorem d86_89 : decode (mB 86) 89 = .ok (.lload_n 3, 1) := by decide +kernel
theorem d86_90 : decode (mB 86) 90 = .ok (.lcmp, 1) := by decide +kernel
theorem d86_91 : decode (mB 86) 91 = .ok (.ifCond .eq 7, 3) := by decide +kernel
theorem d86_94 : decode (mB 86) 94 = .ok (.lconst 1, 1) := by decide +kernel
theorem d86_95 : decode (mB 86) 95 = .ok (.goto 4, 3) := by decide +kernel
theorem d86_98 : decode (mB 86) 98 = .ok (.lconst 0, 1) := by decide +kernel
theorem d86_99 : decode (mB 86) 99 = .ok (.lreturn, 1) := by decide +kernel
theorem d8_0 : decode (mB 8) 0 = .ok (.aload_n 0, 1) := by decide +kernel
theorem d8_1 : decode (mB 8) 1 = .ok (.invokespecial 3, 3) := by decide +kernel
theorem d8_4 : decode (mB 8) 4 = .ok (.aload_n 0, 1) := by decide +kernel
theorem d8_5 : decode (mB 8) 5 = .ok (.bipush 22, 2) := by decide +kernel
theorem d8_7 : decode (mB 8) 7 = .ok (.newarray .int, 2) := by decide +kernel
theorem d8_9 : decode (mB 8) 9 = .ok (.putfield 9, 3) := by decide +kernel
theorem d8_12 : decode (mB 8) 12 = .ok (.aload_n 0, 1) := by decide +kernel
theorem d8_13 : decode (mB 8) 13 = .ok (.bipush 22, 2) := by decide +kernel
theorem d8_15 : decode (mB 8) 15 = .ok (.newarray .int, 2) := by decide +kernel
theorem d8_17 : decode (mB 8) 17 = .ok (.putfield 15, 3) := by decide +kernel
theorem d8_20 : decode (mB 8) 20 = .ok (.aload_n 0, 1) := by decide +kernel
theorem d8_21 : decode (mB 8) 21 = .ok (.bipush 22, 2) := by decide +kernel
theorem d8_23 : decode (mB 8) 23 = .ok (.newarray .long, 2) := by decide +kernel
theorem d8_25 : decode (mB 8) 25 = .ok (.putfield 18, 3) := by decide +kernel
theorem d8_28 : decode (mB 8) 28 = .ok (.return_, 1) := by decide +kernel
theorem d67_0 : decode (mB 67) 0 = .ok (.aload_n 0, 1) := by decide +kernel
theorem d67_1 : decode (mB 67) 1 = .ok (.getfield 22, 3) := by decide +kernel
theorem d67_4 : decode (mB 67) 4 = .ok (.bipush 22, 2) := by decide +kernel
theorem d67_6 : decode (mB 67) 6 = .ok (.if_icmp .lt 4, 3) := by decide +kernel
theorem d67_9 : decode (mB 67) 9 = .ok (.return_, 1) := by decide +kernel
theorem d67_10 : decode (mB 67) 10 = .ok (.aload_n 0, 1) := by decide +kernel
theorem d67_11 : decode (mB 67) 11 = .ok (.getfield 9, 3) := by decide +kernel
theorem d67_14 : decode (mB 67) 14 = .ok (.aload_n 0, 1) := by decide +kernel
theorem d67_15 : decode (mB 67) 15 = .ok (.getfield 22, 3) := by decide +kernel
theorem d67_18 : decode (mB 67) 18 = .ok (.iload_n 1, 1) := by decide +kernel
theorem d67_19 : decode (mB 67) 19 = .ok (.iastore, 1) := by decide +kernel
theorem d67_20 : decode (mB 67) 20 = .ok (.aload_n 0, 1) := by decide +kernel
theorem d67_21 : decode (mB 67) 21 = .ok (.getfield 15, 3) := by decide +kernel
theorem d67_24 : decode (mB 67) 24 = .ok (.aload_n 0, 1) := by decide +kernel
theorem d67_25 : decode (mB 67) 25 = .ok (.getfield 22, 3) := by decide +kernel
theorem d67_28 : decode (mB 67) 28 = .ok (.iload_n 2, 1) := by decide +kernel
theorem d67_29 : decode (mB 67) 29 = .ok (.iastore, 1) := by decide +kernel
theorem d67_30 : decode (mB 67) 30 = .ok (.aload_n 0, 1) := by decide +kernel
theorem d67_31 : decode (mB 67) 31 = .ok (.getfield 18, 3) := by decide +kernel
theorem d67_34 : decode (mB 67) 34 = .ok (.aload_n 0, 1) := by decide +kernel
theorem d67_35 : decode (mB 67) 35 = .ok (.getfield 22, 3) := by decide +kernel
theorem d67_38 : decode (mB 67) 38 = .ok (.lload_n 3, 1) := by decide +kernel
theorem d67_39 : decode (mB 67) 39 = .ok (.lastore, 1) := by decide +kernel
theorem d67_40 : decode (mB 67) 40 = .ok (.aload_n 0, 1) := by decide +kernel
theorem d67_41 : decode (mB 67) 41 = .ok (.dup, 1) := by decide +kernel
theorem d67_42 : decode (mB 67) 42 = .ok (.getfield 22, 3) := by decide +kernel
theorem d67_45 : decode (mB 67) 45 = .ok (.iconst 1, 1) := by decide +kernel
theorem d67_46 : decode (mB 67) 46 = .ok (.iadd, 1) := by decide +kernel
theorem d67_47 : decode (mB 67) 47 = .ok (.putfield 22, 3) := by decide +kernel
theorem d67_50 : decode (mB 67) 50 = .ok (.return_, 1) := by decide +kernel
theorem d78_0 : decode (mB 78) 0 = .ok (.iload_n 1, 1) := by decide +kernel
theorem d78_1 : decode (mB 78) 1 = .ok (.ifCond .lt 11, 3) := by decide +kernel
theorem d78_4 : decode (mB 78) 4 = .ok (.iload_n 1, 1) := by decide +kernel
theorem d78_5 : decode (mB 78) 5 = .ok (.aload_n 0, 1) := by decide +kernel
theorem d78_6 : decode (mB 78) 6 = .ok (.getfield 22, 3) := by decide +kernel
theorem d78_9 : decode (mB 78) 9 = .ok (.if_icmp .lt 4, 3) := by decide +kernel
theorem d78_12 : decode (mB 78) 12 = .ok (.return_, 1) := by decide +kernel
theorem d78_13 : decode (mB 78) 13 = .ok (.iload_n 1, 1) := by decide +kernel
theorem d78_14 : decode (mB 78) 14 = .ok (.iconst 1, 1) := by decide +kernel
theorem d78_15 : decode (mB 78) 15 = .ok (.iadd, 1) := by decide +kernel
theorem d78_16 : decode (mB 78) 16 = .ok (.istore_n 2, 1) := by decide +kernel
theorem d78_17 : decode (mB 78) 17 = .ok (.iload_n 2, 1) := by decide +kernel
theorem d78_18 : decode (mB 78) 18 = .ok (.aload_n 0, 1) := by decide +kernel
theorem d78_19 : decode (mB 78) 19 = .ok (.getfield 22, 3) := by decide +kernel
theorem d78_22 : decode (mB 78) 22 = .ok (.if_icmp .ge 51, 3) := by decide +kernel
theorem d78_25 : decode (mB 78) 25 = .ok (.aload_n 0, 1) := by decide +kernel
theorem d78_26 : decode (mB 78) 26 = .ok (.getfield 9, 3) := by decide +kernel
theorem d78_29 : decode (mB 78) 29 = .ok (.iload_n 2, 1) := by decide +kernel
theorem d78_30 : decode (mB 78) 30 = .ok (.iconst 1, 1) := by decide +kernel
theorem d78_31 : decode (mB 78) 31 = .ok (.isub, 1) := by decide +kernel
theorem d78_32 : decode (mB 78) 32 = .ok (.aload_n 0, 1) := by decide +kernel
theorem d78_33 : decode (mB 78) 33 = .ok (.getfield 9, 3) := by decide +kernel
theorem d78_36 : decode (mB 78) 36 = .ok (.iload_n 2, 1) := by decide +kernel
theorem d78_37 : decode (mB 78) 37 = .ok (.iaload, 1) := by decide +kernel
theorem d78_38 : decode (mB 78) 38 = .ok (.iastore, 1) := by decide +kernel
theorem d78_39 : decode (mB 78) 39 = .ok (.aload_n 0, 1) := by decide +kernel
theorem d78_40 : decode (mB 78) 40 = .ok (.getfield 15, 3) := by decide +kernel
theorem d78_43 : decode (mB 78) 43 = .ok (.iload_n 2, 1) := by decide +kernel
theorem d78_44 : decode (mB 78) 44 = .ok (.iconst 1, 1) := by decide +kernel
theorem d78_45 : decode (mB 78) 45 = .ok (.isub, 1) := by decide +kernel
theorem d78_46 : decode (mB 78) 46 = .ok (.aload_n 0, 1) := by decide +kernel
theorem d78_47 : decode (mB 78) 47 = .ok (.getfield 15, 3) := by decide +kernel
theorem d78_50 : decode (mB 78) 50 = .ok (.iload_n 2, 1) := by decide +kernel
theorem d78_51 : decode (mB 78) 51 = .ok (.iaload, 1) := by decide +kernel
theorem d78_52 : decode (mB 78) 52 = .ok (.iastore, 1) := by decide +kernel
theorem d78_53 : decode (mB 78) 53 = .ok (.aload_n 0, 1) := by decide +kernel
theorem d78_54 : decode (mB 78) 54 = .ok (.getfield 18, 3) := by decide +kernel
theorem d78_57 : decode (mB 78) 57 = .ok (.iload_n 2, 1) := by decide +kernel
theorem d78_58 : decode (mB 78) 58 = .ok (.iconst 1, 1) := by decide +kernel
theorem d78_59 : decode (mB 78) 59 = .ok (.isub, 1) := by decide +kernel
theorem d78_60 : decode (mB 78) 60 = .ok (.aload_n 0, 1) := by decide +kernel
theorem d78_61 : decode (mB 78) 61 = .ok (.getfield 18, 3) := by decide +kernel
theorem d78_64 : decode (mB 78) 64 = .ok (.iload_n 2, 1) := by decide +kernel
theorem d78_65 : decode (mB 78) 65 = .ok (.laload, 1) := by decide +kernel
theorem d78_66 : decode (mB 78) 66 = .ok (.lastore, 1) := by decide +kernel
theorem d78_67 : decode (mB 78) 67 = .ok (.iinc 2 1, 3) := by decide +kernel
theorem d78_70 : decode (mB 78) 70 = .ok (.goto (-53), 3) := by decide +kernel
theorem d78_73 : decode (mB 78) 73 = .ok (.aload_n 0, 1) := by decide +kernel
theorem d78_74 : decode (mB 78) 74 = .ok (.dup, 1) := by decide +kernel
theorem d78_75 : decode (mB 78) 75 = .ok (.getfield 22, 3) := by decide +kernel
theorem d78_78 : decode (mB 78) 78 = .ok (.iconst 1, 1) := by decide +kernel
theorem d78_79 : decode (mB 78) 79 = .ok (.isub, 1) := by decide +kernel
theorem d78_80 : decode (mB 78) 80 = .ok (.putfield 22, 3) := by decide +kernel
theorem d78_83 : decode (mB 78) 83 = .ok (.return_, 1) := by decide +kernel
theorem d98_0 : decode (mB 98) 0 = .ok (.iconst 0, 1) := by decide +kernel
theorem d98_1 : decode (mB 98) 1 = .ok (.istore_n 2, 1) := by decide +kernel
theorem d98_2 : decode (mB 98) 2 = .ok (.iconst 0, 1) := by decide +kernel
theorem d98_3 : decode (mB 98) 3 = .ok (.istore_n 3, 1) := by decide +kernel
theorem d98_4 : decode (mB 98) 4 = .ok (.iload_n 3, 1) := by decide +kernel
theorem d98_5 : decode (mB 98) 5 = .ok (.aload_n 0, 1) := by decide +kernel
theorem d98_6 : decode (mB 98) 6 = .ok (.getfield 22, 3) := by decide +kernel
theorem d98_9 : decode (mB 98) 9 = .ok (.if_icmp .ge 22, 3) := by decide +kernel
theorem d98_12 : decode (mB 98) 12 = .ok (.aload_n 0, 1) := by decide +kernel
theorem d98_13 : decode (mB 98) 13 = .ok (.getfield 9, 3) := by decide +kernel
theorem d98_16 : decode (mB 98) 16 = .ok (.iload_n 3, 1) := by decide +kernel
theorem d98_17 : decode (mB 98) 17 = .ok (.iaload, 1) := by decide +kernel
theorem d98_18 : decode (mB 98) 18 = .ok (.iload_n 1, 1) := by decide +kernel
theorem d98_19 : decode (mB 98) 19 = .ok (.if_icmp .ne 6, 3) := by decide +kernel
theorem d98_22 : decode (mB 98) 22 = .ok (.iinc 2 1, 3) := by decide +kernel
theorem d98_25 : decode (mB 98) 25 = .ok (.iinc 3 1, 3) := by decide +kernel
theorem d98_28 : decode (mB 98) 28 = .ok (.goto (-24), 3) := by decide +kernel
theorem d98_31 : decode (mB 98) 31 = .ok (.iload_n 2, 1) := by decide +kernel
theorem d98_32 : decode (mB 98) 32 = .ok (.ireturn, 1) := by decide +kernel
theorem d82_0 : decode (mB 82) 0 = .ok (.iconst 0, 1) := by decide +kernel
theorem d82_1 : decode (mB 82) 1 = .ok (.istore_n 2, 1) := by decide +kernel
theorem d82_2 : decode (mB 82) 2 = .ok (.iload_n 2, 1) := by decide +kernel
theorem d82_3 : decode (mB 82) 3 = .ok (.aload_n 0, 1) := by decide +kernel
theorem d82_4 : decode (mB 82) 4 = .ok (.getfield 22, 3) := by decide +kernel
theorem d82_7 : decode (mB 82) 7 = .ok (.if_icmp .ge 21, 3) := by decide +kernel
theorem d82_10 : decode (mB 82) 10 = .ok (.aload_n 0, 1) := by decide +kernel
theorem d82_11 : decode (mB 82) 11 = .ok (.getfield 9, 3) := by decide +kernel
theorem d82_14 : decode (mB 82) 14 = .ok (.iload_n 2, 1) := by decide +kernel
theorem d82_15 : decode (mB 82) 15 = .ok (.iaload, 1) := by decide +kernel
theorem d82_16 : decode (mB 82) 16 = .ok (.iload_n 1, 1) := by decide +kernel
theorem d82_17 : decode (mB 82) 17 = .ok (.if_icmp .ne 5, 3) := by decide +kernel
theorem d82_20 : decode (mB 82) 20 = .ok (.iload_n 2, 1) := by decide +kernel
theorem d82_21 : decode (mB 82) 21 = .ok (.ireturn, 1) := by decide +kernel
theorem d82_22 : decode (mB 82) 22 = .ok (.iinc 2 1, 3) := by decide +kernel
theorem d82_25 : decode (mB 82) 25 = .ok (.goto (-23), 3) := by decide +kernel
theorem d82_28 : decode (mB 82) 28 = .ok (.iconst (-1), 1) := by decide +kernel
theorem d82_29 : decode (mB 82) 29 = .ok (.ireturn, 1) := by decide +kernel
theorem d77_0 : decode (mB 77) 0 = .ok (.iconst 0, 1) := by decide +kernel
theorem d77_1 : decode (mB 77) 1 = .ok (.istore_n 2, 1) := by decide +kernel
theorem d77_2 : decode (mB 77) 2 = .ok (.iload_n 2, 1) := by decide +kernel
theorem d77_3 : decode (mB 77) 3 = .ok (.aload_n 0, 1) := by decide +kernel
theorem d77_4 : decode (mB 77) 4 = .ok (.getfield 22, 3) := by decide +kernel
theorem d77_7 : decode (mB 77) 7 = .ok (.if_icmp .ge 21, 3) := by decide +kernel
theorem d77_10 : decode (mB 77) 10 = .ok (.aload_n 0, 1) := by decide +kernel
theorem d77_11 : decode (mB 77) 11 = .ok (.getfield 15, 3) := by decide +kernel
theorem d77_14 : decode (mB 77) 14 = .ok (.iload_n 2, 1) := by decide +kernel
theorem d77_15 : decode (mB 77) 15 = .ok (.iaload, 1) := by decide +kernel
theorem d77_16 : decode (mB 77) 16 = .ok (.iload_n 1, 1) := by decide +kernel
theorem d77_17 : decode (mB 77) 17 = .ok (.if_icmp .ne 5, 3) := by decide +kernel
theorem d77_20 : decode (mB 77) 20 = .ok (.iload_n 2, 1) := by decide +kernel
theorem d77_21 : decode (mB 77) 21 = .ok (.ireturn, 1) := by decide +kernel
theorem d77_22 : decode (mB 77) 22 = .ok (.iinc 2 1, 3) := by decide +kernel
theorem d77_25 : decode (mB 77) 25 = .ok (.goto (-23), 3) := by decide +kernel
theorem d77_28 : decode (mB 77) 28 = .ok (.iconst (-1), 1) := by decide +kernel
theorem d77_29 : decode (mB 77) 29 = .ok (.ireturn, 1) := by decide +kernel
theorem d114_0 : decode (mB 114) 0 = .ok (.aload_n 0, 1) := by decide +kernel
theorem d114_1 : decode (mB 114) 1 = .ok (.aload_n 1, 1) := by decide +kernel
theorem d114_2 : decode (mB 114) 2 = .ok (.getfield 22, 3) := by decide +kernel
theorem d114_5 : decode (mB 114) 5 = .ok (.putfield 22, 3) := by decide +kernel
theorem d114_8 : decode (mB 114) 8 = .ok (.iconst 0, 1) := by decide +kernel
theorem d114_9 : decode (mB 114) 9 = .ok (.istore_n 2, 1) := by decide +kernel
theorem d114_10 : decode (mB 114) 10 = .ok (.iload_n 2, 1) := by decide +kernel
theorem d114_11 : decode (mB 114) 11 = .ok (.aload_n 0, 1) := by decide +kernel
theorem d114_12 : decode (mB 114) 12 = .ok (.getfield 22, 3) := by decide +kernel
theorem d114_15 : decode (mB 114) 15 = .ok (.if_icmp .ge 45, 3) := by decide +kernel
theorem d114_18 : decode (mB 114) 18 = .ok (.aload_n 0, 1) := by decide +kernel
theorem d114_19 : decode (mB 114) 19 = .ok (.getfield 9, 3) := by decide +kernel
theorem d114_22 : decode (mB 114) 22 = .ok (.iload_n 2, 1) := by decide +kernel
theorem d114_23 : decode (mB 114) 23 = .ok (.aload_n 1, 1) := by decide +kernel
theorem d114_24 : decode (mB 114) 24 = .ok (.getfield 9, 3) := by decide +kernel
theorem d114_27 : decode (mB 114) 27 = .ok (.iload_n 2, 1) := by decide +kernel
theorem d114_28 : decode (mB 114) 28 = .ok (.iaload, 1) := by decide +kernel
theorem d114_29 : decode (mB 114) 29 = .ok (.iastore, 1) := by decide +kernel
theorem d114_30 : decode (mB 114) 30 = .ok (.aload_n 0, 1) := by decide +kernel
theorem d114_31 : decode (mB 114) 31 = .ok (.getfield 15, 3) := by decide +kernel
theorem d114_34 : decode (mB 114) 34 = .ok (.iload_n 2, 1) := by decide +kernel
theorem d114_35 : decode (mB 114) 35 = .ok (.aload_n 1, 1) := by decide +kernel
theorem d114_36 : decode (mB 114) 36 = .ok (.getfield 15, 3) := by decide +kernel
theorem d114_39 : decode (mB 114) 39 = .ok (.iload_n 2, 1) := by decide +kernel
theorem d114_40 : decode (mB 114) 40 = .ok (.iaload, 1) := by decide +kernel
theorem d114_41 : decode (mB 114) 41 = .ok (.iastore, 1) := by decide +kernel
theorem d114_42 : decode (mB 114) 42 = .ok (.aload_n 0, 1) := by decide +kernel
theorem d114_43 : decode (mB 114) 43 = .ok (.getfield 18, 3) := by decide +kernel
theorem d114_46 : decode (mB 114) 46 = .ok (.iload_n 2, 1) := by decide +kernel
theorem d114_47 : decode (mB 114) 47 = .ok (.aload_n 1, 1) := by decide +kernel
theorem d114_48 : decode (mB 114) 48 = .ok (.getfield 18, 3) := by decide +kernel
theorem d114_51 : decode (mB 114) 51 = .ok (.iload_n 2, 1) := by decide +kernel
theorem d114_52 : decode (mB 114) 52 = .ok (.laload, 1) := by decide +kernel
theorem d114_53 : decode (mB 114) 53 = .ok (.lastore, 1) := by decide +kernel
theorem d114_54 : decode (mB 114) 54 = .ok (.iinc 2 1, 3) := by decide +kernel
theorem d114_57 : decode (mB 114) 57 = .ok (.goto (-47), 3) := by decide +kernel
theorem d114_60 : decode (mB 114) 60 = .ok (.return_, 1) := by decide +kernel
theorem d3_0 : decode (mB 3) 0 = .ok (.aload_n 0, 1) := by decide +kernel
theorem d3_1 : decode (mB 3) 1 = .ok (.invokespecial 3, 3) := by decide +kernel
theorem d3_4 : decode (mB 3) 4 = .ok (.aload_n 0, 1) := by decide +kernel
theorem d3_5 : decode (mB 3) 5 = .ok (.sipush 801, 3) := by decide +kernel
theorem d3_8 : decode (mB 3) 8 = .ok (.newarray .int, 2) := by decide +kernel
theorem d3_10 : decode (mB 3) 10 = .ok (.putfield 9, 3) := by decide +kernel
theorem d3_13 : decode (mB 3) 13 = .ok (.aload_n 0, 1) := by decide +kernel
theorem d3_14 : decode (mB 3) 14 = .ok (.sipush 801, 3) := by decide +kernel
theorem d3_17 : decode (mB 3) 17 = .ok (.newarray .int, 2) := by decide +kernel
theorem d3_19 : decode (mB 3) 19 = .ok (.putfield 15, 3) := by decide +kernel
theorem d3_22 : decode (mB 3) 22 = .ok (.aload_n 0, 1) := by decide +kernel
theorem d3_23 : decode (mB 3) 23 = .ok (.sipush 801, 3) := by decide +kernel
theorem d3_26 : decode (mB 3) 26 = .ok (.newarray .int, 2) := by decide +kernel
theorem d3_28 : decode (mB 3) 28 = .ok (.putfield 18, 3) := by decide +kernel
theorem d3_31 : decode (mB 3) 31 = .ok (.return_, 1) := by decide +kernel
theorem d15_0 : decode (mB 15) 0 = .ok (.aload_n 0, 1) := by decide +kernel
theorem d15_1 : decode (mB 15) 1 = .ok (.iconst 0, 1) := by decide +kernel
theorem d15_2 : decode (mB 15) 2 = .ok (.putfield 21, 3) := by decide +kernel
theorem d15_5 : decode (mB 15) 5 = .ok (.iconst 0, 1) := by decide +kernel
theorem d15_6 : decode (mB 15) 6 = .ok (.istore_n 3, 1) := by decide +kernel
theorem d15_7 : decode (mB 15) 7 = .ok (.iload_n 3, 1) := by decide +kernel
theorem d15_8 : decode (mB 15) 8 = .ok (.iload_n 2, 1) := by decide +kernel
theorem d15_9 : decode (mB 15) 9 = .ok (.if_icmp .ge 135, 3) := by decide +kernel
theorem d15_12 : decode (mB 15) 12 = .ok (.iload_n 3, 1) := by decide +kernel
theorem d15_13 : decode (mB 15) 13 = .ok (.iconst 1, 1) := by decide +kernel
theorem d15_14 : decode (mB 15) 14 = .ok (.iadd, 1) := by decide +kernel
theorem d15_15 : decode (mB 15) 15 = .ok (.istore 4, 2) := by decide +kernel
theorem d15_17 : decode (mB 15) 17 = .ok (.aload_n 1, 1) := by decide +kernel
theorem d15_18 : decode (mB 15) 18 = .ok (.iload_n 3, 1) := by decide +kernel
theorem d15_19 : decode (mB 15) 19 = .ok (.iaload, 1) := by decide +kernel
theorem d15_20 : decode (mB 15) 20 = .ok (.istore 5, 2) := by decide +kernel
theorem d15_22 : decode (mB 15) 22 = .ok (.iload 5, 2) := by decide +kernel
theorem d15_24 : decode (mB 15) 24 = .ok (.invokestatic 25, 3) := by decide +kernel
theorem d15_27 : decode (mB 15) 27 = .ok (.ifCond .eq 36, 3) := by decide +kernel
theorem d15_30 : decode (mB 15) 30 = .ok (.iload 4, 2) := by decide +kernel
theorem d15_32 : decode (mB 15) 32 = .ok (.iload_n 2, 1) := by decide +kernel
theorem d15_33 : decode (mB 15) 33 = .ok (.if_icmp .ge 19, 3) := by decide +kernel
theorem d15_36 : decode (mB 15) 36 = .ok (.aload_n 1, 1) := by decide +kernel
theorem d15_37 : decode (mB 15) 37 = .ok (.iload 4, 2) := by decide +kernel
theorem d15_39 : decode (mB 15) 39 = .ok (.iaload, 1) := by decide +kernel
theorem d15_40 : decode (mB 15) 40 = .ok (.invokestatic 25, 3) := by decide +kernel
theorem d15_43 : decode (mB 15) 43 = .ok (.ifCond .eq 9, 3) := by decide +kernel
theorem d15_46 : decode (mB 15) 46 = .ok (.iinc 4 1, 3) := by decide +kernel
theorem d15_49 : decode (mB 15) 49 = .ok (.goto (-19), 3) := by decide +kernel
theorem d15_52 : decode (mB 15) 52 = .ok (.aload_n 0, 1) := by decide +kernel
theorem d15_53 : decode (mB 15) 53 = .ok (.aload_n 1, 1) := by decide +kernel
theorem d15_54 : decode (mB 15) 54 = .ok (.iload_n 3, 1) := by decide +kernel
theorem d15_55 : decode (mB 15) 55 = .ok (.iload 4, 2) := by decide +kernel
theorem d15_57 : decode (mB 15) 57 = .ok (.invokevirtual 29, 3) := by decide +kernel
theorem d15_60 : decode (mB 15) 60 = .ok (.goto 78, 3) := by decide +kernel
theorem d15_63 : decode (mB 15) 63 = .ok (.iload 5, 2) := by decide +kernel
theorem d15_65 : decode (mB 15) 65 = .ok (.invokestatic 33, 3) := by decide +kernel
theorem d15_68 : decode (mB 15) 68 = .ok (.ifCond .eq 36, 3) := by decide +kernel
theorem d15_71 : decode (mB 15) 71 = .ok (.iload 4, 2) := by decide +kernel
theorem d15_73 : decode (mB 15) 73 = .ok (.iload_n 2, 1) := by decide +kernel
theorem d15_74 : decode (mB 15) 74 = .ok (.if_icmp .ge 19, 3) := by decide +kernel
theorem d15_77 : decode (mB 15) 77 = .ok (.aload_n 1, 1) := by decide +kernel
theorem d15_78 : decode (mB 15) 78 = .ok (.iload 4, 2) := by decide +kernel
theorem d15_80 : decode (mB 15) 80 = .ok (.iaload, 1) := by decide +kernel
theorem d15_81 : decode (mB 15) 81 = .ok (.invokestatic 33, 3) := by decide +kernel
theorem d15_84 : decode (mB 15) 84 = .ok (.ifCond .eq 9, 3) := by decide +kernel
theorem d15_87 : decode (mB 15) 87 = .ok (.iinc 4 1, 3) := by decide +kernel
theorem d15_90 : decode (mB 15) 90 = .ok (.goto (-19), 3) := by decide +kernel
theorem d15_93 : decode (mB 15) 93 = .ok (.aload_n 0, 1) := by decide +kernel
theorem d15_94 : decode (mB 15) 94 = .ok (.aload_n 1, 1) := by decide +kernel
theorem d15_95 : decode (mB 15) 95 = .ok (.iload_n 3, 1) := by decide +kernel
theorem d15_96 : decode (mB 15) 96 = .ok (.iload 4, 2) := by decide +kernel
theorem d15_98 : decode (mB 15) 98 = .ok (.invokevirtual 36, 3) := by decide +kernel
theorem d15_101 : decode (mB 15) 101 = .ok (.goto 37, 3) := by decide +kernel
theorem d15_104 : decode (mB 15) 104 = .ok (.iload 5, 2) := by decide +kernel
theorem d15_106 : decode (mB 15) 106 = .ok (.bipush 32, 2) := by decide +kernel
theorem d15_108 : decode (mB 15) 108 = .ok (.if_icmp .eq 30, 3) := by decide +kernel
theorem d15_111 : decode (mB 15) 111 = .ok (.iload 5, 2) := by decide +kernel
theorem d15_113 : decode (mB 15) 113 = .ok (.bipush 10, 2) := by decide +kernel
theorem d15_115 : decode (mB 15) 115 = .ok (.if_icmp .eq 23, 3) := by decide +kernel
theorem d15_118 : decode (mB 15) 118 = .ok (.aload_n 0, 1) := by decide +kernel
theorem d15_119 : decode (mB 15) 119 = .ok (.iload 5, 2) := by decide +kernel
theorem d15_121 : decode (mB 15) 121 = .ok (.invokestatic 39, 3) := by decide +kernel
theorem d15_124 : decode (mB 15) 124 = .ok (.ifCond .eq 8, 3) := by decide +kernel
theorem d15_127 : decode (mB 15) 127 = .ok (.iload 5, 2) := by decide +kernel
theorem d15_129 : decode (mB 15) 129 = .ok (.goto 4, 3) := by decide +kernel
theorem d15_132 : decode (mB 15) 132 = .ok (.iconst 1, 1) := by decide +kernel
theorem d15_133 : decode (mB 15) 133 = .ok (.iconst 0, 1) := by decide +kernel
theorem d15_134 : decode (mB 15) 134 = .ok (.iload_n 3, 1) := by decide +kernel
theorem d15_135 : decode (mB 15) 135 = .ok (.invokevirtual 42, 3) := by decide +kernel
theorem d15_138 : decode (mB 15) 138 = .ok (.iload 4, 2) := by decide +kernel
theorem d15_140 : decode (mB 15) 140 = .ok (.istore_n 3, 1) := by decide +kernel
theorem d15_141 : decode (mB 15) 141 = .ok (.goto (-134), 3) := by decide +kernel
theorem d15_144 : decode (mB 15) 144 = .ok (.aload_n 0, 1) := by decide +kernel
theorem d15_145 : decode (mB 15) 145 = .ok (.iconst 0, 1) := by decide +kernel
theorem d15_146 : decode (mB 15) 146 = .ok (.iconst 0, 1) := by decide +kernel
theorem d15_147 : decode (mB 15) 147 = .ok (.iload_n 2, 1) := by decide +kernel
theorem d15_148 : decode (mB 15) 148 = .ok (.invokevirtual 42, 3) := by decide +kernel
theorem d15_151 : decode (mB 15) 151 = .ok (.return_, 1) := by decide +kernel
theorem d29_0 : decode (mB 29) 0 = .ok (.aload_n 0, 1) := by decide +kernel
theorem d29_1 : decode (mB 29) 1 = .ok (.getfield 9, 3) := by decide +kernel
theorem d29_4 : decode (mB 29) 4 = .ok (.aload_n 0, 1) := by decide +kernel
theorem d29_5 : decode (mB 29) 5 = .ok (.getfield 21, 3) := by decide +kernel
theorem d29_8 : decode (mB 29) 8 = .ok (.iload_n 1, 1) := by decide +kernel
theorem d29_9 : decode (mB 29) 9 = .ok (.iastore, 1) := by decide +kernel
theorem d29_10 : decode (mB 29) 10 = .ok (.aload_n 0, 1) := by decide +kernel
theorem d29_11 : decode (mB 29) 11 = .ok (.getfield 15, 3) := by decide +kernel
theorem d29_14 : decode (mB 29) 14 = .ok (.aload_n 0, 1) := by decide +kernel
theorem d29_15 : decode (mB 29) 15 = .ok (.getfield 21, 3) := by decide +kernel
theorem d29_18 : decode (mB 29) 18 = .ok (.iload_n 2, 1) := by decide +kernel
theorem d29_19 : decode (mB 29) 19 = .ok (.iastore, 1) := by decide +kernel
theorem d29_20 : decode (mB 29) 20 = .ok (.aload_n 0, 1) := by decide +kernel
theorem d29_21 : decode (mB 29) 21 = .ok (.getfield 18, 3) := by decide +kernel
theorem d29_24 : decode (mB 29) 24 = .ok (.aload_n 0, 1) := by decide +kernel
theorem d29_25 : decode (mB 29) 25 = .ok (.getfield 21, 3) := by decide +kernel
theorem d29_28 : decode (mB 29) 28 = .ok (.iload_n 3, 1) := by decide +kernel
theorem d29_29 : decode (mB 29) 29 = .ok (.iastore, 1) := by decide +kernel
theorem d29_30 : decode (mB 29) 30 = .ok (.aload_n 0, 1) := by decide +kernel
theorem d29_31 : decode (mB 29) 31 = .ok (.dup, 1) := by decide +kernel
theorem d29_32 : decode (mB 29) 32 = .ok (.getfield 21, 3) := by decide +kernel
theorem d29_35 : decode (mB 29) 35 = .ok (.iconst 1, 1) := by decide +kernel
theorem d29_36 : decode (mB 29) 36 = .ok (.iadd, 1) := by decide +kernel
theorem d29_37 : decode (mB 29) 37 = .ok (.putfield 21, 3) := by decide +kernel
theorem d29_40 : decode (mB 29) 40 = .ok (.return_, 1) := by decide +kernel
theorem d17_0 : decode (mB 17) 0 = .ok (.aload_n 1, 1) := by decide +kernel
theorem d17_1 : decode (mB 17) 1 = .ok (.iload_n 2, 1) := by decide +kernel
theorem d17_2 : decode (mB 17) 2 = .ok (.iaload, 1) := by decide +kernel
theorem d17_3 : decode (mB 17) 3 = .ok (.istore 4, 2) := by decide +kernel
theorem d17_5 : decode (mB 17) 5 = .ok (.iload_n 3, 1) := by decide +kernel
theorem d17_6 : decode (mB 17) 6 = .ok (.iload_n 2, 1) := by decide +kernel
theorem d17_7 : decode (mB 17) 7 = .ok (.isub, 1) := by decide +kernel
theorem d17_8 : decode (mB 17) 8 = .ok (.iconst 1, 1) := by decide +kernel
theorem d17_9 : decode (mB 17) 9 = .ok (.if_icmp .le 18, 3) := by decide +kernel
theorem d17_12 : decode (mB 17) 12 = .ok (.aload_n 0, 1) := by decide +kernel
theorem d17_13 : decode (mB 17) 13 = .ok (.aload_n 1, 1) := by decide +kernel
theorem d17_14 : decode (mB 17) 14 = .ok (.iload_n 2, 1) := by decide +kernel
theorem d17_15 : decode (mB 17) 15 = .ok (.iload_n 3, 1) := by decide +kernel
theorem d17_16 : decode (mB 17) 16 = .ok (.invokestatic 46, 3) := by decide +kernel
theorem d17_19 : decode (mB 17) 19 = .ok (.iconst 0, 1) := by decide +kernel
theorem d17_20 : decode (mB 17) 20 = .ok (.iload_n 2, 1) := by decide +kernel
theorem d17_21 : decode (mB 17) 21 = .ok (.invokevirtual 42, 3) := by decide +kernel
theorem d17_24 : decode (mB 17) 24 = .ok (.goto 52, 3) := by decide +kernel
theorem d17_27 : decode (mB 17) 27 = .ok (.iload 4, 2) := by decide +kernel
theorem d17_29 : decode (mB 17) 29 = .ok (.bipush 104, 2) := by decide +kernel
theorem d17_31 : decode (mB 17) 31 = .ok (.if_icmp .gt 17, 3) := by decide +kernel
theorem d17_34 : decode (mB 17) 34 = .ok (.aload_n 0, 1) := by decide +kernel
theorem d17_35 : decode (mB 17) 35 = .ok (.iconst 3, 1) := by decide +kernel
theorem d17_36 : decode (mB 17) 36 = .ok (.iload 4, 2) := by decide +kernel
theorem d17_38 : decode (mB 17) 38 = .ok (.bipush 97, 2) := by decide +kernel
theorem d17_40 : decode (mB 17) 40 = .ok (.isub, 1) := by decide +kernel
theorem d17_41 : decode (mB 17) 41 = .ok (.iload_n 2, 1) := by decide +kernel
theorem d17_42 : decode (mB 17) 42 = .ok (.invokevirtual 42, 3) := by decide +kernel
theorem d17_45 : decode (mB 17) 45 = .ok (.goto 31, 3) := by decide +kernel
theorem d17_48 : decode (mB 17) 48 = .ok (.iload 4, 2) := by decide +kernel
theorem d17_50 : decode (mB 17) 50 = .ok (.bipush 113, 2) := by decide +kernel
theorem d17_52 : decode (mB 17) 52 = .ok (.if_icmp .lt 17, 3) := by decide +kernel
theorem d17_55 : decode (mB 17) 55 = .ok (.aload_n 0, 1) := by decide +kernel
theorem d17_56 : decode (mB 17) 56 = .ok (.iconst 2, 1) := by decide +kernel
theorem d17_57 : decode (mB 17) 57 = .ok (.iload 4, 2) := by decide +kernel
theorem d17_59 : decode (mB 17) 59 = .ok (.bipush 113, 2) := by decide +kernel
theorem d17_61 : decode (mB 17) 61 = .ok (.isub, 1) := by decide +kernel
theorem d17_62 : decode (mB 17) 62 = .ok (.iload_n 2, 1) := by decide +kernel
theorem d17_63 : decode (mB 17) 63 = .ok (.invokevirtual 42, 3) := by decide +kernel
theorem d17_66 : decode (mB 17) 66 = .ok (.goto 10, 3) := by decide +kernel
theorem d17_69 : decode (mB 17) 69 = .ok (.aload_n 0, 1) := by decide +kernel
theorem d17_70 : decode (mB 17) 70 = .ok (.iconst 1, 1) := by decide +kernel
theorem d17_71 : decode (mB 17) 71 = .ok (.iconst 0, 1) := by decide +kernel
theorem d17_72 : decode (mB 17) 72 = .ok (.iload_n 2, 1) := by decide +kernel
theorem d17_73 : decode (mB 17) 73 = .ok (.invokevirtual 42, 3) := by decide +kernel
theorem d17_76 : decode (mB 17) 76 = .ok (.return_, 1) := by decide +kernel
theorem d31_0 : decode (mB 31) 0 = .ok (.iload_n 3, 1) := by decide +kernel
theorem d31_1 : decode (mB 31) 1 = .ok (.iload_n 2, 1) := by decide +kernel
theorem d31_2 : decode (mB 31) 2 = .ok (.isub, 1) := by decide +kernel
theorem d31_3 : decode (mB 31) 3 = .ok (.bipush 9, 2) := by decide +kernel
theorem d31_5 : decode (mB 31) 5 = .ok (.if_icmp .le 11, 3) := by decide +kernel
theorem d31_8 : decode (mB 31) 8 = .ok (.aload_n 0, 1) := by decide +kernel
theorem d31_9 : decode (mB 31) 9 = .ok (.iconst 1, 1) := by decide +kernel
theorem d31_10 : decode (mB 31) 10 = .ok (.iconst 0, 1) := by decide +kernel
theorem d31_11 : decode (mB 31) 11 = .ok (.iload_n 2, 1) := by decide +kernel
theorem d31_12 : decode (mB 31) 12 = .ok (.invokevirtual 42, 3) := by decide +kernel
theorem d31_15 : decode (mB 31) 15 = .ok (.return_, 1) := by decide +kernel
theorem d31_16 : decode (mB 31) 16 = .ok (.iconst 0, 1) := by decide +kernel
theorem d31_17 : decode (mB 31) 17 = .ok (.istore 4, 2) := by decide +kernel
theorem d31_19 : decode (mB 31) 19 = .ok (.iload_n 2, 1) := by decide +kernel
theorem d31_20 : decode (mB 31) 20 = .ok (.istore 5, 2) := by decide +kernel
theorem d31_22 : decode (mB 31) 22 = .ok (.iload 5, 2) := by decide +kernel
theorem d31_24 : decode (mB 31) 24 = .ok (.iload_n 3, 1) := by decide +kernel
theorem d31_25 : decode (mB 31) 25 = .ok (.if_icmp .ge 24, 3) := by decide +kernel
theorem d31_28 : decode (mB 31) 28 = .ok (.bipush 10, 2) := by decide +kernel
theorem d31_30 : decode (mB 31) 30 = .ok (.iload 4, 2) := by decide +kernel
theorem d31_32 : decode (mB 31) 32 = .ok (.imul, 1) := by decide +kernel
theorem d31_33 : decode (mB 31) 33 = .ok (.aload_n 1, 1) := by decide +kernel
theorem d31_34 : decode (mB 31) 34 = .ok (.iload 5, 2) := by decide +kernel
theorem d31_36 : decode (mB 31) 36 = .ok (.iaload, 1) := by decide +kernel
theorem d31_37 : decode (mB 31) 37 = .ok (.iadd, 1) := by decide +kernel
theorem d31_38 : decode (mB 31) 38 = .ok (.bipush 48, 2) := by decide +kernel
theorem d31_40 : decode (mB 31) 40 = .ok (.isub, 1) := by decide +kernel
theorem d31_41 : decode (mB 31) 41 = .ok (.istore 4, 2) := by decide +kernel
theorem d31_43 : decode (mB 31) 43 = .ok (.iinc 5 1, 3) := by decide +kernel
theorem d31_46 : decode (mB 31) 46 = .ok (.goto (-24), 3) := by decide +kernel
theorem d31_49 : decode (mB 31) 49 = .ok (.aload_n 0, 1) := by decide +kernel
theorem d31_50 : decode (mB 31) 50 = .ok (.iconst 4, 1) := by decide +kernel
theorem d31_51 : decode (mB 31) 51 = .ok (.iload 4, 2) := by decide +kernel
theorem d31_53 : decode (mB 31) 53 = .ok (.iload_n 2, 1) := by decide +kernel
theorem d31_54 : decode (mB 31) 54 = .ok (.invokevirtual 42, 3) := by decide +kernel
theorem d31_57 : decode (mB 31) 57 = .ok (.return_, 1) := by decide +kernel
theorem d18_0 : decode (mB 18) 0 = .ok (.iload_n 2, 1) := by decide +kernel
theorem d18_1 : decode (mB 18) 1 = .ok (.iload_n 1, 1) := by decide +kernel
theorem d18_2 : decode (mB 18) 2 = .ok (.isub, 1) := by decide +kernel
theorem d18_3 : decode (mB 18) 3 = .ok (.bipush 6, 2) := by decide +kernel
theorem d18_5 : decode (mB 18) 5 = .ok (.if_icmp .le 5, 3) := by decide +kernel
theorem d18_8 : decode (mB 18) 8 = .ok (.iconst 1, 1) := by decide +kernel
theorem d18_9 : decode (mB 18) 9 = .ok (.ireturn, 1) := by decide +kernel
theorem d18_10 : decode (mB 18) 10 = .ok (.iconst 0, 1) := by decide +kernel
theorem d18_11 : decode (mB 18) 11 = .ok (.istore_n 3, 1) := by decide +kernel
theorem d18_12 : decode (mB 18) 12 = .ok (.iload_n 3, 1) := by decide +kernel
theorem d18_13 : decode (mB 18) 13 = .ok (.bipush 19, 2) := by decide +kernel
theorem d18_15 : decode (mB 18) 15 = .ok (.if_icmp .ge 26, 3) := by decide +kernel
theorem d18_18 : decode (mB 18) 18 = .ok (.iload_n 3, 1) := by decide +kernel
theorem d18_19 : decode (mB 18) 19 = .ok (.bipush 6, 2) := by decide +kernel
theorem d18_21 : decode (mB 18) 21 = .ok (.imul, 1) := by decide +kernel
theorem d18_22 : decode (mB 18) 22 = .ok (.aload_n 0, 1) := by decide +kernel
theorem d18_23 : decode (mB 18) 23 = .ok (.iload_n 1, 1) := by decide +kernel
theorem d18_24 : decode (mB 18) 24 = .ok (.iload_n 2, 1) := by decide +kernel
theorem d18_25 : decode (mB 18) 25 = .ok (.invokestatic 50, 3) := by decide +kernel
theorem d18_28 : decode (mB 18) 28 = .ok (.ifCond .eq 7, 3) := by decide +kernel
theorem d18_31 : decode (mB 18) 31 = .ok (.iconst 5, 1) := by decide +kernel
theorem d18_32 : decode (mB 18) 32 = .ok (.iload_n 3, 1) := by decide +kernel
theorem d18_33 : decode (mB 18) 33 = .ok (.iadd, 1) := by decide +kernel
theorem d18_34 : decode (mB 18) 34 = .ok (.ireturn, 1) := by decide +kernel
theorem d18_35 : decode (mB 18) 35 = .ok (.iinc 3 1, 3) := by decide +kernel
theorem d18_38 : decode (mB 18) 38 = .ok (.goto (-26), 3) := by decide +kernel
theorem d18_41 : decode (mB 18) 41 = .ok (.iconst 1, 1) := by decide +kernel
theorem d18_42 : decode (mB 18) 42 = .ok (.ireturn, 1) := by decide +kernel
theorem d19_0 : decode (mB 19) 0 = .ok (.iconst 0, 1) := by decide +kernel
theorem d19_1 : decode (mB 19) 1 = .ok (.istore 4, 2) := by decide +kernel
theorem d19_3 : decode (mB 19) 3 = .ok (.iload 4, 2) := by decide +kernel
theorem d19_5 : decode (mB 19) 5 = .ok (.bipush 6, 2) := by decide +kernel
theorem d19_7 : decode (mB 19) 7 = .ok (.if_icmp .ge 46, 3) := by decide +kernel
theorem d19_10 : decode (mB 19) 10 = .ok (.iload_n 2, 1) := by decide +kernel
theorem d19_11 : decode (mB 19) 11 = .ok (.iload 4, 2) := by decide +kernel
theorem d19_13 : decode (mB 19) 13 = .ok (.iadd, 1) := by decide +kernel
theorem d19_14 : decode (mB 19) 14 = .ok (.iload_n 3, 1) := by decide +kernel
theorem d19_15 : decode (mB 19) 15 = .ok (.if_icmp .ge 12, 3) := by decide +kernel
theorem d19_18 : decode (mB 19) 18 = .ok (.aload_n 1, 1) := by decide +kernel
theorem d19_19 : decode (mB 19) 19 = .ok (.iload_n 2, 1) := by decide +kernel
theorem d19_20 : decode (mB 19) 20 = .ok (.iload 4, 2) := by decide +kernel
theorem d19_22 : decode (mB 19) 22 = .ok (.iadd, 1) := by decide +kernel
theorem d19_23 : decode (mB 19) 23 = .ok (.iaload, 1) := by decide +kernel
theorem d19_24 : decode (mB 19) 24 = .ok (.goto 5, 3) := by decide +kernel
theorem d19_27 : decode (mB 19) 27 = .ok (.bipush 32, 2) := by decide +kernel
theorem d19_29 : decode (mB 19) 29 = .ok (.istore 5, 2) := by decide +kernel
theorem d19_31 : decode (mB 19) 31 = .ok (.ldc 54, 2) := by decide +kernel
theorem d19_33 : decode (mB 19) 33 = .ok (.iload_n 0, 1) := by decide +kernel
theorem d19_34 : decode (mB 19) 34 = .ok (.iload 4, 2) := by decide +kernel
theorem d19_36 : decode (mB 19) 36 = .ok (.iadd, 1) := by decide +kernel
theorem d19_37 : decode (mB 19) 37 = .ok (.invokevirtual 56, 3) := by decide +kernel
theorem d19_40 : decode (mB 19) 40 = .ok (.iload 5, 2) := by decide +kernel
theorem d19_42 : decode (mB 19) 42 = .ok (.if_icmp .eq 5, 3) := by decide +kernel
theorem d19_45 : decode (mB 19) 45 = .ok (.iconst 0, 1) := by decide +kernel
theorem d19_46 : decode (mB 19) 46 = .ok (.ireturn, 1) := by decide +kernel
theorem d19_47 : decode (mB 19) 47 = .ok (.iinc 4 1, 3) := by decide +kernel
theorem d19_50 : decode (mB 19) 50 = .ok (.goto (-47), 3) := by decide +kernel
theorem d19_53 : decode (mB 19) 53 = .ok (.iconst 1, 1) := by decide +kernel
theorem d19_54 : decode (mB 19) 54 = .ok (.ireturn, 1) := by decide +kernel
theorem d16_0 : decode (mB 16) 0 = .ok (.iload_n 0, 1) := by decide +kernel
theorem d16_1 : decode (mB 16) 1 = .ok (.bipush 97, 2) := by decide +kernel
theorem d16_3 : decode (mB 16) 3 = .ok (.if_icmp .lt 13, 3) := by decide +kernel
theorem d16_6 : decode (mB 16) 6 = .ok (.iload_n 0, 1) := by decide +kernel
theorem d16_7 : decode (mB 16) 7 = .ok (.bipush 122, 2) := by decide +kernel
theorem d16_9 : decode (mB 16) 9 = .ok (.if_icmp .gt 7, 3) := by decide +kernel
theorem d16_12 : decode (mB 16) 12 = .ok (.iconst 1, 1) := by decide +kernel
theorem d16_13 : decode (mB 16) 13 = .ok (.goto 4, 3) := by decide +kernel
theorem d16_16 : decode (mB 16) 16 = .ok (.iconst 0, 1) := by decide +kernel
theorem d16_17 : decode (mB 16) 17 = .ok (.ireturn, 1) := by decide +kernel
theorem d30_0 : decode (mB 30) 0 = .ok (.iload_n 0, 1) := by decide +kernel
theorem d30_1 : decode (mB 30) 1 = .ok (.bipush 48, 2) := by decide +kernel
theorem d30_3 : decode (mB 30) 3 = .ok (.if_icmp .lt 13, 3) := by decide +kernel
theorem d30_6 : decode (mB 30) 6 = .ok (.iload_n 0, 1) := by decide +kernel
theorem d30_7 : decode (mB 30) 7 = .ok (.bipush 57, 2) := by decide +kernel
theorem d30_9 : decode (mB 30) 9 = .ok (.if_icmp .gt 7, 3) := by decide +kernel
theorem d30_12 : decode (mB 30) 12 = .ok (.iconst 1, 1) := by decide +kernel
theorem d30_13 : decode (mB 30) 13 = .ok (.goto 4, 3) := by decide +kernel
theorem d30_16 : decode (mB 30) 16 = .ok (.iconst 0, 1) := by decide +kernel
theorem d30_17 : decode (mB 30) 17 = .ok (.ireturn, 1) := by decide +kernel
theorem d32_0 : decode (mB 32) 0 = .ok (.iconst 0, 1) := by decide +kernel
theorem d32_1 : decode (mB 32) 1 = .ok (.istore_n 1, 1) := by decide +kernel
theorem d32_2 : decode (mB 32) 2 = .ok (.iload_n 1, 1) := by decide +kernel
theorem d32_3 : decode (mB 32) 3 = .ok (.ldc 62, 2) := by decide +kernel
theorem d32_5 : decode (mB 32) 5 = .ok (.invokevirtual 64, 3) := by decide +kernel
theorem d32_8 : decode (mB 32) 8 = .ok (.if_icmp .ge 21, 3) := by decide +kernel
theorem d32_11 : decode (mB 32) 11 = .ok (.ldc 62, 2) := by decide +kernel
theorem d32_13 : decode (mB 32) 13 = .ok (.iload_n 1, 1) := by decide +kernel
theorem d32_14 : decode (mB 32) 14 = .ok (.invokevirtual 56, 3) := by decide +kernel
theorem d32_17 : decode (mB 32) 17 = .ok (.iload_n 0, 1) := by decide +kernel
theorem d32_18 : decode (mB 32) 18 = .ok (.if_icmp .ne 5, 3) := by decide +kernel
theorem d32_21 : decode (mB 32) 21 = .ok (.iconst 1, 1) := by decide +kernel
theorem d32_22 : decode (mB 32) 22 = .ok (.ireturn, 1) := by decide +kernel
theorem d32_23 : decode (mB 32) 23 = .ok (.iinc 1 1, 3) := by decide +kernel
theorem d32_26 : decode (mB 32) 26 = .ok (.goto (-24), 3) := by decide +kernel
theorem d32_29 : decode (mB 32) 29 = .ok (.iconst 0, 1) := by decide +kernel
theorem d32_30 : decode (mB 32) 30 = .ok (.ireturn, 1) := by decide +kernel
theorem d5_0 : decode (mB 5) 0 = .ok (.aload_n 0, 1) := by decide +kernel
theorem d5_1 : decode (mB 5) 1 = .ok (.invokespecial 3, 3) := by decide +kernel
theorem d5_4 : decode (mB 5) 4 = .ok (.aload_n 0, 1) := by decide +kernel
theorem d5_5 : decode (mB 5) 5 = .ok (.bipush 8, 2) := by decide +kernel
theorem d5_7 : decode (mB 5) 7 = .ok (.newarray .boolean, 2) := by decide +kernel
theorem d5_9 : decode (mB 5) 9 = .ok (.putfield 9, 3) := by decide +kernel
theorem d5_12 : decode (mB 5) 12 = .ok (.aload_n 0, 1) := by decide +kernel
theorem d5_13 : decode (mB 5) 13 = .ok (.bipush 8, 2) := by decide +kernel
theorem d5_15 : decode (mB 5) 15 = .ok (.newarray .long, 2) := by decide +kernel
theorem d5_17 : decode (mB 5) 17 = .ok (.putfield 15, 3) := by decide +kernel
theorem d5_20 : decode (mB 5) 20 = .ok (.new 19, 3) := by decide +kernel
theorem d5_23 : decode (mB 5) 23 = .ok (.dup, 1) := by decide +kernel
theorem d5_24 : decode (mB 5) 24 = .ok (.sipush 400, 3) := by decide +kernel
theorem d5_27 : decode (mB 5) 27 = .ok (.invokespecial 21, 3) := by decide +kernel
theorem d5_30 : decode (mB 5) 30 = .ok (.astore_n 1, 1) := by decide +kernel
theorem d5_31 : decode (mB 5) 31 = .ok (.new 24, 3) := by decide +kernel
theorem d5_34 : decode (mB 5) 34 = .ok (.dup, 1) := by decide +kernel
theorem d5_35 : decode (mB 5) 35 = .ok (.invokespecial 26, 3) := by decide +kernel
theorem d5_38 : decode (mB 5) 38 = .ok (.astore_n 2, 1) := by decide +kernel
theorem d5_39 : decode (mB 5) 39 = .ok (.bipush 6, 2) := by decide +kernel
theorem d5_41 : decode (mB 5) 41 = .ok (.anewarray 27, 3) := by decide +kernel
theorem d5_44 : decode (mB 5) 44 = .ok (.astore_n 3, 1) := by decide +kernel
theorem d5_45 : decode (mB 5) 45 = .ok (.iconst 0, 1) := by decide +kernel
theorem d5_46 : decode (mB 5) 46 = .ok (.istore 4, 2) := by decide +kernel
theorem d5_48 : decode (mB 5) 48 = .ok (.iload 4, 2) := by decide +kernel
theorem d5_50 : decode (mB 5) 50 = .ok (.bipush 6, 2) := by decide +kernel
theorem d5_52 : decode (mB 5) 52 = .ok (.if_icmp .ge 24, 3) := by decide +kernel
theorem d5_55 : decode (mB 5) 55 = .ok (.aload_n 3, 1) := by decide +kernel
theorem d5_56 : decode (mB 5) 56 = .ok (.iload 4, 2) := by decide +kernel
theorem d5_58 : decode (mB 5) 58 = .ok (.new 27, 3) := by decide +kernel
theorem d5_61 : decode (mB 5) 61 = .ok (.dup, 1) := by decide +kernel
theorem d5_62 : decode (mB 5) 62 = .ok (.iload 4, 2) := by decide +kernel
theorem d5_64 : decode (mB 5) 64 = .ok (.aload_n 1, 1) := by decide +kernel
theorem d5_65 : decode (mB 5) 65 = .ok (.aload_n 2, 1) := by decide +kernel
theorem d5_66 : decode (mB 5) 66 = .ok (.invokespecial 29, 3) := by decide +kernel
theorem d5_69 : decode (mB 5) 69 = .ok (.aastore, 1) := by decide +kernel
theorem d5_70 : decode (mB 5) 70 = .ok (.iinc 4 1, 3) := by decide +kernel
theorem d5_73 : decode (mB 5) 73 = .ok (.goto (-25), 3) := by decide +kernel
theorem d5_76 : decode (mB 5) 76 = .ok (.aload_n 0, 1) := by decide +kernel
theorem d5_77 : decode (mB 5) 77 = .ok (.aload_n 1, 1) := by decide +kernel
theorem d5_78 : decode (mB 5) 78 = .ok (.putfield 32, 3) := by decide +kernel
theorem d5_81 : decode (mB 5) 81 = .ok (.aload_n 0, 1) := by decide +kernel
theorem d5_82 : decode (mB 5) 82 = .ok (.aload_n 3, 1) := by decide +kernel
theorem d5_83 : decode (mB 5) 83 = .ok (.putfield 36, 3) := by decide +kernel
theorem d5_86 : decode (mB 5) 86 = .ok (.aload_n 0, 1) := by decide +kernel
theorem d5_87 : decode (mB 5) 87 = .ok (.new 27, 3) := by decide +kernel
theorem d5_90 : decode (mB 5) 90 = .ok (.dup, 1) := by decide +kernel
theorem d5_91 : decode (mB 5) 91 = .ok (.iconst (-1), 1) := by decide +kernel
theorem d5_92 : decode (mB 5) 92 = .ok (.new 19, 3) := by decide +kernel
theorem d5_95 : decode (mB 5) 95 = .ok (.dup, 1) := by decide +kernel
theorem d5_96 : decode (mB 5) 96 = .ok (.iconst 0, 1) := by decide +kernel
theorem d5_97 : decode (mB 5) 97 = .ok (.invokespecial 21, 3) := by decide +kernel
theorem d5_100 : decode (mB 5) 100 = .ok (.aload_n 2, 1) := by decide +kernel
theorem d5_101 : decode (mB 5) 101 = .ok (.invokespecial 29, 3) := by decide +kernel
theorem d5_104 : decode (mB 5) 104 = .ok (.putfield 40, 3) := by decide +kernel
theorem d5_107 : decode (mB 5) 107 = .ok (.return_, 1) := by decide +kernel
theorem d122_0 : decode (mB 122) 0 = .ok (.aload_n 0, 1) := by decide +kernel
theorem d122_1 : decode (mB 122) 1 = .ok (.getfield 32, 3) := by decide +kernel
theorem d122_4 : decode (mB 122) 4 = .ok (.iconst 0, 1) := by decide +kernel
theorem d122_5 : decode (mB 122) 5 = .ok (.putfield 44, 3) := by decide +kernel
theorem d122_8 : decode (mB 122) 8 = .ok (.aload_n 0, 1) := by decide +kernel
theorem d122_9 : decode (mB 122) 9 = .ok (.getfield 32, 3) := by decide +kernel
theorem d122_12 : decode (mB 122) 12 = .ok (.iconst 0, 1) := by decide +kernel
theorem d122_13 : decode (mB 122) 13 = .ok (.putfield 48, 3) := by decide +kernel
theorem d122_16 : decode (mB 122) 16 = .ok (.iconst 0, 1) := by decide +kernel
theorem d122_17 : decode (mB 122) 17 = .ok (.istore_n 1, 1) := by decide +kernel
theorem d122_18 : decode (mB 122) 18 = .ok (.iload_n 1, 1) := by decide +kernel
theorem d122_19 : decode (mB 122) 19 = .ok (.bipush 6, 2) := by decide +kernel
theorem d122_21 : decode (mB 122) 21 = .ok (.if_icmp .ge 18, 3) := by decide +kernel
theorem d122_24 : decode (mB 122) 24 = .ok (.aload_n 0, 1) := by decide +kernel
theorem d122_25 : decode (mB 122) 25 = .ok (.getfield 36, 3) := by decide +kernel
theorem d122_28 : decode (mB 122) 28 = .ok (.iload_n 1, 1) := by decide +kernel
theorem d122_29 : decode (mB 122) 29 = .ok (.aaload, 1) := by decide +kernel
theorem d122_30 : decode (mB 122) 30 = .ok (.invokevirtual 51, 3) := by decide +kernel
theorem d122_33 : decode (mB 122) 33 = .ok (.iinc 1 1, 3) := by decide +kernel
theorem d122_36 : decode (mB 122) 36 = .ok (.goto (-18), 3) := by decide +kernel
theorem d122_39 : decode (mB 122) 39 = .ok (.iconst 0, 1) := by decide +kernel
theorem d122_40 : decode (mB 122) 40 = .ok (.istore_n 1, 1) := by decide +kernel
theorem d122_41 : decode (mB 122) 41 = .ok (.iload_n 1, 1) := by decide +kernel
theorem d122_42 : decode (mB 122) 42 = .ok (.bipush 8, 2) := by decide +kernel
theorem d122_44 : decode (mB 122) 44 = .ok (.if_icmp .ge 16, 3) := by decide +kernel
theorem d122_47 : decode (mB 122) 47 = .ok (.aload_n 0, 1) := by decide +kernel
theorem d122_48 : decode (mB 122) 48 = .ok (.getfield 9, 3) := by decide +kernel
theorem d122_51 : decode (mB 122) 51 = .ok (.iload_n 1, 1) := by decide +kernel
theorem d122_52 : decode (mB 122) 52 = .ok (.iconst 0, 1) := by decide +kernel
theorem d122_53 : decode (mB 122) 53 = .ok (.bastore, 1) := by decide +kernel
theorem d122_54 : decode (mB 122) 54 = .ok (.iinc 1 1, 3) := by decide +kernel
theorem d122_57 : decode (mB 122) 57 = .ok (.goto (-16), 3) := by decide +kernel
theorem d122_60 : decode (mB 122) 60 = .ok (.return_, 1) := by decide +kernel
theorem d65_0 : decode (mB 65) 0 = .ok (.aload_n 0, 1) := by decide +kernel
theorem d65_1 : decode (mB 65) 1 = .ok (.getfield 32, 3) := by decide +kernel
theorem d65_4 : decode (mB 65) 4 = .ok (.dup, 1) := by decide +kernel
theorem d65_5 : decode (mB 65) 5 = .ok (.getfield 44, 3) := by decide +kernel
theorem d65_8 : decode (mB 65) 8 = .ok (.iconst 1, 1) := by decide +kernel
theorem d65_9 : decode (mB 65) 9 = .ok (.iadd, 1) := by decide +kernel
theorem d65_10 : decode (mB 65) 10 = .ok (.putfield 44, 3) := by decide +kernel
theorem d65_13 : decode (mB 65) 13 = .ok (.iconst 0, 1) := by decide +kernel
theorem d65_14 : decode (mB 65) 14 = .ok (.istore_n 2, 1) := by decide +kernel
theorem d65_15 : decode (mB 65) 15 = .ok (.iload_n 2, 1) := by decide +kernel
theorem d65_16 : decode (mB 65) 16 = .ok (.bipush 6, 2) := by decide +kernel
theorem d65_18 : decode (mB 65) 18 = .ok (.if_icmp .ge 18, 3) := by decide +kernel
theorem d65_21 : decode (mB 65) 21 = .ok (.aload_n 0, 1) := by decide +kernel
theorem d65_22 : decode (mB 65) 22 = .ok (.getfield 36, 3) := by decide +kernel
theorem d65_25 : decode (mB 65) 25 = .ok (.iload_n 2, 1) := by decide +kernel
theorem d65_26 : decode (mB 65) 26 = .ok (.aaload, 1) := by decide +kernel
theorem d65_27 : decode (mB 65) 27 = .ok (.invokevirtual 54, 3) := by decide +kernel
theorem d65_30 : decode (mB 65) 30 = .ok (.iinc 2 1, 3) := by decide +kernel
theorem d65_33 : decode (mB 65) 33 = .ok (.goto (-18), 3) := by decide +kernel
theorem d65_36 : decode (mB 65) 36 = .ok (.aload_n 0, 1) := by decide +kernel
theorem d65_37 : decode (mB 65) 37 = .ok (.aload_n 1, 1) := by decide +kernel
theorem d65_38 : decode (mB 65) 38 = .ok (.invokevirtual 57, 3) := by decide +kernel
theorem d65_41 : decode (mB 65) 41 = .ok (.istore_n 2, 1) := by decide +kernel
theorem d65_42 : decode (mB 65) 42 = .ok (.iload_n 2, 1) := by decide +kernel
theorem d65_43 : decode (mB 65) 43 = .ok (.iconst 5, 1) := by decide +kernel
theorem d65_44 : decode (mB 65) 44 = .ok (.if_icmp .ne 8, 3) := by decide +kernel
theorem d65_47 : decode (mB 65) 47 = .ok (.aload_n 1, 1) := by decide +kernel
theorem d65_48 : decode (mB 65) 48 = .ok (.invokevirtual 61, 3) := by decide +kernel
theorem d65_51 : decode (mB 65) 51 = .ok (.istore_n 2, 1) := by decide +kernel
theorem d65_52 : decode (mB 65) 52 = .ok (.iload_n 2, 1) := by decide +kernel
theorem d65_53 : decode (mB 65) 53 = .ok (.iconst 4, 1) := by decide +kernel
theorem d65_54 : decode (mB 65) 54 = .ok (.if_icmp .eq 13, 3) := by decide +kernel
theorem d65_57 : decode (mB 65) 57 = .ok (.aload_n 1, 1) := by decide +kernel
theorem d65_58 : decode (mB 65) 58 = .ok (.dup, 1) := by decide +kernel
theorem d65_59 : decode (mB 65) 59 = .ok (.getfield 65, 3) := by decide +kernel
theorem d65_62 : decode (mB 65) 62 = .ok (.iconst 1, 1) := by decide +kernel
theorem d65_63 : decode (mB 65) 63 = .ok (.iadd, 1) := by decide +kernel
theorem d65_64 : decode (mB 65) 64 = .ok (.putfield 65, 3) := by decide +kernel
theorem d65_67 : decode (mB 65) 67 = .ok (.iload_n 2, 1) := by decide +kernel
theorem d65_68 : decode (mB 65) 68 = .ok (.ireturn, 1) := by decide +kernel
theorem d68_0 : decode (mB 68) 0 = .ok (.aload_n 1, 1) := by decide +kernel
theorem d68_1 : decode (mB 68) 1 = .ok (.invokevirtual 68, 3) := by decide +kernel
theorem d68_4 : decode (mB 68) 4 = .ok (.ifCond .eq 5, 3) := by decide +kernel
theorem d68_7 : decode (mB 68) 7 = .ok (.iconst 5, 1) := by decide +kernel
theorem d68_8 : decode (mB 68) 8 = .ok (.ireturn, 1) := by decide +kernel
theorem d68_9 : decode (mB 68) 9 = .ok (.aload_n 1, 1) := by decide +kernel
theorem d68_10 : decode (mB 68) 10 = .ok (.getfield 72, 3) := by decide +kernel
theorem d68_13 : decode (mB 68) 13 = .ok (.ifCond .ne 19, 3) := by decide +kernel
theorem d68_16 : decode (mB 68) 16 = .ok (.aload_n 1, 1) := by decide +kernel
theorem d68_17 : decode (mB 68) 17 = .ok (.getfield 75, 3) := by decide +kernel
theorem d68_20 : decode (mB 68) 20 = .ok (.getfield 79, 3) := by decide +kernel
theorem d68_23 : decode (mB 68) 23 = .ok (.ifCond .le 9, 3) := by decide +kernel
theorem d68_26 : decode (mB 68) 26 = .ok (.aload_n 0, 1) := by decide +kernel
theorem d68_27 : decode (mB 68) 27 = .ok (.aload_n 1, 1) := by decide +kernel
theorem d68_28 : decode (mB 68) 28 = .ok (.invokevirtual 82, 3) := by decide +kernel
theorem d68_31 : decode (mB 68) 31 = .ok (.ireturn, 1) := by decide +kernel
theorem d68_32 : decode (mB 68) 32 = .ok (.aload_n 1, 1) := by decide +kernel
theorem d68_33 : decode (mB 68) 33 = .ok (.invokevirtual 85, 3) := by decide +kernel
theorem d68_36 : decode (mB 68) 36 = .ok (.iconst (-1), 1) := by decide +kernel
theorem d68_37 : decode (mB 68) 37 = .ok (.if_icmp .ne 8, 3) := by decide +kernel
theorem d68_40 : decode (mB 68) 40 = .ok (.aload_n 1, 1) := by decide +kernel
theorem d68_41 : decode (mB 68) 41 = .ok (.invokevirtual 88, 3) := by decide +kernel
theorem d68_44 : decode (mB 68) 44 = .ok (.ireturn, 1) := by decide +kernel
theorem d68_45 : decode (mB 68) 45 = .ok (.aload_n 0, 1) := by decide +kernel
theorem d68_46 : decode (mB 68) 46 = .ok (.aload_n 1, 1) := by decide +kernel
theorem d68_47 : decode (mB 68) 47 = .ok (.aload_n 1, 1) := by decide +kernel
theorem d68_48 : decode (mB 68) 48 = .ok (.invokevirtual 85, 3) := by decide +kernel
theorem d68_51 : decode (mB 68) 51 = .ok (.invokevirtual 91, 3) := by decide +kernel
theorem d68_54 : decode (mB 68) 54 = .ok (.istore_n 2, 1) := by decide +kernel
theorem d68_55 : decode (mB 68) 55 = .ok (.iload_n 2, 1) := by decide +kernel
theorem d68_56 : decode (mB 68) 56 = .ok (.iconst 4, 1) := by decide +kernel
theorem d68_57 : decode (mB 68) 57 = .ok (.if_icmp .ne 27, 3) := by decide +kernel
theorem d68_60 : decode (mB 68) 60 = .ok (.aload_n 1, 1) := by decide +kernel
theorem d68_61 : decode (mB 68) 61 = .ok (.getfield 72, 3) := by decide +kernel
theorem d68_64 : decode (mB 68) 64 = .ok (.iconst 1, 1) := by decide +kernel
theorem d68_65 : decode (mB 68) 65 = .ok (.if_icmp .ne 19, 3) := by decide +kernel
theorem d68_68 : decode (mB 68) 68 = .ok (.aload_n 1, 1) := by decide +kernel
theorem d68_69 : decode (mB 68) 69 = .ok (.getfield 75, 3) := by decide +kernel
theorem d68_72 : decode (mB 68) 72 = .ok (.getfield 79, 3) := by decide +kernel
theorem d68_75 : decode (mB 68) 75 = .ok (.ifCond .le 9, 3) := by decide +kernel
theorem d68_78 : decode (mB 68) 78 = .ok (.aload_n 0, 1) := by decide +kernel
theorem d68_79 : decode (mB 68) 79 = .ok (.aload_n 1, 1) := by decide +kernel
theorem d68_80 : decode (mB 68) 80 = .ok (.invokevirtual 82, 3) := by decide +kernel
theorem d68_83 : decode (mB 68) 83 = .ok (.ireturn, 1) := by decide +kernel
theorem d68_84 : decode (mB 68) 84 = .ok (.iload_n 2, 1) := by decide +kernel
theorem d68_85 : decode (mB 68) 85 = .ok (.ireturn, 1) := by decide +kernel
theorem d80_0 : decode (mB 80) 0 = .ok (.aload_n 0, 1) := by decide +kernel
theorem d80_1 : decode (mB 80) 1 = .ok (.aload_n 1, 1) := by decide +kernel
theorem d80_2 : decode (mB 80) 2 = .ok (.invokevirtual 95, 3) := by decide +kernel
theorem d80_5 : decode (mB 80) 5 = .ok (.aload_n 1, 1) := by decide +kernel
theorem d80_6 : decode (mB 80) 6 = .ok (.getfield 75, 3) := by decide +kernel
theorem d80_9 : decode (mB 80) 9 = .ok (.astore_n 2, 1) := by decide +kernel
theorem d80_10 : decode (mB 80) 10 = .ok (.aload_n 1, 1) := by decide +kernel
theorem d80_11 : decode (mB 80) 11 = .ok (.aload_n 2, 1) := by decide +kernel
theorem d80_12 : decode (mB 80) 12 = .ok (.getfield 99, 3) := by decide +kernel
theorem d80_15 : decode (mB 80) 15 = .ok (.iconst 0, 1) := by decide +kernel
theorem d80_16 : decode (mB 80) 16 = .ok (.laload, 1) := by decide +kernel
theorem d80_17 : decode (mB 80) 17 = .ok (.putfield 102, 3) := by decide +kernel
theorem d80_20 : decode (mB 80) 20 = .ok (.aload_n 1, 1) := by decide +kernel
theorem d80_21 : decode (mB 80) 21 = .ok (.aload_n 2, 1) := by decide +kernel
theorem d80_22 : decode (mB 80) 22 = .ok (.getfield 106, 3) := by decide +kernel
theorem d80_25 : decode (mB 80) 25 = .ok (.iconst 0, 1) := by decide +kernel
theorem d80_26 : decode (mB 80) 26 = .ok (.iaload, 1) := by decide +kernel
theorem d80_27 : decode (mB 80) 27 = .ok (.putfield 110, 3) := by decide +kernel
theorem d80_30 : decode (mB 80) 30 = .ok (.aload_n 2, 1) := by decide +kernel
theorem d80_31 : decode (mB 80) 31 = .ok (.iconst 0, 1) := by decide +kernel
theorem d80_32 : decode (mB 80) 32 = .ok (.invokevirtual 113, 3) := by decide +kernel
theorem d80_35 : decode (mB 80) 35 = .ok (.aload_n 0, 1) := by decide +kernel
theorem d80_36 : decode (mB 80) 36 = .ok (.getfield 32, 3) := by decide +kernel
theorem d80_39 : decode (mB 80) 39 = .ok (.iconst 1, 1) := by decide +kernel
theorem d80_40 : decode (mB 80) 40 = .ok (.aload_n 1, 1) := by decide +kernel
theorem d80_41 : decode (mB 80) 41 = .ok (.getfield 116, 3) := by decide +kernel
theorem d80_44 : decode (mB 80) 44 = .ok (.aload_n 1, 1) := by decide +kernel
theorem d80_45 : decode (mB 80) 45 = .ok (.getfield 102, 3) := by decide +kernel
theorem d80_48 : decode (mB 80) 48 = .ok (.invokevirtual 119, 3) := by decide +kernel
theorem d80_51 : decode (mB 80) 51 = .ok (.iconst 5, 1) := by decide +kernel
theorem d80_52 : decode (mB 80) 52 = .ok (.ireturn, 1) := by decide +kernel
theorem d81_0 : decode (mB 81) 0 = .ok (.aload_n 1, 1) := by decide +kernel
theorem d81_1 : decode (mB 81) 1 = .ok (.getfield 123, 3) := by decide +kernel
theorem d81_4 : decode (mB 81) 4 = .ok (.iconst (-1), 1) := by decide +kernel
theorem d81_5 : decode (mB 81) 5 = .ok (.if_icmp .eq 33, 3) := by decide +kernel
theorem d81_8 : decode (mB 81) 8 = .ok (.aload_n 0, 1) := by decide +kernel
theorem d81_9 : decode (mB 81) 9 = .ok (.getfield 36, 3) := by decide +kernel
theorem d81_12 : decode (mB 81) 12 = .ok (.aload_n 1, 1) := by decide +kernel
theorem d81_13 : decode (mB 81) 13 = .ok (.getfield 123, 3) := by decide +kernel
theorem d81_16 : decode (mB 81) 16 = .ok (.aaload, 1) := by decide +kernel
theorem d81_17 : decode (mB 81) 17 = .ok (.getfield 75, 3) := by decide +kernel
theorem d81_20 : decode (mB 81) 20 = .ok (.astore_n 2, 1) := by decide +kernel
theorem d81_21 : decode (mB 81) 21 = .ok (.aload_n 2, 1) := by decide +kernel
theorem d81_22 : decode (mB 81) 22 = .ok (.aload_n 2, 1) := by decide +kernel
theorem d81_23 : decode (mB 81) 23 = .ok (.aload_n 1, 1) := by decide +kernel
theorem d81_24 : decode (mB 81) 24 = .ok (.getfield 116, 3) := by decide +kernel
theorem d81_27 : decode (mB 81) 27 = .ok (.invokevirtual 126, 3) := by decide +kernel
theorem d81_30 : decode (mB 81) 30 = .ok (.invokevirtual 113, 3) := by decide +kernel
theorem d81_33 : decode (mB 81) 33 = .ok (.aload_n 1, 1) := by decide +kernel
theorem d81_34 : decode (mB 81) 34 = .ok (.iconst (-1), 1) := by decide +kernel
theorem d81_35 : decode (mB 81) 35 = .ok (.putfield 123, 3) := by decide +kernel
theorem d81_38 : decode (mB 81) 38 = .ok (.return_, 1) := by decide +kernel
theorem d84_0 : decode (mB 84) 0 = .ok (.aload_n 1, 1) := by decide +kernel
theorem d84_1 : decode (mB 84) 1 = .ok (.getfield 130, 3) := by decide +kernel
theorem d84_4 : decode (mB 84) 4 = .ok (.astore_n 3, 1) := by decide +kernel
theorem d84_5 : decode (mB 84) 5 = .ok (.aload_n 3, 1) := by decide +kernel
theorem d84_6 : decode (mB 84) 6 = .ok (.getfield 134, 3) := by decide +kernel
theorem d84_9 : decode (mB 84) 9 = .ok (.iload_n 2, 1) := by decide +kernel
theorem d84_10 : decode (mB 84) 10 = .ok (.iaload, 1) := by decide +kernel
theorem d84_11 : decode (mB 84) 11 = .ok (.tableswitch 254 2 20 #[89, 254, 254, 114, 140, 254, 168, 199, 254, 206, 254, 213, 219, 226, 240, 247, 254, 254, 226], 89) := by decide +kernel
theorem d84_100 : decode (mB 84) 100 = .ok (.aload_n 1, 1) := by decide +kernel
theorem d84_101 : decode (mB 84) 101 = .ok (.getfield 137, 3) := by decide +kernel
theorem d84_104 : decode (mB 84) 104 = .ok (.aload_n 3, 1) := by decide +kernel
theorem d84_105 : decode (mB 84) 105 = .ok (.getfield 140, 3) := by decide +kernel
theorem d84_108 : decode (mB 84) 108 = .ok (.iload_n 2, 1) := by decide +kernel
theorem d84_109 : decode (mB 84) 109 = .ok (.iaload, 1) := by decide +kernel
theorem d84_110 : decode (mB 84) 110 = .ok (.aload_n 3, 1) := by decide +kernel
theorem d84_111 : decode (mB 84) 111 = .ok (.iload_n 2, 1) := by decide +kernel
theorem d84_112 : decode (mB 84) 112 = .ok (.aload_n 1, 1) := by decide +kernel
theorem d84_113 : decode (mB 84) 113 = .ok (.getfield 137, 3) := by decide +kernel
theorem d84_116 : decode (mB 84) 116 = .ok (.invokevirtual 143, 3) := by decide +kernel
theorem d84_119 : decode (mB 84) 119 = .ok (.lastore, 1) := by decide +kernel
theorem d84_120 : decode (mB 84) 120 = .ok (.aload_n 1, 1) := by decide +kernel
theorem d84_121 : decode (mB 84) 121 = .ok (.invokevirtual 147, 3) := by decide +kernel
theorem d84_124 : decode (mB 84) 124 = .ok (.ireturn, 1) := by decide +kernel
theorem d84_125 : decode (mB 84) 125 = .ok (.aload_n 0, 1) := by decide +kernel
theorem d84_126 : decode (mB 84) 126 = .ok (.getfield 32, 3) := by decide +kernel
theorem d84_129 : decode (mB 84) 129 = .ok (.iconst 0, 1) := by decide +kernel
theorem d84_130 : decode (mB 84) 130 = .ok (.aload_n 1, 1) := by decide +kernel
theorem d84_131 : decode (mB 84) 131 = .ok (.getfield 116, 3) := by decide +kernel
theorem d84_134 : decode (mB 84) 134 = .ok (.aload_n 3, 1) := by decide +kernel
theorem d84_135 : decode (mB 84) 135 = .ok (.iload_n 2, 1) := by decide +kernel
theorem d84_136 : decode (mB 84) 136 = .ok (.aload_n 1, 1) := by decide +kernel
theorem d84_137 : decode (mB 84) 137 = .ok (.getfield 137, 3) := by decide +kernel
theorem d84_140 : decode (mB 84) 140 = .ok (.invokevirtual 143, 3) := by decide +kernel
theorem d84_143 : decode (mB 84) 143 = .ok (.invokevirtual 119, 3) := by decide +kernel
theorem d84_146 : decode (mB 84) 146 = .ok (.aload_n 1, 1) := by decide +kernel
theorem d84_147 : decode (mB 84) 147 = .ok (.invokevirtual 147, 3) := by decide +kernel
theorem d84_150 : decode (mB 84) 150 = .ok (.ireturn, 1) := by decide +kernel
theorem d84_151 : decode (mB 84) 151 = .ok (.aload_n 1, 1) := by decide +kernel
theorem d84_152 : decode (mB 84) 152 = .ok (.aload_n 3, 1) := by decide +kernel
theorem d84_153 : decode (mB 84) 153 = .ok (.iload_n 2, 1) := by decide +kernel
theorem d84_154 : decode (mB 84) 154 = .ok (.aload_n 1, 1) := by decide +kernel
theorem d84_155 : decode (mB 84) 155 = .ok (.getfield 137, 3) := by decide +kernel
theorem d84_158 : decode (mB 84) 158 = .ok (.invokevirtual 143, 3) := by decide +kernel
theorem d84_161 : decode (mB 84) 161 = .ok (.lconst 0, 1) := by decide +kernel
theorem d84_162 : decode (mB 84) 162 = .ok (.lcmp, 1) := by decide +kernel
theorem d84_163 : decode (mB 84) 163 = .ok (.ifCond .eq 7, 3) := by decide +kernel
theorem d84_166 : decode (mB 84) 166 = .ok (.iconst 0, 1) := by decide +kernel
theorem d84_167 : decode (mB 84) 167 = .ok (.goto 4, 3) := by decide +kernel
theorem d84_170 : decode (mB 84) 170 = .ok (.iconst 1, 1) := by decide +kernel
theorem d84_171 : decode (mB 84) 171 = .ok (.aload_n 1, 1) := by decide +kernel
theorem d84_172 : decode (mB 84) 172 = .ok (.getfield 72, 3) := by decide +kernel
theorem d84_175 : decode (mB 84) 175 = .ok (.invokevirtual 150, 3) := by decide +kernel
theorem d84_178 : decode (mB 84) 178 = .ok (.ireturn, 1) := by decide +kernel
theorem d84_179 : decode (mB 84) 179 = .ok (.aload_n 3, 1) := by decide +kernel
theorem d84_180 : decode (mB 84) 180 = .ok (.iload_n 2, 1) := by decide +kernel
theorem d84_181 : decode (mB 84) 181 = .ok (.aload_n 1, 1) := by decide +kernel
theorem d84_182 : decode (mB 84) 182 = .ok (.getfield 137, 3) := by decide +kernel
theorem d84_185 : decode (mB 84) 185 = .ok (.invokevirtual 143, 3) := by decide +kernel
theorem d84_188 : decode (mB 84) 188 = .ok (.lconst 0, 1) := by decide +kernel
theorem d84_189 : decode (mB 84) 189 = .ok (.lcmp, 1) := by decide +kernel
theorem d84_190 : decode (mB 84) 190 = .ok (.ifCond .eq 15, 3) := by decide +kernel
theorem d84_193 : decode (mB 84) 193 = .ok (.aload_n 1, 1) := by decide +kernel
theorem d84_194 : decode (mB 84) 194 = .ok (.iconst 0, 1) := by decide +kernel
theorem d84_195 : decode (mB 84) 195 = .ok (.aload_n 1, 1) := by decide +kernel
theorem d84_196 : decode (mB 84) 196 = .ok (.getfield 72, 3) := by decide +kernel
theorem d84_199 : decode (mB 84) 199 = .ok (.invokevirtual 150, 3) := by decide +kernel
theorem d84_202 : decode (mB 84) 202 = .ok (.goto 7, 3) := by decide +kernel
theorem d84_205 : decode (mB 84) 205 = .ok (.aload_n 1, 1) := by decide +kernel
theorem d84_206 : decode (mB 84) 206 = .ok (.invokevirtual 147, 3) := by decide +kernel
theorem d84_209 : decode (mB 84) 209 = .ok (.ireturn, 1) := by decide +kernel
theorem d84_210 : decode (mB 84) 210 = .ok (.aload_n 0, 1) := by decide +kernel
theorem d84_211 : decode (mB 84) 211 = .ok (.aload_n 1, 1) := by decide +kernel
theorem d84_212 : decode (mB 84) 212 = .ok (.iload_n 2, 1) := by decide +kernel
theorem d84_213 : decode (mB 84) 213 = .ok (.invokevirtual 154, 3) := by decide +kernel
theorem d84_216 : decode (mB 84) 216 = .ok (.ireturn, 1) := by decide +kernel
theorem d84_217 : decode (mB 84) 217 = .ok (.aload_n 0, 1) := by decide +kernel
theorem d84_218 : decode (mB 84) 218 = .ok (.aload_n 1, 1) := by decide +kernel
theorem d84_219 : decode (mB 84) 219 = .ok (.iload_n 2, 1) := by decide +kernel
theorem d84_220 : decode (mB 84) 220 = .ok (.invokevirtual 157, 3) := by decide +kernel
theorem d84_223 : decode (mB 84) 223 = .ok (.ireturn, 1) := by decide +kernel
theorem d84_224 : decode (mB 84) 224 = .ok (.aload_n 1, 1) := by decide +kernel
theorem d84_225 : decode (mB 84) 225 = .ok (.iload_n 2, 1) := by decide +kernel
theorem d84_226 : decode (mB 84) 226 = .ok (.invokestatic 160, 3) := by decide +kernel
theorem d84_229 : decode (mB 84) 229 = .ok (.ireturn, 1) := by decide +kernel
theorem d84_230 : decode (mB 84) 230 = .ok (.aload_n 0, 1) := by decide +kernel
theorem d84_231 : decode (mB 84) 231 = .ok (.aload_n 1, 1) := by decide +kernel
theorem d84_232 : decode (mB 84) 232 = .ok (.iload_n 2, 1) := by decide +kernel
theorem d84_233 : decode (mB 84) 233 = .ok (.invokevirtual 163, 3) := by decide +kernel
theorem d84_236 : decode (mB 84) 236 = .ok (.ireturn, 1) := by decide +kernel
theorem d84_237 : decode (mB 84) 237 = .ok (.aload_n 1, 1) := by decide +kernel
theorem d84_238 : decode (mB 84) 238 = .ok (.iconst 0, 1) := by decide +kernel
theorem d84_239 : decode (mB 84) 239 = .ok (.aload_n 1, 1) := by decide +kernel
theorem d84_240 : decode (mB 84) 240 = .ok (.getfield 72, 3) := by decide +kernel
theorem d84_243 : decode (mB 84) 243 = .ok (.iconst 1, 1) := by decide +kernel
theorem d84_244 : decode (mB 84) 244 = .ok (.invokestatic 166, 3) := by decide +kernel
theorem d84_247 : decode (mB 84) 247 = .ok (.invokevirtual 150, 3) := by decide +kernel
theorem d84_250 : decode (mB 84) 250 = .ok (.ireturn, 1) := by decide +kernel
theorem d84_251 : decode (mB 84) 251 = .ok (.aload_n 1, 1) := by decide +kernel
theorem d84_252 : decode (mB 84) 252 = .ok (.iconst 0, 1) := by decide +kernel
theorem d84_253 : decode (mB 84) 253 = .ok (.iconst 2, 1) := by decide +kernel
theorem d84_254 : decode (mB 84) 254 = .ok (.invokevirtual 150, 3) := by decide +kernel
theorem d84_257 : decode (mB 84) 257 = .ok (.ireturn, 1) := by decide +kernel
theorem d84_258 : decode (mB 84) 258 = .ok (.aload_n 1, 1) := by decide +kernel
theorem d84_259 : decode (mB 84) 259 = .ok (.iconst 0, 1) := by decide +kernel
theorem d84_260 : decode (mB 84) 260 = .ok (.iconst 0, 1) := by decide +kernel
theorem d84_261 : decode (mB 84) 261 = .ok (.invokevirtual 150, 3) := by decide +kernel
theorem d84_264 : decode (mB 84) 264 = .ok (.ireturn, 1) := by decide +kernel
theorem d84_265 : decode (mB 84) 265 = .ok (.aload_n 1, 1) := by decide +kernel
theorem d84_266 : decode (mB 84) 266 = .ok (.iconst 0, 1) := by decide +kernel
theorem d84_267 : decode (mB 84) 267 = .ok (.aload_n 1, 1) := by decide +kernel
theorem d84_268 : decode (mB 84) 268 = .ok (.getfield 72, 3) := by decide +kernel
theorem d84_271 : decode (mB 84) 271 = .ok (.invokevirtual 150, 3) := by decide +kernel
theorem d84_274 : decode (mB 84) 274 = .ok (.ireturn, 1) := by decide +kernel
theorem d88_0 : decode (mB 88) 0 = .ok (.aload_n 0, 1) := by decide +kernel
theorem d88_1 : decode (mB 88) 1 = .ok (.aload_n 1, 1) := by decide +kernel
theorem d88_2 : decode (mB 88) 2 = .ok (.iload_n 2, 1) := by decide +kernel
theorem d88_3 : decode (mB 88) 3 = .ok (.invokevirtual 171, 3) := by decide +kernel
theorem d88_6 : decode (mB 88) 6 = .ok (.ifCond .eq 5, 3) := by decide +kernel
theorem d88_9 : decode (mB 88) 9 = .ok (.iconst 4, 1) := by decide +kernel
theorem d88_10 : decode (mB 88) 10 = .ok (.ireturn, 1) := by decide +kernel
theorem d88_11 : decode (mB 88) 11 = .ok (.aload_n 1, 1) := by decide +kernel
theorem d88_12 : decode (mB 88) 12 = .ok (.getfield 130, 3) := by decide +kernel
theorem d88_15 : decode (mB 88) 15 = .ok (.getfield 175, 3) := by decide +kernel
theorem d88_18 : decode (mB 88) 18 = .ok (.iload_n 2, 1) := by decide +kernel
theorem d88_19 : decode (mB 88) 19 = .ok (.iaload, 1) := by decide +kernel
theorem d88_20 : decode (mB 88) 20 = .ok (.istore_n 3, 1) := by decide +kernel
theorem d88_21 : decode (mB 88) 21 = .ok (.aload_n 0, 1) := by decide +kernel
theorem d88_22 : decode (mB 88) 22 = .ok (.getfield 9, 3) := by decide +kernel
theorem d88_25 : decode (mB 88) 25 = .ok (.iload_n 3, 1) := by decide +kernel
theorem d88_26 : decode (mB 88) 26 = .ok (.iconst 0, 1) := by decide +kernel
theorem d88_27 : decode (mB 88) 27 = .ok (.bastore, 1) := by decide +kernel
theorem d88_28 : decode (mB 88) 28 = .ok (.aload_n 1, 1) := by decide +kernel
theorem d88_29 : decode (mB 88) 29 = .ok (.getfield 137, 3) := by decide +kernel
theorem d88_32 : decode (mB 88) 32 = .ok (.aload_n 1, 1) := by decide +kernel
theorem d88_33 : decode (mB 88) 33 = .ok (.getfield 130, 3) := by decide +kernel
theorem d88_36 : decode (mB 88) 36 = .ok (.getfield 140, 3) := by decide +kernel
theorem d88_39 : decode (mB 88) 39 = .ok (.iload_n 2, 1) := by decide +kernel
theorem d88_40 : decode (mB 88) 40 = .ok (.iaload, 1) := by decide +kernel
theorem d88_41 : decode (mB 88) 41 = .ok (.aload_n 0, 1) := by decide +kernel
theorem d88_42 : decode (mB 88) 42 = .ok (.getfield 15, 3) := by decide +kernel
theorem d88_45 : decode (mB 88) 45 = .ok (.iload_n 3, 1) := by decide +kernel
theorem d88_46 : decode (mB 88) 46 = .ok (.laload, 1) := by decide +kernel
theorem d88_47 : decode (mB 88) 47 = .ok (.lastore, 1) := by decide +kernel
theorem d88_48 : decode (mB 88) 48 = .ok (.aload_n 1, 1) := by decide +kernel
theorem d88_49 : decode (mB 88) 49 = .ok (.invokevirtual 147, 3) := by decide +kernel
theorem d88_52 : decode (mB 88) 52 = .ok (.ireturn, 1) := by decide +kernel
theorem d90_0 : decode (mB 90) 0 = .ok (.aload_n 0, 1) := by decide +kernel
theorem d90_1 : decode (mB 90) 1 = .ok (.aload_n 1, 1) := by decide +kernel
theorem d90_2 : decode (mB 90) 2 = .ok (.iload_n 2, 1) := by decide +kernel
theorem d90_3 : decode (mB 90) 3 = .ok (.invokevirtual 171, 3) := by decide +kernel
theorem d90_6 : decode (mB 90) 6 = .ok (.ifCond .eq 5, 3) := by decide +kernel
theorem d90_9 : decode (mB 90) 9 = .ok (.iconst 4, 1) := by decide +kernel
theorem d90_10 : decode (mB 90) 10 = .ok (.ireturn, 1) := by decide +kernel
theorem d90_11 : decode (mB 90) 11 = .ok (.aload_n 1, 1) := by decide +kernel
theorem d90_12 : decode (mB 90) 12 = .ok (.getfield 130, 3) := by decide +kernel
theorem d90_15 : decode (mB 90) 15 = .ok (.getfield 175, 3) := by decide +kernel
theorem d90_18 : decode (mB 90) 18 = .ok (.iload_n 2, 1) := by decide +kernel
theorem d90_19 : decode (mB 90) 19 = .ok (.iaload, 1) := by decide +kernel
theorem d90_20 : decode (mB 90) 20 = .ok (.istore_n 3, 1) := by decide +kernel
theorem d90_21 : decode (mB 90) 21 = .ok (.aload_n 0, 1) := by decide +kernel
theorem d90_22 : decode (mB 90) 22 = .ok (.getfield 9, 3) := by decide +kernel
theorem d90_25 : decode (mB 90) 25 = .ok (.iload_n 3, 1) := by decide +kernel
theorem d90_26 : decode (mB 90) 26 = .ok (.iconst 1, 1) := by decide +kernel
theorem d90_27 : decode (mB 90) 27 = .ok (.bastore, 1) := by decide +kernel
theorem d90_28 : decode (mB 90) 28 = .ok (.aload_n 0, 1) := by decide +kernel
theorem d90_29 : decode (mB 90) 29 = .ok (.getfield 15, 3) := by decide +kernel
theorem d90_32 : decode (mB 90) 32 = .ok (.iload_n 3, 1) := by decide +kernel
theorem d90_33 : decode (mB 90) 33 = .ok (.aload_n 1, 1) := by decide +kernel
theorem d90_34 : decode (mB 90) 34 = .ok (.getfield 130, 3) := by decide +kernel
theorem d90_37 : decode (mB 90) 37 = .ok (.iload_n 2, 1) := by decide +kernel
theorem d90_38 : decode (mB 90) 38 = .ok (.aload_n 1, 1) := by decide +kernel
theorem d90_39 : decode (mB 90) 39 = .ok (.getfield 137, 3) := by decide +kernel
theorem d90_42 : decode (mB 90) 42 = .ok (.invokevirtual 143, 3) := by decide +kernel
theorem d90_45 : decode (mB 90) 45 = .ok (.lastore, 1) := by decide +kernel
theorem d90_46 : decode (mB 90) 46 = .ok (.aload_n 1, 1) := by decide +kernel
theorem d90_47 : decode (mB 90) 47 = .ok (.invokevirtual 147, 3) := by decide +kernel
theorem d90_50 : decode (mB 90) 50 = .ok (.ireturn, 1) := by decide +kernel
theorem d91_0 : decode (mB 91) 0 = .ok (.aload_n 0, 1) := by decide +kernel
theorem d91_1 : decode (mB 91) 1 = .ok (.aload_n 0, 1) := by decide +kernel
theorem d91_2 : decode (mB 91) 2 = .ok (.getfield 130, 3) := by decide +kernel
theorem d91_5 : decode (mB 91) 5 = .ok (.iload_n 1, 1) := by decide +kernel
theorem d91_6 : decode (mB 91) 6 = .ok (.aload_n 0, 1) := by decide +kernel
theorem d91_7 : decode (mB 91) 7 = .ok (.getfield 137, 3) := by decide +kernel
theorem d91_10 : decode (mB 91) 10 = .ok (.invokevirtual 143, 3) := by decide +kernel
theorem d91_13 : decode (mB 91) 13 = .ok (.putfield 102, 3) := by decide +kernel
theorem d91_16 : decode (mB 91) 16 = .ok (.aload_n 0, 1) := by decide +kernel
theorem d91_17 : decode (mB 91) 17 = .ok (.iconst 0, 1) := by decide +kernel
theorem d91_18 : decode (mB 91) 18 = .ok (.putfield 110, 3) := by decide +kernel
theorem d91_21 : decode (mB 91) 21 = .ok (.iconst 5, 1) := by decide +kernel
theorem d91_22 : decode (mB 91) 22 = .ok (.ireturn, 1) := by decide +kernel
theorem d92_0 : decode (mB 92) 0 = .ok (.aload_n 1, 1) := by decide +kernel
theorem d92_1 : decode (mB 92) 1 = .ok (.getfield 130, 3) := by decide +kernel
theorem d92_4 : decode (mB 92) 4 = .ok (.getfield 175, 3) := by decide +kernel
theorem d92_7 : decode (mB 92) 7 = .ok (.iload_n 2, 1) := by decide +kernel
theorem d92_8 : decode (mB 92) 8 = .ok (.iaload, 1) := by decide +kernel
theorem d92_9 : decode (mB 92) 9 = .ok (.istore_n 3, 1) := by decide +kernel
theorem d92_10 : decode (mB 92) 10 = .ok (.iload_n 3, 1) := by decide +kernel
theorem d92_11 : decode (mB 92) 11 = .ok (.aload_n 1, 1) := by decide +kernel
theorem d92_12 : decode (mB 92) 12 = .ok (.getfield 116, 3) := by decide +kernel
theorem d92_15 : decode (mB 92) 15 = .ok (.if_icmp .ne 9, 3) := by decide +kernel
theorem d92_18 : decode (mB 92) 18 = .ok (.aload_n 1, 1) := by decide +kernel
theorem d92_19 : decode (mB 92) 19 = .ok (.iload_n 2, 1) := by decide +kernel
theorem d92_20 : decode (mB 92) 20 = .ok (.invokestatic 160, 3) := by decide +kernel
theorem d92_23 : decode (mB 92) 23 = .ok (.ireturn, 1) := by decide +kernel
theorem d92_24 : decode (mB 92) 24 = .ok (.aload_n 0, 1) := by decide +kernel
theorem d92_25 : decode (mB 92) 25 = .ok (.aload_n 1, 1) := by decide +kernel
theorem d92_26 : decode (mB 92) 26 = .ok (.iload_n 2, 1) := by decide +kernel
theorem d92_27 : decode (mB 92) 27 = .ok (.invokevirtual 171, 3) := by decide +kernel
theorem d92_30 : decode (mB 92) 30 = .ok (.ifCond .ne 13, 3) := by decide +kernel
theorem d92_33 : decode (mB 92) 33 = .ok (.aload_n 1, 1) := by decide +kernel
theorem d92_34 : decode (mB 92) 34 = .ok (.iconst (-1), 1) := by decide +kernel
theorem d92_35 : decode (mB 92) 35 = .ok (.putfield 123, 3) := by decide +kernel
theorem d92_38 : decode (mB 92) 38 = .ok (.aload_n 1, 1) := by decide +kernel
theorem d92_39 : decode (mB 92) 39 = .ok (.invokevirtual 147, 3) := by decide +kernel
theorem d92_42 : decode (mB 92) 42 = .ok (.ireturn, 1) := by decide +kernel
theorem d92_43 : decode (mB 92) 43 = .ok (.aload_n 1, 1) := by decide +kernel
theorem d92_44 : decode (mB 92) 44 = .ok (.getfield 123, 3) := by decide +kernel
theorem d92_47 : decode (mB 92) 47 = .ok (.iconst (-1), 1) := by decide +kernel
theorem d92_48 : decode (mB 92) 48 = .ok (.if_icmp .ne 37, 3) := by decide +kernel
theorem d92_51 : decode (mB 92) 51 = .ok (.aload_n 1, 1) := by decide +kernel
theorem d92_52 : decode (mB 92) 52 = .ok (.iload_n 3, 1) := by decide +kernel
theorem d92_53 : decode (mB 92) 53 = .ok (.putfield 123, 3) := by decide +kernel
theorem d92_56 : decode (mB 92) 56 = .ok (.aload_n 0, 1) := by decide +kernel
theorem d92_57 : decode (mB 92) 57 = .ok (.getfield 36, 3) := by decide +kernel
theorem d92_60 : decode (mB 92) 60 = .ok (.iload_n 3, 1) := by decide +kernel
theorem d92_61 : decode (mB 92) 61 = .ok (.aaload, 1) := by decide +kernel
theorem d92_62 : decode (mB 92) 62 = .ok (.getfield 75, 3) := by decide +kernel
theorem d92_65 : decode (mB 92) 65 = .ok (.aload_n 1, 1) := by decide +kernel
theorem d92_66 : decode (mB 92) 66 = .ok (.getfield 116, 3) := by decide +kernel
theorem d92_69 : decode (mB 92) 69 = .ok (.iconst 0, 1) := by decide +kernel
theorem d92_70 : decode (mB 92) 70 = .ok (.aload_n 1, 1) := by decide +kernel
theorem d92_71 : decode (mB 92) 71 = .ok (.getfield 130, 3) := by decide +kernel
theorem d92_74 : decode (mB 92) 74 = .ok (.iload_n 2, 1) := by decide +kernel
theorem d92_75 : decode (mB 92) 75 = .ok (.aload_n 1, 1) := by decide +kernel
theorem d92_76 : decode (mB 92) 76 = .ok (.getfield 137, 3) := by decide +kernel
theorem d92_79 : decode (mB 92) 79 = .ok (.invokevirtual 143, 3) := by decide +kernel
theorem d92_82 : decode (mB 92) 82 = .ok (.invokevirtual 178, 3) := by decide +kernel
theorem d92_85 : decode (mB 92) 85 = .ok (.iconst 4, 1) := by decide +kernel
theorem d92_86 : decode (mB 92) 86 = .ok (.ireturn, 1) := by decide +kernel
theorem d89_0 : decode (mB 89) 0 = .ok (.aload_n 1, 1) := by decide +kernel
theorem d89_1 : decode (mB 89) 1 = .ok (.getfield 130, 3) := by decide +kernel
theorem d89_4 : decode (mB 89) 4 = .ok (.getfield 175, 3) := by decide +kernel
theorem d89_7 : decode (mB 89) 7 = .ok (.iload_n 2, 1) := by decide +kernel
theorem d89_8 : decode (mB 89) 8 = .ok (.iaload, 1) := by decide +kernel
theorem d89_9 : decode (mB 89) 9 = .ok (.istore_n 3, 1) := by decide +kernel
theorem d89_10 : decode (mB 89) 10 = .ok (.aload_n 1, 1) := by decide +kernel
theorem d89_11 : decode (mB 89) 11 = .ok (.getfield 130, 3) := by decide +kernel
theorem d89_14 : decode (mB 89) 14 = .ok (.getfield 134, 3) := by decide +kernel
theorem d89_17 : decode (mB 89) 17 = .ok (.iload_n 2, 1) := by decide +kernel
theorem d89_18 : decode (mB 89) 18 = .ok (.iaload, 1) := by decide +kernel
theorem d89_19 : decode (mB 89) 19 = .ok (.lookupswitch 118 #[(9, 33), (11, 48), (14, 55)], 33) := by decide +kernel
theorem d89_52 : decode (mB 89) 52 = .ok (.aload_n 0, 1) := by decide +kernel
theorem d89_53 : decode (mB 89) 53 = .ok (.getfield 9, 3) := by decide +kernel
theorem d89_56 : decode (mB 89) 56 = .ok (.iload_n 3, 1) := by decide +kernel
theorem d89_57 : decode (mB 89) 57 = .ok (.baload, 1) := by decide +kernel
theorem d89_58 : decode (mB 89) 58 = .ok (.ifCond .ne 7, 3) := by decide +kernel
theorem d89_61 : decode (mB 89) 61 = .ok (.iconst 1, 1) := by decide +kernel
theorem d89_62 : decode (mB 89) 62 = .ok (.goto 4, 3) := by decide +kernel
theorem d89_65 : decode (mB 89) 65 = .ok (.iconst 0, 1) := by decide +kernel
theorem d89_66 : decode (mB 89) 66 = .ok (.ireturn, 1) := by decide +kernel
theorem d89_67 : decode (mB 89) 67 = .ok (.aload_n 0, 1) := by decide +kernel
theorem d89_68 : decode (mB 89) 68 = .ok (.getfield 9, 3) := by decide +kernel
theorem d89_71 : decode (mB 89) 71 = .ok (.iload_n 3, 1) := by decide +kernel
theorem d89_72 : decode (mB 89) 72 = .ok (.baload, 1) := by decide +kernel
theorem d89_73 : decode (mB 89) 73 = .ok (.ireturn, 1) := by decide +kernel
theorem d89_74 : decode (mB 89) 74 = .ok (.aload_n 1, 1) := by decide +kernel
theorem d89_75 : decode (mB 89) 75 = .ok (.getfield 123, 3) := by decide +kernel
theorem d89_78 : decode (mB 89) 78 = .ok (.iconst (-1), 1) := by decide +kernel
theorem d89_79 : decode (mB 89) 79 = .ok (.if_icmp .eq 31, 3) := by decide +kernel
theorem d89_82 : decode (mB 89) 82 = .ok (.aload_n 0, 1) := by decide +kernel
theorem d89_83 : decode (mB 89) 83 = .ok (.getfield 36, 3) := by decide +kernel
theorem d89_86 : decode (mB 89) 86 = .ok (.iload_n 3, 1) := by decide +kernel
theorem d89_87 : decode (mB 89) 87 = .ok (.aaload, 1) := by decide +kernel
theorem d89_88 : decode (mB 89) 88 = .ok (.getfield 75, 3) := by decide +kernel
theorem d89_91 : decode (mB 89) 91 = .ok (.aload_n 1, 1) := by decide +kernel
theorem d89_92 : decode (mB 89) 92 = .ok (.getfield 116, 3) := by decide +kernel
theorem d89_95 : decode (mB 89) 95 = .ok (.invokevirtual 126, 3) := by decide +kernel
theorem d89_98 : decode (mB 89) 98 = .ok (.iconst (-1), 1) := by decide +kernel
theorem d89_99 : decode (mB 89) 99 = .ok (.if_icmp .eq 7, 3) := by decide +kernel
theorem d89_102 : decode (mB 89) 102 = .ok (.iconst 1, 1) := by decide +kernel
theorem d89_103 : decode (mB 89) 103 = .ok (.goto 33, 3) := by decide +kernel
theorem d89_106 : decode (mB 89) 106 = .ok (.iconst 0, 1) := by decide +kernel
theorem d89_107 : decode (mB 89) 107 = .ok (.goto 29, 3) := by decide +kernel
theorem d89_110 : decode (mB 89) 110 = .ok (.iload_n 3, 1) := by decide +kernel
theorem d89_111 : decode (mB 89) 111 = .ok (.aload_n 1, 1) := by decide +kernel
theorem d89_112 : decode (mB 89) 112 = .ok (.getfield 116, 3) := by decide +kernel
theorem d89_115 : decode (mB 89) 115 = .ok (.if_icmp .eq 20, 3) := by decide +kernel
theorem d89_118 : decode (mB 89) 118 = .ok (.aload_n 0, 1) := by decide +kernel
theorem d89_119 : decode (mB 89) 119 = .ok (.getfield 36, 3) := by decide +kernel
theorem d89_122 : decode (mB 89) 122 = .ok (.iload_n 3, 1) := by decide +kernel
theorem d89_123 : decode (mB 89) 123 = .ok (.aaload, 1) := by decide +kernel
theorem d89_124 : decode (mB 89) 124 = .ok (.getfield 181, 3) := by decide +kernel
theorem d89_127 : decode (mB 89) 127 = .ok (.iconst 1, 1) := by decide +kernel
theorem d89_128 : decode (mB 89) 128 = .ok (.if_icmp .ne 7, 3) := by decide +kernel
theorem d89_131 : decode (mB 89) 131 = .ok (.iconst 1, 1) := by decide +kernel
theorem d89_132 : decode (mB 89) 132 = .ok (.goto 4, 3) := by decide +kernel
theorem d89_135 : decode (mB 89) 135 = .ok (.iconst 0, 1) := by decide +kernel
theorem d89_136 : decode (mB 89) 136 = .ok (.ireturn, 1) := by decide +kernel
theorem d89_137 : decode (mB 89) 137 = .ok (.iconst 0, 1) := by decide +kernel
theorem d89_138 : decode (mB 89) 138 = .ok (.ireturn, 1) := by decide +kernel
theorem d111_0 : decode (mB 111) 0 = .ok (.iconst 0, 1) := by decide +kernel
theorem d111_1 : decode (mB 111) 1 = .ok (.istore_n 1, 1) := by decide +kernel
theorem d111_2 : decode (mB 111) 2 = .ok (.iload_n 1, 1) := by decide +kernel
theorem d111_3 : decode (mB 111) 3 = .ok (.bipush 6, 2) := by decide +kernel
theorem d111_5 : decode (mB 111) 5 = .ok (.if_icmp .ge 37, 3) := by decide +kernel
theorem d111_8 : decode (mB 111) 8 = .ok (.aload_n 0, 1) := by decide +kernel
theorem d111_9 : decode (mB 111) 9 = .ok (.getfield 36, 3) := by decide +kernel
theorem d111_12 : decode (mB 111) 12 = .ok (.iload_n 1, 1) := by decide +kernel
theorem d111_13 : decode (mB 111) 13 = .ok (.aaload, 1) := by decide +kernel
theorem d111_14 : decode (mB 111) 14 = .ok (.getfield 181, 3) := by decide +kernel
theorem d111_17 : decode (mB 111) 17 = .ok (.iconst 1, 1) := by decide +kernel
theorem d111_18 : decode (mB 111) 18 = .ok (.if_icmp .ne 18, 3) := by decide +kernel
theorem d111_21 : decode (mB 111) 21 = .ok (.aload_n 0, 1) := by decide +kernel
theorem d111_22 : decode (mB 111) 22 = .ok (.aload_n 0, 1) := by decide +kernel
theorem d111_23 : decode (mB 111) 23 = .ok (.getfield 36, 3) := by decide +kernel
theorem d111_26 : decode (mB 111) 26 = .ok (.iload_n 1, 1) := by decide +kernel
theorem d111_27 : decode (mB 111) 27 = .ok (.aaload, 1) := by decide +kernel
theorem d111_28 : decode (mB 111) 28 = .ok (.invokevirtual 184, 3) := by decide +kernel
theorem d111_31 : decode (mB 111) 31 = .ok (.ifCond .eq 5, 3) := by decide +kernel
theorem d111_34 : decode (mB 111) 34 = .ok (.iconst 1, 1) := by decide +kernel
theorem d111_35 : decode (mB 111) 35 = .ok (.ireturn, 1) := by decide +kernel
theorem d111_36 : decode (mB 111) 36 = .ok (.iinc 1 1, 3) := by decide +kernel
theorem d111_39 : decode (mB 111) 39 = .ok (.goto (-37), 3) := by decide +kernel
theorem d111_42 : decode (mB 111) 42 = .ok (.iconst 0, 1) := by decide +kernel
theorem d111_43 : decode (mB 111) 43 = .ok (.ireturn, 1) := by decide +kernel
theorem d112_0 : decode (mB 112) 0 = .ok (.aload_n 0, 1) := by decide +kernel
theorem d112_1 : decode (mB 112) 1 = .ok (.getfield 40, 3) := by decide +kernel
theorem d112_4 : decode (mB 112) 4 = .ok (.aload_n 1, 1) := by decide +kernel
theorem d112_5 : decode (mB 112) 5 = .ok (.invokevirtual 188, 3) := by decide +kernel
theorem d112_8 : decode (mB 112) 8 = .ok (.aload_n 0, 1) := by decide +kernel
theorem d112_9 : decode (mB 112) 9 = .ok (.getfield 40, 3) := by decide +kernel
theorem d112_12 : decode (mB 112) 12 = .ok (.invokevirtual 68, 3) := by decide +kernel
theorem d112_15 : decode (mB 112) 15 = .ok (.ifCond .eq 5, 3) := by decide +kernel
theorem d112_18 : decode (mB 112) 18 = .ok (.iconst 1, 1) := by decide +kernel
theorem d112_19 : decode (mB 112) 19 = .ok (.ireturn, 1) := by decide +kernel
theorem d112_20 : decode (mB 112) 20 = .ok (.aload_n 0, 1) := by decide +kernel
theorem d112_21 : decode (mB 112) 21 = .ok (.getfield 40, 3) := by decide +kernel
theorem d112_24 : decode (mB 112) 24 = .ok (.getfield 75, 3) := by decide +kernel
theorem d112_27 : decode (mB 112) 27 = .ok (.getfield 79, 3) := by decide +kernel
theorem d112_30 : decode (mB 112) 30 = .ok (.ifCond .le 7, 3) := by decide +kernel
theorem d112_33 : decode (mB 112) 33 = .ok (.iconst 1, 1) := by decide +kernel
theorem d112_34 : decode (mB 112) 34 = .ok (.goto 4, 3) := by decide +kernel
theorem d112_37 : decode (mB 112) 37 = .ok (.iconst 0, 1) := by decide +kernel
theorem d112_38 : decode (mB 112) 38 = .ok (.istore_n 2, 1) := by decide +kernel
theorem d112_39 : decode (mB 112) 39 = .ok (.aload_n 0, 1) := by decide +kernel
theorem d112_40 : decode (mB 112) 40 = .ok (.getfield 40, 3) := by decide +kernel
theorem d112_43 : decode (mB 112) 43 = .ok (.invokevirtual 85, 3) := by decide +kernel
theorem d112_46 : decode (mB 112) 46 = .ok (.istore_n 3, 1) := by decide +kernel
theorem d112_47 : decode (mB 112) 47 = .ok (.iload_n 3, 1) := by decide +kernel
theorem d112_48 : decode (mB 112) 48 = .ok (.iconst (-1), 1) := by decide +kernel
theorem d112_49 : decode (mB 112) 49 = .ok (.if_icmp .eq 17, 3) := by decide +kernel
theorem d112_52 : decode (mB 112) 52 = .ok (.iload_n 2, 1) := by decide +kernel
theorem d112_53 : decode (mB 112) 53 = .ok (.ifCond .eq 15, 3) := by decide +kernel
theorem d112_56 : decode (mB 112) 56 = .ok (.aload_n 0, 1) := by decide +kernel
theorem d112_57 : decode (mB 112) 57 = .ok (.getfield 40, 3) := by decide +kernel
theorem d112_60 : decode (mB 112) 60 = .ok (.getfield 72, 3) := by decide +kernel
theorem d112_63 : decode (mB 112) 63 = .ok (.ifCond .ne 5, 3) := by decide +kernel
theorem d112_66 : decode (mB 112) 66 = .ok (.iconst 1, 1) := by decide +kernel
theorem d112_67 : decode (mB 112) 67 = .ok (.ireturn, 1) := by decide +kernel
theorem d112_68 : decode (mB 112) 68 = .ok (.aload_n 0, 1) := by decide +kernel
theorem d112_69 : decode (mB 112) 69 = .ok (.aload_n 0, 1) := by decide +kernel
theorem d112_70 : decode (mB 112) 70 = .ok (.getfield 40, 3) := by decide +kernel
theorem d112_73 : decode (mB 112) 73 = .ok (.iload_n 3, 1) := by decide +kernel
theorem d112_74 : decode (mB 112) 74 = .ok (.invokevirtual 171, 3) := by decide +kernel
theorem d112_77 : decode (mB 112) 77 = .ok (.ifCond .eq 18, 3) := by decide +kernel
theorem d112_80 : decode (mB 112) 80 = .ok (.iload_n 2, 1) := by decide +kernel
theorem d112_81 : decode (mB 112) 81 = .ok (.ifCond .eq 18, 3) := by decide +kernel
theorem d112_84 : decode (mB 112) 84 = .ok (.aload_n 0, 1) := by decide +kernel
theorem d112_85 : decode (mB 112) 85 = .ok (.getfield 40, 3) := by decide +kernel
theorem d112_88 : decode (mB 112) 88 = .ok (.getfield 72, 3) := by decide +kernel
theorem d112_91 : decode (mB 112) 91 = .ok (.iconst 1, 1) := by decide +kernel
theorem d112_92 : decode (mB 112) 92 = .ok (.if_icmp .ne 7, 3) := by decide +kernel
theorem d112_95 : decode (mB 112) 95 = .ok (.iconst 1, 1) := by decide +kernel
theorem d112_96 : decode (mB 112) 96 = .ok (.goto 4, 3) := by decide +kernel
theorem d112_99 : decode (mB 112) 99 = .ok (.iconst 0, 1) := by decide +kernel
theorem d112_100 : decode (mB 112) 100 = .ok (.ireturn, 1) := by decide +kernel
theorem d197_0 : decode (mB 197) 0 = .ok (.new 7, 3) := by decide +kernel
theorem d197_3 : decode (mB 197) 3 = .ok (.dup, 1) := by decide +kernel
theorem d197_4 : decode (mB 197) 4 = .ok (.invokespecial 9, 3) := by decide +kernel
theorem d197_7 : decode (mB 197) 7 = .ok (.astore_n 1, 1) := by decide +kernel
theorem d197_8 : decode (mB 197) 8 = .ok (.new 10, 3) := by decide +kernel
theorem d197_11 : decode (mB 197) 11 = .ok (.dup, 1) := by decide +kernel
theorem d197_12 : decode (mB 197) 12 = .ok (.invokespecial 12, 3) := by decide +kernel
theorem d197_15 : decode (mB 197) 15 = .ok (.astore_n 2, 1) := by decide +kernel
theorem d197_16 : decode (mB 197) 16 = .ok (.iconst 0, 1) := by decide +kernel
theorem d197_17 : decode (mB 197) 17 = .ok (.istore_n 3, 1) := by decide +kernel
theorem d197_18 : decode (mB 197) 18 = .ok (.iload_n 3, 1) := by decide +kernel
theorem d197_19 : decode (mB 197) 19 = .ok (.aload_n 0, 1) := by decide +kernel
theorem d197_20 : decode (mB 197) 20 = .ok (.arraylength, 1) := by decide +kernel
theorem d197_21 : decode (mB 197) 21 = .ok (.bipush 6, 2) := by decide +kernel
theorem d197_23 : decode (mB 197) 23 = .ok (.isub, 1) := by decide +kernel
theorem d197_24 : decode (mB 197) 24 = .ok (.if_icmp .gt 836, 3) := by decide +kernel
theorem d197_27 : decode (mB 197) 27 = .ok (.aload_n 0, 1) := by decide +kernel
theorem d197_28 : decode (mB 197) 28 = .ok (.iload_n 3, 1) := by decide +kernel
theorem d197_29 : decode (mB 197) 29 = .ok (.iaload, 1) := by decide +kernel
theorem d197_30 : decode (mB 197) 30 = .ok (.bipush 31, 2) := by decide +kernel
theorem d197_32 : decode (mB 197) 32 = .ok (.iand, 1) := by decide +kernel
theorem d197_33 : decode (mB 197) 33 = .ok (.tableswitch 821 0 22 #[107, 170, 193, 206, 219, 252, 285, 308, 371, 434, 497, 520, 544, 577, 601, 635, 678, 712, 725, 738, 751, 784, 808], 107) := by decide +kernel
theorem d197_140 : decode (mB 197) 140 = .ok (.aload_n 1, 1) := by decide +kernel
theorem d197_141 : decode (mB 197) 141 = .ok (.aload_n 0, 1) := by decide +kernel
theorem d197_142 : decode (mB 197) 142 = .ok (.iload_n 3, 1) := by decide +kernel
theorem d197_143 : decode (mB 197) 143 = .ok (.iconst 1, 1) := by decide +kernel
theorem d197_144 : decode (mB 197) 144 = .ok (.iadd, 1) := by decide +kernel
theorem d197_145 : decode (mB 197) 145 = .ok (.iaload, 1) := by decide +kernel
theorem d197_146 : decode (mB 197) 146 = .ok (.aload_n 0, 1) := by decide +kernel
theorem d197_147 : decode (mB 197) 147 = .ok (.iload_n 3, 1) := by decide +kernel
theorem d197_148 : decode (mB 197) 148 = .ok (.iconst 2, 1) := by decide +kernel
theorem d197_149 : decode (mB 197) 149 = .ok (.iadd, 1) := by decide +kernel
theorem d197_150 : decode (mB 197) 150 = .ok (.iaload, 1) := by decide +kernel
theorem d197_151 : decode (mB 197) 151 = .ok (.aload_n 0, 1) := by decide +kernel
theorem d197_152 : decode (mB 197) 152 = .ok (.iload_n 3, 1) := by decide +kernel
theorem d197_153 : decode (mB 197) 153 = .ok (.iconst 3, 1) := by decide +kernel
theorem d197_154 : decode (mB 197) 154 = .ok (.iadd, 1) := by decide +kernel
theorem d197_155 : decode (mB 197) 155 = .ok (.iaload, 1) := by decide +kernel
theorem d197_156 : decode (mB 197) 156 = .ok (.aload_n 0, 1) := by decide +kernel
theorem d197_157 : decode (mB 197) 157 = .ok (.iload_n 3, 1) := by decide +kernel
theorem d197_158 : decode (mB 197) 158 = .ok (.iconst 4, 1) := by decide +kernel
theorem d197_159 : decode (mB 197) 159 = .ok (.iadd, 1) := by decide +kernel
theorem d197_160 : decode (mB 197) 160 = .ok (.iaload, 1) := by decide +kernel
theorem d197_161 : decode (mB 197) 161 = .ok (.aload_n 0, 1) := by decide +kernel
theorem d197_162 : decode (mB 197) 162 = .ok (.iload_n 3, 1) := by decide +kernel
theorem d197_163 : decode (mB 197) 163 = .ok (.iconst 5, 1) := by decide +kernel
theorem d197_164 : decode (mB 197) 164 = .ok (.iadd, 1) := by decide +kernel
theorem d197_165 : decode (mB 197) 165 = .ok (.iaload, 1) := by decide +kernel
theorem d197_166 : decode (mB 197) 166 = .ok (.invokevirtual 13, 3) := by decide +kernel
theorem d197_169 : decode (mB 197) 169 = .ok (.aload_n 2, 1) := by decide +kernel
theorem d197_170 : decode (mB 197) 170 = .ok (.aload_n 0, 1) := by decide +kernel
theorem d197_171 : decode (mB 197) 171 = .ok (.iload_n 3, 1) := by decide +kernel
theorem d197_172 : decode (mB 197) 172 = .ok (.iconst 1, 1) := by decide +kernel
theorem d197_173 : decode (mB 197) 173 = .ok (.iadd, 1) := by decide +kernel
theorem d197_174 : decode (mB 197) 174 = .ok (.iaload, 1) := by decide +kernel
theorem d197_175 : decode (mB 197) 175 = .ok (.aload_n 0, 1) := by decide +kernel
theorem d197_176 : decode (mB 197) 176 = .ok (.iload_n 3, 1) := by decide +kernel
theorem d197_177 : decode (mB 197) 177 = .ok (.iconst 2, 1) := by decide +kernel
theorem d197_178 : decode (mB 197) 178 = .ok (.iadd, 1) := by decide +kernel
theorem d197_179 : decode (mB 197) 179 = .ok (.iaload, 1) := by decide +kernel
theorem d197_180 : decode (mB 197) 180 = .ok (.aload_n 0, 1) := by decide +kernel
theorem d197_181 : decode (mB 197) 181 = .ok (.iload_n 3, 1) := by decide +kernel
theorem d197_182 : decode (mB 197) 182 = .ok (.iconst 3, 1) := by decide +kernel
theorem d197_183 : decode (mB 197) 183 = .ok (.iadd, 1) := by decide +kernel
theorem d197_184 : decode (mB 197) 184 = .ok (.iaload, 1) := by decide +kernel
theorem d197_185 : decode (mB 197) 185 = .ok (.aload_n 0, 1) := by decide +kernel
theorem d197_186 : decode (mB 197) 186 = .ok (.iload_n 3, 1) := by decide +kernel
theorem d197_187 : decode (mB 197) 187 = .ok (.iconst 4, 1) := by decide +kernel
theorem d197_188 : decode (mB 197) 188 = .ok (.iadd, 1) := by decide +kernel
theorem d197_189 : decode (mB 197) 189 = .ok (.iaload, 1) := by decide +kernel
theorem d197_190 : decode (mB 197) 190 = .ok (.aload_n 0, 1) := by decide +kernel
theorem d197_191 : decode (mB 197) 191 = .ok (.iload_n 3, 1) := by decide +kernel
theorem d197_192 : decode (mB 197) 192 = .ok (.iconst 5, 1) := by decide +kernel
theorem d197_193 : decode (mB 197) 193 = .ok (.iadd, 1) := by decide +kernel
theorem d197_194 : decode (mB 197) 194 = .ok (.iaload, 1) := by decide +kernel
theorem d197_195 : decode (mB 197) 195 = .ok (.invokevirtual 17, 3) := by decide +kernel
theorem d197_198 : decode (mB 197) 198 = .ok (.if_icmp .eq 656, 3) := by decide +kernel
theorem d197_201 : decode (mB 197) 201 = .ok (.iconst 0, 1) := by decide +kernel
theorem d197_202 : decode (mB 197) 202 = .ok (.ireturn, 1) := by decide +kernel
theorem d197_203 : decode (mB 197) 203 = .ok (.aload_n 1, 1) := by decide +kernel
theorem d197_204 : decode (mB 197) 204 = .ok (.aload_n 0, 1) := by decide +kernel
theorem d197_205 : decode (mB 197) 205 = .ok (.iload_n 3, 1) := by decide +kernel
theorem d197_206 : decode (mB 197) 206 = .ok (.iconst 1, 1) := by decide +kernel
theorem d197_207 : decode (mB 197) 207 = .ok (.iadd, 1) := by decide +kernel
theorem d197_208 : decode (mB 197) 208 = .ok (.iaload, 1) := by decide +kernel
theorem d197_209 : decode (mB 197) 209 = .ok (.invokevirtual 18, 3) := by decide +kernel
theorem d197_212 : decode (mB 197) 212 = .ok (.aload_n 2, 1) := by decide +kernel
theorem d197_213 : decode (mB 197) 213 = .ok (.aload_n 0, 1) := by decide +kernel
theorem d197_214 : decode (mB 197) 214 = .ok (.iload_n 3, 1) := by decide +kernel
theorem d197_215 : decode (mB 197) 215 = .ok (.iconst 1, 1) := by decide +kernel
theorem d197_216 : decode (mB 197) 216 = .ok (.iadd, 1) := by decide +kernel
theorem d197_217 : decode (mB 197) 217 = .ok (.iaload, 1) := by decide +kernel
theorem d197_218 : decode (mB 197) 218 = .ok (.invokevirtual 22, 3) := by decide +kernel
theorem d197_221 : decode (mB 197) 221 = .ok (.if_icmp .eq 633, 3) := by decide +kernel
theorem d197_224 : decode (mB 197) 224 = .ok (.iconst 0, 1) := by decide +kernel
theorem d197_225 : decode (mB 197) 225 = .ok (.ireturn, 1) := by decide +kernel
theorem d197_226 : decode (mB 197) 226 = .ok (.aload_n 1, 1) := by decide +kernel
theorem d197_227 : decode (mB 197) 227 = .ok (.invokevirtual 23, 3) := by decide +kernel
theorem d197_230 : decode (mB 197) 230 = .ok (.aload_n 2, 1) := by decide +kernel
theorem d197_231 : decode (mB 197) 231 = .ok (.invokevirtual 27, 3) := by decide +kernel
theorem d197_234 : decode (mB 197) 234 = .ok (.if_icmp .eq 620, 3) := by decide +kernel
theorem d197_237 : decode (mB 197) 237 = .ok (.iconst 0, 1) := by decide +kernel
theorem d197_238 : decode (mB 197) 238 = .ok (.ireturn, 1) := by decide +kernel
theorem d197_239 : decode (mB 197) 239 = .ok (.aload_n 1, 1) := by decide +kernel
theorem d197_240 : decode (mB 197) 240 = .ok (.invokevirtual 28, 3) := by decide +kernel
theorem d197_243 : decode (mB 197) 243 = .ok (.aload_n 2, 1) := by decide +kernel
theorem d197_244 : decode (mB 197) 244 = .ok (.invokevirtual 31, 3) := by decide +kernel
theorem d197_247 : decode (mB 197) 247 = .ok (.if_icmp .eq 607, 3) := by decide +kernel
theorem d197_250 : decode (mB 197) 250 = .ok (.iconst 0, 1) := by decide +kernel
theorem d197_251 : decode (mB 197) 251 = .ok (.ireturn, 1) := by decide +kernel
theorem d197_252 : decode (mB 197) 252 = .ok (.aload_n 1, 1) := by decide +kernel
theorem d197_253 : decode (mB 197) 253 = .ok (.aload_n 0, 1) := by decide +kernel
theorem d197_254 : decode (mB 197) 254 = .ok (.iload_n 3, 1) := by decide +kernel
theorem d197_255 : decode (mB 197) 255 = .ok (.iconst 1, 1) := by decide +kernel
theorem d197_256 : decode (mB 197) 256 = .ok (.iadd, 1) := by decide +kernel
theorem d197_257 : decode (mB 197) 257 = .ok (.iaload, 1) := by decide +kernel
theorem d197_258 : decode (mB 197) 258 = .ok (.aload_n 0, 1) := by decide +kernel
theorem d197_259 : decode (mB 197) 259 = .ok (.iload_n 3, 1) := by decide +kernel
theorem d197_260 : decode (mB 197) 260 = .ok (.iconst 2, 1) := by decide +kernel
theorem d197_261 : decode (mB 197) 261 = .ok (.iadd, 1) := by decide +kernel
theorem d197_262 : decode (mB 197) 262 = .ok (.iaload, 1) := by decide +kernel
theorem d197_263 : decode (mB 197) 263 = .ok (.invokevirtual 32, 3) := by decide +kernel
theorem d197_266 : decode (mB 197) 266 = .ok (.aload_n 2, 1) := by decide +kernel
theorem d197_267 : decode (mB 197) 267 = .ok (.aload_n 0, 1) := by decide +kernel
theorem d197_268 : decode (mB 197) 268 = .ok (.iload_n 3, 1) := by decide +kernel
theorem d197_269 : decode (mB 197) 269 = .ok (.iconst 1, 1) := by decide +kernel
theorem d197_270 : decode (mB 197) 270 = .ok (.iadd, 1) := by decide +kernel
theorem d197_271 : decode (mB 197) 271 = .ok (.iaload, 1) := by decide +kernel
theorem d197_272 : decode (mB 197) 272 = .ok (.aload_n 0, 1) := by decide +kernel
theorem d197_273 : decode (mB 197) 273 = .ok (.iload_n 3, 1) := by decide +kernel
theorem d197_274 : decode (mB 197) 274 = .ok (.iconst 2, 1) := by decide +kernel
theorem d197_275 : decode (mB 197) 275 = .ok (.iadd, 1) := by decide +kernel
theorem d197_276 : decode (mB 197) 276 = .ok (.iaload, 1) := by decide +kernel
theorem d197_277 : decode (mB 197) 277 = .ok (.invokevirtual 36, 3) := by decide +kernel
theorem d197_280 : decode (mB 197) 280 = .ok (.if_icmp .eq 574, 3) := by decide +kernel
theorem d197_283 : decode (mB 197) 283 = .ok (.iconst 0, 1) := by decide +kernel
theorem d197_284 : decode (mB 197) 284 = .ok (.ireturn, 1) := by decide +kernel
theorem d197_285 : decode (mB 197) 285 = .ok (.aload_n 1, 1) := by decide +kernel
theorem d197_286 : decode (mB 197) 286 = .ok (.aload_n 0, 1) := by decide +kernel
theorem d197_287 : decode (mB 197) 287 = .ok (.iload_n 3, 1) := by decide +kernel
theorem d197_288 : decode (mB 197) 288 = .ok (.iconst 1, 1) := by decide +kernel
theorem d197_289 : decode (mB 197) 289 = .ok (.iadd, 1) := by decide +kernel
theorem d197_290 : decode (mB 197) 290 = .ok (.iaload, 1) := by decide +kernel
theorem d197_291 : decode (mB 197) 291 = .ok (.aload_n 0, 1) := by decide +kernel
theorem d197_292 : decode (mB 197) 292 = .ok (.iload_n 3, 1) := by decide +kernel
theorem d197_293 : decode (mB 197) 293 = .ok (.iconst 2, 1) := by decide +kernel
theorem d197_294 : decode (mB 197) 294 = .ok (.iadd, 1) := by decide +kernel
theorem d197_295 : decode (mB 197) 295 = .ok (.iaload, 1) := by decide +kernel
theorem d197_296 : decode (mB 197) 296 = .ok (.invokevirtual 37, 3) := by decide +kernel
theorem d197_299 : decode (mB 197) 299 = .ok (.aload_n 2, 1) := by decide +kernel
theorem d197_300 : decode (mB 197) 300 = .ok (.aload_n 0, 1) := by decide +kernel
theorem d197_301 : decode (mB 197) 301 = .ok (.iload_n 3, 1) := by decide +kernel
theorem d197_302 : decode (mB 197) 302 = .ok (.iconst 1, 1) := by decide +kernel
theorem d197_303 : decode (mB 197) 303 = .ok (.iadd, 1) := by decide +kernel
theorem d197_304 : decode (mB 197) 304 = .ok (.iaload, 1) := by decide +kernel
theorem d197_305 : decode (mB 197) 305 = .ok (.aload_n 0, 1) := by decide +kernel
theorem d197_306 : decode (mB 197) 306 = .ok (.iload_n 3, 1) := by decide +kernel
theorem d197_307 : decode (mB 197) 307 = .ok (.iconst 2, 1) := by decide +kernel
theorem d197_308 : decode (mB 197) 308 = .ok (.iadd, 1) := by decide +kernel
theorem d197_309 : decode (mB 197) 309 = .ok (.iaload, 1) := by decide +kernel
theorem d197_310 : decode (mB 197) 310 = .ok (.invokevirtual 40, 3) := by decide +kernel
theorem d197_313 : decode (mB 197) 313 = .ok (.if_icmp .eq 541, 3) := by decide +kernel
theorem d197_316 : decode (mB 197) 316 = .ok (.iconst 0, 1) := by decide +kernel
theorem d197_317 : decode (mB 197) 317 = .ok (.ireturn, 1) := by decide +kernel
theorem d197_318 : decode (mB 197) 318 = .ok (.aload_n 1, 1) := by decide +kernel
theorem d197_319 : decode (mB 197) 319 = .ok (.aload_n 0, 1) := by decide +kernel
theorem d197_320 : decode (mB 197) 320 = .ok (.iload_n 3, 1) := by decide +kernel
theorem d197_321 : decode (mB 197) 321 = .ok (.iconst 1, 1) := by decide +kernel
theorem d197_322 : decode (mB 197) 322 = .ok (.iadd, 1) := by decide +kernel
theorem d197_323 : decode (mB 197) 323 = .ok (.iaload, 1) := by decide +kernel
theorem d197_324 : decode (mB 197) 324 = .ok (.invokevirtual 41, 3) := by decide +kernel
theorem d197_327 : decode (mB 197) 327 = .ok (.aload_n 2, 1) := by decide +kernel
theorem d197_328 : decode (mB 197) 328 = .ok (.aload_n 0, 1) := by decide +kernel
theorem d197_329 : decode (mB 197) 329 = .ok (.iload_n 3, 1) := by decide +kernel
theorem d197_330 : decode (mB 197) 330 = .ok (.iconst 1, 1) := by decide +kernel
theorem d197_331 : decode (mB 197) 331 = .ok (.iadd, 1) := by decide +kernel
theorem d197_332 : decode (mB 197) 332 = .ok (.iaload, 1) := by decide +kernel
theorem d197_333 : decode (mB 197) 333 = .ok (.invokevirtual 44, 3) := by decide +kernel
theorem d197_336 : decode (mB 197) 336 = .ok (.if_icmp .eq 518, 3) := by decide +kernel
theorem d197_339 : decode (mB 197) 339 = .ok (.iconst 0, 1) := by decide +kernel
theorem d197_340 : decode (mB 197) 340 = .ok (.ireturn, 1) := by decide +kernel
theorem d197_341 : decode (mB 197) 341 = .ok (.aload_n 1, 1) := by decide +kernel
theorem d197_342 : decode (mB 197) 342 = .ok (.aload_n 0, 1) := by decide +kernel
theorem d197_343 : decode (mB 197) 343 = .ok (.iload_n 3, 1) := by decide +kernel
theorem d197_344 : decode (mB 197) 344 = .ok (.iconst 1, 1) := by decide +kernel
theorem d197_345 : decode (mB 197) 345 = .ok (.iadd, 1) := by decide +kernel
theorem d197_346 : decode (mB 197) 346 = .ok (.iaload, 1) := by decide +kernel
theorem d197_347 : decode (mB 197) 347 = .ok (.i2l, 1) := by decide +kernel
theorem d197_348 : decode (mB 197) 348 = .ok (.bipush 32, 2) := by decide +kernel
theorem d197_350 : decode (mB 197) 350 = .ok (.lshl, 1) := by decide +kernel
theorem d197_351 : decode (mB 197) 351 = .ok (.aload_n 0, 1) := by decide +kernel
theorem d197_352 : decode (mB 197) 352 = .ok (.iload_n 3, 1) := by decide +kernel
theorem d197_353 : decode (mB 197) 353 = .ok (.iconst 2, 1) := by decide +kernel
theorem d197_354 : decode (mB 197) 354 = .ok (.iadd, 1) := by decide +kernel
theorem d197_355 : decode (mB 197) 355 = .ok (.iaload, 1) := by decide +kernel
theorem d197_356 : decode (mB 197) 356 = .ok (.i2l, 1) := by decide +kernel
theorem d197_357 : decode (mB 197) 357 = .ok (.ldc2_w 45, 3) := by decide +kernel
theorem d197_360 : decode (mB 197) 360 = .ok (.land, 1) := by decide +kernel
theorem d197_361 : decode (mB 197) 361 = .ok (.lor, 1) := by decide +kernel
theorem d197_362 : decode (mB 197) 362 = .ok (.aload_n 0, 1) := by decide +kernel
theorem d197_363 : decode (mB 197) 363 = .ok (.iload_n 3, 1) := by decide +kernel
theorem d197_364 : decode (mB 197) 364 = .ok (.iconst 3, 1) := by decide +kernel
theorem d197_365 : decode (mB 197) 365 = .ok (.iadd, 1) := by decide +kernel
theorem d197_366 : decode (mB 197) 366 = .ok (.iaload, 1) := by decide +kernel
theorem d197_367 : decode (mB 197) 367 = .ok (.invokevirtual 47, 3) := by decide +kernel
theorem d197_370 : decode (mB 197) 370 = .ok (.aload_n 2, 1) := by decide +kernel
theorem d197_371 : decode (mB 197) 371 = .ok (.aload_n 0, 1) := by decide +kernel
theorem d197_372 : decode (mB 197) 372 = .ok (.iload_n 3, 1) := by decide +kernel
theorem d197_373 : decode (mB 197) 373 = .ok (.iconst 1, 1) := by decide +kernel
theorem d197_374 : decode (mB 197) 374 = .ok (.iadd, 1) := by decide +kernel
theorem d197_375 : decode (mB 197) 375 = .ok (.iaload, 1) := by decide +kernel
theorem d197_376 : decode (mB 197) 376 = .ok (.i2l, 1) := by decide +kernel
theorem d197_377 : decode (mB 197) 377 = .ok (.bipush 32, 2) := by decide +kernel
theorem d197_379 : decode (mB 197) 379 = .ok (.lshl, 1) := by decide +kernel
theorem d197_380 : decode (mB 197) 380 = .ok (.aload_n 0, 1) := by decide +kernel
theorem d197_381 : decode (mB 197) 381 = .ok (.iload_n 3, 1) := by decide +kernel
theorem d197_382 : decode (mB 197) 382 = .ok (.iconst 2, 1) := by decide +kernel
theorem d197_383 : decode (mB 197) 383 = .ok (.iadd, 1) := by decide +kernel
theorem d197_384 : decode (mB 197) 384 = .ok (.iaload, 1) := by decide +kernel
theorem d197_385 : decode (mB 197) 385 = .ok (.i2l, 1) := by decide +kernel
theorem d197_386 : decode (mB 197) 386 = .ok (.ldc2_w 45, 3) := by decide +kernel
theorem d197_389 : decode (mB 197) 389 = .ok (.land, 1) := by decide +kernel
theorem d197_390 : decode (mB 197) 390 = .ok (.lor, 1) := by decide +kernel
theorem d197_391 : decode (mB 197) 391 = .ok (.aload_n 0, 1) := by decide +kernel
theorem d197_392 : decode (mB 197) 392 = .ok (.iload_n 3, 1) := by decide +kernel
theorem d197_393 : decode (mB 197) 393 = .ok (.iconst 3, 1) := by decide +kernel
theorem d197_394 : decode (mB 197) 394 = .ok (.iadd, 1) := by decide +kernel
theorem d197_395 : decode (mB 197) 395 = .ok (.iaload, 1) := by decide +kernel
theorem d197_396 : decode (mB 197) 396 = .ok (.invokevirtual 51, 3) := by decide +kernel
theorem d197_399 : decode (mB 197) 399 = .ok (.if_icmp .eq 455, 3) := by decide +kernel
theorem d197_402 : decode (mB 197) 402 = .ok (.iconst 0, 1) := by decide +kernel
theorem d197_403 : decode (mB 197) 403 = .ok (.ireturn, 1) := by decide +kernel
theorem d197_404 : decode (mB 197) 404 = .ok (.aload_n 1, 1) := by decide +kernel
theorem d197_405 : decode (mB 197) 405 = .ok (.aload_n 0, 1) := by decide +kernel
theorem d197_406 : decode (mB 197) 406 = .ok (.iload_n 3, 1) := by decide +kernel
theorem d197_407 : decode (mB 197) 407 = .ok (.iconst 1, 1) := by decide +kernel
theorem d197_408 : decode (mB 197) 408 = .ok (.iadd, 1) := by decide +kernel
theorem d197_409 : decode (mB 197) 409 = .ok (.iaload, 1) := by decide +kernel
theorem d197_410 : decode (mB 197) 410 = .ok (.aload_n 0, 1) := by decide +kernel
theorem d197_411 : decode (mB 197) 411 = .ok (.iload_n 3, 1) := by decide +kernel
theorem d197_412 : decode (mB 197) 412 = .ok (.iconst 2, 1) := by decide +kernel
theorem d197_413 : decode (mB 197) 413 = .ok (.iadd, 1) := by decide +kernel
theorem d197_414 : decode (mB 197) 414 = .ok (.iaload, 1) := by decide +kernel
theorem d197_415 : decode (mB 197) 415 = .ok (.i2l, 1) := by decide +kernel
theorem d197_416 : decode (mB 197) 416 = .ok (.bipush 32, 2) := by decide +kernel
theorem d197_418 : decode (mB 197) 418 = .ok (.lshl, 1) := by decide +kernel
theorem d197_419 : decode (mB 197) 419 = .ok (.aload_n 0, 1) := by decide +kernel
theorem d197_420 : decode (mB 197) 420 = .ok (.iload_n 3, 1) := by decide +kernel
theorem d197_421 : decode (mB 197) 421 = .ok (.iconst 3, 1) := by decide +kernel
theorem d197_422 : decode (mB 197) 422 = .ok (.iadd, 1) := by decide +kernel
theorem d197_423 : decode (mB 197) 423 = .ok (.iaload, 1) := by decide +kernel
theorem d197_424 : decode (mB 197) 424 = .ok (.i2l, 1) := by decide +kernel
theorem d197_425 : decode (mB 197) 425 = .ok (.ldc2_w 45, 3) := by decide +kernel
theorem d197_428 : decode (mB 197) 428 = .ok (.land, 1) := by decide +kernel
theorem d197_429 : decode (mB 197) 429 = .ok (.lor, 1) := by decide +kernel
theorem d197_430 : decode (mB 197) 430 = .ok (.invokevirtual 52, 3) := by decide +kernel
theorem d197_433 : decode (mB 197) 433 = .ok (.aload_n 2, 1) := by decide +kernel
theorem d197_434 : decode (mB 197) 434 = .ok (.aload_n 0, 1) := by decide +kernel
theorem d197_435 : decode (mB 197) 435 = .ok (.iload_n 3, 1) := by decide +kernel
theorem d197_436 : decode (mB 197) 436 = .ok (.iconst 1, 1) := by decide +kernel
theorem d197_437 : decode (mB 197) 437 = .ok (.iadd, 1) := by decide +kernel
theorem d197_438 : decode (mB 197) 438 = .ok (.iaload, 1) := by decide +kernel
theorem d197_439 : decode (mB 197) 439 = .ok (.aload_n 0, 1) := by decide +kernel
theorem d197_440 : decode (mB 197) 440 = .ok (.iload_n 3, 1) := by decide +kernel
theorem d197_441 : decode (mB 197) 441 = .ok (.iconst 2, 1) := by decide +kernel
theorem d197_442 : decode (mB 197) 442 = .ok (.iadd, 1) := by decide +kernel
theorem d197_443 : decode (mB 197) 443 = .ok (.iaload, 1) := by decide +kernel
theorem d197_444 : decode (mB 197) 444 = .ok (.i2l, 1) := by decide +kernel
theorem d197_445 : decode (mB 197) 445 = .ok (.bipush 32, 2) := by decide +kernel
theorem d197_447 : decode (mB 197) 447 = .ok (.lshl, 1) := by decide +kernel
theorem d197_448 : decode (mB 197) 448 = .ok (.aload_n 0, 1) := by decide +kernel
theorem d197_449 : decode (mB 197) 449 = .ok (.iload_n 3, 1) := by decide +kernel
theorem d197_450 : decode (mB 197) 450 = .ok (.iconst 3, 1) := by decide +kernel
theorem d197_451 : decode (mB 197) 451 = .ok (.iadd, 1) := by decide +kernel
theorem d197_452 : decode (mB 197) 452 = .ok (.iaload, 1) := by decide +kernel
theorem d197_453 : decode (mB 197) 453 = .ok (.i2l, 1) := by decide +kernel
theorem d197_454 : decode (mB 197) 454 = .ok (.ldc2_w 45, 3) := by decide +kernel
theorem d197_457 : decode (mB 197) 457 = .ok (.land, 1) := by decide +kernel
theorem d197_458 : decode (mB 197) 458 = .ok (.lor, 1) := by decide +kernel
theorem d197_459 : decode (mB 197) 459 = .ok (.invokevirtual 56, 3) := by decide +kernel
theorem d197_462 : decode (mB 197) 462 = .ok (.if_icmp .eq 392, 3) := by decide +kernel
theorem d197_465 : decode (mB 197) 465 = .ok (.iconst 0, 1) := by decide +kernel
theorem d197_466 : decode (mB 197) 466 = .ok (.ireturn, 1) := by decide +kernel
theorem d197_467 : decode (mB 197) 467 = .ok (.aload_n 1, 1) := by decide +kernel
theorem d197_468 : decode (mB 197) 468 = .ok (.aload_n 0, 1) := by decide +kernel
theorem d197_469 : decode (mB 197) 469 = .ok (.iload_n 3, 1) := by decide +kernel
theorem d197_470 : decode (mB 197) 470 = .ok (.iconst 1, 1) := by decide +kernel
theorem d197_471 : decode (mB 197) 471 = .ok (.iadd, 1) := by decide +kernel
theorem d197_472 : decode (mB 197) 472 = .ok (.iaload, 1) := by decide +kernel
theorem d197_473 : decode (mB 197) 473 = .ok (.aload_n 0, 1) := by decide +kernel
theorem d197_474 : decode (mB 197) 474 = .ok (.iload_n 3, 1) := by decide +kernel
theorem d197_475 : decode (mB 197) 475 = .ok (.iconst 2, 1) := by decide +kernel
theorem d197_476 : decode (mB 197) 476 = .ok (.iadd, 1) := by decide +kernel
theorem d197_477 : decode (mB 197) 477 = .ok (.iaload, 1) := by decide +kernel
theorem d197_478 : decode (mB 197) 478 = .ok (.i2l, 1) := by decide +kernel
theorem d197_479 : decode (mB 197) 479 = .ok (.bipush 32, 2) := by decide +kernel
theorem d197_481 : decode (mB 197) 481 = .ok (.lshl, 1) := by decide +kernel
theorem d197_482 : decode (mB 197) 482 = .ok (.aload_n 0, 1) := by decide +kernel
theorem d197_483 : decode (mB 197) 483 = .ok (.iload_n 3, 1) := by decide +kernel
theorem d197_484 : decode (mB 197) 484 = .ok (.iconst 3, 1) := by decide +kernel
theorem d197_485 : decode (mB 197) 485 = .ok (.iadd, 1) := by decide +kernel
theorem d197_486 : decode (mB 197) 486 = .ok (.iaload, 1) := by decide +kernel
theorem d197_487 : decode (mB 197) 487 = .ok (.i2l, 1) := by decide +kernel
theorem d197_488 : decode (mB 197) 488 = .ok (.ldc2_w 45, 3) := by decide +kernel
theorem d197_491 : decode (mB 197) 491 = .ok (.land, 1) := by decide +kernel
theorem d197_492 : decode (mB 197) 492 = .ok (.lor, 1) := by decide +kernel
theorem d197_493 : decode (mB 197) 493 = .ok (.invokevirtual 57, 3) := by decide +kernel
theorem d197_496 : decode (mB 197) 496 = .ok (.aload_n 2, 1) := by decide +kernel
theorem d197_497 : decode (mB 197) 497 = .ok (.aload_n 0, 1) := by decide +kernel
theorem d197_498 : decode (mB 197) 498 = .ok (.iload_n 3, 1) := by decide +kernel
theorem d197_499 : decode (mB 197) 499 = .ok (.iconst 1, 1) := by decide +kernel
theorem d197_500 : decode (mB 197) 500 = .ok (.iadd, 1) := by decide +kernel
theorem d197_501 : decode (mB 197) 501 = .ok (.iaload, 1) := by decide +kernel
theorem d197_502 : decode (mB 197) 502 = .ok (.aload_n 0, 1) := by decide +kernel
theorem d197_503 : decode (mB 197) 503 = .ok (.iload_n 3, 1) := by decide +kernel
theorem d197_504 : decode (mB 197) 504 = .ok (.iconst 2, 1) := by decide +kernel
theorem d197_505 : decode (mB 197) 505 = .ok (.iadd, 1) := by decide +kernel
theorem d197_506 : decode (mB 197) 506 = .ok (.iaload, 1) := by decide +kernel
theorem d197_507 : decode (mB 197) 507 = .ok (.i2l, 1) := by decide +kernel
theorem d197_508 : decode (mB 197) 508 = .ok (.bipush 32, 2) := by decide +kernel
theorem d197_510 : decode (mB 197) 510 = .ok (.lshl, 1) := by decide +kernel
theorem d197_511 : decode (mB 197) 511 = .ok (.aload_n 0, 1) := by decide +kernel
theorem d197_512 : decode (mB 197) 512 = .ok (.iload_n 3, 1) := by decide +kernel
theorem d197_513 : decode (mB 197) 513 = .ok (.iconst 3, 1) := by decide +kernel
theorem d197_514 : decode (mB 197) 514 = .ok (.iadd, 1) := by decide +kernel
theorem d197_515 : decode (mB 197) 515 = .ok (.iaload, 1) := by decide +kernel
theorem d197_516 : decode (mB 197) 516 = .ok (.i2l, 1) := by decide +kernel
theorem d197_517 : decode (mB 197) 517 = .ok (.ldc2_w 45, 3) := by decide +kernel
theorem d197_520 : decode (mB 197) 520 = .ok (.land, 1) := by decide +kernel
theorem d197_521 : decode (mB 197) 521 = .ok (.lor, 1) := by decide +kernel
theorem d197_522 : decode (mB 197) 522 = .ok (.invokevirtual 60, 3) := by decide +kernel
theorem d197_525 : decode (mB 197) 525 = .ok (.if_icmp .eq 329, 3) := by decide +kernel
theorem d197_528 : decode (mB 197) 528 = .ok (.iconst 0, 1) := by decide +kernel
theorem d197_529 : decode (mB 197) 529 = .ok (.ireturn, 1) := by decide +kernel
theorem d197_530 : decode (mB 197) 530 = .ok (.aload_n 1, 1) := by decide +kernel
theorem d197_531 : decode (mB 197) 531 = .ok (.aload_n 0, 1) := by decide +kernel
theorem d197_532 : decode (mB 197) 532 = .ok (.iload_n 3, 1) := by decide +kernel
theorem d197_533 : decode (mB 197) 533 = .ok (.iconst 1, 1) := by decide +kernel
theorem d197_534 : decode (mB 197) 534 = .ok (.iadd, 1) := by decide +kernel
theorem d197_535 : decode (mB 197) 535 = .ok (.iaload, 1) := by decide +kernel
theorem d197_536 : decode (mB 197) 536 = .ok (.invokevirtual 61, 3) := by decide +kernel
theorem d197_539 : decode (mB 197) 539 = .ok (.aload_n 2, 1) := by decide +kernel
theorem d197_540 : decode (mB 197) 540 = .ok (.aload_n 0, 1) := by decide +kernel
theorem d197_541 : decode (mB 197) 541 = .ok (.iload_n 3, 1) := by decide +kernel
theorem d197_542 : decode (mB 197) 542 = .ok (.iconst 1, 1) := by decide +kernel
theorem d197_543 : decode (mB 197) 543 = .ok (.iadd, 1) := by decide +kernel
theorem d197_544 : decode (mB 197) 544 = .ok (.iaload, 1) := by decide +kernel
theorem d197_545 : decode (mB 197) 545 = .ok (.invokevirtual 64, 3) := by decide +kernel
theorem d197_548 : decode (mB 197) 548 = .ok (.if_icmp .eq 306, 3) := by decide +kernel
theorem d197_551 : decode (mB 197) 551 = .ok (.iconst 0, 1) := by decide +kernel
theorem d197_552 : decode (mB 197) 552 = .ok (.ireturn, 1) := by decide +kernel
theorem d197_553 : decode (mB 197) 553 = .ok (.aload_n 1, 1) := by decide +kernel
theorem d197_554 : decode (mB 197) 554 = .ok (.aload_n 0, 1) := by decide +kernel
theorem d197_555 : decode (mB 197) 555 = .ok (.iload_n 3, 1) := by decide +kernel
theorem d197_556 : decode (mB 197) 556 = .ok (.iconst 1, 1) := by decide +kernel
theorem d197_557 : decode (mB 197) 557 = .ok (.iadd, 1) := by decide +kernel
theorem d197_558 : decode (mB 197) 558 = .ok (.iaload, 1) := by decide +kernel
theorem d197_559 : decode (mB 197) 559 = .ok (.invokevirtual 65, 3) := by decide +kernel
theorem d197_562 : decode (mB 197) 562 = .ok (.aload_n 2, 1) := by decide +kernel
theorem d197_563 : decode (mB 197) 563 = .ok (.aload_n 0, 1) := by decide +kernel
theorem d197_564 : decode (mB 197) 564 = .ok (.iload_n 3, 1) := by decide +kernel
theorem d197_565 : decode (mB 197) 565 = .ok (.iconst 1, 1) := by decide +kernel
theorem d197_566 : decode (mB 197) 566 = .ok (.iadd, 1) := by decide +kernel
theorem d197_567 : decode (mB 197) 567 = .ok (.iaload, 1) := by decide +kernel
theorem d197_568 : decode (mB 197) 568 = .ok (.invokevirtual 69, 3) := by decide +kernel
theorem d197_571 : decode (mB 197) 571 = .ok (.lcmp, 1) := by decide +kernel
theorem d197_572 : decode (mB 197) 572 = .ok (.ifCond .eq 282, 3) := by decide +kernel
theorem d197_575 : decode (mB 197) 575 = .ok (.iconst 0, 1) := by decide +kernel
theorem d197_576 : decode (mB 197) 576 = .ok (.ireturn, 1) := by decide +kernel
theorem d197_577 : decode (mB 197) 577 = .ok (.aload_n 1, 1) := by decide +kernel
theorem d197_578 : decode (mB 197) 578 = .ok (.aload_n 0, 1) := by decide +kernel
theorem d197_579 : decode (mB 197) 579 = .ok (.iload_n 3, 1) := by decide +kernel
theorem d197_580 : decode (mB 197) 580 = .ok (.iconst 1, 1) := by decide +kernel
theorem d197_581 : decode (mB 197) 581 = .ok (.iadd, 1) := by decide +kernel
theorem d197_582 : decode (mB 197) 582 = .ok (.iaload, 1) := by decide +kernel
theorem d197_583 : decode (mB 197) 583 = .ok (.aload_n 0, 1) := by decide +kernel
theorem d197_584 : decode (mB 197) 584 = .ok (.iload_n 3, 1) := by decide +kernel
theorem d197_585 : decode (mB 197) 585 = .ok (.iconst 2, 1) := by decide +kernel
theorem d197_586 : decode (mB 197) 586 = .ok (.iadd, 1) := by decide +kernel
theorem d197_587 : decode (mB 197) 587 = .ok (.iaload, 1) := by decide +kernel
theorem d197_588 : decode (mB 197) 588 = .ok (.invokevirtual 70, 3) := by decide +kernel
theorem d197_591 : decode (mB 197) 591 = .ok (.aload_n 2, 1) := by decide +kernel
theorem d197_592 : decode (mB 197) 592 = .ok (.aload_n 0, 1) := by decide +kernel
theorem d197_593 : decode (mB 197) 593 = .ok (.iload_n 3, 1) := by decide +kernel
theorem d197_594 : decode (mB 197) 594 = .ok (.iconst 1, 1) := by decide +kernel
theorem d197_595 : decode (mB 197) 595 = .ok (.iadd, 1) := by decide +kernel
theorem d197_596 : decode (mB 197) 596 = .ok (.iaload, 1) := by decide +kernel
theorem d197_597 : decode (mB 197) 597 = .ok (.aload_n 0, 1) := by decide +kernel
theorem d197_598 : decode (mB 197) 598 = .ok (.iload_n 3, 1) := by decide +kernel
theorem d197_599 : decode (mB 197) 599 = .ok (.iconst 2, 1) := by decide +kernel
theorem d197_600 : decode (mB 197) 600 = .ok (.iadd, 1) := by decide +kernel
theorem d197_601 : decode (mB 197) 601 = .ok (.iaload, 1) := by decide +kernel
theorem d197_602 : decode (mB 197) 602 = .ok (.invokevirtual 73, 3) := by decide +kernel
theorem d197_605 : decode (mB 197) 605 = .ok (.if_icmp .eq 249, 3) := by decide +kernel
theorem d197_608 : decode (mB 197) 608 = .ok (.iconst 0, 1) := by decide +kernel
theorem d197_609 : decode (mB 197) 609 = .ok (.ireturn, 1) := by decide +kernel
theorem d197_610 : decode (mB 197) 610 = .ok (.aload_n 1, 1) := by decide +kernel
theorem d197_611 : decode (mB 197) 611 = .ok (.aload_n 0, 1) := by decide +kernel
theorem d197_612 : decode (mB 197) 612 = .ok (.iload_n 3, 1) := by decide +kernel
theorem d197_613 : decode (mB 197) 613 = .ok (.iconst 1, 1) := by decide +kernel
theorem d197_614 : decode (mB 197) 614 = .ok (.iadd, 1) := by decide +kernel
theorem d197_615 : decode (mB 197) 615 = .ok (.iaload, 1) := by decide +kernel
theorem d197_616 : decode (mB 197) 616 = .ok (.invokevirtual 74, 3) := by decide +kernel
theorem d197_619 : decode (mB 197) 619 = .ok (.aload_n 2, 1) := by decide +kernel
theorem d197_620 : decode (mB 197) 620 = .ok (.aload_n 0, 1) := by decide +kernel
theorem d197_621 : decode (mB 197) 621 = .ok (.iload_n 3, 1) := by decide +kernel
theorem d197_622 : decode (mB 197) 622 = .ok (.iconst 1, 1) := by decide +kernel
theorem d197_623 : decode (mB 197) 623 = .ok (.iadd, 1) := by decide +kernel
theorem d197_624 : decode (mB 197) 624 = .ok (.iaload, 1) := by decide +kernel
theorem d197_625 : decode (mB 197) 625 = .ok (.invokevirtual 77, 3) := by decide +kernel
theorem d197_628 : decode (mB 197) 628 = .ok (.lcmp, 1) := by decide +kernel
theorem d197_629 : decode (mB 197) 629 = .ok (.ifCond .eq 225, 3) := by decide +kernel
theorem d197_632 : decode (mB 197) 632 = .ok (.iconst 0, 1) := by decide +kernel
theorem d197_633 : decode (mB 197) 633 = .ok (.ireturn, 1) := by decide +kernel
theorem d197_634 : decode (mB 197) 634 = .ok (.aload_n 1, 1) := by decide +kernel
theorem d197_635 : decode (mB 197) 635 = .ok (.aload_n 0, 1) := by decide +kernel
theorem d197_636 : decode (mB 197) 636 = .ok (.iload_n 3, 1) := by decide +kernel
theorem d197_637 : decode (mB 197) 637 = .ok (.iconst 1, 1) := by decide +kernel
theorem d197_638 : decode (mB 197) 638 = .ok (.iadd, 1) := by decide +kernel
theorem d197_639 : decode (mB 197) 639 = .ok (.iaload, 1) := by decide +kernel
theorem d197_640 : decode (mB 197) 640 = .ok (.aload_n 0, 1) := by decide +kernel
theorem d197_641 : decode (mB 197) 641 = .ok (.iload_n 3, 1) := by decide +kernel
theorem d197_642 : decode (mB 197) 642 = .ok (.iconst 2, 1) := by decide +kernel
theorem d197_643 : decode (mB 197) 643 = .ok (.iadd, 1) := by decide +kernel
theorem d197_644 : decode (mB 197) 644 = .ok (.iaload, 1) := by decide +kernel
theorem d197_645 : decode (mB 197) 645 = .ok (.invokevirtual 78, 3) := by decide +kernel
theorem d197_648 : decode (mB 197) 648 = .ok (.aload_n 2, 1) := by decide +kernel
theorem d197_649 : decode (mB 197) 649 = .ok (.aload_n 0, 1) := by decide +kernel
theorem d197_650 : decode (mB 197) 650 = .ok (.iload_n 3, 1) := by decide +kernel
theorem d197_651 : decode (mB 197) 651 = .ok (.iconst 1, 1) := by decide +kernel
theorem d197_652 : decode (mB 197) 652 = .ok (.iadd, 1) := by decide +kernel
theorem d197_653 : decode (mB 197) 653 = .ok (.iaload, 1) := by decide +kernel
theorem d197_654 : decode (mB 197) 654 = .ok (.aload_n 0, 1) := by decide +kernel
theorem d197_655 : decode (mB 197) 655 = .ok (.iload_n 3, 1) := by decide +kernel
theorem d197_656 : decode (mB 197) 656 = .ok (.iconst 2, 1) := by decide +kernel
theorem d197_657 : decode (mB 197) 657 = .ok (.iadd, 1) := by decide +kernel
theorem d197_658 : decode (mB 197) 658 = .ok (.iaload, 1) := by decide +kernel
theorem d197_659 : decode (mB 197) 659 = .ok (.invokevirtual 82, 3) := by decide +kernel
theorem d197_662 : decode (mB 197) 662 = .ok (.lcmp, 1) := by decide +kernel
theorem d197_663 : decode (mB 197) 663 = .ok (.ifCond .eq 191, 3) := by decide +kernel
theorem d197_666 : decode (mB 197) 666 = .ok (.iconst 0, 1) := by decide +kernel
theorem d197_667 : decode (mB 197) 667 = .ok (.ireturn, 1) := by decide +kernel
theorem d197_668 : decode (mB 197) 668 = .ok (.aload_n 1, 1) := by decide +kernel
theorem d197_669 : decode (mB 197) 669 = .ok (.aload_n 0, 1) := by decide +kernel
theorem d197_670 : decode (mB 197) 670 = .ok (.iload_n 3, 1) := by decide +kernel
theorem d197_671 : decode (mB 197) 671 = .ok (.iconst 1, 1) := by decide +kernel
theorem d197_672 : decode (mB 197) 672 = .ok (.iadd, 1) := by decide +kernel
theorem d197_673 : decode (mB 197) 673 = .ok (.iaload, 1) := by decide +kernel
theorem d197_674 : decode (mB 197) 674 = .ok (.aload_n 0, 1) := by decide +kernel
theorem d197_675 : decode (mB 197) 675 = .ok (.iload_n 3, 1) := by decide +kernel
theorem d197_676 : decode (mB 197) 676 = .ok (.iconst 2, 1) := by decide +kernel
theorem d197_677 : decode (mB 197) 677 = .ok (.iadd, 1) := by decide +kernel
theorem d197_678 : decode (mB 197) 678 = .ok (.iaload, 1) := by decide +kernel
theorem d197_679 : decode (mB 197) 679 = .ok (.aload_n 0, 1) := by decide +kernel
theorem d197_680 : decode (mB 197) 680 = .ok (.iload_n 3, 1) := by decide +kernel
theorem d197_681 : decode (mB 197) 681 = .ok (.iconst 3, 1) := by decide +kernel
theorem d197_682 : decode (mB 197) 682 = .ok (.iadd, 1) := by decide +kernel
theorem d197_683 : decode (mB 197) 683 = .ok (.iaload, 1) := by decide +kernel
theorem d197_684 : decode (mB 197) 684 = .ok (.invokevirtual 83, 3) := by decide +kernel
theorem d197_687 : decode (mB 197) 687 = .ok (.aload_n 2, 1) := by decide +kernel
theorem d197_688 : decode (mB 197) 688 = .ok (.aload_n 0, 1) := by decide +kernel
theorem d197_689 : decode (mB 197) 689 = .ok (.iload_n 3, 1) := by decide +kernel
theorem d197_690 : decode (mB 197) 690 = .ok (.iconst 1, 1) := by decide +kernel
theorem d197_691 : decode (mB 197) 691 = .ok (.iadd, 1) := by decide +kernel
theorem d197_692 : decode (mB 197) 692 = .ok (.iaload, 1) := by decide +kernel
theorem d197_693 : decode (mB 197) 693 = .ok (.aload_n 0, 1) := by decide +kernel
theorem d197_694 : decode (mB 197) 694 = .ok (.iload_n 3, 1) := by decide +kernel
theorem d197_695 : decode (mB 197) 695 = .ok (.iconst 2, 1) := by decide +kernel
theorem d197_696 : decode (mB 197) 696 = .ok (.iadd, 1) := by decide +kernel
theorem d197_697 : decode (mB 197) 697 = .ok (.iaload, 1) := by decide +kernel
theorem d197_698 : decode (mB 197) 698 = .ok (.aload_n 0, 1) := by decide +kernel
theorem d197_699 : decode (mB 197) 699 = .ok (.iload_n 3, 1) := by decide +kernel
theorem d197_700 : decode (mB 197) 700 = .ok (.iconst 3, 1) := by decide +kernel
theorem d197_701 : decode (mB 197) 701 = .ok (.iadd, 1) := by decide +kernel
theorem d197_702 : decode (mB 197) 702 = .ok (.iaload, 1) := by decide +kernel
theorem d197_703 : decode (mB 197) 703 = .ok (.invokevirtual 87, 3) := by decide +kernel
theorem d197_706 : decode (mB 197) 706 = .ok (.if_icmp .eq 148, 3) := by decide +kernel
theorem d197_709 : decode (mB 197) 709 = .ok (.iconst 0, 1) := by decide +kernel
theorem d197_710 : decode (mB 197) 710 = .ok (.ireturn, 1) := by decide +kernel
theorem d197_711 : decode (mB 197) 711 = .ok (.aload_n 1, 1) := by decide +kernel
theorem d197_712 : decode (mB 197) 712 = .ok (.aload_n 0, 1) := by decide +kernel
theorem d197_713 : decode (mB 197) 713 = .ok (.iload_n 3, 1) := by decide +kernel
theorem d197_714 : decode (mB 197) 714 = .ok (.iconst 1, 1) := by decide +kernel
theorem d197_715 : decode (mB 197) 715 = .ok (.iadd, 1) := by decide +kernel
theorem d197_716 : decode (mB 197) 716 = .ok (.iaload, 1) := by decide +kernel
theorem d197_717 : decode (mB 197) 717 = .ok (.aload_n 0, 1) := by decide +kernel
theorem d197_718 : decode (mB 197) 718 = .ok (.iload_n 3, 1) := by decide +kernel
theorem d197_719 : decode (mB 197) 719 = .ok (.iconst 2, 1) := by decide +kernel
theorem d197_720 : decode (mB 197) 720 = .ok (.iadd, 1) := by decide +kernel
theorem d197_721 : decode (mB 197) 721 = .ok (.iaload, 1) := by decide +kernel
theorem d197_722 : decode (mB 197) 722 = .ok (.invokevirtual 88, 3) := by decide +kernel
theorem d197_725 : decode (mB 197) 725 = .ok (.aload_n 2, 1) := by decide +kernel
theorem d197_726 : decode (mB 197) 726 = .ok (.aload_n 0, 1) := by decide +kernel
theorem d197_727 : decode (mB 197) 727 = .ok (.iload_n 3, 1) := by decide +kernel
theorem d197_728 : decode (mB 197) 728 = .ok (.iconst 1, 1) := by decide +kernel
theorem d197_729 : decode (mB 197) 729 = .ok (.iadd, 1) := by decide +kernel
theorem d197_730 : decode (mB 197) 730 = .ok (.iaload, 1) := by decide +kernel
theorem d197_731 : decode (mB 197) 731 = .ok (.aload_n 0, 1) := by decide +kernel
theorem d197_732 : decode (mB 197) 732 = .ok (.iload_n 3, 1) := by decide +kernel
theorem d197_733 : decode (mB 197) 733 = .ok (.iconst 2, 1) := by decide +kernel
theorem d197_734 : decode (mB 197) 734 = .ok (.iadd, 1) := by decide +kernel
theorem d197_735 : decode (mB 197) 735 = .ok (.iaload, 1) := by decide +kernel
theorem d197_736 : decode (mB 197) 736 = .ok (.invokevirtual 91, 3) := by decide +kernel
theorem d197_739 : decode (mB 197) 739 = .ok (.lcmp, 1) := by decide +kernel
theorem d197_740 : decode (mB 197) 740 = .ok (.ifCond .eq 114, 3) := by decide +kernel
theorem d197_743 : decode (mB 197) 743 = .ok (.iconst 0, 1) := by decide +kernel
theorem d197_744 : decode (mB 197) 744 = .ok (.ireturn, 1) := by decide +kernel
theorem d197_745 : decode (mB 197) 745 = .ok (.aload_n 1, 1) := by decide +kernel
theorem d197_746 : decode (mB 197) 746 = .ok (.invokevirtual 92, 3) := by decide +kernel
theorem d197_749 : decode (mB 197) 749 = .ok (.aload_n 2, 1) := by decide +kernel
theorem d197_750 : decode (mB 197) 750 = .ok (.invokevirtual 95, 3) := by decide +kernel
theorem d197_753 : decode (mB 197) 753 = .ok (.if_icmp .eq 101, 3) := by decide +kernel
theorem d197_756 : decode (mB 197) 756 = .ok (.iconst 0, 1) := by decide +kernel
theorem d197_757 : decode (mB 197) 757 = .ok (.ireturn, 1) := by decide +kernel
theorem d197_758 : decode (mB 197) 758 = .ok (.aload_n 1, 1) := by decide +kernel
theorem d197_759 : decode (mB 197) 759 = .ok (.invokevirtual 96, 3) := by decide +kernel
theorem d197_762 : decode (mB 197) 762 = .ok (.aload_n 2, 1) := by decide +kernel
theorem d197_763 : decode (mB 197) 763 = .ok (.invokevirtual 99, 3) := by decide +kernel
theorem d197_766 : decode (mB 197) 766 = .ok (.if_icmp .eq 88, 3) := by decide +kernel
theorem d197_769 : decode (mB 197) 769 = .ok (.iconst 0, 1) := by decide +kernel
theorem d197_770 : decode (mB 197) 770 = .ok (.ireturn, 1) := by decide +kernel
theorem d197_771 : decode (mB 197) 771 = .ok (.aload_n 1, 1) := by decide +kernel
theorem d197_772 : decode (mB 197) 772 = .ok (.invokevirtual 100, 3) := by decide +kernel
theorem d197_775 : decode (mB 197) 775 = .ok (.aload_n 2, 1) := by decide +kernel
theorem d197_776 : decode (mB 197) 776 = .ok (.invokevirtual 103, 3) := by decide +kernel
theorem d197_779 : decode (mB 197) 779 = .ok (.if_icmp .eq 75, 3) := by decide +kernel
theorem d197_782 : decode (mB 197) 782 = .ok (.iconst 0, 1) := by decide +kernel
theorem d197_783 : decode (mB 197) 783 = .ok (.ireturn, 1) := by decide +kernel
theorem d197_784 : decode (mB 197) 784 = .ok (.aload_n 1, 1) := by decide +kernel
theorem d197_785 : decode (mB 197) 785 = .ok (.aload_n 0, 1) := by decide +kernel
theorem d197_786 : decode (mB 197) 786 = .ok (.iload_n 3, 1) := by decide +kernel
theorem d197_787 : decode (mB 197) 787 = .ok (.iconst 1, 1) := by decide +kernel
theorem d197_788 : decode (mB 197) 788 = .ok (.iadd, 1) := by decide +kernel
theorem d197_789 : decode (mB 197) 789 = .ok (.iaload, 1) := by decide +kernel
theorem d197_790 : decode (mB 197) 790 = .ok (.aload_n 0, 1) := by decide +kernel
theorem d197_791 : decode (mB 197) 791 = .ok (.iload_n 3, 1) := by decide +kernel
theorem d197_792 : decode (mB 197) 792 = .ok (.iconst 2, 1) := by decide +kernel
theorem d197_793 : decode (mB 197) 793 = .ok (.iadd, 1) := by decide +kernel
theorem d197_794 : decode (mB 197) 794 = .ok (.iaload, 1) := by decide +kernel
theorem d197_795 : decode (mB 197) 795 = .ok (.invokevirtual 104, 3) := by decide +kernel
theorem d197_798 : decode (mB 197) 798 = .ok (.aload_n 2, 1) := by decide +kernel
theorem d197_799 : decode (mB 197) 799 = .ok (.aload_n 0, 1) := by decide +kernel
theorem d197_800 : decode (mB 197) 800 = .ok (.iload_n 3, 1) := by decide +kernel
theorem d197_801 : decode (mB 197) 801 = .ok (.iconst 1, 1) := by decide +kernel
theorem d197_802 : decode (mB 197) 802 = .ok (.iadd, 1) := by decide +kernel
theorem d197_803 : decode (mB 197) 803 = .ok (.iaload, 1) := by decide +kernel
theorem d197_804 : decode (mB 197) 804 = .ok (.aload_n 0, 1) := by decide +kernel
theorem d197_805 : decode (mB 197) 805 = .ok (.iload_n 3, 1) := by decide +kernel
theorem d197_806 : decode (mB 197) 806 = .ok (.iconst 2, 1) := by decide +kernel
theorem d197_807 : decode (mB 197) 807 = .ok (.iadd, 1) := by decide +kernel
theorem d197_808 : decode (mB 197) 808 = .ok (.iaload, 1) := by decide +kernel
theorem d197_809 : decode (mB 197) 809 = .ok (.invokevirtual 107, 3) := by decide +kernel
theorem d197_812 : decode (mB 197) 812 = .ok (.if_icmp .eq 42, 3) := by decide +kernel
theorem d197_815 : decode (mB 197) 815 = .ok (.iconst 0, 1) := by decide +kernel
theorem d197_816 : decode (mB 197) 816 = .ok (.ireturn, 1) := by decide +kernel
theorem d197_817 : decode (mB 197) 817 = .ok (.aload_n 1, 1) := by decide +kernel
theorem d197_818 : decode (mB 197) 818 = .ok (.aload_n 0, 1) := by decide +kernel
theorem d197_819 : decode (mB 197) 819 = .ok (.iload_n 3, 1) := by decide +kernel
theorem d197_820 : decode (mB 197) 820 = .ok (.iconst 1, 1) := by decide +kernel
theorem d197_821 : decode (mB 197) 821 = .ok (.iadd, 1) := by decide +kernel
theorem d197_822 : decode (mB 197) 822 = .ok (.iaload, 1) := by decide +kernel
theorem d197_823 : decode (mB 197) 823 = .ok (.invokevirtual 108, 3) := by decide +kernel
theorem d197_826 : decode (mB 197) 826 = .ok (.aload_n 2, 1) := by decide +kernel
theorem d197_827 : decode (mB 197) 827 = .ok (.aload_n 0, 1) := by decide +kernel
theorem d197_828 : decode (mB 197) 828 = .ok (.iload_n 3, 1) := by decide +kernel
theorem d197_829 : decode (mB 197) 829 = .ok (.iconst 1, 1) := by decide +kernel
theorem d197_830 : decode (mB 197) 830 = .ok (.iadd, 1) := by decide +kernel
theorem d197_831 : decode (mB 197) 831 = .ok (.iaload, 1) := by decide +kernel
theorem d197_832 : decode (mB 197) 832 = .ok (.invokevirtual 111, 3) := by decide +kernel
theorem d197_835 : decode (mB 197) 835 = .ok (.lcmp, 1) := by decide +kernel
theorem d197_836 : decode (mB 197) 836 = .ok (.ifCond .eq 18, 3) := by decide +kernel
theorem d197_839 : decode (mB 197) 839 = .ok (.iconst 0, 1) := by decide +kernel
theorem d197_840 : decode (mB 197) 840 = .ok (.ireturn, 1) := by decide +kernel
theorem d197_841 : decode (mB 197) 841 = .ok (.aload_n 1, 1) := by decide +kernel
theorem d197_842 : decode (mB 197) 842 = .ok (.invokevirtual 112, 3) := by decide +kernel
theorem d197_845 : decode (mB 197) 845 = .ok (.aload_n 2, 1) := by decide +kernel
theorem d197_846 : decode (mB 197) 846 = .ok (.invokevirtual 115, 3) := by decide +kernel
theorem d197_849 : decode (mB 197) 849 = .ok (.if_icmp .eq 5, 3) := by decide +kernel
theorem d197_852 : decode (mB 197) 852 = .ok (.iconst 0, 1) := by decide +kernel
theorem d197_853 : decode (mB 197) 853 = .ok (.ireturn, 1) := by decide +kernel
theorem d197_854 : decode (mB 197) 854 = .ok (.iinc 3 6, 3) := by decide +kernel
theorem d197_857 : decode (mB 197) 857 = .ok (.goto (-839), 3) := by decide +kernel
theorem d197_860 : decode (mB 197) 860 = .ok (.iconst 1, 1) := by decide +kernel
theorem d197_861 : decode (mB 197) 861 = .ok (.ireturn, 1) := by decide +kernel
