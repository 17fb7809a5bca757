/-! what stands at each place of the code -/
theorem d0_0 : decode (mB 0) 0 = .ok (.aload_n 0, 1) := by decide +kernel
theorem d0_1 : decode (mB 0) 1 = .ok (.invokespecial 3, 3) := by decide +kernel
theorem d0_4 : decode (mB 0) 4 = .ok (.aload_n 0, 1) := by decide +kernel
theorem d0_5 : decode (mB 0) 5 = .ok (.sipush 800, 3) := by decide +kernel
theorem d0_8 : decode (mB 0) 8 = .ok (.newarray .int, 2) := by decide +kernel
theorem d0_10 : decode (mB 0) 10 = .ok (.putfield 9, 3) := by decide +kernel
theorem d0_13 : decode (mB 0) 13 = .ok (.aload_n 0, 1) := by decide +kernel
theorem d0_14 : decode (mB 0) 14 = .ok (.new 13, 3) := by decide +kernel
theorem d0_17 : decode (mB 0) 17 = .ok (.dup, 1) := by decide +kernel
theorem d0_18 : decode (mB 0) 18 = .ok (.invokespecial 15, 3) := by decide +kernel
theorem d0_21 : decode (mB 0) 21 = .ok (.putfield 16, 3) := by decide +kernel
theorem d0_24 : decode (mB 0) 24 = .ok (.aload_n 0, 1) := by decide +kernel
theorem d0_25 : decode (mB 0) 25 = .ok (.bipush 12, 2) := by decide +kernel
theorem d0_27 : decode (mB 0) 27 = .ok (.anewarray 20, 3) := by decide +kernel
theorem d0_30 : decode (mB 0) 30 = .ok (.putfield 22, 3) := by decide +kernel
theorem d0_33 : decode (mB 0) 33 = .ok (.iconst 0, 1) := by decide +kernel
theorem d0_34 : decode (mB 0) 34 = .ok (.istore_n 1, 1) := by decide +kernel
theorem d0_35 : decode (mB 0) 35 = .ok (.iload_n 1, 1) := by decide +kernel
theorem d0_36 : decode (mB 0) 36 = .ok (.bipush 12, 2) := by decide +kernel
theorem d0_38 : decode (mB 0) 38 = .ok (.if_icmp .ge 22, 3) := by decide +kernel
theorem d0_41 : decode (mB 0) 41 = .ok (.aload_n 0, 1) := by decide +kernel
theorem d0_42 : decode (mB 0) 42 = .ok (.getfield 22, 3) := by decide +kernel
theorem d0_45 : decode (mB 0) 45 = .ok (.iload_n 1, 1) := by decide +kernel
theorem d0_46 : decode (mB 0) 46 = .ok (.new 20, 3) := by decide +kernel
theorem d0_49 : decode (mB 0) 49 = .ok (.dup, 1) := by decide +kernel
theorem d0_50 : decode (mB 0) 50 = .ok (.invokespecial 26, 3) := by decide +kernel
theorem d0_53 : decode (mB 0) 53 = .ok (.aastore, 1) := by decide +kernel
theorem d0_54 : decode (mB 0) 54 = .ok (.iinc 1 1, 3) := by decide +kernel
theorem d0_57 : decode (mB 0) 57 = .ok (.goto (-22), 3) := by decide +kernel
theorem d0_60 : decode (mB 0) 60 = .ok (.aload_n 0, 1) := by decide +kernel
theorem d0_61 : decode (mB 0) 61 = .ok (.iconst (-1), 1) := by decide +kernel
theorem d0_62 : decode (mB 0) 62 = .ok (.putfield 27, 3) := by decide +kernel
theorem d0_65 : decode (mB 0) 65 = .ok (.aload_n 0, 1) := by decide +kernel
theorem d0_66 : decode (mB 0) 66 = .ok (.new 31, 3) := by decide +kernel
theorem d0_69 : decode (mB 0) 69 = .ok (.dup, 1) := by decide +kernel
theorem d0_70 : decode (mB 0) 70 = .ok (.invokespecial 33, 3) := by decide +kernel
theorem d0_73 : decode (mB 0) 73 = .ok (.putfield 34, 3) := by decide +kernel
theorem d0_76 : decode (mB 0) 76 = .ok (.return_, 1) := by decide +kernel
theorem d10_0 : decode (mB 10) 0 = .ok (.aload_n 0, 1) := by decide +kernel
theorem d10_1 : decode (mB 10) 1 = .ok (.getfield 38, 3) := by decide +kernel
theorem d10_4 : decode (mB 10) 4 = .ok (.bipush 20, 2) := by decide +kernel
theorem d10_6 : decode (mB 10) 6 = .ok (.iadd, 1) := by decide +kernel
theorem d10_7 : decode (mB 10) 7 = .ok (.sipush 800, 3) := by decide +kernel
theorem d10_10 : decode (mB 10) 10 = .ok (.if_icmp .le 5, 3) := by decide +kernel
theorem d10_13 : decode (mB 10) 13 = .ok (.iconst (-1), 1) := by decide +kernel
theorem d10_14 : decode (mB 10) 14 = .ok (.ireturn, 1) := by decide +kernel
theorem d10_15 : decode (mB 10) 15 = .ok (.aload_n 0, 1) := by decide +kernel
theorem d10_16 : decode (mB 10) 16 = .ok (.iload_n 1, 1) := by decide +kernel
theorem d10_17 : decode (mB 10) 17 = .ok (.invokevirtual 41, 3) := by decide +kernel
theorem d10_20 : decode (mB 10) 20 = .ok (.aload_n 0, 1) := by decide +kernel
theorem d10_21 : decode (mB 10) 21 = .ok (.iload_n 2, 1) := by decide +kernel
theorem d10_22 : decode (mB 10) 22 = .ok (.invokevirtual 41, 3) := by decide +kernel
theorem d10_25 : decode (mB 10) 25 = .ok (.aload_n 0, 1) := by decide +kernel
theorem d10_26 : decode (mB 10) 26 = .ok (.iload_n 3, 1) := by decide +kernel
theorem d10_27 : decode (mB 10) 27 = .ok (.invokevirtual 41, 3) := by decide +kernel
theorem d10_30 : decode (mB 10) 30 = .ok (.aload_n 0, 1) := by decide +kernel
theorem d10_31 : decode (mB 10) 31 = .ok (.iload 4, 2) := by decide +kernel
theorem d10_33 : decode (mB 10) 33 = .ok (.invokevirtual 41, 3) := by decide +kernel
theorem d10_36 : decode (mB 10) 36 = .ok (.aload_n 0, 1) := by decide +kernel
theorem d10_37 : decode (mB 10) 37 = .ok (.iload 5, 2) := by decide +kernel
theorem d10_39 : decode (mB 10) 39 = .ok (.invokevirtual 41, 3) := by decide +kernel
theorem d10_42 : decode (mB 10) 42 = .ok (.aload_n 0, 1) := by decide +kernel
theorem d10_43 : decode (mB 10) 43 = .ok (.getfield 38, 3) := by decide +kernel
theorem d10_46 : decode (mB 10) 46 = .ok (.ireturn, 1) := by decide +kernel
theorem d11_0 : decode (mB 11) 0 = .ok (.bipush 24, 2) := by decide +kernel
theorem d11_2 : decode (mB 11) 2 = .ok (.istore_n 2, 1) := by decide +kernel
theorem d11_3 : decode (mB 11) 3 = .ok (.iload_n 2, 1) := by decide +kernel
theorem d11_4 : decode (mB 11) 4 = .ok (.ifCond .lt 35, 3) := by decide +kernel
theorem d11_7 : decode (mB 11) 7 = .ok (.aload_n 0, 1) := by decide +kernel
theorem d11_8 : decode (mB 11) 8 = .ok (.getfield 9, 3) := by decide +kernel
theorem d11_11 : decode (mB 11) 11 = .ok (.aload_n 0, 1) := by decide +kernel
theorem d11_12 : decode (mB 11) 12 = .ok (.getfield 38, 3) := by decide +kernel
theorem d11_15 : decode (mB 11) 15 = .ok (.iload_n 1, 1) := by decide +kernel
theorem d11_16 : decode (mB 11) 16 = .ok (.iload_n 2, 1) := by decide +kernel
theorem d11_17 : decode (mB 11) 17 = .ok (.iushr, 1) := by decide +kernel
theorem d11_18 : decode (mB 11) 18 = .ok (.sipush 255, 3) := by decide +kernel
theorem d11_21 : decode (mB 11) 21 = .ok (.iand, 1) := by decide +kernel
theorem d11_22 : decode (mB 11) 22 = .ok (.iastore, 1) := by decide +kernel
theorem d11_23 : decode (mB 11) 23 = .ok (.aload_n 0, 1) := by decide +kernel
theorem d11_24 : decode (mB 11) 24 = .ok (.dup, 1) := by decide +kernel
theorem d11_25 : decode (mB 11) 25 = .ok (.getfield 38, 3) := by decide +kernel
theorem d11_28 : decode (mB 11) 28 = .ok (.iconst 1, 1) := by decide +kernel
theorem d11_29 : decode (mB 11) 29 = .ok (.iadd, 1) := by decide +kernel
theorem d11_30 : decode (mB 11) 30 = .ok (.putfield 38, 3) := by decide +kernel
theorem d11_33 : decode (mB 11) 33 = .ok (.iinc 2 (-8), 3) := by decide +kernel
theorem d11_36 : decode (mB 11) 36 = .ok (.goto (-33), 3) := by decide +kernel
theorem d11_39 : decode (mB 11) 39 = .ok (.return_, 1) := by decide +kernel
theorem d12_0 : decode (mB 12) 0 = .ok (.iload_n 1, 1) := by decide +kernel
theorem d12_1 : decode (mB 12) 1 = .ok (.ifCond .lt 18, 3) := by decide +kernel
theorem d12_4 : decode (mB 12) 4 = .ok (.iload_n 1, 1) := by decide +kernel
theorem d12_5 : decode (mB 12) 5 = .ok (.bipush 20, 2) := by decide +kernel
theorem d12_7 : decode (mB 12) 7 = .ok (.if_icmp .gt 12, 3) := by decide +kernel
theorem d12_10 : decode (mB 12) 10 = .ok (.aload_n 0, 1) := by decide +kernel
theorem d12_11 : decode (mB 12) 11 = .ok (.getfield 38, 3) := by decide +kernel
theorem d12_14 : decode (mB 12) 14 = .ok (.bipush 20, 2) := by decide +kernel
theorem d12_16 : decode (mB 12) 16 = .ok (.if_icmp .ge 5, 3) := by decide +kernel
theorem d12_19 : decode (mB 12) 19 = .ok (.iconst (-1), 1) := by decide +kernel
theorem d12_20 : decode (mB 12) 20 = .ok (.ireturn, 1) := by decide +kernel
theorem d12_21 : decode (mB 12) 21 = .ok (.aload_n 0, 1) := by decide +kernel
theorem d12_22 : decode (mB 12) 22 = .ok (.aload_n 0, 1) := by decide +kernel
theorem d12_23 : decode (mB 12) 23 = .ok (.getfield 38, 3) := by decide +kernel
theorem d12_26 : decode (mB 12) 26 = .ok (.bipush 20, 2) := by decide +kernel
theorem d12_28 : decode (mB 12) 28 = .ok (.isub, 1) := by decide +kernel
theorem d12_29 : decode (mB 12) 29 = .ok (.iload_n 1, 1) := by decide +kernel
theorem d12_30 : decode (mB 12) 30 = .ok (.iadd, 1) := by decide +kernel
theorem d12_31 : decode (mB 12) 31 = .ok (.putfield 38, 3) := by decide +kernel
theorem d12_34 : decode (mB 12) 34 = .ok (.aload_n 0, 1) := by decide +kernel
theorem d12_35 : decode (mB 12) 35 = .ok (.getfield 38, 3) := by decide +kernel
theorem d12_38 : decode (mB 12) 38 = .ok (.ireturn, 1) := by decide +kernel
theorem d13_0 : decode (mB 13) 0 = .ok (.aload_n 0, 1) := by decide +kernel
theorem d13_1 : decode (mB 13) 1 = .ok (.getfield 45, 3) := by decide +kernel
theorem d13_4 : decode (mB 13) 4 = .ok (.bipush 12, 2) := by decide +kernel
theorem d13_6 : decode (mB 13) 6 = .ok (.if_icmp .lt 5, 3) := by decide +kernel
theorem d13_9 : decode (mB 13) 9 = .ok (.iconst (-1), 1) := by decide +kernel
theorem d13_10 : decode (mB 13) 10 = .ok (.ireturn, 1) := by decide +kernel
theorem d13_11 : decode (mB 13) 11 = .ok (.aload_n 0, 1) := by decide +kernel
theorem d13_12 : decode (mB 13) 12 = .ok (.aload_n 0, 1) := by decide +kernel
theorem d13_13 : decode (mB 13) 13 = .ok (.getfield 16, 3) := by decide +kernel
theorem d13_16 : decode (mB 13) 16 = .ok (.aload_n 0, 1) := by decide +kernel
theorem d13_17 : decode (mB 13) 17 = .ok (.getfield 9, 3) := by decide +kernel
theorem d13_20 : decode (mB 13) 20 = .ok (.aload_n 0, 1) := by decide +kernel
theorem d13_21 : decode (mB 13) 21 = .ok (.getfield 38, 3) := by decide +kernel
theorem d13_24 : decode (mB 13) 24 = .ok (.aload_n 0, 1) := by decide +kernel
theorem d13_25 : decode (mB 13) 25 = .ok (.getfield 22, 3) := by decide +kernel
theorem d13_28 : decode (mB 13) 28 = .ok (.aload_n 0, 1) := by decide +kernel
theorem d13_29 : decode (mB 13) 29 = .ok (.getfield 45, 3) := by decide +kernel
theorem d13_32 : decode (mB 13) 32 = .ok (.aaload, 1) := by decide +kernel
theorem d13_33 : decode (mB 13) 33 = .ok (.invokevirtual 48, 3) := by decide +kernel
theorem d13_36 : decode (mB 13) 36 = .ok (.putfield 27, 3) := by decide +kernel
theorem d13_39 : decode (mB 13) 39 = .ok (.aload_n 0, 1) := by decide +kernel
theorem d13_40 : decode (mB 13) 40 = .ok (.iconst 0, 1) := by decide +kernel
theorem d13_41 : decode (mB 13) 41 = .ok (.putfield 38, 3) := by decide +kernel
theorem d13_44 : decode (mB 13) 44 = .ok (.aload_n 0, 1) := by decide +kernel
theorem d13_45 : decode (mB 13) 45 = .ok (.getfield 27, 3) := by decide +kernel
theorem d13_48 : decode (mB 13) 48 = .ok (.iconst (-1), 1) := by decide +kernel
theorem d13_49 : decode (mB 13) 49 = .ok (.if_icmp .eq 6, 3) := by decide +kernel
theorem d13_52 : decode (mB 13) 52 = .ok (.bipush (-2), 2) := by decide +kernel
theorem d13_54 : decode (mB 13) 54 = .ok (.ireturn, 1) := by decide +kernel
theorem d13_55 : decode (mB 13) 55 = .ok (.aload_n 0, 1) := by decide +kernel
theorem d13_56 : decode (mB 13) 56 = .ok (.dup, 1) := by decide +kernel
theorem d13_57 : decode (mB 13) 57 = .ok (.getfield 45, 3) := by decide +kernel
theorem d13_60 : decode (mB 13) 60 = .ok (.iconst 1, 1) := by decide +kernel
theorem d13_61 : decode (mB 13) 61 = .ok (.iadd, 1) := by decide +kernel
theorem d13_62 : decode (mB 13) 62 = .ok (.putfield 45, 3) := by decide +kernel
theorem d13_65 : decode (mB 13) 65 = .ok (.aload_n 0, 1) := by decide +kernel
theorem d13_66 : decode (mB 13) 66 = .ok (.getfield 45, 3) := by decide +kernel
theorem d13_69 : decode (mB 13) 69 = .ok (.iconst 1, 1) := by decide +kernel
theorem d13_70 : decode (mB 13) 70 = .ok (.isub, 1) := by decide +kernel
theorem d13_71 : decode (mB 13) 71 = .ok (.ireturn, 1) := by decide +kernel
theorem d53_0 : decode (mB 53) 0 = .ok (.aload_n 0, 1) := by decide +kernel
theorem d53_1 : decode (mB 53) 1 = .ok (.getfield 27, 3) := by decide +kernel
theorem d53_4 : decode (mB 53) 4 = .ok (.ireturn, 1) := by decide +kernel
theorem d54_0 : decode (mB 54) 0 = .ok (.aload_n 0, 1) := by decide +kernel
theorem d54_1 : decode (mB 54) 1 = .ok (.iload_n 1, 1) := by decide +kernel
theorem d54_2 : decode (mB 54) 2 = .ok (.invokevirtual 52, 3) := by decide +kernel
theorem d54_5 : decode (mB 54) 5 = .ok (.ifCond .ne 5, 3) := by decide +kernel
theorem d54_8 : decode (mB 54) 8 = .ok (.iconst (-1), 1) := by decide +kernel
theorem d54_9 : decode (mB 54) 9 = .ok (.ireturn, 1) := by decide +kernel
theorem d54_10 : decode (mB 54) 10 = .ok (.iload_n 2, 1) := by decide +kernel
theorem d54_11 : decode (mB 54) 11 = .ok (.tableswitch 55 0 2 #[25, 35, 45], 25) := by decide +kernel
theorem d54_36 : decode (mB 54) 36 = .ok (.aload_n 0, 1) := by decide +kernel
theorem d54_37 : decode (mB 54) 37 = .ok (.getfield 22, 3) := by decide +kernel
theorem d54_40 : decode (mB 54) 40 = .ok (.iload_n 1, 1) := by decide +kernel
theorem d54_41 : decode (mB 54) 41 = .ok (.aaload, 1) := by decide +kernel
theorem d54_42 : decode (mB 54) 42 = .ok (.getfield 56, 3) := by decide +kernel
theorem d54_45 : decode (mB 54) 45 = .ok (.ireturn, 1) := by decide +kernel
theorem d54_46 : decode (mB 54) 46 = .ok (.aload_n 0, 1) := by decide +kernel
theorem d54_47 : decode (mB 54) 47 = .ok (.getfield 22, 3) := by decide +kernel
theorem d54_50 : decode (mB 54) 50 = .ok (.iload_n 1, 1) := by decide +kernel
theorem d54_51 : decode (mB 54) 51 = .ok (.aaload, 1) := by decide +kernel
theorem d54_52 : decode (mB 54) 52 = .ok (.getfield 59, 3) := by decide +kernel
theorem d54_55 : decode (mB 54) 55 = .ok (.ireturn, 1) := by decide +kernel
theorem d54_56 : decode (mB 54) 56 = .ok (.aload_n 0, 1) := by decide +kernel
theorem d54_57 : decode (mB 54) 57 = .ok (.getfield 22, 3) := by decide +kernel
theorem d54_60 : decode (mB 54) 60 = .ok (.iload_n 1, 1) := by decide +kernel
theorem d54_61 : decode (mB 54) 61 = .ok (.aaload, 1) := by decide +kernel
theorem d54_62 : decode (mB 54) 62 = .ok (.getfield 62, 3) := by decide +kernel
theorem d54_65 : decode (mB 54) 65 = .ok (.ireturn, 1) := by decide +kernel
theorem d54_66 : decode (mB 54) 66 = .ok (.iconst (-1), 1) := by decide +kernel
theorem d54_67 : decode (mB 54) 67 = .ok (.ireturn, 1) := by decide +kernel
theorem d56_0 : decode (mB 56) 0 = .ok (.iload_n 1, 1) := by decide +kernel
theorem d56_1 : decode (mB 56) 1 = .ok (.invokestatic 65, 3) := by decide +kernel
theorem d56_4 : decode (mB 56) 4 = .ok (.ifCond .eq 19, 3) := by decide +kernel
theorem d56_7 : decode (mB 56) 7 = .ok (.aload_n 0, 1) := by decide +kernel
theorem d56_8 : decode (mB 56) 8 = .ok (.iload_n 2, 1) := by decide +kernel
theorem d56_9 : decode (mB 56) 9 = .ok (.invokevirtual 52, 3) := by decide +kernel
theorem d56_12 : decode (mB 56) 12 = .ok (.ifCond .eq 11, 3) := by decide +kernel
theorem d56_15 : decode (mB 56) 15 = .ok (.aload_n 0, 1) := by decide +kernel
theorem d56_16 : decode (mB 56) 16 = .ok (.iload_n 1, 1) := by decide +kernel
theorem d56_17 : decode (mB 56) 17 = .ok (.invokevirtual 68, 3) := by decide +kernel
theorem d56_20 : decode (mB 56) 20 = .ok (.ifCond .eq 5, 3) := by decide +kernel
theorem d56_23 : decode (mB 56) 23 = .ok (.iconst (-1), 1) := by decide +kernel
theorem d56_24 : decode (mB 56) 24 = .ok (.ireturn, 1) := by decide +kernel
theorem d56_25 : decode (mB 56) 25 = .ok (.aload_n 0, 1) := by decide +kernel
theorem d56_26 : decode (mB 56) 26 = .ok (.getfield 34, 3) := by decide +kernel
theorem d56_29 : decode (mB 56) 29 = .ok (.getfield 71, 3) := by decide +kernel
theorem d56_32 : decode (mB 56) 32 = .ok (.iload_n 1, 1) := by decide +kernel
theorem d56_33 : decode (mB 56) 33 = .ok (.aaload, 1) := by decide +kernel
theorem d56_34 : decode (mB 56) 34 = .ok (.aload_n 0, 1) := by decide +kernel
theorem d56_35 : decode (mB 56) 35 = .ok (.getfield 22, 3) := by decide +kernel
theorem d56_38 : decode (mB 56) 38 = .ok (.iload_n 2, 1) := by decide +kernel
theorem d56_39 : decode (mB 56) 39 = .ok (.aaload, 1) := by decide +kernel
theorem d56_40 : decode (mB 56) 40 = .ok (.invokevirtual 75, 3) := by decide +kernel
theorem d56_43 : decode (mB 56) 43 = .ok (.iconst 1, 1) := by decide +kernel
theorem d56_44 : decode (mB 56) 44 = .ok (.ireturn, 1) := by decide +kernel
theorem d64_0 : decode (mB 64) 0 = .ok (.aload_n 0, 1) := by decide +kernel
theorem d64_1 : decode (mB 64) 1 = .ok (.iload_n 1, 1) := by decide +kernel
theorem d64_2 : decode (mB 64) 2 = .ok (.invokevirtual 68, 3) := by decide +kernel
theorem d64_5 : decode (mB 64) 5 = .ok (.ifCond .ne 5, 3) := by decide +kernel
theorem d64_8 : decode (mB 64) 8 = .ok (.iconst (-1), 1) := by decide +kernel
theorem d64_9 : decode (mB 64) 9 = .ok (.ireturn, 1) := by decide +kernel
theorem d64_10 : decode (mB 64) 10 = .ok (.aload_n 0, 1) := by decide +kernel
theorem d64_11 : decode (mB 64) 11 = .ok (.getfield 34, 3) := by decide +kernel
theorem d64_14 : decode (mB 64) 14 = .ok (.aload_n 0, 1) := by decide +kernel
theorem d64_15 : decode (mB 64) 15 = .ok (.getfield 34, 3) := by decide +kernel
theorem d64_18 : decode (mB 64) 18 = .ok (.getfield 71, 3) := by decide +kernel
theorem d64_21 : decode (mB 64) 21 = .ok (.iload_n 1, 1) := by decide +kernel
theorem d64_22 : decode (mB 64) 22 = .ok (.aaload, 1) := by decide +kernel
theorem d64_23 : decode (mB 64) 23 = .ok (.invokevirtual 81, 3) := by decide +kernel
theorem d64_26 : decode (mB 64) 26 = .ok (.ireturn, 1) := by decide +kernel
theorem d96_0 : decode (mB 96) 0 = .ok (.iload_n 3, 1) := by decide +kernel
theorem d96_1 : decode (mB 96) 1 = .ok (.ifCond .lt 10, 3) := by decide +kernel
theorem d96_4 : decode (mB 96) 4 = .ok (.iload_n 3, 1) := by decide +kernel
theorem d96_5 : decode (mB 96) 5 = .ok (.sipush 2000, 3) := by decide +kernel
theorem d96_8 : decode (mB 96) 8 = .ok (.if_icmp .le 5, 3) := by decide +kernel
theorem d96_11 : decode (mB 96) 11 = .ok (.iconst (-1), 1) := by decide +kernel
theorem d96_12 : decode (mB 96) 12 = .ok (.ireturn, 1) := by decide +kernel
theorem d96_13 : decode (mB 96) 13 = .ok (.iconst 0, 1) := by decide +kernel
theorem d96_14 : decode (mB 96) 14 = .ok (.istore 4, 2) := by decide +kernel
theorem d96_16 : decode (mB 96) 16 = .ok (.lload_n 1, 1) := by decide +kernel
theorem d96_17 : decode (mB 96) 17 = .ok (.lstore 5, 2) := by decide +kernel
theorem d96_19 : decode (mB 96) 19 = .ok (.iconst 0, 1) := by decide +kernel
theorem d96_20 : decode (mB 96) 20 = .ok (.istore 7, 2) := by decide +kernel
theorem d96_22 : decode (mB 96) 22 = .ok (.iload 7, 2) := by decide +kernel
theorem d96_24 : decode (mB 96) 24 = .ok (.iload_n 3, 1) := by decide +kernel
theorem d96_25 : decode (mB 96) 25 = .ok (.if_icmp .ge 62, 3) := by decide +kernel
theorem d96_28 : decode (mB 96) 28 = .ok (.ldc2_w 85, 3) := by decide +kernel
theorem d96_31 : decode (mB 96) 31 = .ok (.lload 5, 2) := by decide +kernel
theorem d96_33 : decode (mB 96) 33 = .ok (.lmul, 1) := by decide +kernel
theorem d96_34 : decode (mB 96) 34 = .ok (.ldc2_w 87, 3) := by decide +kernel
theorem d96_37 : decode (mB 96) 37 = .ok (.ladd, 1) := by decide +kernel
theorem d96_38 : decode (mB 96) 38 = .ok (.lstore 5, 2) := by decide +kernel
theorem d96_40 : decode (mB 96) 40 = .ok (.lload 5, 2) := by decide +kernel
theorem d96_42 : decode (mB 96) 42 = .ok (.bipush 61, 2) := by decide +kernel
theorem d96_44 : decode (mB 96) 44 = .ok (.lushr, 1) := by decide +kernel
theorem d96_45 : decode (mB 96) 45 = .ok (.l2i, 1) := by decide +kernel
theorem d96_46 : decode (mB 96) 46 = .ok (.istore 8, 2) := by decide +kernel
theorem d96_48 : decode (mB 96) 48 = .ok (.aload_n 0, 1) := by decide +kernel
theorem d96_49 : decode (mB 96) 49 = .ok (.iload 8, 2) := by decide +kernel
theorem d96_51 : decode (mB 96) 51 = .ok (.invokevirtual 68, 3) := by decide +kernel
theorem d96_54 : decode (mB 96) 54 = .ok (.ifCond .eq 27, 3) := by decide +kernel
theorem d96_57 : decode (mB 96) 57 = .ok (.aload_n 0, 1) := by decide +kernel
theorem d96_58 : decode (mB 96) 58 = .ok (.getfield 34, 3) := by decide +kernel
theorem d96_61 : decode (mB 96) 61 = .ok (.aload_n 0, 1) := by decide +kernel
theorem d96_62 : decode (mB 96) 62 = .ok (.getfield 34, 3) := by decide +kernel
theorem d96_65 : decode (mB 96) 65 = .ok (.getfield 71, 3) := by decide +kernel
theorem d96_68 : decode (mB 96) 68 = .ok (.iload 8, 2) := by decide +kernel
theorem d96_70 : decode (mB 96) 70 = .ok (.aaload, 1) := by decide +kernel
theorem d96_71 : decode (mB 96) 71 = .ok (.invokevirtual 81, 3) := by decide +kernel
theorem d96_74 : decode (mB 96) 74 = .ok (.iconst 4, 1) := by decide +kernel
theorem d96_75 : decode (mB 96) 75 = .ok (.if_icmp .eq 6, 3) := by decide +kernel
theorem d96_78 : decode (mB 96) 78 = .ok (.iinc 4 1, 3) := by decide +kernel
theorem d96_81 : decode (mB 96) 81 = .ok (.iinc 7 1, 3) := by decide +kernel
theorem d96_84 : decode (mB 96) 84 = .ok (.goto (-62), 3) := by decide +kernel
theorem d96_87 : decode (mB 96) 87 = .ok (.iload 4, 2) := by decide +kernel
theorem d96_89 : decode (mB 96) 89 = .ok (.ireturn, 1) := by decide +kernel
theorem d97_0 : decode (mB 97) 0 = .ok (.aload_n 0, 1) := by decide +kernel
theorem d97_1 : decode (mB 97) 1 = .ok (.iload_n 1, 1) := by decide +kernel
theorem d97_2 : decode (mB 97) 2 = .ok (.invokevirtual 68, 3) := by decide +kernel
theorem d97_5 : decode (mB 97) 5 = .ok (.ifCond .ne 5, 3) := by decide +kernel
theorem d97_8 : decode (mB 97) 8 = .ok (.iconst (-1), 1) := by decide +kernel
theorem d97_9 : decode (mB 97) 9 = .ok (.ireturn, 1) := by decide +kernel
theorem d97_10 : decode (mB 97) 10 = .ok (.aload_n 0, 1) := by decide +kernel
theorem d97_11 : decode (mB 97) 11 = .ok (.getfield 34, 3) := by decide +kernel
theorem d97_14 : decode (mB 97) 14 = .ok (.getfield 71, 3) := by decide +kernel
theorem d97_17 : decode (mB 97) 17 = .ok (.iload_n 1, 1) := by decide +kernel
theorem d97_18 : decode (mB 97) 18 = .ok (.aaload, 1) := by decide +kernel
theorem d97_19 : decode (mB 97) 19 = .ok (.getfield 89, 3) := by decide +kernel
theorem d97_22 : decode (mB 97) 22 = .ok (.astore 4, 2) := by decide +kernel
theorem d97_24 : decode (mB 97) 24 = .ok (.aload 4, 2) := by decide +kernel
theorem d97_26 : decode (mB 97) 26 = .ok (.bipush 6, 2) := by decide +kernel
theorem d97_28 : decode (mB 97) 28 = .ok (.invokevirtual 93, 3) := by decide +kernel
theorem d97_31 : decode (mB 97) 31 = .ok (.bipush 8, 2) := by decide +kernel
theorem d97_33 : decode (mB 97) 33 = .ok (.if_icmp .lt 5, 3) := by decide +kernel
theorem d97_36 : decode (mB 97) 36 = .ok (.iconst (-1), 1) := by decide +kernel
theorem d97_37 : decode (mB 97) 37 = .ok (.ireturn, 1) := by decide +kernel
theorem d97_38 : decode (mB 97) 38 = .ok (.aload 4, 2) := by decide +kernel
theorem d97_40 : decode (mB 97) 40 = .ok (.bipush 6, 2) := by decide +kernel
theorem d97_42 : decode (mB 97) 42 = .ok (.iconst 0, 1) := by decide +kernel
theorem d97_43 : decode (mB 97) 43 = .ok (.lload_n 2, 1) := by decide +kernel
theorem d97_44 : decode (mB 97) 44 = .ok (.invokevirtual 99, 3) := by decide +kernel
theorem d97_47 : decode (mB 97) 47 = .ok (.aload 4, 2) := by decide +kernel
theorem d97_49 : decode (mB 97) 49 = .ok (.getfield 103, 3) := by decide +kernel
theorem d97_52 : decode (mB 97) 52 = .ok (.ireturn, 1) := by decide +kernel
theorem d99_0 : decode (mB 99) 0 = .ok (.iload_n 1, 1) := by decide +kernel
theorem d99_1 : decode (mB 99) 1 = .ok (.invokestatic 106, 3) := by decide +kernel
theorem d99_4 : decode (mB 99) 4 = .ok (.ifCond .eq 15, 3) := by decide +kernel
theorem d99_7 : decode (mB 99) 7 = .ok (.aload_n 0, 1) := by decide +kernel
theorem d99_8 : decode (mB 99) 8 = .ok (.getfield 34, 3) := by decide +kernel
theorem d99_11 : decode (mB 99) 11 = .ok (.getfield 109, 3) := by decide +kernel
theorem d99_14 : decode (mB 99) 14 = .ok (.iload_n 1, 1) := by decide +kernel
theorem d99_15 : decode (mB 99) 15 = .ok (.baload, 1) := by decide +kernel
theorem d99_16 : decode (mB 99) 16 = .ok (.ifCond .eq 5, 3) := by decide +kernel
theorem d99_19 : decode (mB 99) 19 = .ok (.iconst (-1), 1) := by decide +kernel
theorem d99_20 : decode (mB 99) 20 = .ok (.ireturn, 1) := by decide +kernel
theorem d99_21 : decode (mB 99) 21 = .ok (.aload_n 0, 1) := by decide +kernel
theorem d99_22 : decode (mB 99) 22 = .ok (.getfield 34, 3) := by decide +kernel
theorem d99_25 : decode (mB 99) 25 = .ok (.getfield 109, 3) := by decide +kernel
theorem d99_28 : decode (mB 99) 28 = .ok (.iload_n 1, 1) := by decide +kernel
theorem d99_29 : decode (mB 99) 29 = .ok (.iconst 1, 1) := by decide +kernel
theorem d99_30 : decode (mB 99) 30 = .ok (.bastore, 1) := by decide +kernel
theorem d99_31 : decode (mB 99) 31 = .ok (.aload_n 0, 1) := by decide +kernel
theorem d99_32 : decode (mB 99) 32 = .ok (.getfield 34, 3) := by decide +kernel
theorem d99_35 : decode (mB 99) 35 = .ok (.getfield 113, 3) := by decide +kernel
theorem d99_38 : decode (mB 99) 38 = .ok (.iload_n 1, 1) := by decide +kernel
theorem d99_39 : decode (mB 99) 39 = .ok (.lload_n 2, 1) := by decide +kernel
theorem d99_40 : decode (mB 99) 40 = .ok (.lastore, 1) := by decide +kernel
theorem d99_41 : decode (mB 99) 41 = .ok (.iconst 1, 1) := by decide +kernel
theorem d99_42 : decode (mB 99) 42 = .ok (.ireturn, 1) := by decide +kernel
theorem d101_0 : decode (mB 101) 0 = .ok (.iload_n 1, 1) := by decide +kernel
theorem d101_1 : decode (mB 101) 1 = .ok (.invokestatic 106, 3) := by decide +kernel
theorem d101_4 : decode (mB 101) 4 = .ok (.ifCond .ne 5, 3) := by decide +kernel
theorem d101_7 : decode (mB 101) 7 = .ok (.iconst (-1), 1) := by decide +kernel
theorem d101_8 : decode (mB 101) 8 = .ok (.ireturn, 1) := by decide +kernel
theorem d101_9 : decode (mB 101) 9 = .ok (.aload_n 0, 1) := by decide +kernel
theorem d101_10 : decode (mB 101) 10 = .ok (.getfield 34, 3) := by decide +kernel
theorem d101_13 : decode (mB 101) 13 = .ok (.getfield 109, 3) := by decide +kernel
theorem d101_16 : decode (mB 101) 16 = .ok (.iload_n 1, 1) := by decide +kernel
theorem d101_17 : decode (mB 101) 17 = .ok (.baload, 1) := by decide +kernel
theorem d101_18 : decode (mB 101) 18 = .ok (.ifCond .eq 7, 3) := by decide +kernel
theorem d101_21 : decode (mB 101) 21 = .ok (.iconst 1, 1) := by decide +kernel
theorem d101_22 : decode (mB 101) 22 = .ok (.goto 4, 3) := by decide +kernel
theorem d101_25 : decode (mB 101) 25 = .ok (.iconst 0, 1) := by decide +kernel
theorem d101_26 : decode (mB 101) 26 = .ok (.ireturn, 1) := by decide +kernel
theorem d102_0 : decode (mB 102) 0 = .ok (.iload_n 1, 1) := by decide +kernel
theorem d102_1 : decode (mB 102) 1 = .ok (.invokestatic 106, 3) := by decide +kernel
theorem d102_4 : decode (mB 102) 4 = .ok (.ifCond .eq 15, 3) := by decide +kernel
theorem d102_7 : decode (mB 102) 7 = .ok (.aload_n 0, 1) := by decide +kernel
theorem d102_8 : decode (mB 102) 8 = .ok (.getfield 34, 3) := by decide +kernel
theorem d102_11 : decode (mB 102) 11 = .ok (.getfield 109, 3) := by decide +kernel
theorem d102_14 : decode (mB 102) 14 = .ok (.iload_n 1, 1) := by decide +kernel
theorem d102_15 : decode (mB 102) 15 = .ok (.baload, 1) := by decide +kernel
theorem d102_16 : decode (mB 102) 16 = .ok (.ifCond .ne 5, 3) := by decide +kernel
theorem d102_19 : decode (mB 102) 19 = .ok (.lconst 0, 1) := by decide +kernel
theorem d102_20 : decode (mB 102) 20 = .ok (.lreturn, 1) := by decide +kernel
theorem d102_21 : decode (mB 102) 21 = .ok (.aload_n 0, 1) := by decide +kernel
theorem d102_22 : decode (mB 102) 22 = .ok (.getfield 34, 3) := by decide +kernel
theorem d102_25 : decode (mB 102) 25 = .ok (.getfield 113, 3) := by decide +kernel
theorem d102_28 : decode (mB 102) 28 = .ok (.iload_n 1, 1) := by decide +kernel
theorem d102_29 : decode (mB 102) 29 = .ok (.laload, 1) := by decide +kernel
theorem d102_30 : decode (mB 102) 30 = .ok (.lreturn, 1) := by decide +kernel
theorem d103_0 : decode (mB 103) 0 = .ok (.iload_n 1, 1) := by decide +kernel
theorem d103_1 : decode (mB 103) 1 = .ok (.invokestatic 65, 3) := by decide +kernel
theorem d103_4 : decode (mB 103) 4 = .ok (.ifCond .ne 5, 3) := by decide +kernel
theorem d103_7 : decode (mB 103) 7 = .ok (.iconst (-1), 1) := by decide +kernel
theorem d103_8 : decode (mB 103) 8 = .ok (.ireturn, 1) := by decide +kernel
theorem d103_9 : decode (mB 103) 9 = .ok (.aload_n 0, 1) := by decide +kernel
theorem d103_10 : decode (mB 103) 10 = .ok (.getfield 34, 3) := by decide +kernel
theorem d103_13 : decode (mB 103) 13 = .ok (.getfield 71, 3) := by decide +kernel
theorem d103_16 : decode (mB 103) 16 = .ok (.iload_n 1, 1) := by decide +kernel
theorem d103_17 : decode (mB 103) 17 = .ok (.aaload, 1) := by decide +kernel
theorem d103_18 : decode (mB 103) 18 = .ok (.astore_n 3, 1) := by decide +kernel
theorem d103_19 : decode (mB 103) 19 = .ok (.iload_n 2, 1) := by decide +kernel
theorem d103_20 : decode (mB 103) 20 = .ok (.tableswitch 90 0 6 #[44, 49, 54, 59, 67, 72, 77], 44) := by decide +kernel
theorem d103_64 : decode (mB 103) 64 = .ok (.aload_n 3, 1) := by decide +kernel
theorem d103_65 : decode (mB 103) 65 = .ok (.getfield 117, 3) := by decide +kernel
theorem d103_68 : decode (mB 103) 68 = .ok (.ireturn, 1) := by decide +kernel
theorem d103_69 : decode (mB 103) 69 = .ok (.aload_n 3, 1) := by decide +kernel
theorem d103_70 : decode (mB 103) 70 = .ok (.getfield 120, 3) := by decide +kernel
theorem d103_73 : decode (mB 103) 73 = .ok (.ireturn, 1) := by decide +kernel
theorem d103_74 : decode (mB 103) 74 = .ok (.aload_n 3, 1) := by decide +kernel
theorem d103_75 : decode (mB 103) 75 = .ok (.getfield 123, 3) := by decide +kernel
theorem d103_78 : decode (mB 103) 78 = .ok (.ireturn, 1) := by decide +kernel
theorem d103_79 : decode (mB 103) 79 = .ok (.aload_n 3, 1) := by decide +kernel
theorem d103_80 : decode (mB 103) 80 = .ok (.getfield 89, 3) := by decide +kernel
theorem d103_83 : decode (mB 103) 83 = .ok (.getfield 103, 3) := by decide +kernel
theorem d103_86 : decode (mB 103) 86 = .ok (.ireturn, 1) := by decide +kernel
theorem d103_87 : decode (mB 103) 87 = .ok (.aload_n 3, 1) := by decide +kernel
theorem d103_88 : decode (mB 103) 88 = .ok (.getfield 126, 3) := by decide +kernel
theorem d103_91 : decode (mB 103) 91 = .ok (.ireturn, 1) := by decide +kernel
theorem d103_92 : decode (mB 103) 92 = .ok (.aload_n 3, 1) := by decide +kernel
theorem d103_93 : decode (mB 103) 93 = .ok (.getfield 129, 3) := by decide +kernel
theorem d103_96 : decode (mB 103) 96 = .ok (.ireturn, 1) := by decide +kernel
theorem d103_97 : decode (mB 103) 97 = .ok (.aload_n 3, 1) := by decide +kernel
theorem d103_98 : decode (mB 103) 98 = .ok (.invokevirtual 132, 3) := by decide +kernel
theorem d103_101 : decode (mB 103) 101 = .ok (.ifCond .eq 7, 3) := by decide +kernel
theorem d103_104 : decode (mB 103) 104 = .ok (.iconst 1, 1) := by decide +kernel
theorem d103_105 : decode (mB 103) 105 = .ok (.goto 4, 3) := by decide +kernel
theorem d103_108 : decode (mB 103) 108 = .ok (.iconst 0, 1) := by decide +kernel
theorem d103_109 : decode (mB 103) 109 = .ok (.ireturn, 1) := by decide +kernel
theorem d103_110 : decode (mB 103) 110 = .ok (.iconst (-1), 1) := by decide +kernel
theorem d103_111 : decode (mB 103) 111 = .ok (.ireturn, 1) := by decide +kernel
theorem d105_0 : decode (mB 105) 0 = .ok (.iload_n 1, 1) := by decide +kernel
theorem d105_1 : decode (mB 105) 1 = .ok (.invokestatic 65, 3) := by decide +kernel
theorem d105_4 : decode (mB 105) 4 = .ok (.ifCond .eq 18, 3) := by decide +kernel
theorem d105_7 : decode (mB 105) 7 = .ok (.aload_n 0, 1) := by decide +kernel
theorem d105_8 : decode (mB 105) 8 = .ok (.getfield 34, 3) := by decide +kernel
theorem d105_11 : decode (mB 105) 11 = .ok (.getfield 71, 3) := by decide +kernel
theorem d105_14 : decode (mB 105) 14 = .ok (.iload_n 1, 1) := by decide +kernel
theorem d105_15 : decode (mB 105) 15 = .ok (.aaload, 1) := by decide +kernel
theorem d105_16 : decode (mB 105) 16 = .ok (.getfield 136, 3) := by decide +kernel
theorem d105_19 : decode (mB 105) 19 = .ok (.goto 4, 3) := by decide +kernel
theorem d105_22 : decode (mB 105) 22 = .ok (.lconst 0, 1) := by decide +kernel
theorem d105_23 : decode (mB 105) 23 = .ok (.lreturn, 1) := by decide +kernel
theorem d106_0 : decode (mB 106) 0 = .ok (.iload_n 1, 1) := by decide +kernel
theorem d106_1 : decode (mB 106) 1 = .ok (.invokestatic 65, 3) := by decide +kernel
theorem d106_4 : decode (mB 106) 4 = .ok (.ifCond .eq 13, 3) := by decide +kernel
theorem d106_7 : decode (mB 106) 7 = .ok (.iload_n 2, 1) := by decide +kernel
theorem d106_8 : decode (mB 106) 8 = .ok (.ifCond .lt 9, 3) := by decide +kernel
theorem d106_11 : decode (mB 106) 11 = .ok (.iload_n 2, 1) := by decide +kernel
theorem d106_12 : decode (mB 106) 12 = .ok (.bipush 10, 2) := by decide +kernel
theorem d106_14 : decode (mB 106) 14 = .ok (.if_icmp .lt 5, 3) := by decide +kernel
theorem d106_17 : decode (mB 106) 17 = .ok (.lconst 0, 1) := by decide +kernel
theorem d106_18 : decode (mB 106) 18 = .ok (.lreturn, 1) := by decide +kernel
theorem d106_19 : decode (mB 106) 19 = .ok (.aload_n 0, 1) := by decide +kernel
theorem d106_20 : decode (mB 106) 20 = .ok (.getfield 34, 3) := by decide +kernel
theorem d106_23 : decode (mB 106) 23 = .ok (.getfield 71, 3) := by decide +kernel
theorem d106_26 : decode (mB 106) 26 = .ok (.iload_n 1, 1) := by decide +kernel
theorem d106_27 : decode (mB 106) 27 = .ok (.aaload, 1) := by decide +kernel
theorem d106_28 : decode (mB 106) 28 = .ok (.getfield 140, 3) := by decide +kernel
theorem d106_31 : decode (mB 106) 31 = .ok (.iload_n 2, 1) := by decide +kernel
theorem d106_32 : decode (mB 106) 32 = .ok (.laload, 1) := by decide +kernel
theorem d106_33 : decode (mB 106) 33 = .ok (.lreturn, 1) := by decide +kernel
theorem d107_0 : decode (mB 107) 0 = .ok (.aload_n 0, 1) := by decide +kernel
theorem d107_1 : decode (mB 107) 1 = .ok (.iload_n 1, 1) := by decide +kernel
theorem d107_2 : decode (mB 107) 2 = .ok (.iload_n 2, 1) := by decide +kernel
theorem d107_3 : decode (mB 107) 3 = .ok (.invokevirtual 143, 3) := by decide +kernel
theorem d107_6 : decode (mB 107) 6 = .ok (.ifCond .ne 5, 3) := by decide +kernel
theorem d107_9 : decode (mB 107) 9 = .ok (.iconst (-1), 1) := by decide +kernel
theorem d107_10 : decode (mB 107) 10 = .ok (.ireturn, 1) := by decide +kernel
theorem d107_11 : decode (mB 107) 11 = .ok (.aload_n 0, 1) := by decide +kernel
theorem d107_12 : decode (mB 107) 12 = .ok (.getfield 34, 3) := by decide +kernel
theorem d107_15 : decode (mB 107) 15 = .ok (.getfield 71, 3) := by decide +kernel
theorem d107_18 : decode (mB 107) 18 = .ok (.iload_n 1, 1) := by decide +kernel
theorem d107_19 : decode (mB 107) 19 = .ok (.aaload, 1) := by decide +kernel
theorem d107_20 : decode (mB 107) 20 = .ok (.getfield 89, 3) := by decide +kernel
theorem d107_23 : decode (mB 107) 23 = .ok (.astore 4, 2) := by decide +kernel
theorem d107_25 : decode (mB 107) 25 = .ok (.iload_n 3, 1) := by decide +kernel
theorem d107_26 : decode (mB 107) 26 = .ok (.lookupswitch 42 #[(0, 26), (1, 34)], 26) := by decide +kernel
theorem d107_52 : decode (mB 107) 52 = .ok (.aload 4, 2) := by decide +kernel
theorem d107_54 : decode (mB 107) 54 = .ok (.getfield 147, 3) := by decide +kernel
theorem d107_57 : decode (mB 107) 57 = .ok (.iload_n 2, 1) := by decide +kernel
theorem d107_58 : decode (mB 107) 58 = .ok (.iaload, 1) := by decide +kernel
theorem d107_59 : decode (mB 107) 59 = .ok (.ireturn, 1) := by decide +kernel
theorem d107_60 : decode (mB 107) 60 = .ok (.aload 4, 2) := by decide +kernel
theorem d107_62 : decode (mB 107) 62 = .ok (.getfield 150, 3) := by decide +kernel
theorem d107_65 : decode (mB 107) 65 = .ok (.iload_n 2, 1) := by decide +kernel
theorem d107_66 : decode (mB 107) 66 = .ok (.iaload, 1) := by decide +kernel
theorem d107_67 : decode (mB 107) 67 = .ok (.ireturn, 1) := by decide +kernel
theorem d107_68 : decode (mB 107) 68 = .ok (.iconst (-1), 1) := by decide +kernel
theorem d107_69 : decode (mB 107) 69 = .ok (.ireturn, 1) := by decide +kernel
theorem d109_0 : decode (mB 109) 0 = .ok (.aload_n 0, 1) := by decide +kernel
theorem d109_1 : decode (mB 109) 1 = .ok (.iload_n 1, 1) := by decide +kernel
theorem d109_2 : decode (mB 109) 2 = .ok (.iload_n 2, 1) := by decide +kernel
theorem d109_3 : decode (mB 109) 3 = .ok (.invokevirtual 143, 3) := by decide +kernel
theorem d109_6 : decode (mB 109) 6 = .ok (.ifCond .eq 23, 3) := by decide +kernel
theorem d109_9 : decode (mB 109) 9 = .ok (.aload_n 0, 1) := by decide +kernel
theorem d109_10 : decode (mB 109) 10 = .ok (.getfield 34, 3) := by decide +kernel
theorem d109_13 : decode (mB 109) 13 = .ok (.getfield 71, 3) := by decide +kernel
theorem d109_16 : decode (mB 109) 16 = .ok (.iload_n 1, 1) := by decide +kernel
theorem d109_17 : decode (mB 109) 17 = .ok (.aaload, 1) := by decide +kernel
theorem d109_18 : decode (mB 109) 18 = .ok (.getfield 89, 3) := by decide +kernel
theorem d109_21 : decode (mB 109) 21 = .ok (.getfield 153, 3) := by decide +kernel
theorem d109_24 : decode (mB 109) 24 = .ok (.iload_n 2, 1) := by decide +kernel
theorem d109_25 : decode (mB 109) 25 = .ok (.laload, 1) := by decide +kernel
theorem d109_26 : decode (mB 109) 26 = .ok (.goto 4, 3) := by decide +kernel
theorem d109_29 : decode (mB 109) 29 = .ok (.lconst 0, 1) := by decide +kernel
theorem d109_30 : decode (mB 109) 30 = .ok (.lreturn, 1) := by decide +kernel
theorem d110_0 : decode (mB 110) 0 = .ok (.aload_n 0, 1) := by decide +kernel
theorem d110_1 : decode (mB 110) 1 = .ok (.getfield 34, 3) := by decide +kernel
theorem d110_4 : decode (mB 110) 4 = .ok (.invokevirtual 156, 3) := by decide +kernel
theorem d110_7 : decode (mB 110) 7 = .ok (.ifCond .eq 7, 3) := by decide +kernel
theorem d110_10 : decode (mB 110) 10 = .ok (.iconst 0, 1) := by decide +kernel
theorem d110_11 : decode (mB 110) 11 = .ok (.goto 4, 3) := by decide +kernel
theorem d110_14 : decode (mB 110) 14 = .ok (.iconst 1, 1) := by decide +kernel
theorem d110_15 : decode (mB 110) 15 = .ok (.ireturn, 1) := by decide +kernel
theorem d116_0 : decode (mB 116) 0 = .ok (.aload_n 0, 1) := by decide +kernel
theorem d116_1 : decode (mB 116) 1 = .ok (.getfield 34, 3) := by decide +kernel
theorem d116_4 : decode (mB 116) 4 = .ok (.getfield 159, 3) := by decide +kernel
theorem d116_7 : decode (mB 116) 7 = .ok (.getfield 163, 3) := by decide +kernel
theorem d116_10 : decode (mB 116) 10 = .ok (.ireturn, 1) := by decide +kernel
theorem d117_0 : decode (mB 117) 0 = .ok (.aload_n 0, 1) := by decide +kernel
theorem d117_1 : decode (mB 117) 1 = .ok (.getfield 34, 3) := by decide +kernel
theorem d117_4 : decode (mB 117) 4 = .ok (.getfield 159, 3) := by decide +kernel
theorem d117_7 : decode (mB 117) 7 = .ok (.getfield 168, 3) := by decide +kernel
theorem d117_10 : decode (mB 117) 10 = .ok (.ireturn, 1) := by decide +kernel
theorem d118_0 : decode (mB 118) 0 = .ok (.aload_n 0, 1) := by decide +kernel
theorem d118_1 : decode (mB 118) 1 = .ok (.iload_n 1, 1) := by decide +kernel
theorem d118_2 : decode (mB 118) 2 = .ok (.invokevirtual 169, 3) := by decide +kernel
theorem d118_5 : decode (mB 118) 5 = .ok (.ifCond .ne 5, 3) := by decide +kernel
theorem d118_8 : decode (mB 118) 8 = .ok (.iconst (-1), 1) := by decide +kernel
theorem d118_9 : decode (mB 118) 9 = .ok (.ireturn, 1) := by decide +kernel
theorem d118_10 : decode (mB 118) 10 = .ok (.iload_n 2, 1) := by decide +kernel
theorem d118_11 : decode (mB 118) 11 = .ok (.tableswitch 64 0 2 #[25, 38, 51], 25) := by decide +kernel
theorem d118_36 : decode (mB 118) 36 = .ok (.aload_n 0, 1) := by decide +kernel
theorem d118_37 : decode (mB 118) 37 = .ok (.getfield 34, 3) := by decide +kernel
theorem d118_40 : decode (mB 118) 40 = .ok (.getfield 159, 3) := by decide +kernel
theorem d118_43 : decode (mB 118) 43 = .ok (.getfield 172, 3) := by decide +kernel
theorem d118_46 : decode (mB 118) 46 = .ok (.iload_n 1, 1) := by decide +kernel
theorem d118_47 : decode (mB 118) 47 = .ok (.iaload, 1) := by decide +kernel
theorem d118_48 : decode (mB 118) 48 = .ok (.ireturn, 1) := by decide +kernel
theorem d118_49 : decode (mB 118) 49 = .ok (.aload_n 0, 1) := by decide +kernel
theorem d118_50 : decode (mB 118) 50 = .ok (.getfield 34, 3) := by decide +kernel
theorem d118_53 : decode (mB 118) 53 = .ok (.getfield 159, 3) := by decide +kernel
theorem d118_56 : decode (mB 118) 56 = .ok (.getfield 175, 3) := by decide +kernel
theorem d118_59 : decode (mB 118) 59 = .ok (.iload_n 1, 1) := by decide +kernel
theorem d118_60 : decode (mB 118) 60 = .ok (.iaload, 1) := by decide +kernel
theorem d118_61 : decode (mB 118) 61 = .ok (.ireturn, 1) := by decide +kernel
theorem d118_62 : decode (mB 118) 62 = .ok (.aload_n 0, 1) := by decide +kernel
theorem d118_63 : decode (mB 118) 63 = .ok (.getfield 34, 3) := by decide +kernel
theorem d118_66 : decode (mB 118) 66 = .ok (.getfield 159, 3) := by decide +kernel
theorem d118_69 : decode (mB 118) 69 = .ok (.getfield 178, 3) := by decide +kernel
theorem d118_72 : decode (mB 118) 72 = .ok (.iload_n 1, 1) := by decide +kernel
theorem d118_73 : decode (mB 118) 73 = .ok (.iaload, 1) := by decide +kernel
theorem d118_74 : decode (mB 118) 74 = .ok (.ireturn, 1) := by decide +kernel
theorem d118_75 : decode (mB 118) 75 = .ok (.iconst (-1), 1) := by decide +kernel
theorem d118_76 : decode (mB 118) 76 = .ok (.ireturn, 1) := by decide +kernel
theorem d120_0 : decode (mB 120) 0 = .ok (.aload_n 0, 1) := by decide +kernel
theorem d120_1 : decode (mB 120) 1 = .ok (.iload_n 1, 1) := by decide +kernel
theorem d120_2 : decode (mB 120) 2 = .ok (.invokevirtual 169, 3) := by decide +kernel
theorem d120_5 : decode (mB 120) 5 = .ok (.ifCond .eq 18, 3) := by decide +kernel
theorem d120_8 : decode (mB 120) 8 = .ok (.aload_n 0, 1) := by decide +kernel
theorem d120_9 : decode (mB 120) 9 = .ok (.getfield 34, 3) := by decide +kernel
theorem d120_12 : decode (mB 120) 12 = .ok (.getfield 159, 3) := by decide +kernel
theorem d120_15 : decode (mB 120) 15 = .ok (.getfield 181, 3) := by decide +kernel
theorem d120_18 : decode (mB 120) 18 = .ok (.iload_n 1, 1) := by decide +kernel
theorem d120_19 : decode (mB 120) 19 = .ok (.laload, 1) := by decide +kernel
theorem d120_20 : decode (mB 120) 20 = .ok (.goto 4, 3) := by decide +kernel
theorem d120_23 : decode (mB 120) 23 = .ok (.lconst 0, 1) := by decide +kernel
theorem d120_24 : decode (mB 120) 24 = .ok (.lreturn, 1) := by decide +kernel
theorem d121_0 : decode (mB 121) 0 = .ok (.aload_n 0, 1) := by decide +kernel
theorem d121_1 : decode (mB 121) 1 = .ok (.getfield 34, 3) := by decide +kernel
theorem d121_4 : decode (mB 121) 4 = .ok (.getfield 159, 3) := by decide +kernel
theorem d121_7 : decode (mB 121) 7 = .ok (.getfield 168, 3) := by decide +kernel
theorem d121_10 : decode (mB 121) 10 = .ok (.istore_n 1, 1) := by decide +kernel
theorem d121_11 : decode (mB 121) 11 = .ok (.aload_n 0, 1) := by decide +kernel
theorem d121_12 : decode (mB 121) 12 = .ok (.getfield 34, 3) := by decide +kernel
theorem d121_15 : decode (mB 121) 15 = .ok (.invokevirtual 182, 3) := by decide +kernel
theorem d121_18 : decode (mB 121) 18 = .ok (.iload_n 1, 1) := by decide +kernel
theorem d121_19 : decode (mB 121) 19 = .ok (.ireturn, 1) := by decide +kernel
theorem d55_0 : decode (mB 55) 0 = .ok (.iload_n 1, 1) := by decide +kernel
theorem d55_1 : decode (mB 55) 1 = .ok (.ifCond .lt 15, 3) := by decide +kernel
theorem d55_4 : decode (mB 55) 4 = .ok (.iload_n 1, 1) := by decide +kernel
theorem d55_5 : decode (mB 55) 5 = .ok (.aload_n 0, 1) := by decide +kernel
theorem d55_6 : decode (mB 55) 6 = .ok (.getfield 45, 3) := by decide +kernel
theorem d55_9 : decode (mB 55) 9 = .ok (.if_icmp .ge 7, 3) := by decide +kernel
theorem d55_12 : decode (mB 55) 12 = .ok (.iconst 1, 1) := by decide +kernel
theorem d55_13 : decode (mB 55) 13 = .ok (.goto 4, 3) := by decide +kernel
theorem d55_16 : decode (mB 55) 16 = .ok (.iconst 0, 1) := by decide +kernel
theorem d55_17 : decode (mB 55) 17 = .ok (.ireturn, 1) := by decide +kernel
theorem d57_0 : decode (mB 57) 0 = .ok (.iload_n 0, 1) := by decide +kernel
theorem d57_1 : decode (mB 57) 1 = .ok (.ifCond .lt 13, 3) := by decide +kernel
theorem d57_4 : decode (mB 57) 4 = .ok (.iload_n 0, 1) := by decide +kernel
theorem d57_5 : decode (mB 57) 5 = .ok (.bipush 6, 2) := by decide +kernel
theorem d57_7 : decode (mB 57) 7 = .ok (.if_icmp .ge 7, 3) := by decide +kernel
theorem d57_10 : decode (mB 57) 10 = .ok (.iconst 1, 1) := by decide +kernel
theorem d57_11 : decode (mB 57) 11 = .ok (.goto 4, 3) := by decide +kernel
theorem d57_14 : decode (mB 57) 14 = .ok (.iconst 0, 1) := by decide +kernel
theorem d57_15 : decode (mB 57) 15 = .ok (.ireturn, 1) := by decide +kernel
theorem d58_0 : decode (mB 58) 0 = .ok (.iload_n 1, 1) := by decide +kernel
theorem d58_1 : decode (mB 58) 1 = .ok (.invokestatic 65, 3) := by decide +kernel
theorem d58_4 : decode (mB 58) 4 = .ok (.ifCond .eq 23, 3) := by decide +kernel
theorem d58_7 : decode (mB 58) 7 = .ok (.aload_n 0, 1) := by decide +kernel
theorem d58_8 : decode (mB 58) 8 = .ok (.getfield 34, 3) := by decide +kernel
theorem d58_11 : decode (mB 58) 11 = .ok (.getfield 71, 3) := by decide +kernel
theorem d58_14 : decode (mB 58) 14 = .ok (.iload_n 1, 1) := by decide +kernel
theorem d58_15 : decode (mB 58) 15 = .ok (.aaload, 1) := by decide +kernel
theorem d58_16 : decode (mB 58) 16 = .ok (.getfield 117, 3) := by decide +kernel
theorem d58_19 : decode (mB 58) 19 = .ok (.iconst 1, 1) := by decide +kernel
theorem d58_20 : decode (mB 58) 20 = .ok (.if_icmp .ne 7, 3) := by decide +kernel
theorem d58_23 : decode (mB 58) 23 = .ok (.iconst 1, 1) := by decide +kernel
theorem d58_24 : decode (mB 58) 24 = .ok (.goto 4, 3) := by decide +kernel
theorem d58_27 : decode (mB 58) 27 = .ok (.iconst 0, 1) := by decide +kernel
theorem d58_28 : decode (mB 58) 28 = .ok (.ireturn, 1) := by decide +kernel
theorem d100_0 : decode (mB 100) 0 = .ok (.iload_n 0, 1) := by decide +kernel
theorem d100_1 : decode (mB 100) 1 = .ok (.ifCond .lt 13, 3) := by decide +kernel
theorem d100_4 : decode (mB 100) 4 = .ok (.iload_n 0, 1) := by decide +kernel
theorem d100_5 : decode (mB 100) 5 = .ok (.bipush 8, 2) := by decide +kernel
theorem d100_7 : decode (mB 100) 7 = .ok (.if_icmp .ge 7, 3) := by decide +kernel
theorem d100_10 : decode (mB 100) 10 = .ok (.iconst 1, 1) := by decide +kernel
theorem d100_11 : decode (mB 100) 11 = .ok (.goto 4, 3) := by decide +kernel
theorem d100_14 : decode (mB 100) 14 = .ok (.iconst 0, 1) := by decide +kernel
theorem d100_15 : decode (mB 100) 15 = .ok (.ireturn, 1) := by decide +kernel
theorem d108_0 : decode (mB 108) 0 = .ok (.iload_n 1, 1) := by decide +kernel
theorem d108_1 : decode (mB 108) 1 = .ok (.invokestatic 65, 3) := by decide +kernel
theorem d108_4 : decode (mB 108) 4 = .ok (.ifCond .eq 30, 3) := by decide +kernel
theorem d108_7 : decode (mB 108) 7 = .ok (.iload_n 2, 1) := by decide +kernel
theorem d108_8 : decode (mB 108) 8 = .ok (.ifCond .lt 26, 3) := by decide +kernel
theorem d108_11 : decode (mB 108) 11 = .ok (.iload_n 2, 1) := by decide +kernel
theorem d108_12 : decode (mB 108) 12 = .ok (.aload_n 0, 1) := by decide +kernel
theorem d108_13 : decode (mB 108) 13 = .ok (.getfield 34, 3) := by decide +kernel
theorem d108_16 : decode (mB 108) 16 = .ok (.getfield 71, 3) := by decide +kernel
theorem d108_19 : decode (mB 108) 19 = .ok (.iload_n 1, 1) := by decide +kernel
theorem d108_20 : decode (mB 108) 20 = .ok (.aaload, 1) := by decide +kernel
theorem d108_21 : decode (mB 108) 21 = .ok (.getfield 89, 3) := by decide +kernel
theorem d108_24 : decode (mB 108) 24 = .ok (.getfield 103, 3) := by decide +kernel
theorem d108_27 : decode (mB 108) 27 = .ok (.if_icmp .ge 7, 3) := by decide +kernel
theorem d108_30 : decode (mB 108) 30 = .ok (.iconst 1, 1) := by decide +kernel
theorem d108_31 : decode (mB 108) 31 = .ok (.goto 4, 3) := by decide +kernel
theorem d108_34 : decode (mB 108) 34 = .ok (.iconst 0, 1) := by decide +kernel
theorem d108_35 : decode (mB 108) 35 = .ok (.ireturn, 1) := by decide +kernel
theorem d119_0 : decode (mB 119) 0 = .ok (.iload_n 1, 1) := by decide +kernel
theorem d119_1 : decode (mB 119) 1 = .ok (.ifCond .lt 21, 3) := by decide +kernel
theorem d119_4 : decode (mB 119) 4 = .ok (.iload_n 1, 1) := by decide +kernel
theorem d119_5 : decode (mB 119) 5 = .ok (.aload_n 0, 1) := by decide +kernel
theorem d119_6 : decode (mB 119) 6 = .ok (.getfield 34, 3) := by decide +kernel
theorem d119_9 : decode (mB 119) 9 = .ok (.getfield 159, 3) := by decide +kernel
theorem d119_12 : decode (mB 119) 12 = .ok (.getfield 168, 3) := by decide +kernel
theorem d119_15 : decode (mB 119) 15 = .ok (.if_icmp .ge 7, 3) := by decide +kernel
theorem d119_18 : decode (mB 119) 18 = .ok (.iconst 1, 1) := by decide +kernel
theorem d119_19 : decode (mB 119) 19 = .ok (.goto 4, 3) := by decide +kernel
theorem d119_22 : decode (mB 119) 22 = .ok (.iconst 0, 1) := by decide +kernel
theorem d119_23 : decode (mB 119) 23 = .ok (.ireturn, 1) := by decide +kernel
theorem d123_0 : decode (mB 123) 0 = .ok (.aload_n 0, 1) := by decide +kernel
theorem d123_1 : decode (mB 123) 1 = .ok (.invokespecial 1, 3) := by decide +kernel
theorem d123_4 : decode (mB 123) 4 = .ok (.aload_n 0, 1) := by decide +kernel
theorem d123_5 : decode (mB 123) 5 = .ok (.sipush 800, 3) := by decide +kernel
theorem d123_8 : decode (mB 123) 8 = .ok (.newarray .byte, 2) := by decide +kernel
theorem d123_10 : decode (mB 123) 10 = .ok (.putfield 7, 3) := by decide +kernel
theorem d123_13 : decode (mB 123) 13 = .ok (.aload_n 0, 1) := by decide +kernel
theorem d123_14 : decode (mB 123) 14 = .ok (.iconst (-1), 1) := by decide +kernel
theorem d123_15 : decode (mB 123) 15 = .ok (.putfield 13, 3) := by decide +kernel
theorem d123_18 : decode (mB 123) 18 = .ok (.aload_n 0, 1) := by decide +kernel
theorem d123_19 : decode (mB 123) 19 = .ok (.bipush 12, 2) := by decide +kernel
theorem d123_21 : decode (mB 123) 21 = .ok (.newarray .int, 2) := by decide +kernel
theorem d123_23 : decode (mB 123) 23 = .ok (.putfield 17, 3) := by decide +kernel
theorem d123_26 : decode (mB 123) 26 = .ok (.aload_n 0, 1) := by decide +kernel
theorem d123_27 : decode (mB 123) 27 = .ok (.bipush 12, 2) := by decide +kernel
theorem d123_29 : decode (mB 123) 29 = .ok (.newarray .int, 2) := by decide +kernel
theorem d123_31 : decode (mB 123) 31 = .ok (.putfield 21, 3) := by decide +kernel
theorem d123_34 : decode (mB 123) 34 = .ok (.aload_n 0, 1) := by decide +kernel
theorem d123_35 : decode (mB 123) 35 = .ok (.bipush 12, 2) := by decide +kernel
theorem d123_37 : decode (mB 123) 37 = .ok (.newarray .int, 2) := by decide +kernel
theorem d123_39 : decode (mB 123) 39 = .ok (.putfield 24, 3) := by decide +kernel
theorem d123_42 : decode (mB 123) 42 = .ok (.aload_n 0, 1) := by decide +kernel
theorem d123_43 : decode (mB 123) 43 = .ok (.bipush 12, 2) := by decide +kernel
theorem d123_45 : decode (mB 123) 45 = .ok (.newarray .int, 2) := by decide +kernel
theorem d123_47 : decode (mB 123) 47 = .ok (.putfield 27, 3) := by decide +kernel
theorem d123_50 : decode (mB 123) 50 = .ok (.aload_n 0, 1) := by decide +kernel
theorem d123_51 : decode (mB 123) 51 = .ok (.bipush 12, 2) := by decide +kernel
theorem d123_53 : decode (mB 123) 53 = .ok (.newarray .int, 2) := by decide +kernel
theorem d123_55 : decode (mB 123) 55 = .ok (.putfield 30, 3) := by decide +kernel
theorem d123_58 : decode (mB 123) 58 = .ok (.aload_n 0, 1) := by decide +kernel
theorem d123_59 : decode (mB 123) 59 = .ok (.sipush 480, 3) := by decide +kernel
theorem d123_62 : decode (mB 123) 62 = .ok (.newarray .int, 2) := by decide +kernel
theorem d123_64 : decode (mB 123) 64 = .ok (.putfield 33, 3) := by decide +kernel
theorem d123_67 : decode (mB 123) 67 = .ok (.aload_n 0, 1) := by decide +kernel
theorem d123_68 : decode (mB 123) 68 = .ok (.sipush 480, 3) := by decide +kernel
theorem d123_71 : decode (mB 123) 71 = .ok (.newarray .int, 2) := by decide +kernel
theorem d123_73 : decode (mB 123) 73 = .ok (.putfield 36, 3) := by decide +kernel
theorem d123_76 : decode (mB 123) 76 = .ok (.aload_n 0, 1) := by decide +kernel
theorem d123_77 : decode (mB 123) 77 = .ok (.sipush 480, 3) := by decide +kernel
theorem d123_80 : decode (mB 123) 80 = .ok (.newarray .int, 2) := by decide +kernel
theorem d123_82 : decode (mB 123) 82 = .ok (.putfield 39, 3) := by decide +kernel
theorem d123_85 : decode (mB 123) 85 = .ok (.aload_n 0, 1) := by decide +kernel
theorem d123_86 : decode (mB 123) 86 = .ok (.sipush 1440, 3) := by decide +kernel
theorem d123_89 : decode (mB 123) 89 = .ok (.newarray .int, 2) := by decide +kernel
theorem d123_91 : decode (mB 123) 91 = .ok (.putfield 42, 3) := by decide +kernel
theorem d123_94 : decode (mB 123) 94 = .ok (.aload_n 0, 1) := by decide +kernel
theorem d123_95 : decode (mB 123) 95 = .ok (.sipush 1440, 3) := by decide +kernel
theorem d123_98 : decode (mB 123) 98 = .ok (.newarray .boolean, 2) := by decide +kernel
theorem d123_100 : decode (mB 123) 100 = .ok (.putfield 45, 3) := by decide +kernel
theorem d123_103 : decode (mB 123) 103 = .ok (.aload_n 0, 1) := by decide +kernel
theorem d123_104 : decode (mB 123) 104 = .ok (.sipush 480, 3) := by decide +kernel
theorem d123_107 : decode (mB 123) 107 = .ok (.newarray .int, 2) := by decide +kernel
theorem d123_109 : decode (mB 123) 109 = .ok (.putfield 49, 3) := by decide +kernel
theorem d123_112 : decode (mB 123) 112 = .ok (.aload_n 0, 1) := by decide +kernel
theorem d123_113 : decode (mB 123) 113 = .ok (.sipush 480, 3) := by decide +kernel
theorem d123_116 : decode (mB 123) 116 = .ok (.newarray .int, 2) := by decide +kernel
theorem d123_118 : decode (mB 123) 118 = .ok (.putfield 52, 3) := by decide +kernel
theorem d123_121 : decode (mB 123) 121 = .ok (.aload_n 0, 1) := by decide +kernel
theorem d123_122 : decode (mB 123) 122 = .ok (.sipush 480, 3) := by decide +kernel
theorem d123_125 : decode (mB 123) 125 = .ok (.newarray .int, 2) := by decide +kernel
theorem d123_127 : decode (mB 123) 127 = .ok (.putfield 55, 3) := by decide +kernel
theorem d123_130 : decode (mB 123) 130 = .ok (.aload_n 0, 1) := by decide +kernel
theorem d123_131 : decode (mB 123) 131 = .ok (.sipush 2400, 3) := by decide +kernel
theorem d123_134 : decode (mB 123) 134 = .ok (.newarray .int, 2) := by decide +kernel
theorem d123_136 : decode (mB 123) 136 = .ok (.putfield 58, 3) := by decide +kernel
theorem d123_139 : decode (mB 123) 139 = .ok (.aload_n 0, 1) := by decide +kernel
theorem d123_140 : decode (mB 123) 140 = .ok (.sipush 2400, 3) := by decide +kernel
theorem d123_143 : decode (mB 123) 143 = .ok (.newarray .int, 2) := by decide +kernel
theorem d123_145 : decode (mB 123) 145 = .ok (.putfield 61, 3) := by decide +kernel
theorem d123_148 : decode (mB 123) 148 = .ok (.aload_n 0, 1) := by decide +kernel
theorem d123_149 : decode (mB 123) 149 = .ok (.sipush 2400, 3) := by decide +kernel
theorem d123_152 : decode (mB 123) 152 = .ok (.newarray .long, 2) := by decide +kernel
theorem d123_154 : decode (mB 123) 154 = .ok (.putfield 64, 3) := by decide +kernel
theorem d123_157 : decode (mB 123) 157 = .ok (.aload_n 0, 1) := by decide +kernel
theorem d123_158 : decode (mB 123) 158 = .ok (.bipush 64, 2) := by decide +kernel
theorem d123_160 : decode (mB 123) 160 = .ok (.newarray .int, 2) := by decide +kernel
theorem d123_162 : decode (mB 123) 162 = .ok (.putfield 68, 3) := by decide +kernel
theorem d123_165 : decode (mB 123) 165 = .ok (.aload_n 0, 1) := by decide +kernel
theorem d123_166 : decode (mB 123) 166 = .ok (.bipush 16, 2) := by decide +kernel
theorem d123_168 : decode (mB 123) 168 = .ok (.newarray .boolean, 2) := by decide +kernel
theorem d123_170 : decode (mB 123) 170 = .ok (.putfield 71, 3) := by decide +kernel
theorem d123_173 : decode (mB 123) 173 = .ok (.aload_n 0, 1) := by decide +kernel
theorem d123_174 : decode (mB 123) 174 = .ok (.bipush 10, 2) := by decide +kernel
theorem d123_176 : decode (mB 123) 176 = .ok (.newarray .int, 2) := by decide +kernel
theorem d123_178 : decode (mB 123) 178 = .ok (.putfield 74, 3) := by decide +kernel
theorem d123_181 : decode (mB 123) 181 = .ok (.aload_n 0, 1) := by decide +kernel
theorem d123_182 : decode (mB 123) 182 = .ok (.bipush 10, 2) := by decide +kernel
theorem d123_184 : decode (mB 123) 184 = .ok (.newarray .int, 2) := by decide +kernel
theorem d123_186 : decode (mB 123) 186 = .ok (.putfield 77, 3) := by decide +kernel
theorem d123_189 : decode (mB 123) 189 = .ok (.aload_n 0, 1) := by decide +kernel
theorem d123_190 : decode (mB 123) 190 = .ok (.bipush 10, 2) := by decide +kernel
theorem d123_192 : decode (mB 123) 192 = .ok (.newarray .int, 2) := by decide +kernel
theorem d123_194 : decode (mB 123) 194 = .ok (.putfield 80, 3) := by decide +kernel
theorem d123_197 : decode (mB 123) 197 = .ok (.aload_n 0, 1) := by decide +kernel
theorem d123_198 : decode (mB 123) 198 = .ok (.bipush 8, 2) := by decide +kernel
theorem d123_200 : decode (mB 123) 200 = .ok (.newarray .boolean, 2) := by decide +kernel
theorem d123_202 : decode (mB 123) 202 = .ok (.putfield 83, 3) := by decide +kernel
theorem d123_205 : decode (mB 123) 205 = .ok (.aload_n 0, 1) := by decide +kernel
theorem d123_206 : decode (mB 123) 206 = .ok (.bipush 8, 2) := by decide +kernel
theorem d123_208 : decode (mB 123) 208 = .ok (.newarray .long, 2) := by decide +kernel
theorem d123_210 : decode (mB 123) 210 = .ok (.putfield 86, 3) := by decide +kernel
theorem d123_213 : decode (mB 123) 213 = .ok (.aload_n 0, 1) := by decide +kernel
theorem d123_214 : decode (mB 123) 214 = .ok (.bipush 7, 2) := by decide +kernel
theorem d123_216 : decode (mB 123) 216 = .ok (.newarray .int, 2) := by decide +kernel
theorem d123_218 : decode (mB 123) 218 = .ok (.putfield 89, 3) := by decide +kernel
theorem d123_221 : decode (mB 123) 221 = .ok (.aload_n 0, 1) := by decide +kernel
theorem d123_222 : decode (mB 123) 222 = .ok (.bipush 7, 2) := by decide +kernel
theorem d123_224 : decode (mB 123) 224 = .ok (.newarray .int, 2) := by decide +kernel
theorem d123_226 : decode (mB 123) 226 = .ok (.putfield 92, 3) := by decide +kernel
theorem d123_229 : decode (mB 123) 229 = .ok (.aload_n 0, 1) := by decide +kernel
theorem d123_230 : decode (mB 123) 230 = .ok (.bipush 7, 2) := by decide +kernel
theorem d123_232 : decode (mB 123) 232 = .ok (.newarray .int, 2) := by decide +kernel
theorem d123_234 : decode (mB 123) 234 = .ok (.putfield 95, 3) := by decide +kernel
theorem d123_237 : decode (mB 123) 237 = .ok (.aload_n 0, 1) := by decide +kernel
theorem d123_238 : decode (mB 123) 238 = .ok (.bipush 7, 2) := by decide +kernel
theorem d123_240 : decode (mB 123) 240 = .ok (.newarray .int, 2) := by decide +kernel
theorem d123_242 : decode (mB 123) 242 = .ok (.putfield 98, 3) := by decide +kernel
theorem d123_245 : decode (mB 123) 245 = .ok (.aload_n 0, 1) := by decide +kernel
theorem d123_246 : decode (mB 123) 246 = .ok (.bipush 7, 2) := by decide +kernel
theorem d123_248 : decode (mB 123) 248 = .ok (.newarray .long, 2) := by decide +kernel
theorem d123_250 : decode (mB 123) 250 = .ok (.putfield 101, 3) := by decide +kernel
theorem d123_253 : decode (mB 123) 253 = .ok (.aload_n 0, 1) := by decide +kernel
theorem d123_254 : decode (mB 123) 254 = .ok (.bipush 70, 2) := by decide +kernel
theorem d123_256 : decode (mB 123) 256 = .ok (.newarray .long, 2) := by decide +kernel
theorem d123_258 : decode (mB 123) 258 = .ok (.putfield 104, 3) := by decide +kernel
theorem d123_261 : decode (mB 123) 261 = .ok (.aload_n 0, 1) := by decide +kernel
theorem d123_262 : decode (mB 123) 262 = .ok (.bipush 7, 2) := by decide +kernel
theorem d123_264 : decode (mB 123) 264 = .ok (.newarray .int, 2) := by decide +kernel
theorem d123_266 : decode (mB 123) 266 = .ok (.putfield 107, 3) := by decide +kernel
theorem d123_269 : decode (mB 123) 269 = .ok (.aload_n 0, 1) := by decide +kernel
theorem d123_270 : decode (mB 123) 270 = .ok (.bipush 63, 2) := by decide +kernel
theorem d123_272 : decode (mB 123) 272 = .ok (.newarray .int, 2) := by decide +kernel
theorem d123_274 : decode (mB 123) 274 = .ok (.putfield 110, 3) := by decide +kernel
theorem d123_277 : decode (mB 123) 277 = .ok (.aload_n 0, 1) := by decide +kernel
theorem d123_278 : decode (mB 123) 278 = .ok (.bipush 63, 2) := by decide +kernel
theorem d123_280 : decode (mB 123) 280 = .ok (.newarray .int, 2) := by decide +kernel
theorem d123_282 : decode (mB 123) 282 = .ok (.putfield 113, 3) := by decide +kernel
theorem d123_285 : decode (mB 123) 285 = .ok (.aload_n 0, 1) := by decide +kernel
theorem d123_286 : decode (mB 123) 286 = .ok (.bipush 63, 2) := by decide +kernel
theorem d123_288 : decode (mB 123) 288 = .ok (.newarray .int, 2) := by decide +kernel
theorem d123_290 : decode (mB 123) 290 = .ok (.putfield 116, 3) := by decide +kernel
theorem d123_293 : decode (mB 123) 293 = .ok (.aload_n 0, 1) := by decide +kernel
theorem d123_294 : decode (mB 123) 294 = .ok (.bipush 63, 2) := by decide +kernel
theorem d123_296 : decode (mB 123) 296 = .ok (.newarray .long, 2) := by decide +kernel
theorem d123_298 : decode (mB 123) 298 = .ok (.putfield 119, 3) := by decide +kernel
theorem d123_301 : decode (mB 123) 301 = .ok (.aload_n 0, 1) := by decide +kernel
theorem d123_302 : decode (mB 123) 302 = .ok (.bipush 63, 2) := by decide +kernel
theorem d123_304 : decode (mB 123) 304 = .ok (.newarray .boolean, 2) := by decide +kernel
theorem d123_306 : decode (mB 123) 306 = .ok (.putfield 122, 3) := by decide +kernel
theorem d123_309 : decode (mB 123) 309 = .ok (.aload_n 0, 1) := by decide +kernel
theorem d123_310 : decode (mB 123) 310 = .ok (.bipush 63, 2) := by decide +kernel
theorem d123_312 : decode (mB 123) 312 = .ok (.newarray .int, 2) := by decide +kernel
theorem d123_314 : decode (mB 123) 314 = .ok (.putfield 125, 3) := by decide +kernel
theorem d123_317 : decode (mB 123) 317 = .ok (.aload_n 0, 1) := by decide +kernel
theorem d123_318 : decode (mB 123) 318 = .ok (.bipush 63, 2) := by decide +kernel
theorem d123_320 : decode (mB 123) 320 = .ok (.newarray .long, 2) := by decide +kernel
theorem d123_322 : decode (mB 123) 322 = .ok (.putfield 128, 3) := by decide +kernel
theorem d123_325 : decode (mB 123) 325 = .ok (.aload_n 0, 1) := by decide +kernel
theorem d123_326 : decode (mB 123) 326 = .ok (.bipush 63, 2) := by decide +kernel
theorem d123_328 : decode (mB 123) 328 = .ok (.newarray .int, 2) := by decide +kernel
theorem d123_330 : decode (mB 123) 330 = .ok (.putfield 131, 3) := by decide +kernel
theorem d123_333 : decode (mB 123) 333 = .ok (.aload_n 0, 1) := by decide +kernel
theorem d123_334 : decode (mB 123) 334 = .ok (.bipush 7, 2) := by decide +kernel
theorem d123_336 : decode (mB 123) 336 = .ok (.newarray .int, 2) := by decide +kernel
theorem d123_338 : decode (mB 123) 338 = .ok (.putfield 134, 3) := by decide +kernel
theorem d123_341 : decode (mB 123) 341 = .ok (.aload_n 0, 1) := by decide +kernel
theorem d123_342 : decode (mB 123) 342 = .ok (.sipush 224, 3) := by decide +kernel
theorem d123_345 : decode (mB 123) 345 = .ok (.newarray .int, 2) := by decide +kernel
theorem d123_347 : decode (mB 123) 347 = .ok (.putfield 137, 3) := by decide +kernel
theorem d123_350 : decode (mB 123) 350 = .ok (.aload_n 0, 1) := by decide +kernel
theorem d123_351 : decode (mB 123) 351 = .ok (.sipush 224, 3) := by decide +kernel
theorem d123_354 : decode (mB 123) 354 = .ok (.newarray .long, 2) := by decide +kernel
theorem d123_356 : decode (mB 123) 356 = .ok (.putfield 140, 3) := by decide +kernel
theorem d123_359 : decode (mB 123) 359 = .ok (.aload_n 0, 1) := by decide +kernel
theorem d123_360 : decode (mB 123) 360 = .ok (.sipush 224, 3) := by decide +kernel
theorem d123_363 : decode (mB 123) 363 = .ok (.newarray .int, 2) := by decide +kernel
theorem d123_365 : decode (mB 123) 365 = .ok (.putfield 143, 3) := by decide +kernel
theorem d123_368 : decode (mB 123) 368 = .ok (.aload_n 0, 1) := by decide +kernel
theorem d123_369 : decode (mB 123) 369 = .ok (.sipush 224, 3) := by decide +kernel
theorem d123_372 : decode (mB 123) 372 = .ok (.newarray .int, 2) := by decide +kernel
theorem d123_374 : decode (mB 123) 374 = .ok (.putfield 146, 3) := by decide +kernel
theorem d123_377 : decode (mB 123) 377 = .ok (.aload_n 0, 1) := by decide +kernel
theorem d123_378 : decode (mB 123) 378 = .ok (.bipush 7, 2) := by decide +kernel
theorem d123_380 : decode (mB 123) 380 = .ok (.newarray .int, 2) := by decide +kernel
theorem d123_382 : decode (mB 123) 382 = .ok (.putfield 149, 3) := by decide +kernel
theorem d123_385 : decode (mB 123) 385 = .ok (.aload_n 0, 1) := by decide +kernel
theorem d123_386 : decode (mB 123) 386 = .ok (.bipush 7, 2) := by decide +kernel
theorem d123_388 : decode (mB 123) 388 = .ok (.newarray .int, 2) := by decide +kernel
theorem d123_390 : decode (mB 123) 390 = .ok (.putfield 152, 3) := by decide +kernel
theorem d123_393 : decode (mB 123) 393 = .ok (.aload_n 0, 1) := by decide +kernel
theorem d123_394 : decode (mB 123) 394 = .ok (.sipush 400, 3) := by decide +kernel
theorem d123_397 : decode (mB 123) 397 = .ok (.newarray .int, 2) := by decide +kernel
theorem d123_399 : decode (mB 123) 399 = .ok (.putfield 155, 3) := by decide +kernel
theorem d123_402 : decode (mB 123) 402 = .ok (.aload_n 0, 1) := by decide +kernel
theorem d123_403 : decode (mB 123) 403 = .ok (.sipush 400, 3) := by decide +kernel
theorem d123_406 : decode (mB 123) 406 = .ok (.newarray .int, 2) := by decide +kernel
theorem d123_408 : decode (mB 123) 408 = .ok (.putfield 158, 3) := by decide +kernel
theorem d123_411 : decode (mB 123) 411 = .ok (.aload_n 0, 1) := by decide +kernel
theorem d123_412 : decode (mB 123) 412 = .ok (.sipush 400, 3) := by decide +kernel
theorem d123_415 : decode (mB 123) 415 = .ok (.newarray .int, 2) := by decide +kernel
theorem d123_417 : decode (mB 123) 417 = .ok (.putfield 161, 3) := by decide +kernel
theorem d123_420 : decode (mB 123) 420 = .ok (.aload_n 0, 1) := by decide +kernel
theorem d123_421 : decode (mB 123) 421 = .ok (.sipush 400, 3) := by decide +kernel
theorem d123_424 : decode (mB 123) 424 = .ok (.newarray .long, 2) := by decide +kernel
theorem d123_426 : decode (mB 123) 426 = .ok (.putfield 164, 3) := by decide +kernel
theorem d123_429 : decode (mB 123) 429 = .ok (.aload_n 0, 1) := by decide +kernel
theorem d123_430 : decode (mB 123) 430 = .ok (.bipush 64, 2) := by decide +kernel
theorem d123_432 : decode (mB 123) 432 = .ok (.newarray .long, 2) := by decide +kernel
theorem d123_434 : decode (mB 123) 434 = .ok (.putfield 167, 3) := by decide +kernel
theorem d123_437 : decode (mB 123) 437 = .ok (.return_, 1) := by decide +kernel
theorem d129_0 : decode (mB 129) 0 = .ok (.iload_n 1, 1) := by decide +kernel
theorem d129_1 : decode (mB 129) 1 = .ok (.aload_n 0, 1) := by decide +kernel
theorem d129_2 : decode (mB 129) 2 = .ok (.getfield 170, 3) := by decide +kernel
theorem d129_5 : decode (mB 129) 5 = .ok (.if_icmp .ge 16, 3) := by decide +kernel
theorem d129_8 : decode (mB 129) 8 = .ok (.aload_n 0, 1) := by decide +kernel
theorem d129_9 : decode (mB 129) 9 = .ok (.getfield 7, 3) := by decide +kernel
theorem d129_12 : decode (mB 129) 12 = .ok (.iload_n 1, 1) := by decide +kernel
theorem d129_13 : decode (mB 129) 13 = .ok (.baload, 1) := by decide +kernel
theorem d129_14 : decode (mB 129) 14 = .ok (.sipush 255, 3) := by decide +kernel
theorem d129_17 : decode (mB 129) 17 = .ok (.iand, 1) := by decide +kernel
theorem d129_18 : decode (mB 129) 18 = .ok (.goto 4, 3) := by decide +kernel
theorem d129_21 : decode (mB 129) 21 = .ok (.iconst (-1), 1) := by decide +kernel
theorem d129_22 : decode (mB 129) 22 = .ok (.ireturn, 1) := by decide +kernel
theorem d130_0 : decode (mB 130) 0 = .ok (.iload_n 0, 1) := by decide +kernel
theorem d130_1 : decode (mB 130) 1 = .ok (.bipush 97, 2) := by decide +kernel
theorem d130_3 : decode (mB 130) 3 = .ok (.if_icmp .lt 13, 3) := by decide +kernel
theorem d130_6 : decode (mB 130) 6 = .ok (.iload_n 0, 1) := by decide +kernel
theorem d130_7 : decode (mB 130) 7 = .ok (.bipush 122, 2) := by decide +kernel
theorem d130_9 : decode (mB 130) 9 = .ok (.if_icmp .gt 7, 3) := by decide +kernel
theorem d130_12 : decode (mB 130) 12 = .ok (.iconst 1, 1) := by decide +kernel
theorem d130_13 : decode (mB 130) 13 = .ok (.goto 4, 3) := by decide +kernel
theorem d130_16 : decode (mB 130) 16 = .ok (.iconst 0, 1) := by decide +kernel
theorem d130_17 : decode (mB 130) 17 = .ok (.ireturn, 1) := by decide +kernel
theorem d132_0 : decode (mB 132) 0 = .ok (.iload_n 0, 1) := by decide +kernel
theorem d132_1 : decode (mB 132) 1 = .ok (.bipush 48, 2) := by decide +kernel
theorem d132_3 : decode (mB 132) 3 = .ok (.if_icmp .lt 13, 3) := by decide +kernel
theorem d132_6 : decode (mB 132) 6 = .ok (.iload_n 0, 1) := by decide +kernel
theorem d132_7 : decode (mB 132) 7 = .ok (.bipush 57, 2) := by decide +kernel
theorem d132_9 : decode (mB 132) 9 = .ok (.if_icmp .gt 7, 3) := by decide +kernel
theorem d132_12 : decode (mB 132) 12 = .ok (.iconst 1, 1) := by decide +kernel
theorem d132_13 : decode (mB 132) 13 = .ok (.goto 4, 3) := by decide +kernel
theorem d132_16 : decode (mB 132) 16 = .ok (.iconst 0, 1) := by decide +kernel
theorem d132_17 : decode (mB 132) 17 = .ok (.ireturn, 1) := by decide +kernel
theorem d133_0 : decode (mB 133) 0 = .ok (.iload_n 0, 1) := by decide +kernel
theorem d133_1 : decode (mB 133) 1 = .ok (.lookupswitch 101 #[(35, 99), (40, 99), (41, 99), (42, 99), (43, 99), (45, 99), (59, 99), (60, 99), (61, 99), (123, 99), (125, 99)], 99) := by decide +kernel
theorem d133_100 : decode (mB 133) 100 = .ok (.iconst 1, 1) := by decide +kernel
theorem d133_101 : decode (mB 133) 101 = .ok (.ireturn, 1) := by decide +kernel
theorem d133_102 : decode (mB 133) 102 = .ok (.iconst 0, 1) := by decide +kernel
theorem d133_103 : decode (mB 133) 103 = .ok (.ireturn, 1) := by decide +kernel
theorem d131_0 : decode (mB 131) 0 = .ok (.lload_n 0, 1) := by decide +kernel
theorem d131_1 : decode (mB 131) 1 = .ok (.ldc2_w 173, 3) := by decide +kernel
theorem d131_4 : decode (mB 131) 4 = .ok (.lcmp, 1) := by decide +kernel
theorem d131_5 : decode (mB 131) 5 = .ok (.ifCond .ne 5, 3) := by decide +kernel
theorem d131_8 : decode (mB 131) 8 = .ok (.iconst 0, 1) := by decide +kernel
theorem d131_9 : decode (mB 131) 9 = .ok (.ireturn, 1) := by decide +kernel
theorem d131_10 : decode (mB 131) 10 = .ok (.lload_n 0, 1) := by decide +kernel
theorem d131_11 : decode (mB 131) 11 = .ok (.ldc2_w 175, 3) := by decide +kernel
theorem d131_14 : decode (mB 131) 14 = .ok (.lcmp, 1) := by decide +kernel
theorem d131_15 : decode (mB 131) 15 = .ok (.ifCond .ne 5, 3) := by decide +kernel
theorem d131_18 : decode (mB 131) 18 = .ok (.iconst 1, 1) := by decide +kernel
theorem d131_19 : decode (mB 131) 19 = .ok (.ireturn, 1) := by decide +kernel
theorem d131_20 : decode (mB 131) 20 = .ok (.lload_n 0, 1) := by decide +kernel
theorem d131_21 : decode (mB 131) 21 = .ok (.ldc2_w 177, 3) := by decide +kernel
theorem d131_24 : decode (mB 131) 24 = .ok (.lcmp, 1) := by decide +kernel
theorem d131_25 : decode (mB 131) 25 = .ok (.ifCond .ne 5, 3) := by decide +kernel
theorem d131_28 : decode (mB 131) 28 = .ok (.iconst 2, 1) := by decide +kernel
theorem d131_29 : decode (mB 131) 29 = .ok (.ireturn, 1) := by decide +kernel
theorem d131_30 : decode (mB 131) 30 = .ok (.lload_n 0, 1) := by decide +kernel
theorem d131_31 : decode (mB 131) 31 = .ok (.ldc2_w 179, 3) := by decide +kernel
theorem d131_34 : decode (mB 131) 34 = .ok (.lcmp, 1) := by decide +kernel
theorem d131_35 : decode (mB 131) 35 = .ok (.ifCond .ne 5, 3) := by decide +kernel
theorem d131_38 : decode (mB 131) 38 = .ok (.iconst 3, 1) := by decide +kernel
theorem d131_39 : decode (mB 131) 39 = .ok (.ireturn, 1) := by decide +kernel
theorem d131_40 : decode (mB 131) 40 = .ok (.lload_n 0, 1) := by decide +kernel
theorem d131_41 : decode (mB 131) 41 = .ok (.ldc2_w 181, 3) := by decide +kernel
theorem d131_44 : decode (mB 131) 44 = .ok (.lcmp, 1) := by decide +kernel
theorem d131_45 : decode (mB 131) 45 = .ok (.ifCond .ne 5, 3) := by decide +kernel
theorem d131_48 : decode (mB 131) 48 = .ok (.iconst 4, 1) := by decide +kernel
theorem d131_49 : decode (mB 131) 49 = .ok (.ireturn, 1) := by decide +kernel
theorem d131_50 : decode (mB 131) 50 = .ok (.lload_n 0, 1) := by decide +kernel
theorem d131_51 : decode (mB 131) 51 = .ok (.ldc2_w 183, 3) := by decide +kernel
theorem d131_54 : decode (mB 131) 54 = .ok (.lcmp, 1) := by decide +kernel
theorem d131_55 : decode (mB 131) 55 = .ok (.ifCond .ne 5, 3) := by decide +kernel
theorem d131_58 : decode (mB 131) 58 = .ok (.iconst 5, 1) := by decide +kernel
theorem d131_59 : decode (mB 131) 59 = .ok (.ireturn, 1) := by decide +kernel
theorem d131_60 : decode (mB 131) 60 = .ok (.lload_n 0, 1) := by decide +kernel
theorem d131_61 : decode (mB 131) 61 = .ok (.ldc2_w 185, 3) := by decide +kernel
theorem d131_64 : decode (mB 131) 64 = .ok (.lcmp, 1) := by decide +kernel
theorem d131_65 : decode (mB 131) 65 = .ok (.ifCond .ne 6, 3) := by decide +kernel
theorem d131_68 : decode (mB 131) 68 = .ok (.bipush 6, 2) := by decide +kernel
theorem d131_70 : decode (mB 131) 70 = .ok (.ireturn, 1) := by decide +kernel
theorem d131_71 : decode (mB 131) 71 = .ok (.lload_n 0, 1) := by decide +kernel
theorem d131_72 : decode (mB 131) 72 = .ok (.ldc2_w 187, 3) := by decide +kernel
theorem d131_75 : decode (mB 131) 75 = .ok (.lcmp, 1) := by decide +kernel
theorem d131_76 : decode (mB 131) 76 = .ok (.ifCond .ne 6, 3) := by decide +kernel
theorem d131_79 : decode (mB 131) 79 = .ok (.bipush 7, 2) := by decide +kernel
theorem d131_81 : decode (mB 131) 81 = .ok (.ireturn, 1) := by decide +kernel
theorem d131_82 : decode (mB 131) 82 = .ok (.lload_n 0, 1) := by decide +kernel
theorem d131_83 : decode (mB 131) 83 = .ok (.ldc2_w 189, 3) := by decide +kernel
theorem d131_86 : decode (mB 131) 86 = .ok (.lcmp, 1) := by decide +kernel
theorem d131_87 : decode (mB 131) 87 = .ok (.ifCond .ne 6, 3) := by decide +kernel
theorem d131_90 : decode (mB 131) 90 = .ok (.bipush 8, 2) := by decide +kernel
theorem d131_92 : decode (mB 131) 92 = .ok (.ireturn, 1) := by decide +kernel
theorem d131_93 : decode (mB 131) 93 = .ok (.lload_n 0, 1) := by decide +kernel
theorem d131_94 : decode (mB 131) 94 = .ok (.ldc2_w 191, 3) := by decide +kernel
theorem d131_97 : decode (mB 131) 97 = .ok (.lcmp, 1) := by decide +kernel
theorem d131_98 : decode (mB 131) 98 = .ok (.ifCond .ne 6, 3) := by decide +kernel
theorem d131_101 : decode (mB 131) 101 = .ok (.bipush 9, 2) := by decide +kernel
theorem d131_103 : decode (mB 131) 103 = .ok (.ireturn, 1) := by decide +kernel
theorem d131_104 : decode (mB 131) 104 = .ok (.lload_n 0, 1) := by decide +kernel
theorem d131_105 : decode (mB 131) 105 = .ok (.ldc2_w 193, 3) := by decide +kernel
theorem d131_108 : decode (mB 131) 108 = .ok (.lcmp, 1) := by decide +kernel
theorem d131_109 : decode (mB 131) 109 = .ok (.ifCond .ne 6, 3) := by decide +kernel
theorem d131_112 : decode (mB 131) 112 = .ok (.bipush 10, 2) := by decide +kernel
theorem d131_114 : decode (mB 131) 114 = .ok (.ireturn, 1) := by decide +kernel
theorem d131_115 : decode (mB 131) 115 = .ok (.lload_n 0, 1) := by decide +kernel
theorem d131_116 : decode (mB 131) 116 = .ok (.ldc2_w 195, 3) := by decide +kernel
theorem d131_119 : decode (mB 131) 119 = .ok (.lcmp, 1) := by decide +kernel
theorem d131_120 : decode (mB 131) 120 = .ok (.ifCond .ne 6, 3) := by decide +kernel
theorem d131_123 : decode (mB 131) 123 = .ok (.bipush 11, 2) := by decide +kernel
theorem d131_125 : decode (mB 131) 125 = .ok (.ireturn, 1) := by decide +kernel
theorem d131_126 : decode (mB 131) 126 = .ok (.lload_n 0, 1) := by decide +kernel
theorem d131_127 : decode (mB 131) 127 = .ok (.ldc2_w 197, 3) := by decide +kernel
theorem d131_130 : decode (mB 131) 130 = .ok (.lcmp, 1) := by decide +kernel
theorem d131_131 : decode (mB 131) 131 = .ok (.ifCond .ne 6, 3) := by decide +kernel
theorem d131_134 : decode (mB 131) 134 = .ok (.bipush 12, 2) := by decide +kernel
theorem d131_136 : decode (mB 131) 136 = .ok (.ireturn, 1) := by decide +kernel
theorem d131_137 : decode (mB 131) 137 = .ok (.lload_n 0, 1) := by decide +kernel
theorem d131_138 : decode (mB 131) 138 = .ok (.ldc2_w 199, 3) := by decide +kernel
theorem d131_141 : decode (mB 131) 141 = .ok (.lcmp, 1) := by decide +kernel
theorem d131_142 : decode (mB 131) 142 = .ok (.ifCond .ne 6, 3) := by decide +kernel
theorem d131_145 : decode (mB 131) 145 = .ok (.bipush 13, 2) := by decide +kernel
theorem d131_147 : decode (mB 131) 147 = .ok (.ireturn, 1) := by decide +kernel
theorem d131_148 : decode (mB 131) 148 = .ok (.lload_n 0, 1) := by decide +kernel
theorem d131_149 : decode (mB 131) 149 = .ok (.ldc2_w 201, 3) := by decide +kernel
theorem d131_152 : decode (mB 131) 152 = .ok (.lcmp, 1) := by decide +kernel
theorem d131_153 : decode (mB 131) 153 = .ok (.ifCond .ne 6, 3) := by decide +kernel
theorem d131_156 : decode (mB 131) 156 = .ok (.bipush 14, 2) := by decide +kernel
theorem d131_158 : decode (mB 131) 158 = .ok (.ireturn, 1) := by decide +kernel
theorem d131_159 : decode (mB 131) 159 = .ok (.lload_n 0, 1) := by decide +kernel
theorem d131_160 : decode (mB 131) 160 = .ok (.ldc2_w 203, 3) := by decide +kernel
theorem d131_163 : decode (mB 131) 163 = .ok (.lcmp, 1) := by decide +kernel
theorem d131_164 : decode (mB 131) 164 = .ok (.ifCond .ne 6, 3) := by decide +kernel
theorem d131_167 : decode (mB 131) 167 = .ok (.bipush 15, 2) := by decide +kernel
theorem d131_169 : decode (mB 131) 169 = .ok (.ireturn, 1) := by decide +kernel
theorem d131_170 : decode (mB 131) 170 = .ok (.lload_n 0, 1) := by decide +kernel
theorem d131_171 : decode (mB 131) 171 = .ok (.ldc2_w 205, 3) := by decide +kernel
theorem d131_174 : decode (mB 131) 174 = .ok (.lcmp, 1) := by decide +kernel
theorem d131_175 : decode (mB 131) 175 = .ok (.ifCond .ne 6, 3) := by decide +kernel
theorem d131_178 : decode (mB 131) 178 = .ok (.bipush 16, 2) := by decide +kernel
theorem d131_180 : decode (mB 131) 180 = .ok (.ireturn, 1) := by decide +kernel
theorem d131_181 : decode (mB 131) 181 = .ok (.lload_n 0, 1) := by decide +kernel
theorem d131_182 : decode (mB 131) 182 = .ok (.ldc2_w 207, 3) := by decide +kernel
theorem d131_185 : decode (mB 131) 185 = .ok (.lcmp, 1) := by decide +kernel
theorem d131_186 : decode (mB 131) 186 = .ok (.ifCond .ne 6, 3) := by decide +kernel
theorem d131_189 : decode (mB 131) 189 = .ok (.bipush 17, 2) := by decide +kernel
theorem d131_191 : decode (mB 131) 191 = .ok (.ireturn, 1) := by decide +kernel
theorem d131_192 : decode (mB 131) 192 = .ok (.lload_n 0, 1) := by decide +kernel
theorem d131_193 : decode (mB 131) 193 = .ok (.ldc2_w 209, 3) := by decide +kernel
theorem d131_196 : decode (mB 131) 196 = .ok (.lcmp, 1) := by decide +kernel
theorem d131_197 : decode (mB 131) 197 = .ok (.ifCond .ne 6, 3) := by decide +kernel
theorem d131_200 : decode (mB 131) 200 = .ok (.bipush 18, 2) := by decide +kernel
theorem d131_202 : decode (mB 131) 202 = .ok (.ireturn, 1) := by decide +kernel
theorem d131_203 : decode (mB 131) 203 = .ok (.iconst (-1), 1) := by decide +kernel
theorem d131_204 : decode (mB 131) 204 = .ok (.ireturn, 1) := by decide +kernel
theorem d128_0 : decode (mB 128) 0 = .ok (.aload_n 0, 1) := by decide +kernel
theorem d128_1 : decode (mB 128) 1 = .ok (.aload_n 0, 1) := by decide +kernel
theorem d128_2 : decode (mB 128) 2 = .ok (.getfield 211, 3) := by decide +kernel
theorem d128_5 : decode (mB 128) 5 = .ok (.invokevirtual 214, 3) := by decide +kernel
theorem d128_8 : decode (mB 128) 8 = .ok (.bipush 32, 2) := by decide +kernel
theorem d128_10 : decode (mB 128) 10 = .ok (.if_icmp .eq 16, 3) := by decide +kernel
theorem d128_13 : decode (mB 128) 13 = .ok (.aload_n 0, 1) := by decide +kernel
theorem d128_14 : decode (mB 128) 14 = .ok (.aload_n 0, 1) := by decide +kernel
theorem d128_15 : decode (mB 128) 15 = .ok (.getfield 211, 3) := by decide +kernel
theorem d128_18 : decode (mB 128) 18 = .ok (.invokevirtual 214, 3) := by decide +kernel
theorem d128_21 : decode (mB 128) 21 = .ok (.bipush 10, 2) := by decide +kernel
theorem d128_23 : decode (mB 128) 23 = .ok (.if_icmp .ne 16, 3) := by decide +kernel
theorem d128_26 : decode (mB 128) 26 = .ok (.aload_n 0, 1) := by decide +kernel
theorem d128_27 : decode (mB 128) 27 = .ok (.dup, 1) := by decide +kernel
theorem d128_28 : decode (mB 128) 28 = .ok (.getfield 211, 3) := by decide +kernel
theorem d128_31 : decode (mB 128) 31 = .ok (.iconst 1, 1) := by decide +kernel
theorem d128_32 : decode (mB 128) 32 = .ok (.iadd, 1) := by decide +kernel
theorem d128_33 : decode (mB 128) 33 = .ok (.putfield 211, 3) := by decide +kernel
theorem d128_36 : decode (mB 128) 36 = .ok (.goto (-36), 3) := by decide +kernel
theorem d128_39 : decode (mB 128) 39 = .ok (.aload_n 0, 1) := by decide +kernel
theorem d128_40 : decode (mB 128) 40 = .ok (.aload_n 0, 1) := by decide +kernel
theorem d128_41 : decode (mB 128) 41 = .ok (.getfield 211, 3) := by decide +kernel
theorem d128_44 : decode (mB 128) 44 = .ok (.putfield 218, 3) := by decide +kernel
theorem d128_47 : decode (mB 128) 47 = .ok (.aload_n 0, 1) := by decide +kernel
theorem d128_48 : decode (mB 128) 48 = .ok (.aload_n 0, 1) := by decide +kernel
theorem d128_49 : decode (mB 128) 49 = .ok (.getfield 211, 3) := by decide +kernel
theorem d128_52 : decode (mB 128) 52 = .ok (.invokevirtual 214, 3) := by decide +kernel
theorem d128_55 : decode (mB 128) 55 = .ok (.istore_n 1, 1) := by decide +kernel
theorem d128_56 : decode (mB 128) 56 = .ok (.iload_n 1, 1) := by decide +kernel
theorem d128_57 : decode (mB 128) 57 = .ok (.ifCond .ge 11, 3) := by decide +kernel
theorem d128_60 : decode (mB 128) 60 = .ok (.aload_n 0, 1) := by decide +kernel
theorem d128_61 : decode (mB 128) 61 = .ok (.iconst 0, 1) := by decide +kernel
theorem d128_62 : decode (mB 128) 62 = .ok (.putfield 221, 3) := by decide +kernel
theorem d128_65 : decode (mB 128) 65 = .ok (.goto 255, 3) := by decide +kernel
theorem d128_68 : decode (mB 128) 68 = .ok (.iload_n 1, 1) := by decide +kernel
theorem d128_69 : decode (mB 128) 69 = .ok (.invokestatic 224, 3) := by decide +kernel
theorem d128_72 : decode (mB 128) 72 = .ok (.ifCond .eq 116, 3) := by decide +kernel
theorem d128_75 : decode (mB 128) 75 = .ok (.iconst 0, 1) := by decide +kernel
theorem d128_76 : decode (mB 128) 76 = .ok (.istore_n 2, 1) := by decide +kernel
theorem d128_77 : decode (mB 128) 77 = .ok (.lconst 0, 1) := by decide +kernel
theorem d128_78 : decode (mB 128) 78 = .ok (.lstore_n 3, 1) := by decide +kernel
theorem d128_79 : decode (mB 128) 79 = .ok (.aload_n 0, 1) := by decide +kernel
theorem d128_80 : decode (mB 128) 80 = .ok (.aload_n 0, 1) := by decide +kernel
theorem d128_81 : decode (mB 128) 81 = .ok (.getfield 211, 3) := by decide +kernel
theorem d128_84 : decode (mB 128) 84 = .ok (.invokevirtual 214, 3) := by decide +kernel
theorem d128_87 : decode (mB 128) 87 = .ok (.invokestatic 224, 3) := by decide +kernel
theorem d128_90 : decode (mB 128) 90 = .ok (.ifCond .eq 44, 3) := by decide +kernel
theorem d128_93 : decode (mB 128) 93 = .ok (.iload_n 2, 1) := by decide +kernel
theorem d128_94 : decode (mB 128) 94 = .ok (.bipush 7, 2) := by decide +kernel
theorem d128_96 : decode (mB 128) 96 = .ok (.if_icmp .ge 20, 3) := by decide +kernel
theorem d128_99 : decode (mB 128) 99 = .ok (.lload_n 3, 1) := by decide +kernel
theorem d128_100 : decode (mB 128) 100 = .ok (.bipush 8, 2) := by decide +kernel
theorem d128_102 : decode (mB 128) 102 = .ok (.lshl, 1) := by decide +kernel
theorem d128_103 : decode (mB 128) 103 = .ok (.aload_n 0, 1) := by decide +kernel
theorem d128_104 : decode (mB 128) 104 = .ok (.aload_n 0, 1) := by decide +kernel
theorem d128_105 : decode (mB 128) 105 = .ok (.getfield 211, 3) := by decide +kernel
theorem d128_108 : decode (mB 128) 108 = .ok (.invokevirtual 214, 3) := by decide +kernel
theorem d128_111 : decode (mB 128) 111 = .ok (.i2l, 1) := by decide +kernel
theorem d128_112 : decode (mB 128) 112 = .ok (.lor, 1) := by decide +kernel
theorem d128_113 : decode (mB 128) 113 = .ok (.goto 4, 3) := by decide +kernel
theorem d128_116 : decode (mB 128) 116 = .ok (.lload_n 3, 1) := by decide +kernel
theorem d128_117 : decode (mB 128) 117 = .ok (.lstore_n 3, 1) := by decide +kernel
theorem d128_118 : decode (mB 128) 118 = .ok (.iinc 2 1, 3) := by decide +kernel
theorem d128_121 : decode (mB 128) 121 = .ok (.aload_n 0, 1) := by decide +kernel
theorem d128_122 : decode (mB 128) 122 = .ok (.dup, 1) := by decide +kernel
theorem d128_123 : decode (mB 128) 123 = .ok (.getfield 211, 3) := by decide +kernel
theorem d128_126 : decode (mB 128) 126 = .ok (.iconst 1, 1) := by decide +kernel
theorem d128_127 : decode (mB 128) 127 = .ok (.iadd, 1) := by decide +kernel
theorem d128_128 : decode (mB 128) 128 = .ok (.putfield 211, 3) := by decide +kernel
theorem d128_131 : decode (mB 128) 131 = .ok (.goto (-52), 3) := by decide +kernel
theorem d128_134 : decode (mB 128) 134 = .ok (.aload_n 0, 1) := by decide +kernel
theorem d128_135 : decode (mB 128) 135 = .ok (.iload_n 1, 1) := by decide +kernel
theorem d128_136 : decode (mB 128) 136 = .ok (.bipush 97, 2) := by decide +kernel
theorem d128_138 : decode (mB 128) 138 = .ok (.isub, 1) := by decide +kernel
theorem d128_139 : decode (mB 128) 139 = .ok (.putfield 228, 3) := by decide +kernel
theorem d128_142 : decode (mB 128) 142 = .ok (.iload_n 2, 1) := by decide +kernel
theorem d128_143 : decode (mB 128) 143 = .ok (.bipush 7, 2) := by decide +kernel
theorem d128_145 : decode (mB 128) 145 = .ok (.if_icmp .ge 10, 3) := by decide +kernel
theorem d128_148 : decode (mB 128) 148 = .ok (.lload_n 3, 1) := by decide +kernel
theorem d128_149 : decode (mB 128) 149 = .ok (.invokestatic 231, 3) := by decide +kernel
theorem d128_152 : decode (mB 128) 152 = .ok (.goto 4, 3) := by decide +kernel
theorem d128_155 : decode (mB 128) 155 = .ok (.iconst (-1), 1) := by decide +kernel
theorem d128_156 : decode (mB 128) 156 = .ok (.istore 5, 2) := by decide +kernel
theorem d128_158 : decode (mB 128) 158 = .ok (.aload_n 0, 1) := by decide +kernel
theorem d128_159 : decode (mB 128) 159 = .ok (.iload_n 2, 1) := by decide +kernel
theorem d128_160 : decode (mB 128) 160 = .ok (.iconst 1, 1) := by decide +kernel
theorem d128_161 : decode (mB 128) 161 = .ok (.if_icmp .ne 7, 3) := by decide +kernel
theorem d128_164 : decode (mB 128) 164 = .ok (.iconst 2, 1) := by decide +kernel
theorem d128_165 : decode (mB 128) 165 = .ok (.goto 17, 3) := by decide +kernel
theorem d128_168 : decode (mB 128) 168 = .ok (.iload 5, 2) := by decide +kernel
theorem d128_170 : decode (mB 128) 170 = .ok (.ifCond .ge 7, 3) := by decide +kernel
theorem d128_173 : decode (mB 128) 173 = .ok (.iconst 1, 1) := by decide +kernel
theorem d128_174 : decode (mB 128) 174 = .ok (.goto 8, 3) := by decide +kernel
theorem d128_177 : decode (mB 128) 177 = .ok (.bipush 10, 2) := by decide +kernel
theorem d128_179 : decode (mB 128) 179 = .ok (.iload 5, 2) := by decide +kernel
theorem d128_181 : decode (mB 128) 181 = .ok (.iadd, 1) := by decide +kernel
theorem d128_182 : decode (mB 128) 182 = .ok (.putfield 221, 3) := by decide +kernel
theorem d128_185 : decode (mB 128) 185 = .ok (.goto 135, 3) := by decide +kernel
theorem d128_188 : decode (mB 128) 188 = .ok (.iload_n 1, 1) := by decide +kernel
theorem d128_189 : decode (mB 128) 189 = .ok (.invokestatic 235, 3) := by decide +kernel
theorem d128_192 : decode (mB 128) 192 = .ok (.ifCond .eq 97, 3) := by decide +kernel
theorem d128_195 : decode (mB 128) 195 = .ok (.iconst 0, 1) := by decide +kernel
theorem d128_196 : decode (mB 128) 196 = .ok (.istore_n 2, 1) := by decide +kernel
theorem d128_197 : decode (mB 128) 197 = .ok (.aload_n 0, 1) := by decide +kernel
theorem d128_198 : decode (mB 128) 198 = .ok (.lconst 0, 1) := by decide +kernel
theorem d128_199 : decode (mB 128) 199 = .ok (.putfield 238, 3) := by decide +kernel
theorem d128_202 : decode (mB 128) 202 = .ok (.aload_n 0, 1) := by decide +kernel
theorem d128_203 : decode (mB 128) 203 = .ok (.aload_n 0, 1) := by decide +kernel
theorem d128_204 : decode (mB 128) 204 = .ok (.getfield 211, 3) := by decide +kernel
theorem d128_207 : decode (mB 128) 207 = .ok (.invokevirtual 214, 3) := by decide +kernel
theorem d128_210 : decode (mB 128) 210 = .ok (.invokestatic 235, 3) := by decide +kernel
theorem d128_213 : decode (mB 128) 213 = .ok (.ifCond .eq 58, 3) := by decide +kernel
theorem d128_216 : decode (mB 128) 216 = .ok (.aload_n 0, 1) := by decide +kernel
theorem d128_217 : decode (mB 128) 217 = .ok (.iload_n 2, 1) := by decide +kernel
theorem d128_218 : decode (mB 128) 218 = .ok (.bipush 9, 2) := by decide +kernel
theorem d128_220 : decode (mB 128) 220 = .ok (.if_icmp .ge 28, 3) := by decide +kernel
theorem d128_223 : decode (mB 128) 223 = .ok (.ldc2_w 242, 3) := by decide +kernel
theorem d128_226 : decode (mB 128) 226 = .ok (.aload_n 0, 1) := by decide +kernel
theorem d128_227 : decode (mB 128) 227 = .ok (.getfield 238, 3) := by decide +kernel
theorem d128_230 : decode (mB 128) 230 = .ok (.lmul, 1) := by decide +kernel
theorem d128_231 : decode (mB 128) 231 = .ok (.aload_n 0, 1) := by decide +kernel
theorem d128_232 : decode (mB 128) 232 = .ok (.aload_n 0, 1) := by decide +kernel
theorem d128_233 : decode (mB 128) 233 = .ok (.getfield 211, 3) := by decide +kernel
theorem d128_236 : decode (mB 128) 236 = .ok (.invokevirtual 214, 3) := by decide +kernel
theorem d128_239 : decode (mB 128) 239 = .ok (.i2l, 1) := by decide +kernel
theorem d128_240 : decode (mB 128) 240 = .ok (.ladd, 1) := by decide +kernel
theorem d128_241 : decode (mB 128) 241 = .ok (.ldc2_w 244, 3) := by decide +kernel
theorem d128_244 : decode (mB 128) 244 = .ok (.lsub, 1) := by decide +kernel
theorem d128_245 : decode (mB 128) 245 = .ok (.goto 7, 3) := by decide +kernel
theorem d128_248 : decode (mB 128) 248 = .ok (.aload_n 0, 1) := by decide +kernel
theorem d128_249 : decode (mB 128) 249 = .ok (.getfield 238, 3) := by decide +kernel
theorem d128_252 : decode (mB 128) 252 = .ok (.putfield 238, 3) := by decide +kernel
theorem d128_255 : decode (mB 128) 255 = .ok (.iinc 2 1, 3) := by decide +kernel
theorem d128_258 : decode (mB 128) 258 = .ok (.aload_n 0, 1) := by decide +kernel
theorem d128_259 : decode (mB 128) 259 = .ok (.dup, 1) := by decide +kernel
theorem d128_260 : decode (mB 128) 260 = .ok (.getfield 211, 3) := by decide +kernel
theorem d128_263 : decode (mB 128) 263 = .ok (.iconst 1, 1) := by decide +kernel
theorem d128_264 : decode (mB 128) 264 = .ok (.iadd, 1) := by decide +kernel
theorem d128_265 : decode (mB 128) 265 = .ok (.putfield 211, 3) := by decide +kernel
theorem d128_268 : decode (mB 128) 268 = .ok (.goto (-66), 3) := by decide +kernel
theorem d128_271 : decode (mB 128) 271 = .ok (.aload_n 0, 1) := by decide +kernel
theorem d128_272 : decode (mB 128) 272 = .ok (.iload_n 2, 1) := by decide +kernel
theorem d128_273 : decode (mB 128) 273 = .ok (.bipush 9, 2) := by decide +kernel
theorem d128_275 : decode (mB 128) 275 = .ok (.if_icmp .le 7, 3) := by decide +kernel
theorem d128_278 : decode (mB 128) 278 = .ok (.iconst 1, 1) := by decide +kernel
theorem d128_279 : decode (mB 128) 279 = .ok (.goto 4, 3) := by decide +kernel
theorem d128_282 : decode (mB 128) 282 = .ok (.iconst 3, 1) := by decide +kernel
theorem d128_283 : decode (mB 128) 283 = .ok (.putfield 221, 3) := by decide +kernel
theorem d128_286 : decode (mB 128) 286 = .ok (.goto 34, 3) := by decide +kernel
theorem d128_289 : decode (mB 128) 289 = .ok (.aload_n 0, 1) := by decide +kernel
theorem d128_290 : decode (mB 128) 290 = .ok (.iload_n 1, 1) := by decide +kernel
theorem d128_291 : decode (mB 128) 291 = .ok (.putfield 246, 3) := by decide +kernel
theorem d128_294 : decode (mB 128) 294 = .ok (.aload_n 0, 1) := by decide +kernel
theorem d128_295 : decode (mB 128) 295 = .ok (.iload_n 1, 1) := by decide +kernel
theorem d128_296 : decode (mB 128) 296 = .ok (.invokestatic 249, 3) := by decide +kernel
theorem d128_299 : decode (mB 128) 299 = .ok (.ifCond .eq 7, 3) := by decide +kernel
theorem d128_302 : decode (mB 128) 302 = .ok (.iconst 4, 1) := by decide +kernel
theorem d128_303 : decode (mB 128) 303 = .ok (.goto 4, 3) := by decide +kernel
theorem d128_306 : decode (mB 128) 306 = .ok (.iconst 1, 1) := by decide +kernel
theorem d128_307 : decode (mB 128) 307 = .ok (.putfield 221, 3) := by decide +kernel
theorem d128_310 : decode (mB 128) 310 = .ok (.aload_n 0, 1) := by decide +kernel
theorem d128_311 : decode (mB 128) 311 = .ok (.dup, 1) := by decide +kernel
theorem d128_312 : decode (mB 128) 312 = .ok (.getfield 211, 3) := by decide +kernel
theorem d128_315 : decode (mB 128) 315 = .ok (.iconst 1, 1) := by decide +kernel
theorem d128_316 : decode (mB 128) 316 = .ok (.iadd, 1) := by decide +kernel
theorem d128_317 : decode (mB 128) 317 = .ok (.putfield 211, 3) := by decide +kernel
theorem d128_320 : decode (mB 128) 320 = .ok (.return_, 1) := by decide +kernel
theorem d135_0 : decode (mB 135) 0 = .ok (.aload_n 0, 1) := by decide +kernel
theorem d135_1 : decode (mB 135) 1 = .ok (.getfield 252, 3) := by decide +kernel
theorem d135_4 : decode (mB 135) 4 = .ok (.ifCond .ne 16, 3) := by decide +kernel
theorem d135_7 : decode (mB 135) 7 = .ok (.aload_n 0, 1) := by decide +kernel
theorem d135_8 : decode (mB 135) 8 = .ok (.iconst 1, 1) := by decide +kernel
theorem d135_9 : decode (mB 135) 9 = .ok (.putfield 252, 3) := by decide +kernel
theorem d135_12 : decode (mB 135) 12 = .ok (.aload_n 0, 1) := by decide +kernel
theorem d135_13 : decode (mB 135) 13 = .ok (.aload_n 0, 1) := by decide +kernel
theorem d135_14 : decode (mB 135) 14 = .ok (.getfield 218, 3) := by decide +kernel
theorem d135_17 : decode (mB 135) 17 = .ok (.putfield 13, 3) := by decide +kernel
theorem d135_20 : decode (mB 135) 20 = .ok (.return_, 1) := by decide +kernel
theorem d134_0 : decode (mB 134) 0 = .ok (.aload_n 0, 1) := by decide +kernel
theorem d134_1 : decode (mB 134) 1 = .ok (.getfield 221, 3) := by decide +kernel
theorem d134_4 : decode (mB 134) 4 = .ok (.iconst 4, 1) := by decide +kernel
theorem d134_5 : decode (mB 134) 5 = .ok (.if_icmp .ne 15, 3) := by decide +kernel
theorem d134_8 : decode (mB 134) 8 = .ok (.aload_n 0, 1) := by decide +kernel
theorem d134_9 : decode (mB 134) 9 = .ok (.getfield 246, 3) := by decide +kernel
theorem d134_12 : decode (mB 134) 12 = .ok (.iload_n 1, 1) := by decide +kernel
theorem d134_13 : decode (mB 134) 13 = .ok (.if_icmp .ne 7, 3) := by decide +kernel
theorem d134_16 : decode (mB 134) 16 = .ok (.iconst 1, 1) := by decide +kernel
theorem d134_17 : decode (mB 134) 17 = .ok (.goto 4, 3) := by decide +kernel
theorem d134_20 : decode (mB 134) 20 = .ok (.iconst 0, 1) := by decide +kernel
theorem d134_21 : decode (mB 134) 21 = .ok (.ireturn, 1) := by decide +kernel
theorem d144_0 : decode (mB 144) 0 = .ok (.aload_n 0, 1) := by decide +kernel
theorem d144_1 : decode (mB 144) 1 = .ok (.iload_n 1, 1) := by decide +kernel
theorem d144_2 : decode (mB 144) 2 = .ok (.invokevirtual 256, 3) := by decide +kernel
theorem d144_5 : decode (mB 144) 5 = .ok (.ifCond .ne 7, 3) := by decide +kernel
theorem d144_8 : decode (mB 144) 8 = .ok (.aload_n 0, 1) := by decide +kernel
theorem d144_9 : decode (mB 144) 9 = .ok (.invokevirtual 259, 3) := by decide +kernel
theorem d144_12 : decode (mB 144) 12 = .ok (.aload_n 0, 1) := by decide +kernel
theorem d144_13 : decode (mB 144) 13 = .ok (.getfield 252, 3) := by decide +kernel
theorem d144_16 : decode (mB 144) 16 = .ok (.ifCond .ne 7, 3) := by decide +kernel
theorem d144_19 : decode (mB 144) 19 = .ok (.aload_n 0, 1) := by decide +kernel
theorem d144_20 : decode (mB 144) 20 = .ok (.invokevirtual 262, 3) := by decide +kernel
theorem d144_23 : decode (mB 144) 23 = .ok (.return_, 1) := by decide +kernel
theorem d137_0 : decode (mB 137) 0 = .ok (.aload_n 0, 1) := by decide +kernel
theorem d137_1 : decode (mB 137) 1 = .ok (.getfield 221, 3) := by decide +kernel
theorem d137_4 : decode (mB 137) 4 = .ok (.bipush 10, 2) := by decide +kernel
theorem d137_6 : decode (mB 137) 6 = .ok (.iload_n 1, 1) := by decide +kernel
theorem d137_7 : decode (mB 137) 7 = .ok (.iadd, 1) := by decide +kernel
theorem d137_8 : decode (mB 137) 8 = .ok (.if_icmp .eq 7, 3) := by decide +kernel
theorem d137_11 : decode (mB 137) 11 = .ok (.aload_n 0, 1) := by decide +kernel
theorem d137_12 : decode (mB 137) 12 = .ok (.invokevirtual 259, 3) := by decide +kernel
theorem d137_15 : decode (mB 137) 15 = .ok (.aload_n 0, 1) := by decide +kernel
theorem d137_16 : decode (mB 137) 16 = .ok (.getfield 252, 3) := by decide +kernel
theorem d137_19 : decode (mB 137) 19 = .ok (.ifCond .ne 7, 3) := by decide +kernel
theorem d137_22 : decode (mB 137) 22 = .ok (.aload_n 0, 1) := by decide +kernel
theorem d137_23 : decode (mB 137) 23 = .ok (.invokevirtual 262, 3) := by decide +kernel
theorem d137_26 : decode (mB 137) 26 = .ok (.return_, 1) := by decide +kernel
theorem d140_0 : decode (mB 140) 0 = .ok (.aload_n 0, 1) := by decide +kernel
theorem d140_1 : decode (mB 140) 1 = .ok (.getfield 221, 3) := by decide +kernel
theorem d140_4 : decode (mB 140) 4 = .ok (.iconst 2, 1) := by decide +kernel
theorem d140_5 : decode (mB 140) 5 = .ok (.if_icmp .ne 16, 3) := by decide +kernel
theorem d140_8 : decode (mB 140) 8 = .ok (.aload_n 0, 1) := by decide +kernel
theorem d140_9 : decode (mB 140) 9 = .ok (.getfield 228, 3) := by decide +kernel
theorem d140_12 : decode (mB 140) 12 = .ok (.bipush 16, 2) := by decide +kernel
theorem d140_14 : decode (mB 140) 14 = .ok (.if_icmp .lt 7, 3) := by decide +kernel
theorem d140_17 : decode (mB 140) 17 = .ok (.iconst 1, 1) := by decide +kernel
theorem d140_18 : decode (mB 140) 18 = .ok (.goto 4, 3) := by decide +kernel
theorem d140_21 : decode (mB 140) 21 = .ok (.iconst 0, 1) := by decide +kernel
theorem d140_22 : decode (mB 140) 22 = .ok (.ireturn, 1) := by decide +kernel
theorem d148_0 : decode (mB 148) 0 = .ok (.sipush 200, 3) := by decide +kernel
theorem d148_3 : decode (mB 148) 3 = .ok (.aload_n 0, 1) := by decide +kernel
theorem d148_4 : decode (mB 148) 4 = .ok (.getfield 265, 3) := by decide +kernel
theorem d148_7 : decode (mB 148) 7 = .ok (.imul, 1) := by decide +kernel
theorem d148_8 : decode (mB 148) 8 = .ok (.aload_n 0, 1) := by decide +kernel
theorem d148_9 : decode (mB 148) 9 = .ok (.getfield 30, 3) := by decide +kernel
theorem d148_12 : decode (mB 148) 12 = .ok (.aload_n 0, 1) := by decide +kernel
theorem d148_13 : decode (mB 148) 13 = .ok (.getfield 265, 3) := by decide +kernel
theorem d148_16 : decode (mB 148) 16 = .ok (.iaload, 1) := by decide +kernel
theorem d148_17 : decode (mB 148) 17 = .ok (.iadd, 1) := by decide +kernel
theorem d148_18 : decode (mB 148) 18 = .ok (.istore 5, 2) := by decide +kernel
theorem d148_20 : decode (mB 148) 20 = .ok (.aload_n 0, 1) := by decide +kernel
theorem d148_21 : decode (mB 148) 21 = .ok (.getfield 30, 3) := by decide +kernel
theorem d148_24 : decode (mB 148) 24 = .ok (.aload_n 0, 1) := by decide +kernel
theorem d148_25 : decode (mB 148) 25 = .ok (.getfield 265, 3) := by decide +kernel
theorem d148_28 : decode (mB 148) 28 = .ok (.dup2, 1) := by decide +kernel
theorem d148_29 : decode (mB 148) 29 = .ok (.iaload, 1) := by decide +kernel
theorem d148_30 : decode (mB 148) 30 = .ok (.iconst 1, 1) := by decide +kernel
theorem d148_31 : decode (mB 148) 31 = .ok (.iadd, 1) := by decide +kernel
theorem d148_32 : decode (mB 148) 32 = .ok (.iastore, 1) := by decide +kernel
theorem d148_33 : decode (mB 148) 33 = .ok (.aload_n 0, 1) := by decide +kernel
theorem d148_34 : decode (mB 148) 34 = .ok (.getfield 58, 3) := by decide +kernel
theorem d148_37 : decode (mB 148) 37 = .ok (.iload 5, 2) := by decide +kernel
theorem d148_39 : decode (mB 148) 39 = .ok (.iload_n 1, 1) := by decide +kernel
theorem d148_40 : decode (mB 148) 40 = .ok (.iastore, 1) := by decide +kernel
theorem d148_41 : decode (mB 148) 41 = .ok (.aload_n 0, 1) := by decide +kernel
theorem d148_42 : decode (mB 148) 42 = .ok (.getfield 61, 3) := by decide +kernel
theorem d148_45 : decode (mB 148) 45 = .ok (.iload 5, 2) := by decide +kernel
theorem d148_47 : decode (mB 148) 47 = .ok (.iload_n 2, 1) := by decide +kernel
theorem d148_48 : decode (mB 148) 48 = .ok (.iastore, 1) := by decide +kernel
theorem d148_49 : decode (mB 148) 49 = .ok (.aload_n 0, 1) := by decide +kernel
theorem d148_50 : decode (mB 148) 50 = .ok (.getfield 64, 3) := by decide +kernel
theorem d148_53 : decode (mB 148) 53 = .ok (.iload 5, 2) := by decide +kernel
theorem d148_55 : decode (mB 148) 55 = .ok (.lload_n 3, 1) := by decide +kernel
theorem d148_56 : decode (mB 148) 56 = .ok (.lastore, 1) := by decide +kernel
theorem d148_57 : decode (mB 148) 57 = .ok (.return_, 1) := by decide +kernel
theorem d151_0 : decode (mB 151) 0 = .ok (.iload_n 0, 1) := by decide +kernel
theorem d151_1 : decode (mB 151) 1 = .ok (.bipush 42, 2) := by decide +kernel
theorem d151_3 : decode (mB 151) 3 = .ok (.if_icmp .ne 7, 3) := by decide +kernel
theorem d151_6 : decode (mB 151) 6 = .ok (.iconst 3, 1) := by decide +kernel
theorem d151_7 : decode (mB 151) 7 = .ok (.goto 42, 3) := by decide +kernel
theorem d151_10 : decode (mB 151) 10 = .ok (.iload_n 0, 1) := by decide +kernel
theorem d151_11 : decode (mB 151) 11 = .ok (.bipush 43, 2) := by decide +kernel
theorem d151_13 : decode (mB 151) 13 = .ok (.if_icmp .eq 9, 3) := by decide +kernel
theorem d151_16 : decode (mB 151) 16 = .ok (.iload_n 0, 1) := by decide +kernel
theorem d151_17 : decode (mB 151) 17 = .ok (.bipush 45, 2) := by decide +kernel
theorem d151_19 : decode (mB 151) 19 = .ok (.if_icmp .ne 7, 3) := by decide +kernel
theorem d151_22 : decode (mB 151) 22 = .ok (.iconst 2, 1) := by decide +kernel
theorem d151_23 : decode (mB 151) 23 = .ok (.goto 26, 3) := by decide +kernel
theorem d151_26 : decode (mB 151) 26 = .ok (.iload_n 0, 1) := by decide +kernel
theorem d151_27 : decode (mB 151) 27 = .ok (.bipush 60, 2) := by decide +kernel
theorem d151_29 : decode (mB 151) 29 = .ok (.if_icmp .eq 15, 3) := by decide +kernel
theorem d151_32 : decode (mB 151) 32 = .ok (.iload_n 0, 1) := by decide +kernel
theorem d151_33 : decode (mB 151) 33 = .ok (.bipush 61, 2) := by decide +kernel
theorem d151_35 : decode (mB 151) 35 = .ok (.if_icmp .eq 9, 3) := by decide +kernel
theorem d151_38 : decode (mB 151) 38 = .ok (.iload_n 0, 1) := by decide +kernel
theorem d151_39 : decode (mB 151) 39 = .ok (.bipush 35, 2) := by decide +kernel
theorem d151_41 : decode (mB 151) 41 = .ok (.if_icmp .ne 7, 3) := by decide +kernel
theorem d151_44 : decode (mB 151) 44 = .ok (.iconst 1, 1) := by decide +kernel
theorem d151_45 : decode (mB 151) 45 = .ok (.goto 4, 3) := by decide +kernel
theorem d151_48 : decode (mB 151) 48 = .ok (.iconst 0, 1) := by decide +kernel
theorem d151_49 : decode (mB 151) 49 = .ok (.ireturn, 1) := by decide +kernel
theorem d150_0 : decode (mB 150) 0 = .ok (.aload_n 0, 1) := by decide +kernel
theorem d150_1 : decode (mB 150) 1 = .ok (.getfield 268, 3) := by decide +kernel
theorem d150_4 : decode (mB 150) 4 = .ok (.ifCond .le 82, 3) := by decide +kernel
theorem d150_7 : decode (mB 150) 7 = .ok (.aload_n 0, 1) := by decide +kernel
theorem d150_8 : decode (mB 150) 8 = .ok (.getfield 68, 3) := by decide +kernel
theorem d150_11 : decode (mB 150) 11 = .ok (.aload_n 0, 1) := by decide +kernel
theorem d150_12 : decode (mB 150) 12 = .ok (.getfield 268, 3) := by decide +kernel
theorem d150_15 : decode (mB 150) 15 = .ok (.iconst 1, 1) := by decide +kernel
theorem d150_16 : decode (mB 150) 16 = .ok (.isub, 1) := by decide +kernel
theorem d150_17 : decode (mB 150) 17 = .ok (.iaload, 1) := by decide +kernel
theorem d150_18 : decode (mB 150) 18 = .ok (.bipush 40, 2) := by decide +kernel
theorem d150_20 : decode (mB 150) 20 = .ok (.if_icmp .eq 66, 3) := by decide +kernel
theorem d150_23 : decode (mB 150) 23 = .ok (.aload_n 0, 1) := by decide +kernel
theorem d150_24 : decode (mB 150) 24 = .ok (.getfield 68, 3) := by decide +kernel
theorem d150_27 : decode (mB 150) 27 = .ok (.aload_n 0, 1) := by decide +kernel
theorem d150_28 : decode (mB 150) 28 = .ok (.getfield 268, 3) := by decide +kernel
theorem d150_31 : decode (mB 150) 31 = .ok (.iconst 1, 1) := by decide +kernel
theorem d150_32 : decode (mB 150) 32 = .ok (.isub, 1) := by decide +kernel
theorem d150_33 : decode (mB 150) 33 = .ok (.iaload, 1) := by decide +kernel
theorem d150_34 : decode (mB 150) 34 = .ok (.sipush 1000, 3) := by decide +kernel
theorem d150_37 : decode (mB 150) 37 = .ok (.if_icmp .eq 49, 3) := by decide +kernel
theorem d150_40 : decode (mB 150) 40 = .ok (.aload_n 0, 1) := by decide +kernel
theorem d150_41 : decode (mB 150) 41 = .ok (.getfield 68, 3) := by decide +kernel
theorem d150_44 : decode (mB 150) 44 = .ok (.aload_n 0, 1) := by decide +kernel
theorem d150_45 : decode (mB 150) 45 = .ok (.getfield 268, 3) := by decide +kernel
theorem d150_48 : decode (mB 150) 48 = .ok (.iconst 1, 1) := by decide +kernel
theorem d150_49 : decode (mB 150) 49 = .ok (.isub, 1) := by decide +kernel
theorem d150_50 : decode (mB 150) 50 = .ok (.iaload, 1) := by decide +kernel
theorem d150_51 : decode (mB 150) 51 = .ok (.invokestatic 271, 3) := by decide +kernel
theorem d150_54 : decode (mB 150) 54 = .ok (.iload_n 1, 1) := by decide +kernel
theorem d150_55 : decode (mB 150) 55 = .ok (.if_icmp .lt 31, 3) := by decide +kernel
theorem d150_58 : decode (mB 150) 58 = .ok (.aload_n 0, 1) := by decide +kernel
theorem d150_59 : decode (mB 150) 59 = .ok (.dup, 1) := by decide +kernel
theorem d150_60 : decode (mB 150) 60 = .ok (.getfield 268, 3) := by decide +kernel
theorem d150_63 : decode (mB 150) 63 = .ok (.iconst 1, 1) := by decide +kernel
theorem d150_64 : decode (mB 150) 64 = .ok (.isub, 1) := by decide +kernel
theorem d150_65 : decode (mB 150) 65 = .ok (.putfield 268, 3) := by decide +kernel
theorem d150_68 : decode (mB 150) 68 = .ok (.aload_n 0, 1) := by decide +kernel
theorem d150_69 : decode (mB 150) 69 = .ok (.aload_n 0, 1) := by decide +kernel
theorem d150_70 : decode (mB 150) 70 = .ok (.getfield 68, 3) := by decide +kernel
theorem d150_73 : decode (mB 150) 73 = .ok (.aload_n 0, 1) := by decide +kernel
theorem d150_74 : decode (mB 150) 74 = .ok (.getfield 268, 3) := by decide +kernel
theorem d150_77 : decode (mB 150) 77 = .ok (.iaload, 1) := by decide +kernel
theorem d150_78 : decode (mB 150) 78 = .ok (.iconst (-1), 1) := by decide +kernel
theorem d150_79 : decode (mB 150) 79 = .ok (.lconst 0, 1) := by decide +kernel
theorem d150_80 : decode (mB 150) 80 = .ok (.invokevirtual 274, 3) := by decide +kernel
theorem d150_83 : decode (mB 150) 83 = .ok (.goto (-83), 3) := by decide +kernel
theorem d150_86 : decode (mB 150) 86 = .ok (.return_, 1) := by decide +kernel
theorem d149_0 : decode (mB 149) 0 = .ok (.aload_n 0, 1) := by decide +kernel
theorem d149_1 : decode (mB 149) 1 = .ok (.getfield 268, 3) := by decide +kernel
theorem d149_4 : decode (mB 149) 4 = .ok (.ifCond .le 50, 3) := by decide +kernel
theorem d149_7 : decode (mB 149) 7 = .ok (.aload_n 0, 1) := by decide +kernel
theorem d149_8 : decode (mB 149) 8 = .ok (.getfield 68, 3) := by decide +kernel
theorem d149_11 : decode (mB 149) 11 = .ok (.aload_n 0, 1) := by decide +kernel
theorem d149_12 : decode (mB 149) 12 = .ok (.getfield 268, 3) := by decide +kernel
theorem d149_15 : decode (mB 149) 15 = .ok (.iconst 1, 1) := by decide +kernel
theorem d149_16 : decode (mB 149) 16 = .ok (.isub, 1) := by decide +kernel
theorem d149_17 : decode (mB 149) 17 = .ok (.iaload, 1) := by decide +kernel
theorem d149_18 : decode (mB 149) 18 = .ok (.sipush 1000, 3) := by decide +kernel
theorem d149_21 : decode (mB 149) 21 = .ok (.if_icmp .ne 33, 3) := by decide +kernel
theorem d149_24 : decode (mB 149) 24 = .ok (.aload_n 0, 1) := by decide +kernel
theorem d149_25 : decode (mB 149) 25 = .ok (.dup, 1) := by decide +kernel
theorem d149_26 : decode (mB 149) 26 = .ok (.getfield 268, 3) := by decide +kernel
theorem d149_29 : decode (mB 149) 29 = .ok (.iconst 1, 1) := by decide +kernel
theorem d149_30 : decode (mB 149) 30 = .ok (.isub, 1) := by decide +kernel
theorem d149_31 : decode (mB 149) 31 = .ok (.putfield 268, 3) := by decide +kernel
theorem d149_34 : decode (mB 149) 34 = .ok (.aload_n 0, 1) := by decide +kernel
theorem d149_35 : decode (mB 149) 35 = .ok (.dup, 1) := by decide +kernel
theorem d149_36 : decode (mB 149) 36 = .ok (.getfield 278, 3) := by decide +kernel
theorem d149_39 : decode (mB 149) 39 = .ok (.iconst 1, 1) := by decide +kernel
theorem d149_40 : decode (mB 149) 40 = .ok (.isub, 1) := by decide +kernel
theorem d149_41 : decode (mB 149) 41 = .ok (.putfield 278, 3) := by decide +kernel
theorem d149_44 : decode (mB 149) 44 = .ok (.aload_n 0, 1) := by decide +kernel
theorem d149_45 : decode (mB 149) 45 = .ok (.iconst 3, 1) := by decide +kernel
theorem d149_46 : decode (mB 149) 46 = .ok (.iconst (-1), 1) := by decide +kernel
theorem d149_47 : decode (mB 149) 47 = .ok (.lconst 0, 1) := by decide +kernel
theorem d149_48 : decode (mB 149) 48 = .ok (.invokevirtual 274, 3) := by decide +kernel
theorem d149_51 : decode (mB 149) 51 = .ok (.goto (-51), 3) := by decide +kernel
theorem d149_54 : decode (mB 149) 54 = .ok (.return_, 1) := by decide +kernel
theorem d146_0 : decode (mB 146) 0 = .ok (.sipush 200, 3) := by decide +kernel
theorem d146_3 : decode (mB 146) 3 = .ok (.aload_n 0, 1) := by decide +kernel
theorem d146_4 : decode (mB 146) 4 = .ok (.getfield 265, 3) := by decide +kernel
theorem d146_7 : decode (mB 146) 7 = .ok (.imul, 1) := by decide +kernel
theorem d146_8 : decode (mB 146) 8 = .ok (.aload_n 0, 1) := by decide +kernel
theorem d146_9 : decode (mB 146) 9 = .ok (.getfield 30, 3) := by decide +kernel
theorem d146_12 : decode (mB 146) 12 = .ok (.aload_n 0, 1) := by decide +kernel
theorem d146_13 : decode (mB 146) 13 = .ok (.getfield 265, 3) := by decide +kernel
theorem d146_16 : decode (mB 146) 16 = .ok (.iaload, 1) := by decide +kernel
theorem d146_17 : decode (mB 146) 17 = .ok (.iadd, 1) := by decide +kernel
theorem d146_18 : decode (mB 146) 18 = .ok (.istore_n 1, 1) := by decide +kernel
theorem d146_19 : decode (mB 146) 19 = .ok (.aload_n 0, 1) := by decide +kernel
theorem d146_20 : decode (mB 146) 20 = .ok (.iconst 0, 1) := by decide +kernel
theorem d146_21 : decode (mB 146) 21 = .ok (.putfield 268, 3) := by decide +kernel
theorem d146_24 : decode (mB 146) 24 = .ok (.aload_n 0, 1) := by decide +kernel
theorem d146_25 : decode (mB 146) 25 = .ok (.iconst 0, 1) := by decide +kernel
theorem d146_26 : decode (mB 146) 26 = .ok (.putfield 278, 3) := by decide +kernel
theorem d146_29 : decode (mB 146) 29 = .ok (.aload_n 0, 1) := by decide +kernel
theorem d146_30 : decode (mB 146) 30 = .ok (.iconst 0, 1) := by decide +kernel
theorem d146_31 : decode (mB 146) 31 = .ok (.putfield 281, 3) := by decide +kernel
theorem d146_34 : decode (mB 146) 34 = .ok (.aload_n 0, 1) := by decide +kernel
theorem d146_35 : decode (mB 146) 35 = .ok (.getfield 71, 3) := by decide +kernel
theorem d146_38 : decode (mB 146) 38 = .ok (.iconst 0, 1) := by decide +kernel
theorem d146_39 : decode (mB 146) 39 = .ok (.iconst 0, 1) := by decide +kernel
theorem d146_40 : decode (mB 146) 40 = .ok (.bastore, 1) := by decide +kernel
theorem d146_41 : decode (mB 146) 41 = .ok (.iconst 1, 1) := by decide +kernel
theorem d146_42 : decode (mB 146) 42 = .ok (.istore_n 2, 1) := by decide +kernel
theorem d146_43 : decode (mB 146) 43 = .ok (.iconst 1, 1) := by decide +kernel
theorem d146_44 : decode (mB 146) 44 = .ok (.istore_n 3, 1) := by decide +kernel
theorem d146_45 : decode (mB 146) 45 = .ok (.iload_n 3, 1) := by decide +kernel
theorem d146_46 : decode (mB 146) 46 = .ok (.ifCond .eq 228, 3) := by decide +kernel
theorem d146_49 : decode (mB 146) 49 = .ok (.aload_n 0, 1) := by decide +kernel
theorem d146_50 : decode (mB 146) 50 = .ok (.getfield 252, 3) := by decide +kernel
theorem d146_53 : decode (mB 146) 53 = .ok (.ifCond .ne 221, 3) := by decide +kernel
theorem d146_56 : decode (mB 146) 56 = .ok (.iload_n 2, 1) := by decide +kernel
theorem d146_57 : decode (mB 146) 57 = .ok (.ifCond .eq 11, 3) := by decide +kernel
theorem d146_60 : decode (mB 146) 60 = .ok (.aload_n 0, 1) := by decide +kernel
theorem d146_61 : decode (mB 146) 61 = .ok (.invokevirtual 284, 3) := by decide +kernel
theorem d146_64 : decode (mB 146) 64 = .ok (.istore_n 2, 1) := by decide +kernel
theorem d146_65 : decode (mB 146) 65 = .ok (.goto (-20), 3) := by decide +kernel
theorem d146_68 : decode (mB 146) 68 = .ok (.aload_n 0, 1) := by decide +kernel
theorem d146_69 : decode (mB 146) 69 = .ok (.bipush 41, 2) := by decide +kernel
theorem d146_71 : decode (mB 146) 71 = .ok (.invokevirtual 256, 3) := by decide +kernel
theorem d146_74 : decode (mB 146) 74 = .ok (.ifCond .eq 56, 3) := by decide +kernel
theorem d146_77 : decode (mB 146) 77 = .ok (.aload_n 0, 1) := by decide +kernel
theorem d146_78 : decode (mB 146) 78 = .ok (.getfield 281, 3) := by decide +kernel
theorem d146_81 : decode (mB 146) 81 = .ok (.ifCond .le 49, 3) := by decide +kernel
theorem d146_84 : decode (mB 146) 84 = .ok (.aload_n 0, 1) := by decide +kernel
theorem d146_85 : decode (mB 146) 85 = .ok (.iconst 1, 1) := by decide +kernel
theorem d146_86 : decode (mB 146) 86 = .ok (.invokevirtual 288, 3) := by decide +kernel
theorem d146_89 : decode (mB 146) 89 = .ok (.aload_n 0, 1) := by decide +kernel
theorem d146_90 : decode (mB 146) 90 = .ok (.dup, 1) := by decide +kernel
theorem d146_91 : decode (mB 146) 91 = .ok (.getfield 268, 3) := by decide +kernel
theorem d146_94 : decode (mB 146) 94 = .ok (.iconst 1, 1) := by decide +kernel
theorem d146_95 : decode (mB 146) 95 = .ok (.isub, 1) := by decide +kernel
theorem d146_96 : decode (mB 146) 96 = .ok (.putfield 268, 3) := by decide +kernel
theorem d146_99 : decode (mB 146) 99 = .ok (.aload_n 0, 1) := by decide +kernel
theorem d146_100 : decode (mB 146) 100 = .ok (.dup, 1) := by decide +kernel
theorem d146_101 : decode (mB 146) 101 = .ok (.getfield 281, 3) := by decide +kernel
theorem d146_104 : decode (mB 146) 104 = .ok (.iconst 1, 1) := by decide +kernel
theorem d146_105 : decode (mB 146) 105 = .ok (.isub, 1) := by decide +kernel
theorem d146_106 : decode (mB 146) 106 = .ok (.putfield 281, 3) := by decide +kernel
theorem d146_109 : decode (mB 146) 109 = .ok (.aload_n 0, 1) := by decide +kernel
theorem d146_110 : decode (mB 146) 110 = .ok (.dup, 1) := by decide +kernel
theorem d146_111 : decode (mB 146) 111 = .ok (.getfield 278, 3) := by decide +kernel
theorem d146_114 : decode (mB 146) 114 = .ok (.iconst 1, 1) := by decide +kernel
theorem d146_115 : decode (mB 146) 115 = .ok (.isub, 1) := by decide +kernel
theorem d146_116 : decode (mB 146) 116 = .ok (.putfield 278, 3) := by decide +kernel
theorem d146_119 : decode (mB 146) 119 = .ok (.aload_n 0, 1) := by decide +kernel
theorem d146_120 : decode (mB 146) 120 = .ok (.invokevirtual 262, 3) := by decide +kernel
theorem d146_123 : decode (mB 146) 123 = .ok (.aload_n 0, 1) := by decide +kernel
theorem d146_124 : decode (mB 146) 124 = .ok (.invokevirtual 292, 3) := by decide +kernel
theorem d146_127 : decode (mB 146) 127 = .ok (.goto (-82), 3) := by decide +kernel
theorem d146_130 : decode (mB 146) 130 = .ok (.aload_n 0, 1) := by decide +kernel
theorem d146_131 : decode (mB 146) 131 = .ok (.getfield 221, 3) := by decide +kernel
theorem d146_134 : decode (mB 146) 134 = .ok (.iconst 4, 1) := by decide +kernel
theorem d146_135 : decode (mB 146) 135 = .ok (.if_icmp .ne 14, 3) := by decide +kernel
theorem d146_138 : decode (mB 146) 138 = .ok (.aload_n 0, 1) := by decide +kernel
theorem d146_139 : decode (mB 146) 139 = .ok (.getfield 246, 3) := by decide +kernel
theorem d146_142 : decode (mB 146) 142 = .ok (.invokestatic 271, 3) := by decide +kernel
theorem d146_145 : decode (mB 146) 145 = .ok (.iconst 1, 1) := by decide +kernel
theorem d146_146 : decode (mB 146) 146 = .ok (.if_icmp .gt 34, 3) := by decide +kernel
theorem d146_149 : decode (mB 146) 149 = .ok (.aload_n 0, 1) := by decide +kernel
theorem d146_150 : decode (mB 146) 150 = .ok (.getfield 221, 3) := by decide +kernel
theorem d146_153 : decode (mB 146) 153 = .ok (.iconst 4, 1) := by decide +kernel
theorem d146_154 : decode (mB 146) 154 = .ok (.if_icmp .ne 115, 3) := by decide +kernel
theorem d146_157 : decode (mB 146) 157 = .ok (.aload_n 0, 1) := by decide +kernel
theorem d146_158 : decode (mB 146) 158 = .ok (.getfield 246, 3) := by decide +kernel
theorem d146_161 : decode (mB 146) 161 = .ok (.invokestatic 271, 3) := by decide +kernel
theorem d146_164 : decode (mB 146) 164 = .ok (.iconst 1, 1) := by decide +kernel
theorem d146_165 : decode (mB 146) 165 = .ok (.if_icmp .ne 104, 3) := by decide +kernel
theorem d146_168 : decode (mB 146) 168 = .ok (.aload_n 0, 1) := by decide +kernel
theorem d146_169 : decode (mB 146) 169 = .ok (.getfield 71, 3) := by decide +kernel
theorem d146_172 : decode (mB 146) 172 = .ok (.aload_n 0, 1) := by decide +kernel
theorem d146_173 : decode (mB 146) 173 = .ok (.getfield 281, 3) := by decide +kernel
theorem d146_176 : decode (mB 146) 176 = .ok (.baload, 1) := by decide +kernel
theorem d146_177 : decode (mB 146) 177 = .ok (.ifCond .ne 92, 3) := by decide +kernel
theorem d146_180 : decode (mB 146) 180 = .ok (.aload_n 0, 1) := by decide +kernel
theorem d146_181 : decode (mB 146) 181 = .ok (.getfield 246, 3) := by decide +kernel
theorem d146_184 : decode (mB 146) 184 = .ok (.invokestatic 271, 3) := by decide +kernel
theorem d146_187 : decode (mB 146) 187 = .ok (.istore 4, 2) := by decide +kernel
theorem d146_189 : decode (mB 146) 189 = .ok (.aload_n 0, 1) := by decide +kernel
theorem d146_190 : decode (mB 146) 190 = .ok (.getfield 71, 3) := by decide +kernel
theorem d146_193 : decode (mB 146) 193 = .ok (.aload_n 0, 1) := by decide +kernel
theorem d146_194 : decode (mB 146) 194 = .ok (.getfield 281, 3) := by decide +kernel
theorem d146_197 : decode (mB 146) 197 = .ok (.aload_n 0, 1) := by decide +kernel
theorem d146_198 : decode (mB 146) 198 = .ok (.getfield 71, 3) := by decide +kernel
theorem d146_201 : decode (mB 146) 201 = .ok (.aload_n 0, 1) := by decide +kernel
theorem d146_202 : decode (mB 146) 202 = .ok (.getfield 281, 3) := by decide +kernel
theorem d146_205 : decode (mB 146) 205 = .ok (.baload, 1) := by decide +kernel
theorem d146_206 : decode (mB 146) 206 = .ok (.ifCond .ne 9, 3) := by decide +kernel
theorem d146_209 : decode (mB 146) 209 = .ok (.iload 4, 2) := by decide +kernel
theorem d146_211 : decode (mB 146) 211 = .ok (.iconst 1, 1) := by decide +kernel
theorem d146_212 : decode (mB 146) 212 = .ok (.if_icmp .ne 7, 3) := by decide +kernel
theorem d146_215 : decode (mB 146) 215 = .ok (.iconst 1, 1) := by decide +kernel
theorem d146_216 : decode (mB 146) 216 = .ok (.goto 4, 3) := by decide +kernel
theorem d146_219 : decode (mB 146) 219 = .ok (.iconst 0, 1) := by decide +kernel
theorem d146_220 : decode (mB 146) 220 = .ok (.bastore, 1) := by decide +kernel
theorem d146_221 : decode (mB 146) 221 = .ok (.aload_n 0, 1) := by decide +kernel
theorem d146_222 : decode (mB 146) 222 = .ok (.iload 4, 2) := by decide +kernel
theorem d146_224 : decode (mB 146) 224 = .ok (.iconst 1, 1) := by decide +kernel
theorem d146_225 : decode (mB 146) 225 = .ok (.if_icmp .ne 7, 3) := by decide +kernel
theorem d146_228 : decode (mB 146) 228 = .ok (.iconst 2, 1) := by decide +kernel
theorem d146_229 : decode (mB 146) 229 = .ok (.goto 5, 3) := by decide +kernel
theorem d146_232 : decode (mB 146) 232 = .ok (.iload 4, 2) := by decide +kernel
theorem d146_234 : decode (mB 146) 234 = .ok (.invokevirtual 288, 3) := by decide +kernel
theorem d146_237 : decode (mB 146) 237 = .ok (.aload_n 0, 1) := by decide +kernel
theorem d146_238 : decode (mB 146) 238 = .ok (.getfield 68, 3) := by decide +kernel
theorem d146_241 : decode (mB 146) 241 = .ok (.aload_n 0, 1) := by decide +kernel
theorem d146_242 : decode (mB 146) 242 = .ok (.getfield 268, 3) := by decide +kernel
theorem d146_245 : decode (mB 146) 245 = .ok (.aload_n 0, 1) := by decide +kernel
theorem d146_246 : decode (mB 146) 246 = .ok (.getfield 246, 3) := by decide +kernel
theorem d146_249 : decode (mB 146) 249 = .ok (.iastore, 1) := by decide +kernel
theorem d146_250 : decode (mB 146) 250 = .ok (.aload_n 0, 1) := by decide +kernel
theorem d146_251 : decode (mB 146) 251 = .ok (.dup, 1) := by decide +kernel
theorem d146_252 : decode (mB 146) 252 = .ok (.getfield 268, 3) := by decide +kernel
theorem d146_255 : decode (mB 146) 255 = .ok (.iconst 1, 1) := by decide +kernel
theorem d146_256 : decode (mB 146) 256 = .ok (.iadd, 1) := by decide +kernel
theorem d146_257 : decode (mB 146) 257 = .ok (.putfield 268, 3) := by decide +kernel
theorem d146_260 : decode (mB 146) 260 = .ok (.aload_n 0, 1) := by decide +kernel
theorem d146_261 : decode (mB 146) 261 = .ok (.invokevirtual 262, 3) := by decide +kernel
theorem d146_264 : decode (mB 146) 264 = .ok (.iconst 1, 1) := by decide +kernel
theorem d146_265 : decode (mB 146) 265 = .ok (.istore_n 2, 1) := by decide +kernel
theorem d146_266 : decode (mB 146) 266 = .ok (.goto (-221), 3) := by decide +kernel
theorem d146_269 : decode (mB 146) 269 = .ok (.iconst 0, 1) := by decide +kernel
theorem d146_270 : decode (mB 146) 270 = .ok (.istore_n 3, 1) := by decide +kernel
theorem d146_271 : decode (mB 146) 271 = .ok (.goto (-226), 3) := by decide +kernel
theorem d146_274 : decode (mB 146) 274 = .ok (.aload_n 0, 1) := by decide +kernel
theorem d146_275 : decode (mB 146) 275 = .ok (.getfield 281, 3) := by decide +kernel
theorem d146_278 : decode (mB 146) 278 = .ok (.ifCond .le 7, 3) := by decide +kernel
theorem d146_281 : decode (mB 146) 281 = .ok (.aload_n 0, 1) := by decide +kernel
theorem d146_282 : decode (mB 146) 282 = .ok (.invokevirtual 259, 3) := by decide +kernel
theorem d146_285 : decode (mB 146) 285 = .ok (.aload_n 0, 1) := by decide +kernel
theorem d146_286 : decode (mB 146) 286 = .ok (.iconst 1, 1) := by decide +kernel
theorem d146_287 : decode (mB 146) 287 = .ok (.invokevirtual 288, 3) := by decide +kernel
theorem d146_290 : decode (mB 146) 290 = .ok (.aload_n 0, 1) := by decide +kernel
theorem d146_291 : decode (mB 146) 291 = .ok (.iconst 4, 1) := by decide +kernel
theorem d146_292 : decode (mB 146) 292 = .ok (.iconst (-1), 1) := by decide +kernel
theorem d146_293 : decode (mB 146) 293 = .ok (.lconst 0, 1) := by decide +kernel
theorem d146_294 : decode (mB 146) 294 = .ok (.invokevirtual 274, 3) := by decide +kernel
theorem d146_297 : decode (mB 146) 297 = .ok (.iload_n 1, 1) := by decide +kernel
theorem d146_298 : decode (mB 146) 298 = .ok (.ireturn, 1) := by decide +kernel
theorem d147_0 : decode (mB 147) 0 = .ok (.aload_n 0, 1) := by decide +kernel
theorem d147_1 : decode (mB 147) 1 = .ok (.bipush 45, 2) := by decide +kernel
theorem d147_3 : decode (mB 147) 3 = .ok (.invokevirtual 256, 3) := by decide +kernel
theorem d147_6 : decode (mB 147) 6 = .ok (.ifCond .ne 12, 3) := by decide +kernel
theorem d147_9 : decode (mB 147) 9 = .ok (.aload_n 0, 1) := by decide +kernel
theorem d147_10 : decode (mB 147) 10 = .ok (.bipush 40, 2) := by decide +kernel
theorem d147_12 : decode (mB 147) 12 = .ok (.invokevirtual 256, 3) := by decide +kernel
theorem d147_15 : decode (mB 147) 15 = .ok (.ifCond .eq 7, 3) := by decide +kernel
theorem d147_18 : decode (mB 147) 18 = .ok (.iconst 1, 1) := by decide +kernel
theorem d147_19 : decode (mB 147) 19 = .ok (.goto 4, 3) := by decide +kernel
theorem d147_22 : decode (mB 147) 22 = .ok (.iconst 0, 1) := by decide +kernel
theorem d147_23 : decode (mB 147) 23 = .ok (.istore_n 1, 1) := by decide +kernel
theorem d147_24 : decode (mB 147) 24 = .ok (.iload_n 1, 1) := by decide +kernel
theorem d147_25 : decode (mB 147) 25 = .ok (.ifCond .ne 18, 3) := by decide +kernel
theorem d147_28 : decode (mB 147) 28 = .ok (.aload_n 0, 1) := by decide +kernel
theorem d147_29 : decode (mB 147) 29 = .ok (.getfield 221, 3) := by decide +kernel
theorem d147_32 : decode (mB 147) 32 = .ok (.iconst 3, 1) := by decide +kernel
theorem d147_33 : decode (mB 147) 33 = .ok (.if_icmp .eq 10, 3) := by decide +kernel
theorem d147_36 : decode (mB 147) 36 = .ok (.aload_n 0, 1) := by decide +kernel
theorem d147_37 : decode (mB 147) 37 = .ok (.invokevirtual 295, 3) := by decide +kernel
theorem d147_40 : decode (mB 147) 40 = .ok (.ifCond .eq 7, 3) := by decide +kernel
theorem d147_43 : decode (mB 147) 43 = .ok (.iconst 1, 1) := by decide +kernel
theorem d147_44 : decode (mB 147) 44 = .ok (.goto 4, 3) := by decide +kernel
theorem d147_47 : decode (mB 147) 47 = .ok (.iconst 0, 1) := by decide +kernel
theorem d147_48 : decode (mB 147) 48 = .ok (.istore_n 2, 1) := by decide +kernel
theorem d147_49 : decode (mB 147) 49 = .ok (.iload_n 2, 1) := by decide +kernel
theorem d147_50 : decode (mB 147) 50 = .ok (.ifCond .eq 30, 3) := by decide +kernel
theorem d147_53 : decode (mB 147) 53 = .ok (.aload_n 0, 1) := by decide +kernel
theorem d147_54 : decode (mB 147) 54 = .ok (.getfield 21, 3) := by decide +kernel
theorem d147_57 : decode (mB 147) 57 = .ok (.aload_n 0, 1) := by decide +kernel
theorem d147_58 : decode (mB 147) 58 = .ok (.getfield 265, 3) := by decide +kernel
theorem d147_61 : decode (mB 147) 61 = .ok (.iaload, 1) := by decide +kernel
theorem d147_62 : decode (mB 147) 62 = .ok (.bipush 60, 2) := by decide +kernel
theorem d147_64 : decode (mB 147) 64 = .ok (.if_icmp .eq 16, 3) := by decide +kernel
theorem d147_67 : decode (mB 147) 67 = .ok (.iload_n 1, 1) := by decide +kernel
theorem d147_68 : decode (mB 147) 68 = .ok (.ifCond .eq 18, 3) := by decide +kernel
theorem d147_71 : decode (mB 147) 71 = .ok (.aload_n 0, 1) := by decide +kernel
theorem d147_72 : decode (mB 147) 72 = .ok (.getfield 278, 3) := by decide +kernel
theorem d147_75 : decode (mB 147) 75 = .ok (.bipush 8, 2) := by decide +kernel
theorem d147_77 : decode (mB 147) 77 = .ok (.if_icmp .ne 9, 3) := by decide +kernel
theorem d147_80 : decode (mB 147) 80 = .ok (.aload_n 0, 1) := by decide +kernel
theorem d147_81 : decode (mB 147) 81 = .ok (.invokevirtual 259, 3) := by decide +kernel
theorem d147_84 : decode (mB 147) 84 = .ok (.iconst 0, 1) := by decide +kernel
theorem d147_85 : decode (mB 147) 85 = .ok (.ireturn, 1) := by decide +kernel
theorem d147_86 : decode (mB 147) 86 = .ok (.aload_n 0, 1) := by decide +kernel
theorem d147_87 : decode (mB 147) 87 = .ok (.getfield 21, 3) := by decide +kernel
theorem d147_90 : decode (mB 147) 90 = .ok (.aload_n 0, 1) := by decide +kernel
theorem d147_91 : decode (mB 147) 91 = .ok (.getfield 265, 3) := by decide +kernel
theorem d147_94 : decode (mB 147) 94 = .ok (.dup2, 1) := by decide +kernel
theorem d147_95 : decode (mB 147) 95 = .ok (.iaload, 1) := by decide +kernel
theorem d147_96 : decode (mB 147) 96 = .ok (.iconst 1, 1) := by decide +kernel
theorem d147_97 : decode (mB 147) 97 = .ok (.iadd, 1) := by decide +kernel
theorem d147_98 : decode (mB 147) 98 = .ok (.iastore, 1) := by decide +kernel
theorem d147_99 : decode (mB 147) 99 = .ok (.iload_n 1, 1) := by decide +kernel
theorem d147_100 : decode (mB 147) 100 = .ok (.ifCond .eq 84, 3) := by decide +kernel
theorem d147_103 : decode (mB 147) 103 = .ok (.aload_n 0, 1) := by decide +kernel
theorem d147_104 : decode (mB 147) 104 = .ok (.dup, 1) := by decide +kernel
theorem d147_105 : decode (mB 147) 105 = .ok (.getfield 278, 3) := by decide +kernel
theorem d147_108 : decode (mB 147) 108 = .ok (.iconst 1, 1) := by decide +kernel
theorem d147_109 : decode (mB 147) 109 = .ok (.iadd, 1) := by decide +kernel
theorem d147_110 : decode (mB 147) 110 = .ok (.putfield 278, 3) := by decide +kernel
theorem d147_113 : decode (mB 147) 113 = .ok (.aload_n 0, 1) := by decide +kernel
theorem d147_114 : decode (mB 147) 114 = .ok (.getfield 68, 3) := by decide +kernel
theorem d147_117 : decode (mB 147) 117 = .ok (.aload_n 0, 1) := by decide +kernel
theorem d147_118 : decode (mB 147) 118 = .ok (.getfield 268, 3) := by decide +kernel
theorem d147_121 : decode (mB 147) 121 = .ok (.aload_n 0, 1) := by decide +kernel
theorem d147_122 : decode (mB 147) 122 = .ok (.bipush 40, 2) := by decide +kernel
theorem d147_124 : decode (mB 147) 124 = .ok (.invokevirtual 256, 3) := by decide +kernel
theorem d147_127 : decode (mB 147) 127 = .ok (.ifCond .eq 8, 3) := by decide +kernel
theorem d147_130 : decode (mB 147) 130 = .ok (.bipush 40, 2) := by decide +kernel
theorem d147_132 : decode (mB 147) 132 = .ok (.goto 6, 3) := by decide +kernel
theorem d147_135 : decode (mB 147) 135 = .ok (.sipush 1000, 3) := by decide +kernel
theorem d147_138 : decode (mB 147) 138 = .ok (.iastore, 1) := by decide +kernel
theorem d147_139 : decode (mB 147) 139 = .ok (.aload_n 0, 1) := by decide +kernel
theorem d147_140 : decode (mB 147) 140 = .ok (.dup, 1) := by decide +kernel
theorem d147_141 : decode (mB 147) 141 = .ok (.getfield 268, 3) := by decide +kernel
theorem d147_144 : decode (mB 147) 144 = .ok (.iconst 1, 1) := by decide +kernel
theorem d147_145 : decode (mB 147) 145 = .ok (.iadd, 1) := by decide +kernel
theorem d147_146 : decode (mB 147) 146 = .ok (.putfield 268, 3) := by decide +kernel
theorem d147_149 : decode (mB 147) 149 = .ok (.aload_n 0, 1) := by decide +kernel
theorem d147_150 : decode (mB 147) 150 = .ok (.bipush 40, 2) := by decide +kernel
theorem d147_152 : decode (mB 147) 152 = .ok (.invokevirtual 256, 3) := by decide +kernel
theorem d147_155 : decode (mB 147) 155 = .ok (.ifCond .eq 23, 3) := by decide +kernel
theorem d147_158 : decode (mB 147) 158 = .ok (.aload_n 0, 1) := by decide +kernel
theorem d147_159 : decode (mB 147) 159 = .ok (.dup, 1) := by decide +kernel
theorem d147_160 : decode (mB 147) 160 = .ok (.getfield 281, 3) := by decide +kernel
theorem d147_163 : decode (mB 147) 163 = .ok (.iconst 1, 1) := by decide +kernel
theorem d147_164 : decode (mB 147) 164 = .ok (.iadd, 1) := by decide +kernel
theorem d147_165 : decode (mB 147) 165 = .ok (.putfield 281, 3) := by decide +kernel
theorem d147_168 : decode (mB 147) 168 = .ok (.aload_n 0, 1) := by decide +kernel
theorem d147_169 : decode (mB 147) 169 = .ok (.getfield 71, 3) := by decide +kernel
theorem d147_172 : decode (mB 147) 172 = .ok (.aload_n 0, 1) := by decide +kernel
theorem d147_173 : decode (mB 147) 173 = .ok (.getfield 281, 3) := by decide +kernel
theorem d147_176 : decode (mB 147) 176 = .ok (.iconst 0, 1) := by decide +kernel
theorem d147_177 : decode (mB 147) 177 = .ok (.bastore, 1) := by decide +kernel
theorem d147_178 : decode (mB 147) 178 = .ok (.aload_n 0, 1) := by decide +kernel
theorem d147_179 : decode (mB 147) 179 = .ok (.invokevirtual 262, 3) := by decide +kernel
theorem d147_182 : decode (mB 147) 182 = .ok (.iconst 1, 1) := by decide +kernel
theorem d147_183 : decode (mB 147) 183 = .ok (.ireturn, 1) := by decide +kernel
theorem d147_184 : decode (mB 147) 184 = .ok (.aload_n 0, 1) := by decide +kernel
theorem d147_185 : decode (mB 147) 185 = .ok (.aload_n 0, 1) := by decide +kernel
theorem d147_186 : decode (mB 147) 186 = .ok (.getfield 221, 3) := by decide +kernel
theorem d147_189 : decode (mB 147) 189 = .ok (.iconst 3, 1) := by decide +kernel
theorem d147_190 : decode (mB 147) 190 = .ok (.if_icmp .ne 7, 3) := by decide +kernel
theorem d147_193 : decode (mB 147) 193 = .ok (.iconst 1, 1) := by decide +kernel
theorem d147_194 : decode (mB 147) 194 = .ok (.goto 4, 3) := by decide +kernel
theorem d147_197 : decode (mB 147) 197 = .ok (.iconst 2, 1) := by decide +kernel
theorem d147_198 : decode (mB 147) 198 = .ok (.aload_n 0, 1) := by decide +kernel
theorem d147_199 : decode (mB 147) 199 = .ok (.getfield 221, 3) := by decide +kernel
theorem d147_202 : decode (mB 147) 202 = .ok (.iconst 2, 1) := by decide +kernel
theorem d147_203 : decode (mB 147) 203 = .ok (.if_icmp .ne 10, 3) := by decide +kernel
theorem d147_206 : decode (mB 147) 206 = .ok (.aload_n 0, 1) := by decide +kernel
theorem d147_207 : decode (mB 147) 207 = .ok (.getfield 228, 3) := by decide +kernel
theorem d147_210 : decode (mB 147) 210 = .ok (.goto 4, 3) := by decide +kernel
theorem d147_213 : decode (mB 147) 213 = .ok (.iconst (-1), 1) := by decide +kernel
theorem d147_214 : decode (mB 147) 214 = .ok (.aload_n 0, 1) := by decide +kernel
theorem d147_215 : decode (mB 147) 215 = .ok (.getfield 221, 3) := by decide +kernel
theorem d147_218 : decode (mB 147) 218 = .ok (.iconst 3, 1) := by decide +kernel
theorem d147_219 : decode (mB 147) 219 = .ok (.if_icmp .ne 10, 3) := by decide +kernel
theorem d147_222 : decode (mB 147) 222 = .ok (.aload_n 0, 1) := by decide +kernel
theorem d147_223 : decode (mB 147) 223 = .ok (.getfield 238, 3) := by decide +kernel
theorem d147_226 : decode (mB 147) 226 = .ok (.goto 4, 3) := by decide +kernel
theorem d147_229 : decode (mB 147) 229 = .ok (.lconst 0, 1) := by decide +kernel
theorem d147_230 : decode (mB 147) 230 = .ok (.invokevirtual 274, 3) := by decide +kernel
theorem d147_233 : decode (mB 147) 233 = .ok (.aload_n 0, 1) := by decide +kernel
theorem d147_234 : decode (mB 147) 234 = .ok (.invokevirtual 262, 3) := by decide +kernel
theorem d147_237 : decode (mB 147) 237 = .ok (.aload_n 0, 1) := by decide +kernel
theorem d147_238 : decode (mB 147) 238 = .ok (.invokevirtual 292, 3) := by decide +kernel
theorem d147_241 : decode (mB 147) 241 = .ok (.iconst 0, 1) := by decide +kernel
theorem d147_242 : decode (mB 147) 242 = .ok (.ireturn, 1) := by decide +kernel
theorem d138_0 : decode (mB 138) 0 = .ok (.aload_n 0, 1) := by decide +kernel
theorem d138_1 : decode (mB 138) 1 = .ok (.getfield 252, 3) := by decide +kernel
theorem d138_4 : decode (mB 138) 4 = .ok (.ifCond .ne 21, 3) := by decide +kernel
theorem d138_7 : decode (mB 138) 7 = .ok (.aload_n 0, 1) := by decide +kernel
theorem d138_8 : decode (mB 138) 8 = .ok (.bipush 123, 2) := by decide +kernel
theorem d138_10 : decode (mB 138) 10 = .ok (.invokevirtual 256, 3) := by decide +kernel
theorem d138_13 : decode (mB 138) 13 = .ok (.ifCond .eq 12, 3) := by decide +kernel
theorem d138_16 : decode (mB 138) 16 = .ok (.aload_n 0, 1) := by decide +kernel
theorem d138_17 : decode (mB 138) 17 = .ok (.getfield 298, 3) := by decide +kernel
theorem d138_20 : decode (mB 138) 20 = .ok (.bipush 8, 2) := by decide +kernel
theorem d138_22 : decode (mB 138) 22 = .ok (.if_icmp .ne 8, 3) := by decide +kernel
theorem d138_25 : decode (mB 138) 25 = .ok (.aload_n 0, 1) := by decide +kernel
theorem d138_26 : decode (mB 138) 26 = .ok (.invokevirtual 259, 3) := by decide +kernel
theorem d138_29 : decode (mB 138) 29 = .ok (.return_, 1) := by decide +kernel
theorem d138_30 : decode (mB 138) 30 = .ok (.aload_n 0, 1) := by decide +kernel
theorem d138_31 : decode (mB 138) 31 = .ok (.dup, 1) := by decide +kernel
theorem d138_32 : decode (mB 138) 32 = .ok (.getfield 298, 3) := by decide +kernel
theorem d138_35 : decode (mB 138) 35 = .ok (.iconst 1, 1) := by decide +kernel
theorem d138_36 : decode (mB 138) 36 = .ok (.iadd, 1) := by decide +kernel
theorem d138_37 : decode (mB 138) 37 = .ok (.putfield 298, 3) := by decide +kernel
theorem d138_40 : decode (mB 138) 40 = .ok (.aload_n 0, 1) := by decide +kernel
theorem d138_41 : decode (mB 138) 41 = .ok (.getfield 24, 3) := by decide +kernel
theorem d138_44 : decode (mB 138) 44 = .ok (.aload_n 0, 1) := by decide +kernel
theorem d138_45 : decode (mB 138) 45 = .ok (.getfield 265, 3) := by decide +kernel
theorem d138_48 : decode (mB 138) 48 = .ok (.aload_n 0, 1) := by decide +kernel
theorem d138_49 : decode (mB 138) 49 = .ok (.getfield 298, 3) := by decide +kernel
theorem d138_52 : decode (mB 138) 52 = .ok (.aload_n 0, 1) := by decide +kernel
theorem d138_53 : decode (mB 138) 53 = .ok (.getfield 24, 3) := by decide +kernel
theorem d138_56 : decode (mB 138) 56 = .ok (.aload_n 0, 1) := by decide +kernel
theorem d138_57 : decode (mB 138) 57 = .ok (.getfield 265, 3) := by decide +kernel
theorem d138_60 : decode (mB 138) 60 = .ok (.iaload, 1) := by decide +kernel
theorem d138_61 : decode (mB 138) 61 = .ok (.if_icmp .le 10, 3) := by decide +kernel
theorem d138_64 : decode (mB 138) 64 = .ok (.aload_n 0, 1) := by decide +kernel
theorem d138_65 : decode (mB 138) 65 = .ok (.getfield 298, 3) := by decide +kernel
theorem d138_68 : decode (mB 138) 68 = .ok (.goto 12, 3) := by decide +kernel
theorem d138_71 : decode (mB 138) 71 = .ok (.aload_n 0, 1) := by decide +kernel
theorem d138_72 : decode (mB 138) 72 = .ok (.getfield 24, 3) := by decide +kernel
theorem d138_75 : decode (mB 138) 75 = .ok (.aload_n 0, 1) := by decide +kernel
theorem d138_76 : decode (mB 138) 76 = .ok (.getfield 265, 3) := by decide +kernel
theorem d138_79 : decode (mB 138) 79 = .ok (.iaload, 1) := by decide +kernel
theorem d138_80 : decode (mB 138) 80 = .ok (.iastore, 1) := by decide +kernel
theorem d138_81 : decode (mB 138) 81 = .ok (.aload_n 0, 1) := by decide +kernel
theorem d138_82 : decode (mB 138) 82 = .ok (.getfield 74, 3) := by decide +kernel
theorem d138_85 : decode (mB 138) 85 = .ok (.aload_n 0, 1) := by decide +kernel
theorem d138_86 : decode (mB 138) 86 = .ok (.getfield 298, 3) := by decide +kernel
theorem d138_89 : decode (mB 138) 89 = .ok (.iload_n 1, 1) := by decide +kernel
theorem d138_90 : decode (mB 138) 90 = .ok (.iastore, 1) := by decide +kernel
theorem d138_91 : decode (mB 138) 91 = .ok (.aload_n 0, 1) := by decide +kernel
theorem d138_92 : decode (mB 138) 92 = .ok (.getfield 77, 3) := by decide +kernel
theorem d138_95 : decode (mB 138) 95 = .ok (.aload_n 0, 1) := by decide +kernel
theorem d138_96 : decode (mB 138) 96 = .ok (.getfield 298, 3) := by decide +kernel
theorem d138_99 : decode (mB 138) 99 = .ok (.iload_n 2, 1) := by decide +kernel
theorem d138_100 : decode (mB 138) 100 = .ok (.iastore, 1) := by decide +kernel
theorem d138_101 : decode (mB 138) 101 = .ok (.aload_n 0, 1) := by decide +kernel
theorem d138_102 : decode (mB 138) 102 = .ok (.getfield 80, 3) := by decide +kernel
theorem d138_105 : decode (mB 138) 105 = .ok (.aload_n 0, 1) := by decide +kernel
theorem d138_106 : decode (mB 138) 106 = .ok (.getfield 298, 3) := by decide +kernel
theorem d138_109 : decode (mB 138) 109 = .ok (.iconst (-1), 1) := by decide +kernel
theorem d138_110 : decode (mB 138) 110 = .ok (.iastore, 1) := by decide +kernel
theorem d138_111 : decode (mB 138) 111 = .ok (.aload_n 0, 1) := by decide +kernel
theorem d138_112 : decode (mB 138) 112 = .ok (.getfield 45, 3) := by decide +kernel
theorem d138_115 : decode (mB 138) 115 = .ok (.iconst 3, 1) := by decide +kernel
theorem d138_116 : decode (mB 138) 116 = .ok (.iload_n 1, 1) := by decide +kernel
theorem d138_117 : decode (mB 138) 117 = .ok (.imul, 1) := by decide +kernel
theorem d138_118 : decode (mB 138) 118 = .ok (.iload_n 2, 1) := by decide +kernel
theorem d138_119 : decode (mB 138) 119 = .ok (.iadd, 1) := by decide +kernel
theorem d138_120 : decode (mB 138) 120 = .ok (.iconst 1, 1) := by decide +kernel
theorem d138_121 : decode (mB 138) 121 = .ok (.bastore, 1) := by decide +kernel
theorem d138_122 : decode (mB 138) 122 = .ok (.aload_n 0, 1) := by decide +kernel
theorem d138_123 : decode (mB 138) 123 = .ok (.invokevirtual 262, 3) := by decide +kernel
theorem d138_126 : decode (mB 138) 126 = .ok (.return_, 1) := by decide +kernel
theorem d127_0 : decode (mB 127) 0 = .ok (.aload_n 0, 1) := by decide +kernel
theorem d127_1 : decode (mB 127) 1 = .ok (.iconst 0, 1) := by decide +kernel
theorem d127_2 : decode (mB 127) 2 = .ok (.putfield 298, 3) := by decide +kernel
theorem d127_5 : decode (mB 127) 5 = .ok (.aload_n 0, 1) := by decide +kernel
theorem d127_6 : decode (mB 127) 6 = .ok (.getfield 74, 3) := by decide +kernel
theorem d127_9 : decode (mB 127) 9 = .ok (.iconst 0, 1) := by decide +kernel
theorem d127_10 : decode (mB 127) 10 = .ok (.iconst (-1), 1) := by decide +kernel
theorem d127_11 : decode (mB 127) 11 = .ok (.iastore, 1) := by decide +kernel
theorem d127_12 : decode (mB 127) 12 = .ok (.aload_n 0, 1) := by decide +kernel
theorem d127_13 : decode (mB 127) 13 = .ok (.getfield 77, 3) := by decide +kernel
theorem d127_16 : decode (mB 127) 16 = .ok (.iconst 0, 1) := by decide +kernel
theorem d127_17 : decode (mB 127) 17 = .ok (.iconst 0, 1) := by decide +kernel
theorem d127_18 : decode (mB 127) 18 = .ok (.iastore, 1) := by decide +kernel
theorem d127_19 : decode (mB 127) 19 = .ok (.aload_n 0, 1) := by decide +kernel
theorem d127_20 : decode (mB 127) 20 = .ok (.getfield 80, 3) := by decide +kernel
theorem d127_23 : decode (mB 127) 23 = .ok (.iconst 0, 1) := by decide +kernel
theorem d127_24 : decode (mB 127) 24 = .ok (.iconst (-1), 1) := by decide +kernel
theorem d127_25 : decode (mB 127) 25 = .ok (.iastore, 1) := by decide +kernel
theorem d127_26 : decode (mB 127) 26 = .ok (.aload_n 0, 1) := by decide +kernel
theorem d127_27 : decode (mB 127) 27 = .ok (.getfield 27, 3) := by decide +kernel
theorem d127_30 : decode (mB 127) 30 = .ok (.aload_n 0, 1) := by decide +kernel
theorem d127_31 : decode (mB 127) 31 = .ok (.getfield 265, 3) := by decide +kernel
theorem d127_34 : decode (mB 127) 34 = .ok (.iconst (-1), 1) := by decide +kernel
theorem d127_35 : decode (mB 127) 35 = .ok (.iastore, 1) := by decide +kernel
theorem d127_36 : decode (mB 127) 36 = .ok (.aload_n 0, 1) := by decide +kernel
theorem d127_37 : decode (mB 127) 37 = .ok (.invokevirtual 262, 3) := by decide +kernel
theorem d127_40 : decode (mB 127) 40 = .ok (.aload_n 0, 1) := by decide +kernel
theorem d127_41 : decode (mB 127) 41 = .ok (.getfield 252, 3) := by decide +kernel
theorem d127_44 : decode (mB 127) 44 = .ok (.ifCond .ne 70, 3) := by decide +kernel
theorem d127_47 : decode (mB 127) 47 = .ok (.aload_n 0, 1) := by decide +kernel
theorem d127_48 : decode (mB 127) 48 = .ok (.getfield 221, 3) := by decide +kernel
theorem d127_51 : decode (mB 127) 51 = .ok (.ifCond .ne 10, 3) := by decide +kernel
theorem d127_54 : decode (mB 127) 54 = .ok (.aload_n 0, 1) := by decide +kernel
theorem d127_55 : decode (mB 127) 55 = .ok (.getfield 298, 3) := by decide +kernel
theorem d127_58 : decode (mB 127) 58 = .ok (.ifCond .eq 56, 3) := by decide +kernel
theorem d127_61 : decode (mB 127) 61 = .ok (.aload_n 0, 1) := by decide +kernel
theorem d127_62 : decode (mB 127) 62 = .ok (.getfield 221, 3) := by decide +kernel
theorem d127_65 : decode (mB 127) 65 = .ok (.ifCond .eq 19, 3) := by decide +kernel
theorem d127_68 : decode (mB 127) 68 = .ok (.aload_n 0, 1) := by decide +kernel
theorem d127_69 : decode (mB 127) 69 = .ok (.bipush 125, 2) := by decide +kernel
theorem d127_71 : decode (mB 127) 71 = .ok (.invokevirtual 256, 3) := by decide +kernel
theorem d127_74 : decode (mB 127) 74 = .ok (.ifCond .eq 17, 3) := by decide +kernel
theorem d127_77 : decode (mB 127) 77 = .ok (.aload_n 0, 1) := by decide +kernel
theorem d127_78 : decode (mB 127) 78 = .ok (.getfield 298, 3) := by decide +kernel
theorem d127_81 : decode (mB 127) 81 = .ok (.ifCond .ne 10, 3) := by decide +kernel
theorem d127_84 : decode (mB 127) 84 = .ok (.aload_n 0, 1) := by decide +kernel
theorem d127_85 : decode (mB 127) 85 = .ok (.invokevirtual 259, 3) := by decide +kernel
theorem d127_88 : decode (mB 127) 88 = .ok (.goto (-48), 3) := by decide +kernel
theorem d127_91 : decode (mB 127) 91 = .ok (.aload_n 0, 1) := by decide +kernel
theorem d127_92 : decode (mB 127) 92 = .ok (.bipush 125, 2) := by decide +kernel
theorem d127_94 : decode (mB 127) 94 = .ok (.invokevirtual 256, 3) := by decide +kernel
theorem d127_97 : decode (mB 127) 97 = .ok (.ifCond .eq 10, 3) := by decide +kernel
theorem d127_100 : decode (mB 127) 100 = .ok (.aload_n 0, 1) := by decide +kernel
theorem d127_101 : decode (mB 127) 101 = .ok (.invokevirtual 301, 3) := by decide +kernel
theorem d127_104 : decode (mB 127) 104 = .ok (.goto (-64), 3) := by decide +kernel
theorem d127_107 : decode (mB 127) 107 = .ok (.aload_n 0, 1) := by decide +kernel
theorem d127_108 : decode (mB 127) 108 = .ok (.invokevirtual 304, 3) := by decide +kernel
theorem d127_111 : decode (mB 127) 111 = .ok (.goto (-71), 3) := by decide +kernel
theorem d127_114 : decode (mB 127) 114 = .ok (.return_, 1) := by decide +kernel
theorem d136_0 : decode (mB 136) 0 = .ok (.aload_n 0, 1) := by decide +kernel
theorem d136_1 : decode (mB 136) 1 = .ok (.getfield 74, 3) := by decide +kernel
theorem d136_4 : decode (mB 136) 4 = .ok (.aload_n 0, 1) := by decide +kernel
theorem d136_5 : decode (mB 136) 5 = .ok (.getfield 298, 3) := by decide +kernel
theorem d136_8 : decode (mB 136) 8 = .ok (.iaload, 1) := by decide +kernel
theorem d136_9 : decode (mB 136) 9 = .ok (.istore_n 1, 1) := by decide +kernel
theorem d136_10 : decode (mB 136) 10 = .ok (.aload_n 0, 1) := by decide +kernel
theorem d136_11 : decode (mB 136) 11 = .ok (.getfield 77, 3) := by decide +kernel
theorem d136_14 : decode (mB 136) 14 = .ok (.aload_n 0, 1) := by decide +kernel
theorem d136_15 : decode (mB 136) 15 = .ok (.getfield 298, 3) := by decide +kernel
theorem d136_18 : decode (mB 136) 18 = .ok (.iaload, 1) := by decide +kernel
theorem d136_19 : decode (mB 136) 19 = .ok (.istore_n 2, 1) := by decide +kernel
theorem d136_20 : decode (mB 136) 20 = .ok (.aload_n 0, 1) := by decide +kernel
theorem d136_21 : decode (mB 136) 21 = .ok (.getfield 33, 3) := by decide +kernel
theorem d136_24 : decode (mB 136) 24 = .ok (.iload_n 1, 1) := by decide +kernel
theorem d136_25 : decode (mB 136) 25 = .ok (.iaload, 1) := by decide +kernel
theorem d136_26 : decode (mB 136) 26 = .ok (.istore_n 3, 1) := by decide +kernel
theorem d136_27 : decode (mB 136) 27 = .ok (.aload_n 0, 1) := by decide +kernel
theorem d136_28 : decode (mB 136) 28 = .ok (.dup, 1) := by decide +kernel
theorem d136_29 : decode (mB 136) 29 = .ok (.getfield 298, 3) := by decide +kernel
theorem d136_32 : decode (mB 136) 32 = .ok (.iconst 1, 1) := by decide +kernel
theorem d136_33 : decode (mB 136) 33 = .ok (.isub, 1) := by decide +kernel
theorem d136_34 : decode (mB 136) 34 = .ok (.putfield 298, 3) := by decide +kernel
theorem d136_37 : decode (mB 136) 37 = .ok (.aload_n 0, 1) := by decide +kernel
theorem d136_38 : decode (mB 136) 38 = .ok (.invokevirtual 262, 3) := by decide +kernel
theorem d136_41 : decode (mB 136) 41 = .ok (.iload_n 3, 1) := by decide +kernel
theorem d136_42 : decode (mB 136) 42 = .ok (.bipush 15, 2) := by decide +kernel
theorem d136_44 : decode (mB 136) 44 = .ok (.if_icmp .ne 34, 3) := by decide +kernel
theorem d136_47 : decode (mB 136) 47 = .ok (.iload_n 2, 1) := by decide +kernel
theorem d136_48 : decode (mB 136) 48 = .ok (.iconst 2, 1) := by decide +kernel
theorem d136_49 : decode (mB 136) 49 = .ok (.if_icmp .ge 29, 3) := by decide +kernel
theorem d136_52 : decode (mB 136) 52 = .ok (.aload_n 0, 1) := by decide +kernel
theorem d136_53 : decode (mB 136) 53 = .ok (.iload_n 2, 1) := by decide +kernel
theorem d136_54 : decode (mB 136) 54 = .ok (.ifCond .ne 8, 3) := by decide +kernel
theorem d136_57 : decode (mB 136) 57 = .ok (.bipush 16, 2) := by decide +kernel
theorem d136_59 : decode (mB 136) 59 = .ok (.goto 5, 3) := by decide +kernel
theorem d136_62 : decode (mB 136) 62 = .ok (.bipush 17, 2) := by decide +kernel
theorem d136_64 : decode (mB 136) 64 = .ok (.invokevirtual 307, 3) := by decide +kernel
theorem d136_67 : decode (mB 136) 67 = .ok (.aload_n 0, 1) := by decide +kernel
theorem d136_68 : decode (mB 136) 68 = .ok (.iload_n 1, 1) := by decide +kernel
theorem d136_69 : decode (mB 136) 69 = .ok (.iload_n 2, 1) := by decide +kernel
theorem d136_70 : decode (mB 136) 70 = .ok (.iconst 1, 1) := by decide +kernel
theorem d136_71 : decode (mB 136) 71 = .ok (.iadd, 1) := by decide +kernel
theorem d136_72 : decode (mB 136) 72 = .ok (.invokevirtual 310, 3) := by decide +kernel
theorem d136_75 : decode (mB 136) 75 = .ok (.goto 76, 3) := by decide +kernel
theorem d136_78 : decode (mB 136) 78 = .ok (.iload_n 3, 1) := by decide +kernel
theorem d136_79 : decode (mB 136) 79 = .ok (.bipush 13, 2) := by decide +kernel
theorem d136_81 : decode (mB 136) 81 = .ok (.if_icmp .ne 36, 3) := by decide +kernel
theorem d136_84 : decode (mB 136) 84 = .ok (.iload_n 2, 1) := by decide +kernel
theorem d136_85 : decode (mB 136) 85 = .ok (.ifCond .ne 32, 3) := by decide +kernel
theorem d136_88 : decode (mB 136) 88 = .ok (.aload_n 0, 1) := by decide +kernel
theorem d136_89 : decode (mB 136) 89 = .ok (.bipush 14, 2) := by decide +kernel
theorem d136_91 : decode (mB 136) 91 = .ok (.invokevirtual 307, 3) := by decide +kernel
theorem d136_94 : decode (mB 136) 94 = .ok (.aload_n 0, 1) := by decide +kernel
theorem d136_95 : decode (mB 136) 95 = .ok (.getfield 49, 3) := by decide +kernel
theorem d136_98 : decode (mB 136) 98 = .ok (.iload_n 1, 1) := by decide +kernel
theorem d136_99 : decode (mB 136) 99 = .ok (.aload_n 0, 1) := by decide +kernel
theorem d136_100 : decode (mB 136) 100 = .ok (.getfield 228, 3) := by decide +kernel
theorem d136_103 : decode (mB 136) 103 = .ok (.iastore, 1) := by decide +kernel
theorem d136_104 : decode (mB 136) 104 = .ok (.aload_n 0, 1) := by decide +kernel
theorem d136_105 : decode (mB 136) 105 = .ok (.invokevirtual 314, 3) := by decide +kernel
theorem d136_108 : decode (mB 136) 108 = .ok (.aload_n 0, 1) := by decide +kernel
theorem d136_109 : decode (mB 136) 109 = .ok (.iload_n 1, 1) := by decide +kernel
theorem d136_110 : decode (mB 136) 110 = .ok (.iconst 1, 1) := by decide +kernel
theorem d136_111 : decode (mB 136) 111 = .ok (.invokevirtual 310, 3) := by decide +kernel
theorem d136_114 : decode (mB 136) 114 = .ok (.goto 37, 3) := by decide +kernel
theorem d136_117 : decode (mB 136) 117 = .ok (.iload_n 3, 1) := by decide +kernel
theorem d136_118 : decode (mB 136) 118 = .ok (.iconst 1, 1) := by decide +kernel
theorem d136_119 : decode (mB 136) 119 = .ok (.if_icmp .eq 9, 3) := by decide +kernel
theorem d136_122 : decode (mB 136) 122 = .ok (.iload_n 3, 1) := by decide +kernel
theorem d136_123 : decode (mB 136) 123 = .ok (.bipush 18, 2) := by decide +kernel
theorem d136_125 : decode (mB 136) 125 = .ok (.if_icmp .ne 26, 3) := by decide +kernel
theorem d136_128 : decode (mB 136) 128 = .ok (.iload_n 2, 1) := by decide +kernel
theorem d136_129 : decode (mB 136) 129 = .ok (.ifCond .ne 22, 3) := by decide +kernel
theorem d136_132 : decode (mB 136) 132 = .ok (.aload_n 0, 1) := by decide +kernel
theorem d136_133 : decode (mB 136) 133 = .ok (.getfield 221, 3) := by decide +kernel
theorem d136_136 : decode (mB 136) 136 = .ok (.bipush 12, 2) := by decide +kernel
theorem d136_138 : decode (mB 136) 138 = .ok (.if_icmp .ne 13, 3) := by decide +kernel
theorem d136_141 : decode (mB 136) 141 = .ok (.aload_n 0, 1) := by decide +kernel
theorem d136_142 : decode (mB 136) 142 = .ok (.invokevirtual 262, 3) := by decide +kernel
theorem d136_145 : decode (mB 136) 145 = .ok (.aload_n 0, 1) := by decide +kernel
theorem d136_146 : decode (mB 136) 146 = .ok (.iload_n 1, 1) := by decide +kernel
theorem d136_147 : decode (mB 136) 147 = .ok (.iconst 1, 1) := by decide +kernel
theorem d136_148 : decode (mB 136) 148 = .ok (.invokevirtual 310, 3) := by decide +kernel
theorem d136_151 : decode (mB 136) 151 = .ok (.return_, 1) := by decide +kernel
theorem d139_0 : decode (mB 139) 0 = .ok (.aload_n 0, 1) := by decide +kernel
theorem d139_1 : decode (mB 139) 1 = .ok (.invokevirtual 295, 3) := by decide +kernel
theorem d139_4 : decode (mB 139) 4 = .ok (.ifCond .ne 7, 3) := by decide +kernel
theorem d139_7 : decode (mB 139) 7 = .ok (.aload_n 0, 1) := by decide +kernel
theorem d139_8 : decode (mB 139) 8 = .ok (.invokevirtual 259, 3) := by decide +kernel
theorem d139_11 : decode (mB 139) 11 = .ok (.aload_n 0, 1) := by decide +kernel
theorem d139_12 : decode (mB 139) 12 = .ok (.getfield 252, 3) := by decide +kernel
theorem d139_15 : decode (mB 139) 15 = .ok (.ifCond .ne 7, 3) := by decide +kernel
theorem d139_18 : decode (mB 139) 18 = .ok (.aload_n 0, 1) := by decide +kernel
theorem d139_19 : decode (mB 139) 19 = .ok (.invokevirtual 262, 3) := by decide +kernel
theorem d139_22 : decode (mB 139) 22 = .ok (.return_, 1) := by decide +kernel
theorem d152_0 : decode (mB 152) 0 = .ok (.aload_n 0, 1) := by decide +kernel
theorem d152_1 : decode (mB 152) 1 = .ok (.getfield 221, 3) := by decide +kernel
theorem d152_4 : decode (mB 152) 4 = .ok (.iconst 2, 1) := by decide +kernel
theorem d152_5 : decode (mB 152) 5 = .ok (.if_icmp .ne 12, 3) := by decide +kernel
theorem d152_8 : decode (mB 152) 8 = .ok (.aload_n 0, 1) := by decide +kernel
theorem d152_9 : decode (mB 152) 9 = .ok (.getfield 228, 3) := by decide +kernel
theorem d152_12 : decode (mB 152) 12 = .ok (.bipush 8, 2) := by decide +kernel
theorem d152_14 : decode (mB 152) 14 = .ok (.if_icmp .lt 7, 3) := by decide +kernel
theorem d152_17 : decode (mB 152) 17 = .ok (.aload_n 0, 1) := by decide +kernel
theorem d152_18 : decode (mB 152) 18 = .ok (.invokevirtual 259, 3) := by decide +kernel
theorem d152_21 : decode (mB 152) 21 = .ok (.aload_n 0, 1) := by decide +kernel
theorem d152_22 : decode (mB 152) 22 = .ok (.getfield 52, 3) := by decide +kernel
theorem d152_25 : decode (mB 152) 25 = .ok (.iload_n 1, 1) := by decide +kernel
theorem d152_26 : decode (mB 152) 26 = .ok (.aload_n 0, 1) := by decide +kernel
theorem d152_27 : decode (mB 152) 27 = .ok (.getfield 228, 3) := by decide +kernel
theorem d152_30 : decode (mB 152) 30 = .ok (.iastore, 1) := by decide +kernel
theorem d152_31 : decode (mB 152) 31 = .ok (.aload_n 0, 1) := by decide +kernel
theorem d152_32 : decode (mB 152) 32 = .ok (.getfield 252, 3) := by decide +kernel
theorem d152_35 : decode (mB 152) 35 = .ok (.ifCond .ne 7, 3) := by decide +kernel
theorem d152_38 : decode (mB 152) 38 = .ok (.aload_n 0, 1) := by decide +kernel
theorem d152_39 : decode (mB 152) 39 = .ok (.invokevirtual 262, 3) := by decide +kernel
theorem d152_42 : decode (mB 152) 42 = .ok (.return_, 1) := by decide +kernel
theorem d153_0 : decode (mB 153) 0 = .ok (.aload_n 0, 1) := by decide +kernel
theorem d153_1 : decode (mB 153) 1 = .ok (.getfield 221, 3) := by decide +kernel
theorem d153_4 : decode (mB 153) 4 = .ok (.iconst 3, 1) := by decide +kernel
theorem d153_5 : decode (mB 153) 5 = .ok (.if_icmp .ne 12, 3) := by decide +kernel
theorem d153_8 : decode (mB 153) 8 = .ok (.aload_n 0, 1) := by decide +kernel
theorem d153_9 : decode (mB 153) 9 = .ok (.getfield 238, 3) := by decide +kernel
theorem d153_12 : decode (mB 153) 12 = .ok (.lload_n 2, 1) := by decide +kernel
theorem d153_13 : decode (mB 153) 13 = .ok (.lcmp, 1) := by decide +kernel
theorem d153_14 : decode (mB 153) 14 = .ok (.ifCond .le 7, 3) := by decide +kernel
theorem d153_17 : decode (mB 153) 17 = .ok (.aload_n 0, 1) := by decide +kernel
theorem d153_18 : decode (mB 153) 18 = .ok (.invokevirtual 259, 3) := by decide +kernel
theorem d153_21 : decode (mB 153) 21 = .ok (.aload_n 0, 1) := by decide +kernel
theorem d153_22 : decode (mB 153) 22 = .ok (.getfield 252, 3) := by decide +kernel
theorem d153_25 : decode (mB 153) 25 = .ok (.ifCond .ne 18, 3) := by decide +kernel
theorem d153_28 : decode (mB 153) 28 = .ok (.aload_n 0, 1) := by decide +kernel
theorem d153_29 : decode (mB 153) 29 = .ok (.getfield 55, 3) := by decide +kernel
theorem d153_32 : decode (mB 153) 32 = .ok (.iload_n 1, 1) := by decide +kernel
theorem d153_33 : decode (mB 153) 33 = .ok (.aload_n 0, 1) := by decide +kernel
theorem d153_34 : decode (mB 153) 34 = .ok (.getfield 238, 3) := by decide +kernel
theorem d153_37 : decode (mB 153) 37 = .ok (.l2i, 1) := by decide +kernel
theorem d153_38 : decode (mB 153) 38 = .ok (.iastore, 1) := by decide +kernel
theorem d153_39 : decode (mB 153) 39 = .ok (.aload_n 0, 1) := by decide +kernel
theorem d153_40 : decode (mB 153) 40 = .ok (.invokevirtual 262, 3) := by decide +kernel
theorem d153_43 : decode (mB 153) 43 = .ok (.return_, 1) := by decide +kernel
theorem d143_0 : decode (mB 143) 0 = .ok (.bipush 40, 2) := by decide +kernel
theorem d143_2 : decode (mB 143) 2 = .ok (.aload_n 0, 1) := by decide +kernel
theorem d143_3 : decode (mB 143) 3 = .ok (.getfield 265, 3) := by decide +kernel
theorem d143_6 : decode (mB 143) 6 = .ok (.imul, 1) := by decide +kernel
theorem d143_7 : decode (mB 143) 7 = .ok (.aload_n 0, 1) := by decide +kernel
theorem d143_8 : decode (mB 143) 8 = .ok (.getfield 17, 3) := by decide +kernel
theorem d143_11 : decode (mB 143) 11 = .ok (.aload_n 0, 1) := by decide +kernel
theorem d143_12 : decode (mB 143) 12 = .ok (.getfield 265, 3) := by decide +kernel
theorem d143_15 : decode (mB 143) 15 = .ok (.iaload, 1) := by decide +kernel
theorem d143_16 : decode (mB 143) 16 = .ok (.iadd, 1) := by decide +kernel
theorem d143_17 : decode (mB 143) 17 = .ok (.istore_n 1, 1) := by decide +kernel
theorem d143_18 : decode (mB 143) 18 = .ok (.aload_n 0, 1) := by decide +kernel
theorem d143_19 : decode (mB 143) 19 = .ok (.getfield 17, 3) := by decide +kernel
theorem d143_22 : decode (mB 143) 22 = .ok (.aload_n 0, 1) := by decide +kernel
theorem d143_23 : decode (mB 143) 23 = .ok (.getfield 265, 3) := by decide +kernel
theorem d143_26 : decode (mB 143) 26 = .ok (.dup2, 1) := by decide +kernel
theorem d143_27 : decode (mB 143) 27 = .ok (.iaload, 1) := by decide +kernel
theorem d143_28 : decode (mB 143) 28 = .ok (.iconst 1, 1) := by decide +kernel
theorem d143_29 : decode (mB 143) 29 = .ok (.iadd, 1) := by decide +kernel
theorem d143_30 : decode (mB 143) 30 = .ok (.iastore, 1) := by decide +kernel
theorem d143_31 : decode (mB 143) 31 = .ok (.aload_n 0, 1) := by decide +kernel
theorem d143_32 : decode (mB 143) 32 = .ok (.getfield 36, 3) := by decide +kernel
theorem d143_35 : decode (mB 143) 35 = .ok (.iload_n 1, 1) := by decide +kernel
theorem d143_36 : decode (mB 143) 36 = .ok (.iconst (-1), 1) := by decide +kernel
theorem d143_37 : decode (mB 143) 37 = .ok (.iastore, 1) := by decide +kernel
theorem d143_38 : decode (mB 143) 38 = .ok (.aload_n 0, 1) := by decide +kernel
theorem d143_39 : decode (mB 143) 39 = .ok (.getfield 39, 3) := by decide +kernel
theorem d143_42 : decode (mB 143) 42 = .ok (.iload_n 1, 1) := by decide +kernel
theorem d143_43 : decode (mB 143) 43 = .ok (.iconst (-1), 1) := by decide +kernel
theorem d143_44 : decode (mB 143) 44 = .ok (.iastore, 1) := by decide +kernel
theorem d143_45 : decode (mB 143) 45 = .ok (.aload_n 0, 1) := by decide +kernel
theorem d143_46 : decode (mB 143) 46 = .ok (.getfield 49, 3) := by decide +kernel
theorem d143_49 : decode (mB 143) 49 = .ok (.iload_n 1, 1) := by decide +kernel
theorem d143_50 : decode (mB 143) 50 = .ok (.iconst (-1), 1) := by decide +kernel
theorem d143_51 : decode (mB 143) 51 = .ok (.iastore, 1) := by decide +kernel
theorem d143_52 : decode (mB 143) 52 = .ok (.iconst 0, 1) := by decide +kernel
theorem d143_53 : decode (mB 143) 53 = .ok (.istore_n 2, 1) := by decide +kernel
theorem d143_54 : decode (mB 143) 54 = .ok (.iload_n 2, 1) := by decide +kernel
theorem d143_55 : decode (mB 143) 55 = .ok (.iconst 3, 1) := by decide +kernel
theorem d143_56 : decode (mB 143) 56 = .ok (.if_icmp .ge 31, 3) := by decide +kernel
theorem d143_59 : decode (mB 143) 59 = .ok (.aload_n 0, 1) := by decide +kernel
theorem d143_60 : decode (mB 143) 60 = .ok (.getfield 42, 3) := by decide +kernel
theorem d143_63 : decode (mB 143) 63 = .ok (.iconst 3, 1) := by decide +kernel
theorem d143_64 : decode (mB 143) 64 = .ok (.iload_n 1, 1) := by decide +kernel
theorem d143_65 : decode (mB 143) 65 = .ok (.imul, 1) := by decide +kernel
theorem d143_66 : decode (mB 143) 66 = .ok (.iload_n 2, 1) := by decide +kernel
theorem d143_67 : decode (mB 143) 67 = .ok (.iadd, 1) := by decide +kernel
theorem d143_68 : decode (mB 143) 68 = .ok (.iconst (-1), 1) := by decide +kernel
theorem d143_69 : decode (mB 143) 69 = .ok (.iastore, 1) := by decide +kernel
theorem d143_70 : decode (mB 143) 70 = .ok (.aload_n 0, 1) := by decide +kernel
theorem d143_71 : decode (mB 143) 71 = .ok (.getfield 45, 3) := by decide +kernel
theorem d143_74 : decode (mB 143) 74 = .ok (.iconst 3, 1) := by decide +kernel
theorem d143_75 : decode (mB 143) 75 = .ok (.iload_n 1, 1) := by decide +kernel
theorem d143_76 : decode (mB 143) 76 = .ok (.imul, 1) := by decide +kernel
theorem d143_77 : decode (mB 143) 77 = .ok (.iload_n 2, 1) := by decide +kernel
theorem d143_78 : decode (mB 143) 78 = .ok (.iadd, 1) := by decide +kernel
theorem d143_79 : decode (mB 143) 79 = .ok (.iconst 0, 1) := by decide +kernel
theorem d143_80 : decode (mB 143) 80 = .ok (.bastore, 1) := by decide +kernel
theorem d143_81 : decode (mB 143) 81 = .ok (.iinc 2 1, 3) := by decide +kernel
theorem d143_84 : decode (mB 143) 84 = .ok (.goto (-30), 3) := by decide +kernel
theorem d143_87 : decode (mB 143) 87 = .ok (.aload_n 0, 1) := by decide +kernel
theorem d143_88 : decode (mB 143) 88 = .ok (.getfield 80, 3) := by decide +kernel
theorem d143_91 : decode (mB 143) 91 = .ok (.aload_n 0, 1) := by decide +kernel
theorem d143_92 : decode (mB 143) 92 = .ok (.getfield 298, 3) := by decide +kernel
theorem d143_95 : decode (mB 143) 95 = .ok (.iaload, 1) := by decide +kernel
theorem d143_96 : decode (mB 143) 96 = .ok (.istore_n 2, 1) := by decide +kernel
theorem d143_97 : decode (mB 143) 97 = .ok (.aload_n 0, 1) := by decide +kernel
theorem d143_98 : decode (mB 143) 98 = .ok (.getfield 74, 3) := by decide +kernel
theorem d143_101 : decode (mB 143) 101 = .ok (.aload_n 0, 1) := by decide +kernel
theorem d143_102 : decode (mB 143) 102 = .ok (.getfield 298, 3) := by decide +kernel
theorem d143_105 : decode (mB 143) 105 = .ok (.iaload, 1) := by decide +kernel
theorem d143_106 : decode (mB 143) 106 = .ok (.istore_n 3, 1) := by decide +kernel
theorem d143_107 : decode (mB 143) 107 = .ok (.iload_n 2, 1) := by decide +kernel
theorem d143_108 : decode (mB 143) 108 = .ok (.ifCond .lt 13, 3) := by decide +kernel
theorem d143_111 : decode (mB 143) 111 = .ok (.aload_n 0, 1) := by decide +kernel
theorem d143_112 : decode (mB 143) 112 = .ok (.getfield 36, 3) := by decide +kernel
theorem d143_115 : decode (mB 143) 115 = .ok (.iload_n 2, 1) := by decide +kernel
theorem d143_116 : decode (mB 143) 116 = .ok (.iload_n 1, 1) := by decide +kernel
theorem d143_117 : decode (mB 143) 117 = .ok (.iastore, 1) := by decide +kernel
theorem d143_118 : decode (mB 143) 118 = .ok (.goto 39, 3) := by decide +kernel
theorem d143_121 : decode (mB 143) 121 = .ok (.iload_n 3, 1) := by decide +kernel
theorem d143_122 : decode (mB 143) 122 = .ok (.ifCond .ge 16, 3) := by decide +kernel
theorem d143_125 : decode (mB 143) 125 = .ok (.aload_n 0, 1) := by decide +kernel
theorem d143_126 : decode (mB 143) 126 = .ok (.getfield 27, 3) := by decide +kernel
theorem d143_129 : decode (mB 143) 129 = .ok (.aload_n 0, 1) := by decide +kernel
theorem d143_130 : decode (mB 143) 130 = .ok (.getfield 265, 3) := by decide +kernel
theorem d143_133 : decode (mB 143) 133 = .ok (.iload_n 1, 1) := by decide +kernel
theorem d143_134 : decode (mB 143) 134 = .ok (.iastore, 1) := by decide +kernel
theorem d143_135 : decode (mB 143) 135 = .ok (.goto 22, 3) := by decide +kernel
theorem d143_138 : decode (mB 143) 138 = .ok (.aload_n 0, 1) := by decide +kernel
theorem d143_139 : decode (mB 143) 139 = .ok (.getfield 42, 3) := by decide +kernel
theorem d143_142 : decode (mB 143) 142 = .ok (.iconst 3, 1) := by decide +kernel
theorem d143_143 : decode (mB 143) 143 = .ok (.iload_n 3, 1) := by decide +kernel
theorem d143_144 : decode (mB 143) 144 = .ok (.imul, 1) := by decide +kernel
theorem d143_145 : decode (mB 143) 145 = .ok (.aload_n 0, 1) := by decide +kernel
theorem d143_146 : decode (mB 143) 146 = .ok (.getfield 77, 3) := by decide +kernel
theorem d143_149 : decode (mB 143) 149 = .ok (.aload_n 0, 1) := by decide +kernel
theorem d143_150 : decode (mB 143) 150 = .ok (.getfield 298, 3) := by decide +kernel
theorem d143_153 : decode (mB 143) 153 = .ok (.iaload, 1) := by decide +kernel
theorem d143_154 : decode (mB 143) 154 = .ok (.iadd, 1) := by decide +kernel
theorem d143_155 : decode (mB 143) 155 = .ok (.iload_n 1, 1) := by decide +kernel
theorem d143_156 : decode (mB 143) 156 = .ok (.iastore, 1) := by decide +kernel
theorem d143_157 : decode (mB 143) 157 = .ok (.aload_n 0, 1) := by decide +kernel
theorem d143_158 : decode (mB 143) 158 = .ok (.getfield 80, 3) := by decide +kernel
theorem d143_161 : decode (mB 143) 161 = .ok (.aload_n 0, 1) := by decide +kernel
theorem d143_162 : decode (mB 143) 162 = .ok (.getfield 298, 3) := by decide +kernel
theorem d143_165 : decode (mB 143) 165 = .ok (.iload_n 1, 1) := by decide +kernel
theorem d143_166 : decode (mB 143) 166 = .ok (.iastore, 1) := by decide +kernel
theorem d143_167 : decode (mB 143) 167 = .ok (.iload_n 1, 1) := by decide +kernel
theorem d143_168 : decode (mB 143) 168 = .ok (.ireturn, 1) := by decide +kernel
theorem d142_0 : decode (mB 142) 0 = .ok (.iload_n 0, 1) := by decide +kernel
theorem d142_1 : decode (mB 142) 1 = .ok (.ifCond .eq 72, 3) := by decide +kernel
theorem d142_4 : decode (mB 142) 4 = .ok (.iload_n 0, 1) := by decide +kernel
theorem d142_5 : decode (mB 142) 5 = .ok (.iconst 1, 1) := by decide +kernel
theorem d142_6 : decode (mB 142) 6 = .ok (.if_icmp .eq 67, 3) := by decide +kernel
theorem d142_9 : decode (mB 142) 9 = .ok (.iload_n 0, 1) := by decide +kernel
theorem d142_10 : decode (mB 142) 10 = .ok (.iconst 3, 1) := by decide +kernel
theorem d142_11 : decode (mB 142) 11 = .ok (.if_icmp .eq 62, 3) := by decide +kernel
theorem d142_14 : decode (mB 142) 14 = .ok (.iload_n 0, 1) := by decide +kernel
theorem d142_15 : decode (mB 142) 15 = .ok (.iconst 4, 1) := by decide +kernel
theorem d142_16 : decode (mB 142) 16 = .ok (.if_icmp .eq 57, 3) := by decide +kernel
theorem d142_19 : decode (mB 142) 19 = .ok (.iload_n 0, 1) := by decide +kernel
theorem d142_20 : decode (mB 142) 20 = .ok (.bipush 6, 2) := by decide +kernel
theorem d142_22 : decode (mB 142) 22 = .ok (.if_icmp .eq 51, 3) := by decide +kernel
theorem d142_25 : decode (mB 142) 25 = .ok (.iload_n 0, 1) := by decide +kernel
theorem d142_26 : decode (mB 142) 26 = .ok (.bipush 8, 2) := by decide +kernel
theorem d142_28 : decode (mB 142) 28 = .ok (.if_icmp .eq 45, 3) := by decide +kernel
theorem d142_31 : decode (mB 142) 31 = .ok (.iload_n 0, 1) := by decide +kernel
theorem d142_32 : decode (mB 142) 32 = .ok (.bipush 9, 2) := by decide +kernel
theorem d142_34 : decode (mB 142) 34 = .ok (.if_icmp .eq 39, 3) := by decide +kernel
theorem d142_37 : decode (mB 142) 37 = .ok (.iload_n 0, 1) := by decide +kernel
theorem d142_38 : decode (mB 142) 38 = .ok (.bipush 10, 2) := by decide +kernel
theorem d142_40 : decode (mB 142) 40 = .ok (.if_icmp .eq 33, 3) := by decide +kernel
theorem d142_43 : decode (mB 142) 43 = .ok (.iload_n 0, 1) := by decide +kernel
theorem d142_44 : decode (mB 142) 44 = .ok (.bipush 11, 2) := by decide +kernel
theorem d142_46 : decode (mB 142) 46 = .ok (.if_icmp .eq 27, 3) := by decide +kernel
theorem d142_49 : decode (mB 142) 49 = .ok (.iload_n 0, 1) := by decide +kernel
theorem d142_50 : decode (mB 142) 50 = .ok (.bipush 12, 2) := by decide +kernel
theorem d142_52 : decode (mB 142) 52 = .ok (.if_icmp .eq 21, 3) := by decide +kernel
theorem d142_55 : decode (mB 142) 55 = .ok (.iload_n 0, 1) := by decide +kernel
theorem d142_56 : decode (mB 142) 56 = .ok (.bipush 13, 2) := by decide +kernel
theorem d142_58 : decode (mB 142) 58 = .ok (.if_icmp .eq 15, 3) := by decide +kernel
theorem d142_61 : decode (mB 142) 61 = .ok (.iload_n 0, 1) := by decide +kernel
theorem d142_62 : decode (mB 142) 62 = .ok (.bipush 15, 2) := by decide +kernel
theorem d142_64 : decode (mB 142) 64 = .ok (.if_icmp .eq 9, 3) := by decide +kernel
theorem d142_67 : decode (mB 142) 67 = .ok (.iload_n 0, 1) := by decide +kernel
theorem d142_68 : decode (mB 142) 68 = .ok (.bipush 18, 2) := by decide +kernel
theorem d142_70 : decode (mB 142) 70 = .ok (.if_icmp .ne 7, 3) := by decide +kernel
theorem d142_73 : decode (mB 142) 73 = .ok (.iconst 1, 1) := by decide +kernel
theorem d142_74 : decode (mB 142) 74 = .ok (.goto 4, 3) := by decide +kernel
theorem d142_77 : decode (mB 142) 77 = .ok (.iconst 0, 1) := by decide +kernel
theorem d142_78 : decode (mB 142) 78 = .ok (.ireturn, 1) := by decide +kernel
theorem d141_0 : decode (mB 141) 0 = .ok (.aload_n 0, 1) := by decide +kernel
theorem d141_1 : decode (mB 141) 1 = .ok (.invokevirtual 295, 3) := by decide +kernel
theorem d141_4 : decode (mB 141) 4 = .ok (.istore_n 1, 1) := by decide +kernel
theorem d141_5 : decode (mB 141) 5 = .ok (.aload_n 0, 1) := by decide +kernel
theorem d141_6 : decode (mB 141) 6 = .ok (.getfield 221, 3) := by decide +kernel
theorem d141_9 : decode (mB 141) 9 = .ok (.bipush 10, 2) := by decide +kernel
theorem d141_11 : decode (mB 141) 11 = .ok (.isub, 1) := by decide +kernel
theorem d141_12 : decode (mB 141) 12 = .ok (.istore_n 2, 1) := by decide +kernel
theorem d141_13 : decode (mB 141) 13 = .ok (.iload_n 1, 1) := by decide +kernel
theorem d141_14 : decode (mB 141) 14 = .ok (.ifCond .ne 10, 3) := by decide +kernel
theorem d141_17 : decode (mB 141) 17 = .ok (.iload_n 2, 1) := by decide +kernel
theorem d141_18 : decode (mB 141) 18 = .ok (.invokestatic 317, 3) := by decide +kernel
theorem d141_21 : decode (mB 141) 21 = .ok (.ifCond .eq 17, 3) := by decide +kernel
theorem d141_24 : decode (mB 141) 24 = .ok (.aload_n 0, 1) := by decide +kernel
theorem d141_25 : decode (mB 141) 25 = .ok (.getfield 17, 3) := by decide +kernel
theorem d141_28 : decode (mB 141) 28 = .ok (.aload_n 0, 1) := by decide +kernel
theorem d141_29 : decode (mB 141) 29 = .ok (.getfield 265, 3) := by decide +kernel
theorem d141_32 : decode (mB 141) 32 = .ok (.iaload, 1) := by decide +kernel
theorem d141_33 : decode (mB 141) 33 = .ok (.bipush 40, 2) := by decide +kernel
theorem d141_35 : decode (mB 141) 35 = .ok (.if_icmp .ne 8, 3) := by decide +kernel
theorem d141_38 : decode (mB 141) 38 = .ok (.aload_n 0, 1) := by decide +kernel
theorem d141_39 : decode (mB 141) 39 = .ok (.invokevirtual 259, 3) := by decide +kernel
theorem d141_42 : decode (mB 141) 42 = .ok (.return_, 1) := by decide +kernel
theorem d141_43 : decode (mB 141) 43 = .ok (.aload_n 0, 1) := by decide +kernel
theorem d141_44 : decode (mB 141) 44 = .ok (.invokevirtual 320, 3) := by decide +kernel
theorem d141_47 : decode (mB 141) 47 = .ok (.istore_n 3, 1) := by decide +kernel
theorem d141_48 : decode (mB 141) 48 = .ok (.aload_n 0, 1) := by decide +kernel
theorem d141_49 : decode (mB 141) 49 = .ok (.getfield 33, 3) := by decide +kernel
theorem d141_52 : decode (mB 141) 52 = .ok (.iload_n 3, 1) := by decide +kernel
theorem d141_53 : decode (mB 141) 53 = .ok (.iload_n 1, 1) := by decide +kernel
theorem d141_54 : decode (mB 141) 54 = .ok (.ifCond .eq 8, 3) := by decide +kernel
theorem d141_57 : decode (mB 141) 57 = .ok (.bipush 30, 2) := by decide +kernel
theorem d141_59 : decode (mB 141) 59 = .ok (.goto 4, 3) := by decide +kernel
theorem d141_62 : decode (mB 141) 62 = .ok (.iload_n 2, 1) := by decide +kernel
theorem d141_63 : decode (mB 141) 63 = .ok (.iastore, 1) := by decide +kernel
theorem d141_64 : decode (mB 141) 64 = .ok (.aload_n 0, 1) := by decide +kernel
theorem d141_65 : decode (mB 141) 65 = .ok (.getfield 49, 3) := by decide +kernel
