theorem dX0_ofDouble_0 : decode cX0_ofDouble 0 = .ok (.dload_n 0, 1) := by decide +kernel
theorem dX0_ofDouble_1 : decode cX0_ofDouble 1 = .ok (.dconst 0, 1) := by decide +kernel
theorem dX0_ofDouble_2 : decode cX0_ofDouble 2 = .ok (.dcmp .g, 1) := by decide +kernel
theorem dX0_ofDouble_3 : decode cX0_ofDouble 3 = .ok (.ifCond .ge 18, 3) := by decide +kernel
theorem dX0_ofDouble_6 : decode cX0_ofDouble 6 = .ok (.dload_n 0, 1) := by decide +kernel
theorem dX0_ofDouble_7 : decode cX0_ofDouble 7 = .ok (.dneg, 1) := by decide +kernel
theorem dX0_ofDouble_8 : decode cX0_ofDouble 8 = .ok (.bipush 52, 2) := by decide +kernel
theorem dX0_ofDouble_10 : decode cX0_ofDouble 10 = .ok (.sipush 1023, 3) := by decide +kernel
theorem dX0_ofDouble_13 : decode cX0_ofDouble 13 = .ok (.invokestatic 7, 3) := by decide +kernel
theorem dX0_ofDouble_16 : decode cX0_ofDouble 16 = .ok (.ldc2_w 13, 3) := by decide +kernel
theorem dX0_ofDouble_19 : decode cX0_ofDouble 19 = .ok (.lor, 1) := by decide +kernel
theorem dX0_ofDouble_20 : decode cX0_ofDouble 20 = .ok (.lreturn, 1) := by decide +kernel
theorem dX0_ofDouble_21 : decode cX0_ofDouble 21 = .ok (.dload_n 0, 1) := by decide +kernel
theorem dX0_ofDouble_22 : decode cX0_ofDouble 22 = .ok (.bipush 52, 2) := by decide +kernel
theorem dX0_ofDouble_24 : decode cX0_ofDouble 24 = .ok (.sipush 1023, 3) := by decide +kernel
theorem dX0_ofDouble_27 : decode cX0_ofDouble 27 = .ok (.invokestatic 7, 3) := by decide +kernel
theorem dX0_ofDouble_30 : decode cX0_ofDouble 30 = .ok (.lreturn, 1) := by decide +kernel
theorem dX0_ofFloat_0 : decode cX0_ofFloat 0 = .ok (.fload_n 0, 1) := by decide +kernel
theorem dX0_ofFloat_1 : decode cX0_ofFloat 1 = .ok (.f2d, 1) := by decide +kernel
theorem dX0_ofFloat_2 : decode cX0_ofFloat 2 = .ok (.bipush 23, 2) := by decide +kernel
theorem dX0_ofFloat_4 : decode cX0_ofFloat 4 = .ok (.bipush 127, 2) := by decide +kernel
theorem dX0_ofFloat_6 : decode cX0_ofFloat 6 = .ok (.invokestatic 7, 3) := by decide +kernel
theorem dX0_ofFloat_9 : decode cX0_ofFloat 9 = .ok (.lreturn, 1) := by decide +kernel
theorem dX0_ofMagnitude_0 : decode cX0_ofMagnitude 0 = .ok (.dload_n 0, 1) := by decide +kernel
theorem dX0_ofMagnitude_1 : decode cX0_ofMagnitude 1 = .ok (.dstore 4, 2) := by decide +kernel
theorem dX0_ofMagnitude_3 : decode cX0_ofMagnitude 3 = .ok (.iconst 0, 1) := by decide +kernel
theorem dX0_ofMagnitude_4 : decode cX0_ofMagnitude 4 = .ok (.istore 6, 2) := by decide +kernel
theorem dX0_ofMagnitude_6 : decode cX0_ofMagnitude 6 = .ok (.iconst 0, 1) := by decide +kernel
theorem dX0_ofMagnitude_7 : decode cX0_ofMagnitude 7 = .ok (.istore 7, 2) := by decide +kernel
theorem dX0_ofMagnitude_9 : decode cX0_ofMagnitude 9 = .ok (.iload 7, 2) := by decide +kernel
theorem dX0_ofMagnitude_11 : decode cX0_ofMagnitude 11 = .ok (.sipush 1100, 3) := by decide +kernel
theorem dX0_ofMagnitude_14 : decode cX0_ofMagnitude 14 = .ok (.if_icmp .ge 29, 3) := by decide +kernel
theorem dX0_ofMagnitude_17 : decode cX0_ofMagnitude 17 = .ok (.dload 4, 2) := by decide +kernel
theorem dX0_ofMagnitude_19 : decode cX0_ofMagnitude 19 = .ok (.ldc2_w 15, 3) := by decide +kernel
theorem dX0_ofMagnitude_22 : decode cX0_ofMagnitude 22 = .ok (.dcmp .l, 1) := by decide +kernel
theorem dX0_ofMagnitude_23 : decode cX0_ofMagnitude 23 = .ok (.ifCond .lt 20, 3) := by decide +kernel
theorem dX0_ofMagnitude_26 : decode cX0_ofMagnitude 26 = .ok (.dload 4, 2) := by decide +kernel
theorem dX0_ofMagnitude_28 : decode cX0_ofMagnitude 28 = .ok (.ldc2_w 15, 3) := by decide +kernel
theorem dX0_ofMagnitude_31 : decode cX0_ofMagnitude 31 = .ok (.ddiv, 1) := by decide +kernel
theorem dX0_ofMagnitude_32 : decode cX0_ofMagnitude 32 = .ok (.dstore 4, 2) := by decide +kernel
theorem dX0_ofMagnitude_34 : decode cX0_ofMagnitude 34 = .ok (.iinc 6 1, 3) := by decide +kernel
theorem dX0_ofMagnitude_37 : decode cX0_ofMagnitude 37 = .ok (.iinc 7 1, 3) := by decide +kernel
theorem dX0_ofMagnitude_40 : decode cX0_ofMagnitude 40 = .ok (.goto (-31), 3) := by decide +kernel
theorem dX0_ofMagnitude_43 : decode cX0_ofMagnitude 43 = .ok (.iconst 0, 1) := by decide +kernel
theorem dX0_ofMagnitude_44 : decode cX0_ofMagnitude 44 = .ok (.istore 7, 2) := by decide +kernel
theorem dX0_ofMagnitude_46 : decode cX0_ofMagnitude 46 = .ok (.iload 7, 2) := by decide +kernel
theorem dX0_ofMagnitude_48 : decode cX0_ofMagnitude 48 = .ok (.sipush 1100, 3) := by decide +kernel
theorem dX0_ofMagnitude_51 : decode cX0_ofMagnitude 51 = .ok (.if_icmp .ge 35, 3) := by decide +kernel
theorem dX0_ofMagnitude_54 : decode cX0_ofMagnitude 54 = .ok (.dload 4, 2) := by decide +kernel
theorem dX0_ofMagnitude_56 : decode cX0_ofMagnitude 56 = .ok (.dconst 1, 1) := by decide +kernel
theorem dX0_ofMagnitude_57 : decode cX0_ofMagnitude 57 = .ok (.dcmp .g, 1) := by decide +kernel
theorem dX0_ofMagnitude_58 : decode cX0_ofMagnitude 58 = .ok (.ifCond .ge 28, 3) := by decide +kernel
theorem dX0_ofMagnitude_61 : decode cX0_ofMagnitude 61 = .ok (.iload 6, 2) := by decide +kernel
theorem dX0_ofMagnitude_63 : decode cX0_ofMagnitude 63 = .ok (.iconst 1, 1) := by decide +kernel
theorem dX0_ofMagnitude_64 : decode cX0_ofMagnitude 64 = .ok (.iload_n 3, 1) := by decide +kernel
theorem dX0_ofMagnitude_65 : decode cX0_ofMagnitude 65 = .ok (.isub, 1) := by decide +kernel
theorem dX0_ofMagnitude_66 : decode cX0_ofMagnitude 66 = .ok (.if_icmp .le 20, 3) := by decide +kernel
theorem dX0_ofMagnitude_69 : decode cX0_ofMagnitude 69 = .ok (.dload 4, 2) := by decide +kernel
theorem dX0_ofMagnitude_71 : decode cX0_ofMagnitude 71 = .ok (.ldc2_w 15, 3) := by decide +kernel
theorem dX0_ofMagnitude_74 : decode cX0_ofMagnitude 74 = .ok (.dmul, 1) := by decide +kernel
theorem dX0_ofMagnitude_75 : decode cX0_ofMagnitude 75 = .ok (.dstore 4, 2) := by decide +kernel
theorem dX0_ofMagnitude_77 : decode cX0_ofMagnitude 77 = .ok (.iinc 6 (-1), 3) := by decide +kernel
theorem dX0_ofMagnitude_80 : decode cX0_ofMagnitude 80 = .ok (.iinc 7 1, 3) := by decide +kernel
theorem dX0_ofMagnitude_83 : decode cX0_ofMagnitude 83 = .ok (.goto (-37), 3) := by decide +kernel
theorem dX0_ofMagnitude_86 : decode cX0_ofMagnitude 86 = .ok (.dload 4, 2) := by decide +kernel
theorem dX0_ofMagnitude_88 : decode cX0_ofMagnitude 88 = .ok (.lconst 1, 1) := by decide +kernel
theorem dX0_ofMagnitude_89 : decode cX0_ofMagnitude 89 = .ok (.iload_n 2, 1) := by decide +kernel
theorem dX0_ofMagnitude_90 : decode cX0_ofMagnitude 90 = .ok (.lshl, 1) := by decide +kernel
theorem dX0_ofMagnitude_91 : decode cX0_ofMagnitude 91 = .ok (.l2d, 1) := by decide +kernel
theorem dX0_ofMagnitude_92 : decode cX0_ofMagnitude 92 = .ok (.dmul, 1) := by decide +kernel
theorem dX0_ofMagnitude_93 : decode cX0_ofMagnitude 93 = .ok (.d2l, 1) := by decide +kernel
theorem dX0_ofMagnitude_94 : decode cX0_ofMagnitude 94 = .ok (.lstore 7, 2) := by decide +kernel
theorem dX0_ofMagnitude_96 : decode cX0_ofMagnitude 96 = .ok (.iload 6, 2) := by decide +kernel
theorem dX0_ofMagnitude_98 : decode cX0_ofMagnitude 98 = .ok (.iload_n 3, 1) := by decide +kernel
theorem dX0_ofMagnitude_99 : decode cX0_ofMagnitude 99 = .ok (.iadd, 1) := by decide +kernel
theorem dX0_ofMagnitude_100 : decode cX0_ofMagnitude 100 = .ok (.iconst 1, 1) := by decide +kernel
theorem dX0_ofMagnitude_101 : decode cX0_ofMagnitude 101 = .ok (.isub, 1) := by decide +kernel
theorem dX0_ofMagnitude_102 : decode cX0_ofMagnitude 102 = .ok (.i2l, 1) := by decide +kernel
theorem dX0_ofMagnitude_103 : decode cX0_ofMagnitude 103 = .ok (.iload_n 2, 1) := by decide +kernel
theorem dX0_ofMagnitude_104 : decode cX0_ofMagnitude 104 = .ok (.lshl, 1) := by decide +kernel
theorem dX0_ofMagnitude_105 : decode cX0_ofMagnitude 105 = .ok (.lload 7, 2) := by decide +kernel
theorem dX0_ofMagnitude_107 : decode cX0_ofMagnitude 107 = .ok (.ladd, 1) := by decide +kernel
theorem dX0_ofMagnitude_108 : decode cX0_ofMagnitude 108 = .ok (.lreturn, 1) := by decide +kernel
theorem dX0_greatestDivisor_0 : decode cX0_greatestDivisor 0 = .ok (.lload_n 0, 1) := by decide +kernel
theorem dX0_greatestDivisor_1 : decode cX0_greatestDivisor 1 = .ok (.lstore 4, 2) := by decide +kernel
theorem dX0_greatestDivisor_3 : decode cX0_greatestDivisor 3 = .ok (.lload_n 2, 1) := by decide +kernel
theorem dX0_greatestDivisor_4 : decode cX0_greatestDivisor 4 = .ok (.lstore 6, 2) := by decide +kernel
theorem dX0_greatestDivisor_6 : decode cX0_greatestDivisor 6 = .ok (.iconst 0, 1) := by decide +kernel
theorem dX0_greatestDivisor_7 : decode cX0_greatestDivisor 7 = .ok (.istore 8, 2) := by decide +kernel
theorem dX0_greatestDivisor_9 : decode cX0_greatestDivisor 9 = .ok (.iload 8, 2) := by decide +kernel
theorem dX0_greatestDivisor_11 : decode cX0_greatestDivisor 11 = .ok (.sipush 200, 3) := by decide +kernel
theorem dX0_greatestDivisor_14 : decode cX0_greatestDivisor 14 = .ok (.if_icmp .ge 31, 3) := by decide +kernel
theorem dX0_greatestDivisor_17 : decode cX0_greatestDivisor 17 = .ok (.lload 6, 2) := by decide +kernel
theorem dX0_greatestDivisor_19 : decode cX0_greatestDivisor 19 = .ok (.lconst 0, 1) := by decide +kernel
theorem dX0_greatestDivisor_20 : decode cX0_greatestDivisor 20 = .ok (.lcmp, 1) := by decide +kernel
theorem dX0_greatestDivisor_21 : decode cX0_greatestDivisor 21 = .ok (.ifCond .eq 24, 3) := by decide +kernel
theorem dX0_greatestDivisor_24 : decode cX0_greatestDivisor 24 = .ok (.lload 4, 2) := by decide +kernel
theorem dX0_greatestDivisor_26 : decode cX0_greatestDivisor 26 = .ok (.lload 6, 2) := by decide +kernel
theorem dX0_greatestDivisor_28 : decode cX0_greatestDivisor 28 = .ok (.lrem, 1) := by decide +kernel
theorem dX0_greatestDivisor_29 : decode cX0_greatestDivisor 29 = .ok (.lstore 9, 2) := by decide +kernel
theorem dX0_greatestDivisor_31 : decode cX0_greatestDivisor 31 = .ok (.lload 6, 2) := by decide +kernel
theorem dX0_greatestDivisor_33 : decode cX0_greatestDivisor 33 = .ok (.lstore 4, 2) := by decide +kernel
theorem dX0_greatestDivisor_35 : decode cX0_greatestDivisor 35 = .ok (.lload 9, 2) := by decide +kernel
theorem dX0_greatestDivisor_37 : decode cX0_greatestDivisor 37 = .ok (.lstore 6, 2) := by decide +kernel
theorem dX0_greatestDivisor_39 : decode cX0_greatestDivisor 39 = .ok (.iinc 8 1, 3) := by decide +kernel
theorem dX0_greatestDivisor_42 : decode cX0_greatestDivisor 42 = .ok (.goto (-33), 3) := by decide +kernel
theorem dX0_greatestDivisor_45 : decode cX0_greatestDivisor 45 = .ok (.lload 4, 2) := by decide +kernel
theorem dX0_greatestDivisor_47 : decode cX0_greatestDivisor 47 = .ok (.lreturn, 1) := by decide +kernel
theorem dX1_init_0 : decode cX1_init 0 = .ok (.aload_n 0, 1) := by decide +kernel
theorem dX1_init_1 : decode cX1_init 1 = .ok (.invokespecial 3, 3) := by decide +kernel
theorem dX1_init_4 : decode cX1_init 4 = .ok (.aload_n 0, 1) := by decide +kernel
theorem dX1_init_5 : decode cX1_init 5 = .ok (.bipush 72, 2) := by decide +kernel
theorem dX1_init_7 : decode cX1_init 7 = .ok (.newarray .int, 2) := by decide +kernel
theorem dX1_init_9 : decode cX1_init 9 = .ok (.putfield 11, 3) := by decide +kernel
theorem dX1_init_12 : decode cX1_init 12 = .ok (.aload_n 0, 1) := by decide +kernel
theorem dX1_init_13 : decode cX1_init 13 = .ok (.bipush 72, 2) := by decide +kernel
theorem dX1_init_15 : decode cX1_init 15 = .ok (.newarray .int, 2) := by decide +kernel
theorem dX1_init_17 : decode cX1_init 17 = .ok (.putfield 15, 3) := by decide +kernel
theorem dX1_init_20 : decode cX1_init 20 = .ok (.aload_n 0, 1) := by decide +kernel
theorem dX1_init_21 : decode cX1_init 21 = .ok (.iconst 0, 1) := by decide +kernel
theorem dX1_init_22 : decode cX1_init 22 = .ok (.putfield 18, 3) := by decide +kernel
theorem dX1_init_25 : decode cX1_init 25 = .ok (.aload_n 0, 1) := by decide +kernel
theorem dX1_init_26 : decode cX1_init 26 = .ok (.bipush 72, 2) := by decide +kernel
theorem dX1_init_28 : decode cX1_init 28 = .ok (.newarray .int, 2) := by decide +kernel
theorem dX1_init_30 : decode cX1_init 30 = .ok (.putfield 22, 3) := by decide +kernel
theorem dX1_init_33 : decode cX1_init 33 = .ok (.aload_n 0, 1) := by decide +kernel
theorem dX1_init_34 : decode cX1_init 34 = .ok (.bipush 72, 2) := by decide +kernel
theorem dX1_init_36 : decode cX1_init 36 = .ok (.newarray .int, 2) := by decide +kernel
theorem dX1_init_38 : decode cX1_init 38 = .ok (.putfield 25, 3) := by decide +kernel
theorem dX1_init_41 : decode cX1_init 41 = .ok (.aload_n 0, 1) := by decide +kernel
theorem dX1_init_42 : decode cX1_init 42 = .ok (.iconst 0, 1) := by decide +kernel
theorem dX1_init_43 : decode cX1_init 43 = .ok (.putfield 28, 3) := by decide +kernel
theorem dX1_init_46 : decode cX1_init 46 = .ok (.aload_n 0, 1) := by decide +kernel
theorem dX1_init_47 : decode cX1_init 47 = .ok (.iconst (-1), 1) := by decide +kernel
theorem dX1_init_48 : decode cX1_init 48 = .ok (.putfield 31, 3) := by decide +kernel
theorem dX1_init_51 : decode cX1_init 51 = .ok (.aload_n 0, 1) := by decide +kernel
theorem dX1_init_52 : decode cX1_init 52 = .ok (.aload_n 1, 1) := by decide +kernel
theorem dX1_init_53 : decode cX1_init 53 = .ok (.putfield 34, 3) := by decide +kernel
theorem dX1_init_56 : decode cX1_init 56 = .ok (.aload_n 0, 1) := by decide +kernel
theorem dX1_init_57 : decode cX1_init 57 = .ok (.new 38, 3) := by decide +kernel
theorem dX1_init_60 : decode cX1_init 60 = .ok (.dup, 1) := by decide +kernel
theorem dX1_init_61 : decode cX1_init 61 = .ok (.aload_n 1, 1) := by decide +kernel
theorem dX1_init_62 : decode cX1_init 62 = .ok (.invokespecial 40, 3) := by decide +kernel
theorem dX1_init_65 : decode cX1_init 65 = .ok (.putfield 43, 3) := by decide +kernel
theorem dX1_init_68 : decode cX1_init 68 = .ok (.return_, 1) := by decide +kernel
theorem dX1_freshLegs_0 : decode cX1_freshLegs 0 = .ok (.aload_n 0, 1) := by decide +kernel
theorem dX1_freshLegs_1 : decode cX1_freshLegs 1 = .ok (.getfield 43, 3) := by decide +kernel
theorem dX1_freshLegs_4 : decode cX1_freshLegs 4 = .ok (.invokevirtual 47, 3) := by decide +kernel
theorem dX1_freshLegs_7 : decode cX1_freshLegs 7 = .ok (.aload_n 0, 1) := by decide +kernel
theorem dX1_freshLegs_8 : decode cX1_freshLegs 8 = .ok (.getfield 43, 3) := by decide +kernel
theorem dX1_freshLegs_11 : decode cX1_freshLegs 11 = .ok (.areturn, 1) := by decide +kernel
theorem dX1_freshen_0 : decode cX1_freshen 0 = .ok (.aload_n 0, 1) := by decide +kernel
theorem dX1_freshen_1 : decode cX1_freshen 1 = .ok (.getfield 31, 3) := by decide +kernel
theorem dX1_freshen_4 : decode cX1_freshen 4 = .ok (.aload_n 0, 1) := by decide +kernel
theorem dX1_freshen_5 : decode cX1_freshen 5 = .ok (.getfield 34, 3) := by decide +kernel
theorem dX1_freshen_8 : decode cX1_freshen 8 = .ok (.getfield 50, 3) := by decide +kernel
theorem dX1_freshen_11 : decode cX1_freshen 11 = .ok (.if_icmp .ne 4, 3) := by decide +kernel
theorem dX1_freshen_14 : decode cX1_freshen 14 = .ok (.return_, 1) := by decide +kernel
theorem dX1_freshen_15 : decode cX1_freshen 15 = .ok (.aload_n 0, 1) := by decide +kernel
theorem dX1_freshen_16 : decode cX1_freshen 16 = .ok (.getfield 43, 3) := by decide +kernel
theorem dX1_freshen_19 : decode cX1_freshen 19 = .ok (.invokevirtual 47, 3) := by decide +kernel
theorem dX1_freshen_22 : decode cX1_freshen 22 = .ok (.aload_n 0, 1) := by decide +kernel
theorem dX1_freshen_23 : decode cX1_freshen 23 = .ok (.getfield 11, 3) := by decide +kernel
theorem dX1_freshen_26 : decode cX1_freshen 26 = .ok (.ldc 53, 2) := by decide +kernel
theorem dX1_freshen_28 : decode cX1_freshen 28 = .ok (.invokestatic 54, 3) := by decide +kernel
theorem dX1_freshen_31 : decode cX1_freshen 31 = .ok (.aload_n 0, 1) := by decide +kernel
theorem dX1_freshen_32 : decode cX1_freshen 32 = .ok (.getfield 22, 3) := by decide +kernel
theorem dX1_freshen_35 : decode cX1_freshen 35 = .ok (.iconst (-1), 1) := by decide +kernel
theorem dX1_freshen_36 : decode cX1_freshen 36 = .ok (.invokestatic 54, 3) := by decide +kernel
theorem dX1_freshen_39 : decode cX1_freshen 39 = .ok (.aload_n 0, 1) := by decide +kernel
theorem dX1_freshen_40 : decode cX1_freshen 40 = .ok (.iconst 0, 1) := by decide +kernel
theorem dX1_freshen_41 : decode cX1_freshen 41 = .ok (.putfield 18, 3) := by decide +kernel
theorem dX1_freshen_44 : decode cX1_freshen 44 = .ok (.aload_n 0, 1) := by decide +kernel
theorem dX1_freshen_45 : decode cX1_freshen 45 = .ok (.aload_n 0, 1) := by decide +kernel
theorem dX1_freshen_46 : decode cX1_freshen 46 = .ok (.invokevirtual 60, 3) := by decide +kernel
theorem dX1_freshen_49 : decode cX1_freshen 49 = .ok (.aload_n 0, 1) := by decide +kernel
theorem dX1_freshen_50 : decode cX1_freshen 50 = .ok (.getfield 34, 3) := by decide +kernel
theorem dX1_freshen_53 : decode cX1_freshen 53 = .ok (.getfield 64, 3) := by decide +kernel
theorem dX1_freshen_56 : decode cX1_freshen 56 = .ok (.invokevirtual 67, 3) := by decide +kernel
theorem dX1_freshen_59 : decode cX1_freshen 59 = .ok (.aload_n 0, 1) := by decide +kernel
theorem dX1_freshen_60 : decode cX1_freshen 60 = .ok (.invokevirtual 71, 3) := by decide +kernel
theorem dX1_freshen_63 : decode cX1_freshen 63 = .ok (.aload_n 0, 1) := by decide +kernel
theorem dX1_freshen_64 : decode cX1_freshen 64 = .ok (.aload_n 0, 1) := by decide +kernel
theorem dX1_freshen_65 : decode cX1_freshen 65 = .ok (.getfield 34, 3) := by decide +kernel
theorem dX1_freshen_68 : decode cX1_freshen 68 = .ok (.getfield 50, 3) := by decide +kernel
theorem dX1_freshen_71 : decode cX1_freshen 71 = .ok (.putfield 31, 3) := by decide +kernel
theorem dX1_freshen_74 : decode cX1_freshen 74 = .ok (.return_, 1) := by decide +kernel
theorem dX1_startSpot_0 : decode cX1_startSpot 0 = .ok (.iconst 2, 1) := by decide +kernel
theorem dX1_startSpot_1 : decode cX1_startSpot 1 = .ok (.aload_n 0, 1) := by decide +kernel
theorem dX1_startSpot_2 : decode cX1_startSpot 2 = .ok (.getfield 34, 3) := by decide +kernel
theorem dX1_startSpot_5 : decode cX1_startSpot 5 = .ok (.getfield 74, 3) := by decide +kernel
theorem dX1_startSpot_8 : decode cX1_startSpot 8 = .ok (.imul, 1) := by decide +kernel
theorem dX1_startSpot_9 : decode cX1_startSpot 9 = .ok (.aload_n 0, 1) := by decide +kernel
theorem dX1_startSpot_10 : decode cX1_startSpot 10 = .ok (.getfield 34, 3) := by decide +kernel
theorem dX1_startSpot_13 : decode cX1_startSpot 13 = .ok (.getfield 77, 3) := by decide +kernel
theorem dX1_startSpot_16 : decode cX1_startSpot 16 = .ok (.iadd, 1) := by decide +kernel
theorem dX1_startSpot_17 : decode cX1_startSpot 17 = .ok (.ireturn, 1) := by decide +kernel
theorem dX1_reach_0 : decode cX1_reach 0 = .ok (.aload_n 0, 1) := by decide +kernel
theorem dX1_reach_1 : decode cX1_reach 1 = .ok (.getfield 11, 3) := by decide +kernel
theorem dX1_reach_4 : decode cX1_reach 4 = .ok (.iload_n 1, 1) := by decide +kernel
theorem dX1_reach_5 : decode cX1_reach 5 = .ok (.iaload, 1) := by decide +kernel
theorem dX1_reach_6 : decode cX1_reach 6 = .ok (.ldc 53, 2) := by decide +kernel
theorem dX1_reach_8 : decode cX1_reach 8 = .ok (.if_icmp .ne 32, 3) := by decide +kernel
theorem dX1_reach_11 : decode cX1_reach 11 = .ok (.aload_n 0, 1) := by decide +kernel
theorem dX1_reach_12 : decode cX1_reach 12 = .ok (.getfield 18, 3) := by decide +kernel
theorem dX1_reach_15 : decode cX1_reach 15 = .ok (.bipush 72, 2) := by decide +kernel
theorem dX1_reach_17 : decode cX1_reach 17 = .ok (.if_icmp .ge 23, 3) := by decide +kernel
theorem dX1_reach_20 : decode cX1_reach 20 = .ok (.aload_n 0, 1) := by decide +kernel
theorem dX1_reach_21 : decode cX1_reach 21 = .ok (.getfield 15, 3) := by decide +kernel
theorem dX1_reach_24 : decode cX1_reach 24 = .ok (.aload_n 0, 1) := by decide +kernel
theorem dX1_reach_25 : decode cX1_reach 25 = .ok (.getfield 18, 3) := by decide +kernel
theorem dX1_reach_28 : decode cX1_reach 28 = .ok (.iload_n 1, 1) := by decide +kernel
theorem dX1_reach_29 : decode cX1_reach 29 = .ok (.iastore, 1) := by decide +kernel
theorem dX1_reach_30 : decode cX1_reach 30 = .ok (.aload_n 0, 1) := by decide +kernel
theorem dX1_reach_31 : decode cX1_reach 31 = .ok (.dup, 1) := by decide +kernel
theorem dX1_reach_32 : decode cX1_reach 32 = .ok (.getfield 18, 3) := by decide +kernel
theorem dX1_reach_35 : decode cX1_reach 35 = .ok (.iconst 1, 1) := by decide +kernel
theorem dX1_reach_36 : decode cX1_reach 36 = .ok (.iadd, 1) := by decide +kernel
theorem dX1_reach_37 : decode cX1_reach 37 = .ok (.putfield 18, 3) := by decide +kernel
theorem dX1_reach_40 : decode cX1_reach 40 = .ok (.aload_n 0, 1) := by decide +kernel
theorem dX1_reach_41 : decode cX1_reach 41 = .ok (.getfield 11, 3) := by decide +kernel
theorem dX1_reach_44 : decode cX1_reach 44 = .ok (.iload_n 1, 1) := by decide +kernel
theorem dX1_reach_45 : decode cX1_reach 45 = .ok (.iload_n 2, 1) := by decide +kernel
theorem dX1_reach_46 : decode cX1_reach 46 = .ok (.iastore, 1) := by decide +kernel
theorem dX1_reach_47 : decode cX1_reach 47 = .ok (.return_, 1) := by decide +kernel
theorem dX1_settleAll_0 : decode cX1_settleAll 0 = .ok (.iconst 0, 1) := by decide +kernel
theorem dX1_settleAll_1 : decode cX1_settleAll 1 = .ok (.istore_n 1, 1) := by decide +kernel
theorem dX1_settleAll_2 : decode cX1_settleAll 2 = .ok (.iload_n 1, 1) := by decide +kernel
theorem dX1_settleAll_3 : decode cX1_settleAll 3 = .ok (.bipush 72, 2) := by decide +kernel
theorem dX1_settleAll_5 : decode cX1_settleAll 5 = .ok (.if_icmp .ge 41, 3) := by decide +kernel
theorem dX1_settleAll_8 : decode cX1_settleAll 8 = .ok (.aload_n 0, 1) := by decide +kernel
theorem dX1_settleAll_9 : decode cX1_settleAll 9 = .ok (.getfield 18, 3) := by decide +kernel
theorem dX1_settleAll_12 : decode cX1_settleAll 12 = .ok (.ifCond .le 34, 3) := by decide +kernel
theorem dX1_settleAll_15 : decode cX1_settleAll 15 = .ok (.aload_n 0, 1) := by decide +kernel
theorem dX1_settleAll_16 : decode cX1_settleAll 16 = .ok (.invokevirtual 80, 3) := by decide +kernel
theorem dX1_settleAll_19 : decode cX1_settleAll 19 = .ok (.istore_n 2, 1) := by decide +kernel
theorem dX1_settleAll_20 : decode cX1_settleAll 20 = .ok (.iconst 0, 1) := by decide +kernel
theorem dX1_settleAll_21 : decode cX1_settleAll 21 = .ok (.istore_n 3, 1) := by decide +kernel
theorem dX1_settleAll_22 : decode cX1_settleAll 22 = .ok (.iload_n 3, 1) := by decide +kernel
theorem dX1_settleAll_23 : decode cX1_settleAll 23 = .ok (.bipush 8, 2) := by decide +kernel
theorem dX1_settleAll_25 : decode cX1_settleAll 25 = .ok (.if_icmp .ge 15, 3) := by decide +kernel
theorem dX1_settleAll_28 : decode cX1_settleAll 28 = .ok (.aload_n 0, 1) := by decide +kernel
theorem dX1_settleAll_29 : decode cX1_settleAll 29 = .ok (.iload_n 2, 1) := by decide +kernel
theorem dX1_settleAll_30 : decode cX1_settleAll 30 = .ok (.iload_n 3, 1) := by decide +kernel
theorem dX1_settleAll_31 : decode cX1_settleAll 31 = .ok (.invokevirtual 83, 3) := by decide +kernel
theorem dX1_settleAll_34 : decode cX1_settleAll 34 = .ok (.iinc 3 1, 3) := by decide +kernel
theorem dX1_settleAll_37 : decode cX1_settleAll 37 = .ok (.goto (-15), 3) := by decide +kernel
theorem dX1_settleAll_40 : decode cX1_settleAll 40 = .ok (.iinc 1 1, 3) := by decide +kernel
theorem dX1_settleAll_43 : decode cX1_settleAll 43 = .ok (.goto (-41), 3) := by decide +kernel
theorem dX1_settleAll_46 : decode cX1_settleAll 46 = .ok (.return_, 1) := by decide +kernel
theorem dX1_takeNearest_0 : decode cX1_takeNearest 0 = .ok (.iconst 0, 1) := by decide +kernel
theorem dX1_takeNearest_1 : decode cX1_takeNearest 1 = .ok (.istore_n 1, 1) := by decide +kernel
theorem dX1_takeNearest_2 : decode cX1_takeNearest 2 = .ok (.iconst 1, 1) := by decide +kernel
theorem dX1_takeNearest_3 : decode cX1_takeNearest 3 = .ok (.istore_n 2, 1) := by decide +kernel
theorem dX1_takeNearest_4 : decode cX1_takeNearest 4 = .ok (.iload_n 2, 1) := by decide +kernel
theorem dX1_takeNearest_5 : decode cX1_takeNearest 5 = .ok (.aload_n 0, 1) := by decide +kernel
theorem dX1_takeNearest_6 : decode cX1_takeNearest 6 = .ok (.getfield 18, 3) := by decide +kernel
theorem dX1_takeNearest_9 : decode cX1_takeNearest 9 = .ok (.if_icmp .ge 36, 3) := by decide +kernel
theorem dX1_takeNearest_12 : decode cX1_takeNearest 12 = .ok (.aload_n 0, 1) := by decide +kernel
theorem dX1_takeNearest_13 : decode cX1_takeNearest 13 = .ok (.getfield 11, 3) := by decide +kernel
theorem dX1_takeNearest_16 : decode cX1_takeNearest 16 = .ok (.aload_n 0, 1) := by decide +kernel
theorem dX1_takeNearest_17 : decode cX1_takeNearest 17 = .ok (.getfield 15, 3) := by decide +kernel
theorem dX1_takeNearest_20 : decode cX1_takeNearest 20 = .ok (.iload_n 2, 1) := by decide +kernel
theorem dX1_takeNearest_21 : decode cX1_takeNearest 21 = .ok (.iaload, 1) := by decide +kernel
theorem dX1_takeNearest_22 : decode cX1_takeNearest 22 = .ok (.iaload, 1) := by decide +kernel
theorem dX1_takeNearest_23 : decode cX1_takeNearest 23 = .ok (.aload_n 0, 1) := by decide +kernel
theorem dX1_takeNearest_24 : decode cX1_takeNearest 24 = .ok (.getfield 11, 3) := by decide +kernel
theorem dX1_takeNearest_27 : decode cX1_takeNearest 27 = .ok (.aload_n 0, 1) := by decide +kernel
theorem dX1_takeNearest_28 : decode cX1_takeNearest 28 = .ok (.getfield 15, 3) := by decide +kernel
theorem dX1_takeNearest_31 : decode cX1_takeNearest 31 = .ok (.iload_n 1, 1) := by decide +kernel
theorem dX1_takeNearest_32 : decode cX1_takeNearest 32 = .ok (.iaload, 1) := by decide +kernel
theorem dX1_takeNearest_33 : decode cX1_takeNearest 33 = .ok (.iaload, 1) := by decide +kernel
theorem dX1_takeNearest_34 : decode cX1_takeNearest 34 = .ok (.if_icmp .ge 5, 3) := by decide +kernel
theorem dX1_takeNearest_37 : decode cX1_takeNearest 37 = .ok (.iload_n 2, 1) := by decide +kernel
theorem dX1_takeNearest_38 : decode cX1_takeNearest 38 = .ok (.istore_n 1, 1) := by decide +kernel
theorem dX1_takeNearest_39 : decode cX1_takeNearest 39 = .ok (.iinc 2 1, 3) := by decide +kernel
theorem dX1_takeNearest_42 : decode cX1_takeNearest 42 = .ok (.goto (-38), 3) := by decide +kernel
theorem dX1_takeNearest_45 : decode cX1_takeNearest 45 = .ok (.aload_n 0, 1) := by decide +kernel
theorem dX1_takeNearest_46 : decode cX1_takeNearest 46 = .ok (.getfield 15, 3) := by decide +kernel
theorem dX1_takeNearest_49 : decode cX1_takeNearest 49 = .ok (.iload_n 1, 1) := by decide +kernel
theorem dX1_takeNearest_50 : decode cX1_takeNearest 50 = .ok (.iaload, 1) := by decide +kernel
theorem dX1_takeNearest_51 : decode cX1_takeNearest 51 = .ok (.istore_n 2, 1) := by decide +kernel
theorem dX1_takeNearest_52 : decode cX1_takeNearest 52 = .ok (.aload_n 0, 1) := by decide +kernel
theorem dX1_takeNearest_53 : decode cX1_takeNearest 53 = .ok (.dup, 1) := by decide +kernel
theorem dX1_takeNearest_54 : decode cX1_takeNearest 54 = .ok (.getfield 18, 3) := by decide +kernel
theorem dX1_takeNearest_57 : decode cX1_takeNearest 57 = .ok (.iconst 1, 1) := by decide +kernel
theorem dX1_takeNearest_58 : decode cX1_takeNearest 58 = .ok (.isub, 1) := by decide +kernel
theorem dX1_takeNearest_59 : decode cX1_takeNearest 59 = .ok (.putfield 18, 3) := by decide +kernel
theorem dX1_takeNearest_62 : decode cX1_takeNearest 62 = .ok (.aload_n 0, 1) := by decide +kernel
theorem dX1_takeNearest_63 : decode cX1_takeNearest 63 = .ok (.getfield 15, 3) := by decide +kernel
theorem dX1_takeNearest_66 : decode cX1_takeNearest 66 = .ok (.iload_n 1, 1) := by decide +kernel
theorem dX1_takeNearest_67 : decode cX1_takeNearest 67 = .ok (.aload_n 0, 1) := by decide +kernel
theorem dX1_takeNearest_68 : decode cX1_takeNearest 68 = .ok (.getfield 15, 3) := by decide +kernel
theorem dX1_takeNearest_71 : decode cX1_takeNearest 71 = .ok (.aload_n 0, 1) := by decide +kernel
theorem dX1_takeNearest_72 : decode cX1_takeNearest 72 = .ok (.getfield 18, 3) := by decide +kernel
theorem dX1_takeNearest_75 : decode cX1_takeNearest 75 = .ok (.iaload, 1) := by decide +kernel
theorem dX1_takeNearest_76 : decode cX1_takeNearest 76 = .ok (.iastore, 1) := by decide +kernel
theorem dX1_takeNearest_77 : decode cX1_takeNearest 77 = .ok (.iload_n 2, 1) := by decide +kernel
theorem dX1_takeNearest_78 : decode cX1_takeNearest 78 = .ok (.ireturn, 1) := by decide +kernel
theorem dX1_sailOn_0 : decode cX1_sailOn 0 = .ok (.iload_n 1, 1) := by decide +kernel
theorem dX1_sailOn_1 : decode cX1_sailOn 1 = .ok (.iconst 2, 1) := by decide +kernel
theorem dX1_sailOn_2 : decode cX1_sailOn 2 = .ok (.idiv, 1) := by decide +kernel
theorem dX1_sailOn_3 : decode cX1_sailOn 3 = .ok (.istore_n 3, 1) := by decide +kernel
theorem dX1_sailOn_4 : decode cX1_sailOn 4 = .ok (.iload_n 1, 1) := by decide +kernel
theorem dX1_sailOn_5 : decode cX1_sailOn 5 = .ok (.iconst 2, 1) := by decide +kernel
theorem dX1_sailOn_6 : decode cX1_sailOn 6 = .ok (.irem, 1) := by decide +kernel
theorem dX1_sailOn_7 : decode cX1_sailOn 7 = .ok (.istore 4, 2) := by decide +kernel
theorem dX1_sailOn_9 : decode cX1_sailOn 9 = .ok (.aload_n 0, 1) := by decide +kernel
theorem dX1_sailOn_10 : decode cX1_sailOn 10 = .ok (.getfield 43, 3) := by decide +kernel
theorem dX1_sailOn_13 : decode cX1_sailOn 13 = .ok (.iload_n 3, 1) := by decide +kernel
theorem dX1_sailOn_14 : decode cX1_sailOn 14 = .ok (.iload_n 2, 1) := by decide +kernel
theorem dX1_sailOn_15 : decode cX1_sailOn 15 = .ok (.invokevirtual 86, 3) := by decide +kernel
theorem dX1_sailOn_18 : decode cX1_sailOn 18 = .ok (.istore 5, 2) := by decide +kernel
theorem dX1_sailOn_20 : decode cX1_sailOn 20 = .ok (.iload 5, 2) := by decide +kernel
theorem dX1_sailOn_22 : decode cX1_sailOn 22 = .ok (.iconst (-1), 1) := by decide +kernel
theorem dX1_sailOn_23 : decode cX1_sailOn 23 = .ok (.if_icmp .ne 4, 3) := by decide +kernel
theorem dX1_sailOn_26 : decode cX1_sailOn 26 = .ok (.return_, 1) := by decide +kernel
theorem dX1_sailOn_27 : decode cX1_sailOn 27 = .ok (.iconst 0, 1) := by decide +kernel
theorem dX1_sailOn_28 : decode cX1_sailOn 28 = .ok (.istore 6, 2) := by decide +kernel
theorem dX1_sailOn_30 : decode cX1_sailOn 30 = .ok (.iload 6, 2) := by decide +kernel
theorem dX1_sailOn_32 : decode cX1_sailOn 32 = .ok (.iconst 4, 1) := by decide +kernel
theorem dX1_sailOn_33 : decode cX1_sailOn 33 = .ok (.if_icmp .ge 115, 3) := by decide +kernel
theorem dX1_sailOn_36 : decode cX1_sailOn 36 = .ok (.aload_n 0, 1) := by decide +kernel
theorem dX1_sailOn_37 : decode cX1_sailOn 37 = .ok (.getfield 11, 3) := by decide +kernel
theorem dX1_sailOn_40 : decode cX1_sailOn 40 = .ok (.iload_n 1, 1) := by decide +kernel
theorem dX1_sailOn_41 : decode cX1_sailOn 41 = .ok (.iaload, 1) := by decide +kernel
theorem dX1_sailOn_42 : decode cX1_sailOn 42 = .ok (.iload 6, 2) := by decide +kernel
theorem dX1_sailOn_44 : decode cX1_sailOn 44 = .ok (.invokestatic 92, 3) := by decide +kernel
theorem dX1_sailOn_47 : decode cX1_sailOn 47 = .ok (.istore 7, 2) := by decide +kernel
theorem dX1_sailOn_49 : decode cX1_sailOn 49 = .ok (.iload 7, 2) := by decide +kernel
theorem dX1_sailOn_51 : decode cX1_sailOn 51 = .ok (.aload_n 0, 1) := by decide +kernel
theorem dX1_sailOn_52 : decode cX1_sailOn 52 = .ok (.getfield 11, 3) := by decide +kernel
theorem dX1_sailOn_55 : decode cX1_sailOn 55 = .ok (.iconst 2, 1) := by decide +kernel
theorem dX1_sailOn_56 : decode cX1_sailOn 56 = .ok (.iload 5, 2) := by decide +kernel
theorem dX1_sailOn_58 : decode cX1_sailOn 58 = .ok (.imul, 1) := by decide +kernel
theorem dX1_sailOn_59 : decode cX1_sailOn 59 = .ok (.iaload, 1) := by decide +kernel
theorem dX1_sailOn_60 : decode cX1_sailOn 60 = .ok (.if_icmp .lt 20, 3) := by decide +kernel
theorem dX1_sailOn_63 : decode cX1_sailOn 63 = .ok (.iload 7, 2) := by decide +kernel
theorem dX1_sailOn_65 : decode cX1_sailOn 65 = .ok (.aload_n 0, 1) := by decide +kernel
theorem dX1_sailOn_66 : decode cX1_sailOn 66 = .ok (.getfield 11, 3) := by decide +kernel
theorem dX1_sailOn_69 : decode cX1_sailOn 69 = .ok (.iconst 2, 1) := by decide +kernel
theorem dX1_sailOn_70 : decode cX1_sailOn 70 = .ok (.iload 5, 2) := by decide +kernel
theorem dX1_sailOn_72 : decode cX1_sailOn 72 = .ok (.imul, 1) := by decide +kernel
theorem dX1_sailOn_73 : decode cX1_sailOn 73 = .ok (.iconst 1, 1) := by decide +kernel
theorem dX1_sailOn_74 : decode cX1_sailOn 74 = .ok (.iadd, 1) := by decide +kernel
theorem dX1_sailOn_75 : decode cX1_sailOn 75 = .ok (.iaload, 1) := by decide +kernel
theorem dX1_sailOn_76 : decode cX1_sailOn 76 = .ok (.if_icmp .lt 4, 3) := by decide +kernel
theorem dX1_sailOn_79 : decode cX1_sailOn 79 = .ok (.return_, 1) := by decide +kernel
theorem dX1_sailOn_80 : decode cX1_sailOn 80 = .ok (.iload_n 3, 1) := by decide +kernel
theorem dX1_sailOn_81 : decode cX1_sailOn 81 = .ok (.iload_n 2, 1) := by decide +kernel
theorem dX1_sailOn_82 : decode cX1_sailOn 82 = .ok (.iload 7, 2) := by decide +kernel
theorem dX1_sailOn_84 : decode cX1_sailOn 84 = .ok (.invokestatic 95, 3) := by decide +kernel
theorem dX1_sailOn_87 : decode cX1_sailOn 87 = .ok (.istore 8, 2) := by decide +kernel
theorem dX1_sailOn_89 : decode cX1_sailOn 89 = .ok (.iconst 2, 1) := by decide +kernel
theorem dX1_sailOn_90 : decode cX1_sailOn 90 = .ok (.iload 5, 2) := by decide +kernel
theorem dX1_sailOn_92 : decode cX1_sailOn 92 = .ok (.imul, 1) := by decide +kernel
theorem dX1_sailOn_93 : decode cX1_sailOn 93 = .ok (.aload_n 0, 1) := by decide +kernel
theorem dX1_sailOn_94 : decode cX1_sailOn 94 = .ok (.getfield 43, 3) := by decide +kernel
theorem dX1_sailOn_97 : decode cX1_sailOn 97 = .ok (.iload 8, 2) := by decide +kernel
theorem dX1_sailOn_99 : decode cX1_sailOn 99 = .ok (.iload 4, 2) := by decide +kernel
theorem dX1_sailOn_101 : decode cX1_sailOn 101 = .ok (.invokevirtual 99, 3) := by decide +kernel
theorem dX1_sailOn_104 : decode cX1_sailOn 104 = .ok (.iadd, 1) := by decide +kernel
theorem dX1_sailOn_105 : decode cX1_sailOn 105 = .ok (.istore 9, 2) := by decide +kernel
theorem dX1_sailOn_107 : decode cX1_sailOn 107 = .ok (.aload_n 0, 1) := by decide +kernel
theorem dX1_sailOn_108 : decode cX1_sailOn 108 = .ok (.getfield 43, 3) := by decide +kernel
theorem dX1_sailOn_111 : decode cX1_sailOn 111 = .ok (.iload 8, 2) := by decide +kernel
theorem dX1_sailOn_113 : decode cX1_sailOn 113 = .ok (.iload 4, 2) := by decide +kernel
theorem dX1_sailOn_115 : decode cX1_sailOn 115 = .ok (.iload 7, 2) := by decide +kernel
theorem dX1_sailOn_117 : decode cX1_sailOn 117 = .ok (.invokevirtual 102, 3) := by decide +kernel
theorem dX1_sailOn_120 : decode cX1_sailOn 120 = .ok (.istore 10, 2) := by decide +kernel
theorem dX1_sailOn_122 : decode cX1_sailOn 122 = .ok (.iload 10, 2) := by decide +kernel
theorem dX1_sailOn_124 : decode cX1_sailOn 124 = .ok (.aload_n 0, 1) := by decide +kernel
theorem dX1_sailOn_125 : decode cX1_sailOn 125 = .ok (.getfield 11, 3) := by decide +kernel
theorem dX1_sailOn_128 : decode cX1_sailOn 128 = .ok (.iload 9, 2) := by decide +kernel
theorem dX1_sailOn_130 : decode cX1_sailOn 130 = .ok (.iaload, 1) := by decide +kernel
theorem dX1_sailOn_131 : decode cX1_sailOn 131 = .ok (.if_icmp .ge 11, 3) := by decide +kernel
theorem dX1_sailOn_134 : decode cX1_sailOn 134 = .ok (.aload_n 0, 1) := by decide +kernel
theorem dX1_sailOn_135 : decode cX1_sailOn 135 = .ok (.iload 9, 2) := by decide +kernel
theorem dX1_sailOn_137 : decode cX1_sailOn 137 = .ok (.iload 10, 2) := by decide +kernel
theorem dX1_sailOn_139 : decode cX1_sailOn 139 = .ok (.invokevirtual 67, 3) := by decide +kernel
theorem dX1_sailOn_142 : decode cX1_sailOn 142 = .ok (.iinc 6 1, 3) := by decide +kernel
theorem dX1_sailOn_145 : decode cX1_sailOn 145 = .ok (.goto (-115), 3) := by decide +kernel
theorem dX1_sailOn_148 : decode cX1_sailOn 148 = .ok (.return_, 1) := by decide +kernel
theorem dX1_leastWith_0 : decode cX1_leastWith 0 = .ok (.aload_n 0, 1) := by decide +kernel
theorem dX1_leastWith_1 : decode cX1_leastWith 1 = .ok (.getfield 11, 3) := by decide +kernel
theorem dX1_leastWith_4 : decode cX1_leastWith 4 = .ok (.iconst 2, 1) := by decide +kernel
theorem dX1_leastWith_5 : decode cX1_leastWith 5 = .ok (.iload_n 1, 1) := by decide +kernel
theorem dX1_leastWith_6 : decode cX1_leastWith 6 = .ok (.imul, 1) := by decide +kernel
theorem dX1_leastWith_7 : decode cX1_leastWith 7 = .ok (.iload_n 2, 1) := by decide +kernel
theorem dX1_leastWith_8 : decode cX1_leastWith 8 = .ok (.iadd, 1) := by decide +kernel
theorem dX1_leastWith_9 : decode cX1_leastWith 9 = .ok (.iaload, 1) := by decide +kernel
theorem dX1_leastWith_10 : decode cX1_leastWith 10 = .ok (.ireturn, 1) := by decide +kernel
theorem dX1_leastOf_0 : decode cX1_leastOf 0 = .ok (.aload_n 0, 1) := by decide +kernel
theorem dX1_leastOf_1 : decode cX1_leastOf 1 = .ok (.getfield 11, 3) := by decide +kernel
theorem dX1_leastOf_4 : decode cX1_leastOf 4 = .ok (.iconst 2, 1) := by decide +kernel
theorem dX1_leastOf_5 : decode cX1_leastOf 5 = .ok (.iload_n 1, 1) := by decide +kernel
theorem dX1_leastOf_6 : decode cX1_leastOf 6 = .ok (.imul, 1) := by decide +kernel
theorem dX1_leastOf_7 : decode cX1_leastOf 7 = .ok (.iaload, 1) := by decide +kernel
theorem dX1_leastOf_8 : decode cX1_leastOf 8 = .ok (.aload_n 0, 1) := by decide +kernel
theorem dX1_leastOf_9 : decode cX1_leastOf 9 = .ok (.getfield 11, 3) := by decide +kernel
theorem dX1_leastOf_12 : decode cX1_leastOf 12 = .ok (.iconst 2, 1) := by decide +kernel
theorem dX1_leastOf_13 : decode cX1_leastOf 13 = .ok (.iload_n 1, 1) := by decide +kernel
theorem dX1_leastOf_14 : decode cX1_leastOf 14 = .ok (.imul, 1) := by decide +kernel
theorem dX1_leastOf_15 : decode cX1_leastOf 15 = .ok (.iconst 1, 1) := by decide +kernel
theorem dX1_leastOf_16 : decode cX1_leastOf 16 = .ok (.iadd, 1) := by decide +kernel
theorem dX1_leastOf_17 : decode cX1_leastOf 17 = .ok (.iaload, 1) := by decide +kernel
theorem dX1_leastOf_18 : decode cX1_leastOf 18 = .ok (.invokestatic 105, 3) := by decide +kernel
theorem dX1_leastOf_21 : decode cX1_leastOf 21 = .ok (.ireturn, 1) := by decide +kernel
theorem dX1_squaresReached_0 : decode cX1_squaresReached 0 = .ok (.iconst 0, 1) := by decide +kernel
theorem dX1_squaresReached_1 : decode cX1_squaresReached 1 = .ok (.istore_n 1, 1) := by decide +kernel
theorem dX1_squaresReached_2 : decode cX1_squaresReached 2 = .ok (.iconst 0, 1) := by decide +kernel
theorem dX1_squaresReached_3 : decode cX1_squaresReached 3 = .ok (.istore_n 2, 1) := by decide +kernel
theorem dX1_squaresReached_4 : decode cX1_squaresReached 4 = .ok (.iload_n 2, 1) := by decide +kernel
theorem dX1_squaresReached_5 : decode cX1_squaresReached 5 = .ok (.bipush 36, 2) := by decide +kernel
theorem dX1_squaresReached_7 : decode cX1_squaresReached 7 = .ok (.if_icmp .ge 22, 3) := by decide +kernel
theorem dX1_squaresReached_10 : decode cX1_squaresReached 10 = .ok (.aload_n 0, 1) := by decide +kernel
theorem dX1_squaresReached_11 : decode cX1_squaresReached 11 = .ok (.iload_n 2, 1) := by decide +kernel
theorem dX1_squaresReached_12 : decode cX1_squaresReached 12 = .ok (.invokevirtual 110, 3) := by decide +kernel
theorem dX1_squaresReached_15 : decode cX1_squaresReached 15 = .ok (.ldc 53, 2) := by decide +kernel
theorem dX1_squaresReached_17 : decode cX1_squaresReached 17 = .ok (.if_icmp .eq 6, 3) := by decide +kernel
theorem dX1_squaresReached_20 : decode cX1_squaresReached 20 = .ok (.iinc 1 1, 3) := by decide +kernel
theorem dX1_squaresReached_23 : decode cX1_squaresReached 23 = .ok (.iinc 2 1, 3) := by decide +kernel
theorem dX1_squaresReached_26 : decode cX1_squaresReached 26 = .ok (.goto (-22), 3) := by decide +kernel
theorem dX1_squaresReached_29 : decode cX1_squaresReached 29 = .ok (.iload_n 1, 1) := by decide +kernel
theorem dX1_squaresReached_30 : decode cX1_squaresReached 30 = .ok (.ireturn, 1) := by decide +kernel
theorem dX1_leastTogether_0 : decode cX1_leastTogether 0 = .ok (.iconst 0, 1) := by decide +kernel
theorem dX1_leastTogether_1 : decode cX1_leastTogether 1 = .ok (.istore_n 1, 1) := by decide +kernel
theorem dX1_leastTogether_2 : decode cX1_leastTogether 2 = .ok (.iconst 0, 1) := by decide +kernel
theorem dX1_leastTogether_3 : decode cX1_leastTogether 3 = .ok (.istore_n 2, 1) := by decide +kernel
theorem dX1_leastTogether_4 : decode cX1_leastTogether 4 = .ok (.iload_n 2, 1) := by decide +kernel
theorem dX1_leastTogether_5 : decode cX1_leastTogether 5 = .ok (.bipush 36, 2) := by decide +kernel
theorem dX1_leastTogether_7 : decode cX1_leastTogether 7 = .ok (.if_icmp .ge 27, 3) := by decide +kernel
theorem dX1_leastTogether_10 : decode cX1_leastTogether 10 = .ok (.aload_n 0, 1) := by decide +kernel
theorem dX1_leastTogether_11 : decode cX1_leastTogether 11 = .ok (.iload_n 2, 1) := by decide +kernel
theorem dX1_leastTogether_12 : decode cX1_leastTogether 12 = .ok (.invokevirtual 110, 3) := by decide +kernel
theorem dX1_leastTogether_15 : decode cX1_leastTogether 15 = .ok (.ldc 53, 2) := by decide +kernel
theorem dX1_leastTogether_17 : decode cX1_leastTogether 17 = .ok (.if_icmp .eq 11, 3) := by decide +kernel
theorem dX1_leastTogether_20 : decode cX1_leastTogether 20 = .ok (.iload_n 1, 1) := by decide +kernel
theorem dX1_leastTogether_21 : decode cX1_leastTogether 21 = .ok (.aload_n 0, 1) := by decide +kernel
theorem dX1_leastTogether_22 : decode cX1_leastTogether 22 = .ok (.iload_n 2, 1) := by decide +kernel
theorem dX1_leastTogether_23 : decode cX1_leastTogether 23 = .ok (.invokevirtual 110, 3) := by decide +kernel
theorem dX1_leastTogether_26 : decode cX1_leastTogether 26 = .ok (.iadd, 1) := by decide +kernel
theorem dX1_leastTogether_27 : decode cX1_leastTogether 27 = .ok (.istore_n 1, 1) := by decide +kernel
theorem dX1_leastTogether_28 : decode cX1_leastTogether 28 = .ok (.iinc 2 1, 3) := by decide +kernel
theorem dX1_leastTogether_31 : decode cX1_leastTogether 31 = .ok (.goto (-27), 3) := by decide +kernel
theorem dX1_leastTogether_34 : decode cX1_leastTogether 34 = .ok (.iload_n 1, 1) := by decide +kernel
theorem dX1_leastTogether_35 : decode cX1_leastTogether 35 = .ok (.ireturn, 1) := by decide +kernel
theorem dX1_farthestSquare_0 : decode cX1_farthestSquare 0 = .ok (.aload_n 0, 1) := by decide +kernel
theorem dX1_farthestSquare_1 : decode cX1_farthestSquare 1 = .ok (.getfield 34, 3) := by decide +kernel
theorem dX1_farthestSquare_4 : decode cX1_farthestSquare 4 = .ok (.getfield 74, 3) := by decide +kernel
theorem dX1_farthestSquare_7 : decode cX1_farthestSquare 7 = .ok (.istore_n 1, 1) := by decide +kernel
theorem dX1_farthestSquare_8 : decode cX1_farthestSquare 8 = .ok (.bipush 35, 2) := by decide +kernel
theorem dX1_farthestSquare_10 : decode cX1_farthestSquare 10 = .ok (.istore_n 2, 1) := by decide +kernel
theorem dX1_farthestSquare_11 : decode cX1_farthestSquare 11 = .ok (.iload_n 2, 1) := by decide +kernel
theorem dX1_farthestSquare_12 : decode cX1_farthestSquare 12 = .ok (.ifCond .lt 34, 3) := by decide +kernel
theorem dX1_farthestSquare_15 : decode cX1_farthestSquare 15 = .ok (.aload_n 0, 1) := by decide +kernel
theorem dX1_farthestSquare_16 : decode cX1_farthestSquare 16 = .ok (.iload_n 2, 1) := by decide +kernel
theorem dX1_farthestSquare_17 : decode cX1_farthestSquare 17 = .ok (.invokevirtual 110, 3) := by decide +kernel
theorem dX1_farthestSquare_20 : decode cX1_farthestSquare 20 = .ok (.ldc 53, 2) := by decide +kernel
theorem dX1_farthestSquare_22 : decode cX1_farthestSquare 22 = .ok (.if_icmp .eq 18, 3) := by decide +kernel
theorem dX1_farthestSquare_25 : decode cX1_farthestSquare 25 = .ok (.aload_n 0, 1) := by decide +kernel
theorem dX1_farthestSquare_26 : decode cX1_farthestSquare 26 = .ok (.iload_n 2, 1) := by decide +kernel
theorem dX1_farthestSquare_27 : decode cX1_farthestSquare 27 = .ok (.invokevirtual 110, 3) := by decide +kernel
theorem dX1_farthestSquare_30 : decode cX1_farthestSquare 30 = .ok (.aload_n 0, 1) := by decide +kernel
theorem dX1_farthestSquare_31 : decode cX1_farthestSquare 31 = .ok (.iload_n 1, 1) := by decide +kernel
theorem dX1_farthestSquare_32 : decode cX1_farthestSquare 32 = .ok (.invokevirtual 110, 3) := by decide +kernel
theorem dX1_farthestSquare_35 : decode cX1_farthestSquare 35 = .ok (.if_icmp .lt 5, 3) := by decide +kernel
theorem dX1_farthestSquare_38 : decode cX1_farthestSquare 38 = .ok (.iload_n 2, 1) := by decide +kernel
theorem dX1_farthestSquare_39 : decode cX1_farthestSquare 39 = .ok (.istore_n 1, 1) := by decide +kernel
theorem dX1_farthestSquare_40 : decode cX1_farthestSquare 40 = .ok (.iinc 2 (-1), 3) := by decide +kernel
theorem dX1_farthestSquare_43 : decode cX1_farthestSquare 43 = .ok (.goto (-32), 3) := by decide +kernel
theorem dX1_farthestSquare_46 : decode cX1_farthestSquare 46 = .ok (.iload_n 1, 1) := by decide +kernel
theorem dX1_farthestSquare_47 : decode cX1_farthestSquare 47 = .ok (.ireturn, 1) := by decide +kernel
theorem dX1_lastOf_0 : decode cX1_lastOf 0 = .ok (.iconst 2, 1) := by decide +kernel
theorem dX1_lastOf_1 : decode cX1_lastOf 1 = .ok (.iload_n 1, 1) := by decide +kernel
theorem dX1_lastOf_2 : decode cX1_lastOf 2 = .ok (.imul, 1) := by decide +kernel
theorem dX1_lastOf_3 : decode cX1_lastOf 3 = .ok (.iload_n 2, 1) := by decide +kernel
theorem dX1_lastOf_4 : decode cX1_lastOf 4 = .ok (.iadd, 1) := by decide +kernel
theorem dX1_lastOf_5 : decode cX1_lastOf 5 = .ok (.istore_n 3, 1) := by decide +kernel
theorem dX1_lastOf_6 : decode cX1_lastOf 6 = .ok (.aload_n 0, 1) := by decide +kernel
theorem dX1_lastOf_7 : decode cX1_lastOf 7 = .ok (.getfield 22, 3) := by decide +kernel
theorem dX1_lastOf_10 : decode cX1_lastOf 10 = .ok (.iload_n 3, 1) := by decide +kernel
theorem dX1_lastOf_11 : decode cX1_lastOf 11 = .ok (.iaload, 1) := by decide +kernel
theorem dX1_lastOf_12 : decode cX1_lastOf 12 = .ok (.iconst (-1), 1) := by decide +kernel
theorem dX1_lastOf_13 : decode cX1_lastOf 13 = .ok (.if_icmp .ne 51, 3) := by decide +kernel
theorem dX1_lastOf_16 : decode cX1_lastOf 16 = .ok (.aload_n 0, 1) := by decide +kernel
theorem dX1_lastOf_17 : decode cX1_lastOf 17 = .ok (.getfield 11, 3) := by decide +kernel
theorem dX1_lastOf_20 : decode cX1_lastOf 20 = .ok (.iload_n 3, 1) := by decide +kernel
theorem dX1_lastOf_21 : decode cX1_lastOf 21 = .ok (.iaload, 1) := by decide +kernel
theorem dX1_lastOf_22 : decode cX1_lastOf 22 = .ok (.ldc 53, 2) := by decide +kernel
theorem dX1_lastOf_24 : decode cX1_lastOf 24 = .ok (.if_icmp .eq 11, 3) := by decide +kernel
theorem dX1_lastOf_27 : decode cX1_lastOf 27 = .ok (.iload_n 3, 1) := by decide +kernel
theorem dX1_lastOf_28 : decode cX1_lastOf 28 = .ok (.aload_n 0, 1) := by decide +kernel
theorem dX1_lastOf_29 : decode cX1_lastOf 29 = .ok (.invokevirtual 60, 3) := by decide +kernel
theorem dX1_lastOf_32 : decode cX1_lastOf 32 = .ok (.if_icmp .ne 7, 3) := by decide +kernel
theorem dX1_lastOf_35 : decode cX1_lastOf 35 = .ok (.iconst 1, 1) := by decide +kernel
theorem dX1_lastOf_36 : decode cX1_lastOf 36 = .ok (.goto 4, 3) := by decide +kernel
theorem dX1_lastOf_39 : decode cX1_lastOf 39 = .ok (.iconst 0, 1) := by decide +kernel
theorem dX1_lastOf_40 : decode cX1_lastOf 40 = .ok (.istore 4, 2) := by decide +kernel
theorem dX1_lastOf_42 : decode cX1_lastOf 42 = .ok (.aload_n 0, 1) := by decide +kernel
theorem dX1_lastOf_43 : decode cX1_lastOf 43 = .ok (.getfield 22, 3) := by decide +kernel
theorem dX1_lastOf_46 : decode cX1_lastOf 46 = .ok (.iload_n 3, 1) := by decide +kernel
theorem dX1_lastOf_47 : decode cX1_lastOf 47 = .ok (.iload 4, 2) := by decide +kernel
theorem dX1_lastOf_49 : decode cX1_lastOf 49 = .ok (.ifCond .eq 8, 3) := by decide +kernel
theorem dX1_lastOf_52 : decode cX1_lastOf 52 = .ok (.bipush (-5), 2) := by decide +kernel
theorem dX1_lastOf_54 : decode cX1_lastOf 54 = .ok (.goto 9, 3) := by decide +kernel
theorem dX1_lastOf_57 : decode cX1_lastOf 57 = .ok (.aload_n 0, 1) := by decide +kernel
theorem dX1_lastOf_58 : decode cX1_lastOf 58 = .ok (.iload_n 1, 1) := by decide +kernel
theorem dX1_lastOf_59 : decode cX1_lastOf 59 = .ok (.iload_n 2, 1) := by decide +kernel
theorem dX1_lastOf_60 : decode cX1_lastOf 60 = .ok (.invokevirtual 114, 3) := by decide +kernel
theorem dX1_lastOf_63 : decode cX1_lastOf 63 = .ok (.iastore, 1) := by decide +kernel
theorem dX1_lastOf_64 : decode cX1_lastOf 64 = .ok (.aload_n 0, 1) := by decide +kernel
theorem dX1_lastOf_65 : decode cX1_lastOf 65 = .ok (.getfield 22, 3) := by decide +kernel
theorem dX1_lastOf_68 : decode cX1_lastOf 68 = .ok (.iload_n 3, 1) := by decide +kernel
theorem dX1_lastOf_69 : decode cX1_lastOf 69 = .ok (.iaload, 1) := by decide +kernel
theorem dX1_lastOf_70 : decode cX1_lastOf 70 = .ok (.ireturn, 1) := by decide +kernel
theorem dX1_seekLast_0 : decode cX1_seekLast 0 = .ok (.iconst 0, 1) := by decide +kernel
theorem dX1_seekLast_1 : decode cX1_seekLast 1 = .ok (.istore_n 3, 1) := by decide +kernel
theorem dX1_seekLast_2 : decode cX1_seekLast 2 = .ok (.iload_n 3, 1) := by decide +kernel
theorem dX1_seekLast_3 : decode cX1_seekLast 3 = .ok (.getstatic 117, 3) := by decide +kernel
theorem dX1_seekLast_6 : decode cX1_seekLast 6 = .ok (.arraylength, 1) := by decide +kernel
theorem dX1_seekLast_7 : decode cX1_seekLast 7 = .ok (.if_icmp .ge 89, 3) := by decide +kernel
theorem dX1_seekLast_10 : decode cX1_seekLast 10 = .ok (.getstatic 117, 3) := by decide +kernel
theorem dX1_seekLast_13 : decode cX1_seekLast 13 = .ok (.iload_n 3, 1) := by decide +kernel
theorem dX1_seekLast_14 : decode cX1_seekLast 14 = .ok (.iaload, 1) := by decide +kernel
theorem dX1_seekLast_15 : decode cX1_seekLast 15 = .ok (.istore 4, 2) := by decide +kernel
theorem dX1_seekLast_17 : decode cX1_seekLast 17 = .ok (.iload_n 1, 1) := by decide +kernel
theorem dX1_seekLast_18 : decode cX1_seekLast 18 = .ok (.iload 4, 2) := by decide +kernel
theorem dX1_seekLast_20 : decode cX1_seekLast 20 = .ok (.iconst 4, 1) := by decide +kernel
theorem dX1_seekLast_21 : decode cX1_seekLast 21 = .ok (.iadd, 1) := by decide +kernel
theorem dX1_seekLast_22 : decode cX1_seekLast 22 = .ok (.bipush 8, 2) := by decide +kernel
theorem dX1_seekLast_24 : decode cX1_seekLast 24 = .ok (.irem, 1) := by decide +kernel
theorem dX1_seekLast_25 : decode cX1_seekLast 25 = .ok (.invokestatic 120, 3) := by decide +kernel
theorem dX1_seekLast_28 : decode cX1_seekLast 28 = .ok (.istore 5, 2) := by decide +kernel
theorem dX1_seekLast_30 : decode cX1_seekLast 30 = .ok (.iload 5, 2) := by decide +kernel
theorem dX1_seekLast_32 : decode cX1_seekLast 32 = .ok (.iconst (-1), 1) := by decide +kernel
theorem dX1_seekLast_33 : decode cX1_seekLast 33 = .ok (.if_icmp .ne 6, 3) := by decide +kernel
theorem dX1_seekLast_36 : decode cX1_seekLast 36 = .ok (.goto 54, 3) := by decide +kernel
theorem dX1_seekLast_39 : decode cX1_seekLast 39 = .ok (.iconst 0, 1) := by decide +kernel
theorem dX1_seekLast_40 : decode cX1_seekLast 40 = .ok (.istore 6, 2) := by decide +kernel
theorem dX1_seekLast_42 : decode cX1_seekLast 42 = .ok (.iload 6, 2) := by decide +kernel
theorem dX1_seekLast_44 : decode cX1_seekLast 44 = .ok (.iconst 2, 1) := by decide +kernel
theorem dX1_seekLast_45 : decode cX1_seekLast 45 = .ok (.if_icmp .ge 45, 3) := by decide +kernel
theorem dX1_seekLast_48 : decode cX1_seekLast 48 = .ok (.aload_n 0, 1) := by decide +kernel
theorem dX1_seekLast_49 : decode cX1_seekLast 49 = .ok (.iconst 2, 1) := by decide +kernel
theorem dX1_seekLast_50 : decode cX1_seekLast 50 = .ok (.iload 5, 2) := by decide +kernel
theorem dX1_seekLast_52 : decode cX1_seekLast 52 = .ok (.imul, 1) := by decide +kernel
theorem dX1_seekLast_53 : decode cX1_seekLast 53 = .ok (.iload 6, 2) := by decide +kernel
theorem dX1_seekLast_55 : decode cX1_seekLast 55 = .ok (.iadd, 1) := by decide +kernel
theorem dX1_seekLast_56 : decode cX1_seekLast 56 = .ok (.iload 4, 2) := by decide +kernel
theorem dX1_seekLast_58 : decode cX1_seekLast 58 = .ok (.iconst 2, 1) := by decide +kernel
theorem dX1_seekLast_59 : decode cX1_seekLast 59 = .ok (.iload_n 1, 1) := by decide +kernel
theorem dX1_seekLast_60 : decode cX1_seekLast 60 = .ok (.imul, 1) := by decide +kernel
theorem dX1_seekLast_61 : decode cX1_seekLast 61 = .ok (.iload_n 2, 1) := by decide +kernel
theorem dX1_seekLast_62 : decode cX1_seekLast 62 = .ok (.iadd, 1) := by decide +kernel
theorem dX1_seekLast_63 : decode cX1_seekLast 63 = .ok (.invokevirtual 123, 3) := by decide +kernel
theorem dX1_seekLast_66 : decode cX1_seekLast 66 = .ok (.ifCond .eq 18, 3) := by decide +kernel
theorem dX1_seekLast_69 : decode cX1_seekLast 69 = .ok (.bipush 100, 2) := by decide +kernel
theorem dX1_seekLast_71 : decode cX1_seekLast 71 = .ok (.iload 5, 2) := by decide +kernel
theorem dX1_seekLast_73 : decode cX1_seekLast 73 = .ok (.imul, 1) := by decide +kernel
theorem dX1_seekLast_74 : decode cX1_seekLast 74 = .ok (.bipush 10, 2) := by decide +kernel
theorem dX1_seekLast_76 : decode cX1_seekLast 76 = .ok (.iload 6, 2) := by decide +kernel
theorem dX1_seekLast_78 : decode cX1_seekLast 78 = .ok (.imul, 1) := by decide +kernel
theorem dX1_seekLast_79 : decode cX1_seekLast 79 = .ok (.iadd, 1) := by decide +kernel
theorem dX1_seekLast_80 : decode cX1_seekLast 80 = .ok (.iload 4, 2) := by decide +kernel
theorem dX1_seekLast_82 : decode cX1_seekLast 82 = .ok (.iadd, 1) := by decide +kernel
theorem dX1_seekLast_83 : decode cX1_seekLast 83 = .ok (.ireturn, 1) := by decide +kernel
theorem dX1_seekLast_84 : decode cX1_seekLast 84 = .ok (.iinc 6 1, 3) := by decide +kernel
theorem dX1_seekLast_87 : decode cX1_seekLast 87 = .ok (.goto (-45), 3) := by decide +kernel
theorem dX1_seekLast_90 : decode cX1_seekLast 90 = .ok (.iinc 3 1, 3) := by decide +kernel
theorem dX1_seekLast_93 : decode cX1_seekLast 93 = .ok (.goto (-91), 3) := by decide +kernel
theorem dX1_seekLast_96 : decode cX1_seekLast 96 = .ok (.bipush (-5), 2) := by decide +kernel
theorem dX1_seekLast_98 : decode cX1_seekLast 98 = .ok (.ireturn, 1) := by decide +kernel
theorem dX1_endsAtLeast_0 : decode cX1_endsAtLeast 0 = .ok (.aload_n 0, 1) := by decide +kernel
theorem dX1_endsAtLeast_1 : decode cX1_endsAtLeast 1 = .ok (.getfield 11, 3) := by decide +kernel
theorem dX1_endsAtLeast_4 : decode cX1_endsAtLeast 4 = .ok (.iload_n 1, 1) := by decide +kernel
theorem dX1_endsAtLeast_5 : decode cX1_endsAtLeast 5 = .ok (.iaload, 1) := by decide +kernel
theorem dX1_endsAtLeast_6 : decode cX1_endsAtLeast 6 = .ok (.aload_n 0, 1) := by decide +kernel
theorem dX1_endsAtLeast_7 : decode cX1_endsAtLeast 7 = .ok (.getfield 11, 3) := by decide +kernel
theorem dX1_endsAtLeast_10 : decode cX1_endsAtLeast 10 = .ok (.iload_n 3, 1) := by decide +kernel
theorem dX1_endsAtLeast_11 : decode cX1_endsAtLeast 11 = .ok (.iaload, 1) := by decide +kernel
theorem dX1_endsAtLeast_12 : decode cX1_endsAtLeast 12 = .ok (.if_icmp .lt 5, 3) := by decide +kernel
theorem dX1_endsAtLeast_15 : decode cX1_endsAtLeast 15 = .ok (.iconst 0, 1) := by decide +kernel
theorem dX1_endsAtLeast_16 : decode cX1_endsAtLeast 16 = .ok (.ireturn, 1) := by decide +kernel
theorem dX1_endsAtLeast_17 : decode cX1_endsAtLeast 17 = .ok (.iconst 0, 1) := by decide +kernel
theorem dX1_endsAtLeast_18 : decode cX1_endsAtLeast 18 = .ok (.istore 4, 2) := by decide +kernel
theorem dX1_endsAtLeast_20 : decode cX1_endsAtLeast 20 = .ok (.iload 4, 2) := by decide +kernel
theorem dX1_endsAtLeast_22 : decode cX1_endsAtLeast 22 = .ok (.iconst 4, 1) := by decide +kernel
theorem dX1_endsAtLeast_23 : decode cX1_endsAtLeast 23 = .ok (.if_icmp .ge 88, 3) := by decide +kernel
theorem dX1_endsAtLeast_26 : decode cX1_endsAtLeast 26 = .ok (.aload_n 0, 1) := by decide +kernel
theorem dX1_endsAtLeast_27 : decode cX1_endsAtLeast 27 = .ok (.getfield 11, 3) := by decide +kernel
theorem dX1_endsAtLeast_30 : decode cX1_endsAtLeast 30 = .ok (.iload_n 1, 1) := by decide +kernel
theorem dX1_endsAtLeast_31 : decode cX1_endsAtLeast 31 = .ok (.iaload, 1) := by decide +kernel
theorem dX1_endsAtLeast_32 : decode cX1_endsAtLeast 32 = .ok (.iload 4, 2) := by decide +kernel
theorem dX1_endsAtLeast_34 : decode cX1_endsAtLeast 34 = .ok (.invokestatic 92, 3) := by decide +kernel
theorem dX1_endsAtLeast_37 : decode cX1_endsAtLeast 37 = .ok (.istore 5, 2) := by decide +kernel
theorem dX1_endsAtLeast_39 : decode cX1_endsAtLeast 39 = .ok (.iload_n 1, 1) := by decide +kernel
theorem dX1_endsAtLeast_40 : decode cX1_endsAtLeast 40 = .ok (.iconst 2, 1) := by decide +kernel
theorem dX1_endsAtLeast_41 : decode cX1_endsAtLeast 41 = .ok (.idiv, 1) := by decide +kernel
theorem dX1_endsAtLeast_42 : decode cX1_endsAtLeast 42 = .ok (.iload_n 2, 1) := by decide +kernel
theorem dX1_endsAtLeast_43 : decode cX1_endsAtLeast 43 = .ok (.iload 5, 2) := by decide +kernel
theorem dX1_endsAtLeast_45 : decode cX1_endsAtLeast 45 = .ok (.invokestatic 95, 3) := by decide +kernel
theorem dX1_endsAtLeast_48 : decode cX1_endsAtLeast 48 = .ok (.istore 6, 2) := by decide +kernel
theorem dX1_endsAtLeast_50 : decode cX1_endsAtLeast 50 = .ok (.aload_n 0, 1) := by decide +kernel
theorem dX1_endsAtLeast_51 : decode cX1_endsAtLeast 51 = .ok (.getfield 43, 3) := by decide +kernel
theorem dX1_endsAtLeast_54 : decode cX1_endsAtLeast 54 = .ok (.iload 6, 2) := by decide +kernel
theorem dX1_endsAtLeast_56 : decode cX1_endsAtLeast 56 = .ok (.iload_n 1, 1) := by decide +kernel
theorem dX1_endsAtLeast_57 : decode cX1_endsAtLeast 57 = .ok (.iconst 2, 1) := by decide +kernel
theorem dX1_endsAtLeast_58 : decode cX1_endsAtLeast 58 = .ok (.irem, 1) := by decide +kernel
theorem dX1_endsAtLeast_59 : decode cX1_endsAtLeast 59 = .ok (.invokevirtual 99, 3) := by decide +kernel
theorem dX1_endsAtLeast_62 : decode cX1_endsAtLeast 62 = .ok (.iload_n 3, 1) := by decide +kernel
theorem dX1_endsAtLeast_63 : decode cX1_endsAtLeast 63 = .ok (.iconst 2, 1) := by decide +kernel
theorem dX1_endsAtLeast_64 : decode cX1_endsAtLeast 64 = .ok (.irem, 1) := by decide +kernel
theorem dX1_endsAtLeast_65 : decode cX1_endsAtLeast 65 = .ok (.if_icmp .ne 7, 3) := by decide +kernel
theorem dX1_endsAtLeast_68 : decode cX1_endsAtLeast 68 = .ok (.iconst 1, 1) := by decide +kernel
theorem dX1_endsAtLeast_69 : decode cX1_endsAtLeast 69 = .ok (.goto 4, 3) := by decide +kernel
theorem dX1_endsAtLeast_72 : decode cX1_endsAtLeast 72 = .ok (.iconst 0, 1) := by decide +kernel
theorem dX1_endsAtLeast_73 : decode cX1_endsAtLeast 73 = .ok (.istore 7, 2) := by decide +kernel
theorem dX1_endsAtLeast_75 : decode cX1_endsAtLeast 75 = .ok (.iload 7, 2) := by decide +kernel
theorem dX1_endsAtLeast_77 : decode cX1_endsAtLeast 77 = .ok (.ifCond .eq 28, 3) := by decide +kernel
theorem dX1_endsAtLeast_80 : decode cX1_endsAtLeast 80 = .ok (.aload_n 0, 1) := by decide +kernel
theorem dX1_endsAtLeast_81 : decode cX1_endsAtLeast 81 = .ok (.getfield 43, 3) := by decide +kernel
theorem dX1_endsAtLeast_84 : decode cX1_endsAtLeast 84 = .ok (.iload 6, 2) := by decide +kernel
theorem dX1_endsAtLeast_86 : decode cX1_endsAtLeast 86 = .ok (.iload_n 1, 1) := by decide +kernel
theorem dX1_endsAtLeast_87 : decode cX1_endsAtLeast 87 = .ok (.iconst 2, 1) := by decide +kernel
theorem dX1_endsAtLeast_88 : decode cX1_endsAtLeast 88 = .ok (.irem, 1) := by decide +kernel
theorem dX1_endsAtLeast_89 : decode cX1_endsAtLeast 89 = .ok (.iload 5, 2) := by decide +kernel
theorem dX1_endsAtLeast_91 : decode cX1_endsAtLeast 91 = .ok (.invokevirtual 102, 3) := by decide +kernel
theorem dX1_endsAtLeast_94 : decode cX1_endsAtLeast 94 = .ok (.aload_n 0, 1) := by decide +kernel
theorem dX1_endsAtLeast_95 : decode cX1_endsAtLeast 95 = .ok (.getfield 11, 3) := by decide +kernel
theorem dX1_endsAtLeast_98 : decode cX1_endsAtLeast 98 = .ok (.iload_n 3, 1) := by decide +kernel
theorem dX1_endsAtLeast_99 : decode cX1_endsAtLeast 99 = .ok (.iaload, 1) := by decide +kernel
theorem dX1_endsAtLeast_100 : decode cX1_endsAtLeast 100 = .ok (.if_icmp .ne 5, 3) := by decide +kernel
theorem dX1_endsAtLeast_103 : decode cX1_endsAtLeast 103 = .ok (.iconst 1, 1) := by decide +kernel
theorem dX1_endsAtLeast_104 : decode cX1_endsAtLeast 104 = .ok (.ireturn, 1) := by decide +kernel
theorem dX1_endsAtLeast_105 : decode cX1_endsAtLeast 105 = .ok (.iinc 4 1, 3) := by decide +kernel
theorem dX1_endsAtLeast_108 : decode cX1_endsAtLeast 108 = .ok (.goto (-88), 3) := by decide +kernel
theorem dX1_endsAtLeast_111 : decode cX1_endsAtLeast 111 = .ok (.iconst 0, 1) := by decide +kernel
theorem dX1_endsAtLeast_112 : decode cX1_endsAtLeast 112 = .ok (.ireturn, 1) := by decide +kernel
theorem dX1_layCourse_0 : decode cX1_layCourse 0 = .ok (.aload_n 0, 1) := by decide +kernel
theorem dX1_layCourse_1 : decode cX1_layCourse 1 = .ok (.iconst 0, 1) := by decide +kernel
theorem dX1_layCourse_2 : decode cX1_layCourse 2 = .ok (.putfield 28, 3) := by decide +kernel
theorem dX1_layCourse_5 : decode cX1_layCourse 5 = .ok (.aload_n 0, 1) := by decide +kernel
theorem dX1_layCourse_6 : decode cX1_layCourse 6 = .ok (.iload_n 1, 1) := by decide +kernel
theorem dX1_layCourse_7 : decode cX1_layCourse 7 = .ok (.invokevirtual 110, 3) := by decide +kernel
theorem dX1_layCourse_10 : decode cX1_layCourse 10 = .ok (.ldc 53, 2) := by decide +kernel
theorem dX1_layCourse_12 : decode cX1_layCourse 12 = .ok (.if_icmp .ne 6, 3) := by decide +kernel
theorem dX1_layCourse_15 : decode cX1_layCourse 15 = .ok (.bipush (-5), 2) := by decide +kernel
theorem dX1_layCourse_17 : decode cX1_layCourse 17 = .ok (.ireturn, 1) := by decide +kernel
theorem dX1_layCourse_18 : decode cX1_layCourse 18 = .ok (.aload_n 0, 1) := by decide +kernel
theorem dX1_layCourse_19 : decode cX1_layCourse 19 = .ok (.getfield 11, 3) := by decide +kernel
theorem dX1_layCourse_22 : decode cX1_layCourse 22 = .ok (.iconst 2, 1) := by decide +kernel
theorem dX1_layCourse_23 : decode cX1_layCourse 23 = .ok (.iload_n 1, 1) := by decide +kernel
theorem dX1_layCourse_24 : decode cX1_layCourse 24 = .ok (.imul, 1) := by decide +kernel
theorem dX1_layCourse_25 : decode cX1_layCourse 25 = .ok (.iaload, 1) := by decide +kernel
theorem dX1_layCourse_26 : decode cX1_layCourse 26 = .ok (.aload_n 0, 1) := by decide +kernel
theorem dX1_layCourse_27 : decode cX1_layCourse 27 = .ok (.getfield 11, 3) := by decide +kernel
theorem dX1_layCourse_30 : decode cX1_layCourse 30 = .ok (.iconst 2, 1) := by decide +kernel
theorem dX1_layCourse_31 : decode cX1_layCourse 31 = .ok (.iload_n 1, 1) := by decide +kernel
theorem dX1_layCourse_32 : decode cX1_layCourse 32 = .ok (.imul, 1) := by decide +kernel
theorem dX1_layCourse_33 : decode cX1_layCourse 33 = .ok (.iconst 1, 1) := by decide +kernel
theorem dX1_layCourse_34 : decode cX1_layCourse 34 = .ok (.iadd, 1) := by decide +kernel
theorem dX1_layCourse_35 : decode cX1_layCourse 35 = .ok (.iaload, 1) := by decide +kernel
theorem dX1_layCourse_36 : decode cX1_layCourse 36 = .ok (.if_icmp .gt 7, 3) := by decide +kernel
theorem dX1_layCourse_39 : decode cX1_layCourse 39 = .ok (.iconst 0, 1) := by decide +kernel
theorem dX1_layCourse_40 : decode cX1_layCourse 40 = .ok (.goto 4, 3) := by decide +kernel
theorem dX1_layCourse_43 : decode cX1_layCourse 43 = .ok (.iconst 1, 1) := by decide +kernel
theorem dX1_layCourse_44 : decode cX1_layCourse 44 = .ok (.istore_n 2, 1) := by decide +kernel
theorem dX1_layCourse_45 : decode cX1_layCourse 45 = .ok (.aload_n 0, 1) := by decide +kernel
theorem dX1_layCourse_46 : decode cX1_layCourse 46 = .ok (.iload_n 1, 1) := by decide +kernel
theorem dX1_layCourse_47 : decode cX1_layCourse 47 = .ok (.iload_n 2, 1) := by decide +kernel
theorem dX1_layCourse_48 : decode cX1_layCourse 48 = .ok (.invokevirtual 127, 3) := by decide +kernel
theorem dX1_layCourse_51 : decode cX1_layCourse 51 = .ok (.istore_n 3, 1) := by decide +kernel
theorem dX1_layCourse_52 : decode cX1_layCourse 52 = .ok (.iconst 0, 1) := by decide +kernel
theorem dX1_layCourse_53 : decode cX1_layCourse 53 = .ok (.istore 4, 2) := by decide +kernel
theorem dX1_layCourse_55 : decode cX1_layCourse 55 = .ok (.iload 4, 2) := by decide +kernel
theorem dX1_layCourse_57 : decode cX1_layCourse 57 = .ok (.bipush 72, 2) := by decide +kernel
theorem dX1_layCourse_59 : decode cX1_layCourse 59 = .ok (.if_icmp .ge 52, 3) := by decide +kernel
theorem dX1_layCourse_62 : decode cX1_layCourse 62 = .ok (.iload_n 3, 1) := by decide +kernel
theorem dX1_layCourse_63 : decode cX1_layCourse 63 = .ok (.bipush (-5), 2) := by decide +kernel
theorem dX1_layCourse_65 : decode cX1_layCourse 65 = .ok (.if_icmp .eq 46, 3) := by decide +kernel
theorem dX1_layCourse_68 : decode cX1_layCourse 68 = .ok (.aload_n 0, 1) := by decide +kernel
theorem dX1_layCourse_69 : decode cX1_layCourse 69 = .ok (.getfield 25, 3) := by decide +kernel
theorem dX1_layCourse_72 : decode cX1_layCourse 72 = .ok (.iload 4, 2) := by decide +kernel
theorem dX1_layCourse_74 : decode cX1_layCourse 74 = .ok (.iload_n 3, 1) := by decide +kernel
theorem dX1_layCourse_75 : decode cX1_layCourse 75 = .ok (.bipush 10, 2) := by decide +kernel
theorem dX1_layCourse_77 : decode cX1_layCourse 77 = .ok (.irem, 1) := by decide +kernel
theorem dX1_layCourse_78 : decode cX1_layCourse 78 = .ok (.iastore, 1) := by decide +kernel
theorem dX1_layCourse_79 : decode cX1_layCourse 79 = .ok (.aload_n 0, 1) := by decide +kernel
theorem dX1_layCourse_80 : decode cX1_layCourse 80 = .ok (.dup, 1) := by decide +kernel
theorem dX1_layCourse_81 : decode cX1_layCourse 81 = .ok (.getfield 28, 3) := by decide +kernel
theorem dX1_layCourse_84 : decode cX1_layCourse 84 = .ok (.iconst 1, 1) := by decide +kernel
theorem dX1_layCourse_85 : decode cX1_layCourse 85 = .ok (.iadd, 1) := by decide +kernel
theorem dX1_layCourse_86 : decode cX1_layCourse 86 = .ok (.putfield 28, 3) := by decide +kernel
theorem dX1_layCourse_89 : decode cX1_layCourse 89 = .ok (.aload_n 0, 1) := by decide +kernel
theorem dX1_layCourse_90 : decode cX1_layCourse 90 = .ok (.iload_n 3, 1) := by decide +kernel
theorem dX1_layCourse_91 : decode cX1_layCourse 91 = .ok (.bipush 100, 2) := by decide +kernel
theorem dX1_layCourse_93 : decode cX1_layCourse 93 = .ok (.idiv, 1) := by decide +kernel
theorem dX1_layCourse_94 : decode cX1_layCourse 94 = .ok (.iload_n 3, 1) := by decide +kernel
theorem dX1_layCourse_95 : decode cX1_layCourse 95 = .ok (.bipush 10, 2) := by decide +kernel
theorem dX1_layCourse_97 : decode cX1_layCourse 97 = .ok (.idiv, 1) := by decide +kernel
theorem dX1_layCourse_98 : decode cX1_layCourse 98 = .ok (.bipush 10, 2) := by decide +kernel
theorem dX1_layCourse_100 : decode cX1_layCourse 100 = .ok (.irem, 1) := by decide +kernel
theorem dX1_layCourse_101 : decode cX1_layCourse 101 = .ok (.invokevirtual 127, 3) := by decide +kernel
theorem dX1_layCourse_104 : decode cX1_layCourse 104 = .ok (.istore_n 3, 1) := by decide +kernel
theorem dX1_layCourse_105 : decode cX1_layCourse 105 = .ok (.iinc 4 1, 3) := by decide +kernel
theorem dX1_layCourse_108 : decode cX1_layCourse 108 = .ok (.goto (-53), 3) := by decide +kernel
theorem dX1_layCourse_111 : decode cX1_layCourse 111 = .ok (.aload_n 0, 1) := by decide +kernel
theorem dX1_layCourse_112 : decode cX1_layCourse 112 = .ok (.getfield 28, 3) := by decide +kernel
theorem dX1_layCourse_115 : decode cX1_layCourse 115 = .ok (.ireturn, 1) := by decide +kernel
theorem dX1_courseHeading_0 : decode cX1_courseHeading 0 = .ok (.iload_n 1, 1) := by decide +kernel
theorem dX1_courseHeading_1 : decode cX1_courseHeading 1 = .ok (.aload_n 0, 1) := by decide +kernel
theorem dX1_courseHeading_2 : decode cX1_courseHeading 2 = .ok (.getfield 28, 3) := by decide +kernel
theorem dX1_courseHeading_5 : decode cX1_courseHeading 5 = .ok (.invokestatic 130, 3) := by decide +kernel
theorem dX1_courseHeading_8 : decode cX1_courseHeading 8 = .ok (.ifCond .eq 19, 3) := by decide +kernel
theorem dX1_courseHeading_11 : decode cX1_courseHeading 11 = .ok (.aload_n 0, 1) := by decide +kernel
theorem dX1_courseHeading_12 : decode cX1_courseHeading 12 = .ok (.getfield 25, 3) := by decide +kernel
theorem dX1_courseHeading_15 : decode cX1_courseHeading 15 = .ok (.aload_n 0, 1) := by decide +kernel
theorem dX1_courseHeading_16 : decode cX1_courseHeading 16 = .ok (.getfield 28, 3) := by decide +kernel
theorem dX1_courseHeading_19 : decode cX1_courseHeading 19 = .ok (.iconst 1, 1) := by decide +kernel
theorem dX1_courseHeading_20 : decode cX1_courseHeading 20 = .ok (.isub, 1) := by decide +kernel
theorem dX1_courseHeading_21 : decode cX1_courseHeading 21 = .ok (.iload_n 1, 1) := by decide +kernel
theorem dX1_courseHeading_22 : decode cX1_courseHeading 22 = .ok (.isub, 1) := by decide +kernel
theorem dX1_courseHeading_23 : decode cX1_courseHeading 23 = .ok (.iaload, 1) := by decide +kernel
theorem dX1_courseHeading_24 : decode cX1_courseHeading 24 = .ok (.goto 5, 3) := by decide +kernel
theorem dX1_courseHeading_27 : decode cX1_courseHeading 27 = .ok (.bipush (-5), 2) := by decide +kernel
theorem dX1_courseHeading_29 : decode cX1_courseHeading 29 = .ok (.ireturn, 1) := by decide +kernel
theorem dX1_courseLength_0 : decode cX1_courseLength 0 = .ok (.iconst 0, 1) := by decide +kernel
theorem dX1_courseLength_1 : decode cX1_courseLength 1 = .ok (.istore_n 1, 1) := by decide +kernel
theorem dX1_courseLength_2 : decode cX1_courseLength 2 = .ok (.iconst 0, 1) := by decide +kernel
theorem dX1_courseLength_3 : decode cX1_courseLength 3 = .ok (.istore_n 2, 1) := by decide +kernel
theorem dX1_courseLength_4 : decode cX1_courseLength 4 = .ok (.iload_n 2, 1) := by decide +kernel
theorem dX1_courseLength_5 : decode cX1_courseLength 5 = .ok (.aload_n 0, 1) := by decide +kernel
theorem dX1_courseLength_6 : decode cX1_courseLength 6 = .ok (.getfield 28, 3) := by decide +kernel
theorem dX1_courseLength_9 : decode cX1_courseLength 9 = .ok (.if_icmp .ge 21, 3) := by decide +kernel
theorem dX1_courseLength_12 : decode cX1_courseLength 12 = .ok (.iload_n 1, 1) := by decide +kernel
theorem dX1_courseLength_13 : decode cX1_courseLength 13 = .ok (.aload_n 0, 1) := by decide +kernel
theorem dX1_courseLength_14 : decode cX1_courseLength 14 = .ok (.getfield 25, 3) := by decide +kernel
theorem dX1_courseLength_17 : decode cX1_courseLength 17 = .ok (.iload_n 2, 1) := by decide +kernel
theorem dX1_courseLength_18 : decode cX1_courseLength 18 = .ok (.iaload, 1) := by decide +kernel
theorem dX1_courseLength_19 : decode cX1_courseLength 19 = .ok (.invokestatic 134, 3) := by decide +kernel
theorem dX1_courseLength_22 : decode cX1_courseLength 22 = .ok (.iadd, 1) := by decide +kernel
theorem dX1_courseLength_23 : decode cX1_courseLength 23 = .ok (.istore_n 1, 1) := by decide +kernel
theorem dX1_courseLength_24 : decode cX1_courseLength 24 = .ok (.iinc 2 1, 3) := by decide +kernel
theorem dX1_courseLength_27 : decode cX1_courseLength 27 = .ok (.goto (-23), 3) := by decide +kernel
theorem dX1_courseLength_30 : decode cX1_courseLength 30 = .ok (.iload_n 1, 1) := by decide +kernel
theorem dX1_courseLength_31 : decode cX1_courseLength 31 = .ok (.ireturn, 1) := by decide +kernel
theorem dX2_turnBetween_0 : decode cX2_turnBetween 0 = .ok (.iload_n 0, 1) := by decide +kernel
theorem dX2_turnBetween_1 : decode cX2_turnBetween 1 = .ok (.iload_n 1, 1) := by decide +kernel
theorem dX2_turnBetween_2 : decode cX2_turnBetween 2 = .ok (.if_icmp .ge 9, 3) := by decide +kernel
theorem dX2_turnBetween_5 : decode cX2_turnBetween 5 = .ok (.iload_n 1, 1) := by decide +kernel
theorem dX2_turnBetween_6 : decode cX2_turnBetween 6 = .ok (.iload_n 0, 1) := by decide +kernel
theorem dX2_turnBetween_7 : decode cX2_turnBetween 7 = .ok (.isub, 1) := by decide +kernel
theorem dX2_turnBetween_8 : decode cX2_turnBetween 8 = .ok (.goto 6, 3) := by decide +kernel
theorem dX2_turnBetween_11 : decode cX2_turnBetween 11 = .ok (.iload_n 0, 1) := by decide +kernel
theorem dX2_turnBetween_12 : decode cX2_turnBetween 12 = .ok (.iload_n 1, 1) := by decide +kernel
theorem dX2_turnBetween_13 : decode cX2_turnBetween 13 = .ok (.isub, 1) := by decide +kernel
theorem dX2_turnBetween_14 : decode cX2_turnBetween 14 = .ok (.istore_n 2, 1) := by decide +kernel
theorem dX2_turnBetween_15 : decode cX2_turnBetween 15 = .ok (.iload_n 2, 1) := by decide +kernel
theorem dX2_turnBetween_16 : decode cX2_turnBetween 16 = .ok (.iconst 4, 1) := by decide +kernel
theorem dX2_turnBetween_17 : decode cX2_turnBetween 17 = .ok (.if_icmp .le 10, 3) := by decide +kernel
theorem dX2_turnBetween_20 : decode cX2_turnBetween 20 = .ok (.bipush 8, 2) := by decide +kernel
theorem dX2_turnBetween_22 : decode cX2_turnBetween 22 = .ok (.iload_n 2, 1) := by decide +kernel
theorem dX2_turnBetween_23 : decode cX2_turnBetween 23 = .ok (.isub, 1) := by decide +kernel
theorem dX2_turnBetween_24 : decode cX2_turnBetween 24 = .ok (.goto 4, 3) := by decide +kernel
theorem dX2_turnBetween_27 : decode cX2_turnBetween 27 = .ok (.iload_n 2, 1) := by decide +kernel
theorem dX2_turnBetween_28 : decode cX2_turnBetween 28 = .ok (.ireturn, 1) := by decide +kernel
theorem dX2_squareBeside_0 : decode cX2_squareBeside 0 = .ok (.iload_n 1, 1) := by decide +kernel
theorem dX2_squareBeside_1 : decode cX2_squareBeside 1 = .ok (.ifCond .lt 19, 3) := by decide +kernel
theorem dX2_squareBeside_4 : decode cX2_squareBeside 4 = .ok (.iload_n 1, 1) := by decide +kernel
theorem dX2_squareBeside_5 : decode cX2_squareBeside 5 = .ok (.getstatic 9, 3) := by decide +kernel
theorem dX2_squareBeside_8 : decode cX2_squareBeside 8 = .ok (.arraylength, 1) := by decide +kernel
theorem dX2_squareBeside_9 : decode cX2_squareBeside 9 = .ok (.if_icmp .ge 11, 3) := by decide +kernel
theorem dX2_squareBeside_12 : decode cX2_squareBeside 12 = .ok (.iload_n 1, 1) := by decide +kernel
theorem dX2_squareBeside_13 : decode cX2_squareBeside 13 = .ok (.getstatic 15, 3) := by decide +kernel
theorem dX2_squareBeside_16 : decode cX2_squareBeside 16 = .ok (.arraylength, 1) := by decide +kernel
theorem dX2_squareBeside_17 : decode cX2_squareBeside 17 = .ok (.if_icmp .lt 5, 3) := by decide +kernel
theorem dX2_squareBeside_20 : decode cX2_squareBeside 20 = .ok (.iconst (-1), 1) := by decide +kernel
theorem dX2_squareBeside_21 : decode cX2_squareBeside 21 = .ok (.ireturn, 1) := by decide +kernel
theorem dX2_squareBeside_22 : decode cX2_squareBeside 22 = .ok (.iload_n 0, 1) := by decide +kernel
theorem dX2_squareBeside_23 : decode cX2_squareBeside 23 = .ok (.bipush 6, 2) := by decide +kernel
theorem dX2_squareBeside_25 : decode cX2_squareBeside 25 = .ok (.idiv, 1) := by decide +kernel
theorem dX2_squareBeside_26 : decode cX2_squareBeside 26 = .ok (.getstatic 9, 3) := by decide +kernel
theorem dX2_squareBeside_29 : decode cX2_squareBeside 29 = .ok (.iload_n 1, 1) := by decide +kernel
theorem dX2_squareBeside_30 : decode cX2_squareBeside 30 = .ok (.iaload, 1) := by decide +kernel
theorem dX2_squareBeside_31 : decode cX2_squareBeside 31 = .ok (.iadd, 1) := by decide +kernel
theorem dX2_squareBeside_32 : decode cX2_squareBeside 32 = .ok (.istore_n 2, 1) := by decide +kernel
theorem dX2_squareBeside_33 : decode cX2_squareBeside 33 = .ok (.iload_n 0, 1) := by decide +kernel
theorem dX2_squareBeside_34 : decode cX2_squareBeside 34 = .ok (.bipush 6, 2) := by decide +kernel
theorem dX2_squareBeside_36 : decode cX2_squareBeside 36 = .ok (.irem, 1) := by decide +kernel
theorem dX2_squareBeside_37 : decode cX2_squareBeside 37 = .ok (.getstatic 15, 3) := by decide +kernel
theorem dX2_squareBeside_40 : decode cX2_squareBeside 40 = .ok (.iload_n 1, 1) := by decide +kernel
theorem dX2_squareBeside_41 : decode cX2_squareBeside 41 = .ok (.iaload, 1) := by decide +kernel
theorem dX2_squareBeside_42 : decode cX2_squareBeside 42 = .ok (.iadd, 1) := by decide +kernel
theorem dX2_squareBeside_43 : decode cX2_squareBeside 43 = .ok (.istore_n 3, 1) := by decide +kernel
theorem dX2_squareBeside_44 : decode cX2_squareBeside 44 = .ok (.iload_n 2, 1) := by decide +kernel
theorem dX2_squareBeside_45 : decode cX2_squareBeside 45 = .ok (.ifCond .lt 17, 3) := by decide +kernel
theorem dX2_squareBeside_48 : decode cX2_squareBeside 48 = .ok (.iload_n 2, 1) := by decide +kernel
theorem dX2_squareBeside_49 : decode cX2_squareBeside 49 = .ok (.iconst 5, 1) := by decide +kernel
theorem dX2_squareBeside_50 : decode cX2_squareBeside 50 = .ok (.if_icmp .gt 12, 3) := by decide +kernel
theorem dX2_squareBeside_53 : decode cX2_squareBeside 53 = .ok (.iload_n 3, 1) := by decide +kernel
theorem dX2_squareBeside_54 : decode cX2_squareBeside 54 = .ok (.ifCond .lt 8, 3) := by decide +kernel
theorem dX2_squareBeside_57 : decode cX2_squareBeside 57 = .ok (.iload_n 3, 1) := by decide +kernel
theorem dX2_squareBeside_58 : decode cX2_squareBeside 58 = .ok (.iconst 5, 1) := by decide +kernel
theorem dX2_squareBeside_59 : decode cX2_squareBeside 59 = .ok (.if_icmp .le 5, 3) := by decide +kernel
theorem dX2_squareBeside_62 : decode cX2_squareBeside 62 = .ok (.iconst (-1), 1) := by decide +kernel
theorem dX2_squareBeside_63 : decode cX2_squareBeside 63 = .ok (.ireturn, 1) := by decide +kernel
theorem dX2_squareBeside_64 : decode cX2_squareBeside 64 = .ok (.bipush 6, 2) := by decide +kernel
theorem dX2_squareBeside_66 : decode cX2_squareBeside 66 = .ok (.iload_n 2, 1) := by decide +kernel
theorem dX2_squareBeside_67 : decode cX2_squareBeside 67 = .ok (.imul, 1) := by decide +kernel
theorem dX2_squareBeside_68 : decode cX2_squareBeside 68 = .ok (.iload_n 3, 1) := by decide +kernel
theorem dX2_squareBeside_69 : decode cX2_squareBeside 69 = .ok (.iadd, 1) := by decide +kernel
theorem dX2_squareBeside_70 : decode cX2_squareBeside 70 = .ok (.ireturn, 1) := by decide +kernel
theorem dX2_zoneOf_0 : decode cX2_zoneOf 0 = .ok (.iconst 2, 1) := by decide +kernel
theorem dX2_zoneOf_1 : decode cX2_zoneOf 1 = .ok (.iload_n 0, 1) := by decide +kernel
theorem dX2_zoneOf_2 : decode cX2_zoneOf 2 = .ok (.bipush 6, 2) := by decide +kernel
theorem dX2_zoneOf_4 : decode cX2_zoneOf 4 = .ok (.idiv, 1) := by decide +kernel
theorem dX2_zoneOf_5 : decode cX2_zoneOf 5 = .ok (.iconst 3, 1) := by decide +kernel
theorem dX2_zoneOf_6 : decode cX2_zoneOf 6 = .ok (.idiv, 1) := by decide +kernel
theorem dX2_zoneOf_7 : decode cX2_zoneOf 7 = .ok (.imul, 1) := by decide +kernel
theorem dX2_zoneOf_8 : decode cX2_zoneOf 8 = .ok (.iload_n 0, 1) := by decide +kernel
theorem dX2_zoneOf_9 : decode cX2_zoneOf 9 = .ok (.bipush 6, 2) := by decide +kernel
theorem dX2_zoneOf_11 : decode cX2_zoneOf 11 = .ok (.irem, 1) := by decide +kernel
theorem dX2_zoneOf_12 : decode cX2_zoneOf 12 = .ok (.iconst 3, 1) := by decide +kernel
theorem dX2_zoneOf_13 : decode cX2_zoneOf 13 = .ok (.idiv, 1) := by decide +kernel
theorem dX2_zoneOf_14 : decode cX2_zoneOf 14 = .ok (.iadd, 1) := by decide +kernel
theorem dX2_zoneOf_15 : decode cX2_zoneOf 15 = .ok (.ireturn, 1) := by decide +kernel
theorem dX2_spanOf_0 : decode cX2_spanOf 0 = .ok (.iload_n 0, 1) := by decide +kernel
theorem dX2_spanOf_1 : decode cX2_spanOf 1 = .ok (.sipush 360, 3) := by decide +kernel
theorem dX2_spanOf_4 : decode cX2_spanOf 4 = .ok (.idiv, 1) := by decide +kernel
theorem dX2_spanOf_5 : decode cX2_spanOf 5 = .ok (.iconst 4, 1) := by decide +kernel
theorem dX2_spanOf_6 : decode cX2_spanOf 6 = .ok (.irem, 1) := by decide +kernel
theorem dX2_spanOf_7 : decode cX2_spanOf 7 = .ok (.ireturn, 1) := by decide +kernel
theorem dX2_lengthOf_0 : decode cX2_lengthOf 0 = .ok (.iload_n 0, 1) := by decide +kernel
theorem dX2_lengthOf_1 : decode cX2_lengthOf 1 = .ok (.iconst 2, 1) := by decide +kernel
theorem dX2_lengthOf_2 : decode cX2_lengthOf 2 = .ok (.irem, 1) := by decide +kernel
theorem dX2_lengthOf_3 : decode cX2_lengthOf 3 = .ok (.iconst 1, 1) := by decide +kernel
theorem dX2_lengthOf_4 : decode cX2_lengthOf 4 = .ok (.if_icmp .ne 9, 3) := by decide +kernel
theorem dX2_lengthOf_7 : decode cX2_lengthOf 7 = .ok (.sipush 850, 3) := by decide +kernel
theorem dX2_lengthOf_10 : decode cX2_lengthOf 10 = .ok (.goto 6, 3) := by decide +kernel
theorem dX2_lengthOf_13 : decode cX2_lengthOf 13 = .ok (.sipush 600, 3) := by decide +kernel
theorem dX2_lengthOf_16 : decode cX2_lengthOf 16 = .ok (.ireturn, 1) := by decide +kernel
theorem dX2_sine_0 : decode cX2_sine 0 = .ok (.iload_n 0, 1) := by decide +kernel
theorem dX2_sine_1 : decode cX2_sine 1 = .ok (.tableswitch 57 1 7 #[43, 47, 43, 57, 49, 53, 49], 43) := by decide +kernel
theorem dX2_sine_44 : decode cX2_sine 44 = .ok (.ldc2_w 18, 3) := by decide +kernel
theorem dX2_sine_47 : decode cX2_sine 47 = .ok (.dreturn, 1) := by decide +kernel
theorem dX2_sine_48 : decode cX2_sine 48 = .ok (.dconst 1, 1) := by decide +kernel
theorem dX2_sine_49 : decode cX2_sine 49 = .ok (.dreturn, 1) := by decide +kernel
theorem dX2_sine_50 : decode cX2_sine 50 = .ok (.ldc2_w 20, 3) := by decide +kernel
theorem dX2_sine_53 : decode cX2_sine 53 = .ok (.dreturn, 1) := by decide +kernel
theorem dX2_sine_54 : decode cX2_sine 54 = .ok (.ldc2_w 22, 3) := by decide +kernel
theorem dX2_sine_57 : decode cX2_sine 57 = .ok (.dreturn, 1) := by decide +kernel
theorem dX2_sine_58 : decode cX2_sine 58 = .ok (.dconst 0, 1) := by decide +kernel
theorem dX2_sine_59 : decode cX2_sine 59 = .ok (.dreturn, 1) := by decide +kernel
theorem dX2_cosine_0 : decode cX2_cosine 0 = .ok (.iload_n 0, 1) := by decide +kernel
theorem dX2_cosine_1 : decode cX2_cosine 1 = .ok (.iconst 2, 1) := by decide +kernel
theorem dX2_cosine_2 : decode cX2_cosine 2 = .ok (.iadd, 1) := by decide +kernel
theorem dX2_cosine_3 : decode cX2_cosine 3 = .ok (.bipush 8, 2) := by decide +kernel
theorem dX2_cosine_5 : decode cX2_cosine 5 = .ok (.irem, 1) := by decide +kernel
theorem dX2_cosine_6 : decode cX2_cosine 6 = .ok (.invokestatic 24, 3) := by decide +kernel
theorem dX2_cosine_9 : decode cX2_cosine 9 = .ok (.dreturn, 1) := by decide +kernel
theorem dX3_init_0 : decode cX3_init 0 = .ok (.aload_n 0, 1) := by decide +kernel
theorem dX3_init_1 : decode cX3_init 1 = .ok (.invokespecial 1, 3) := by decide +kernel
theorem dX3_init_4 : decode cX3_init 4 = .ok (.aload_n 0, 1) := by decide +kernel
theorem dX3_init_5 : decode cX3_init 5 = .ok (.new 7, 3) := by decide +kernel
theorem dX3_init_8 : decode cX3_init 8 = .ok (.dup, 1) := by decide +kernel
theorem dX3_init_9 : decode cX3_init 9 = .ok (.bipush 8, 2) := by decide +kernel
theorem dX3_init_11 : decode cX3_init 11 = .ok (.invokespecial 9, 3) := by decide +kernel
theorem dX3_init_14 : decode cX3_init 14 = .ok (.putfield 12, 3) := by decide +kernel
theorem dX3_init_17 : decode cX3_init 17 = .ok (.aload_n 0, 1) := by decide +kernel
theorem dX3_init_18 : decode cX3_init 18 = .ok (.new 7, 3) := by decide +kernel
theorem dX3_init_21 : decode cX3_init 21 = .ok (.dup, 1) := by decide +kernel
theorem dX3_init_22 : decode cX3_init 22 = .ok (.iconst 5, 1) := by decide +kernel
theorem dX3_init_23 : decode cX3_init 23 = .ok (.invokespecial 9, 3) := by decide +kernel
theorem dX3_init_26 : decode cX3_init 26 = .ok (.putfield 18, 3) := by decide +kernel
theorem dX3_init_29 : decode cX3_init 29 = .ok (.aload_n 0, 1) := by decide +kernel
theorem dX3_init_30 : decode cX3_init 30 = .ok (.new 7, 3) := by decide +kernel
theorem dX3_init_33 : decode cX3_init 33 = .ok (.dup, 1) := by decide +kernel
theorem dX3_init_34 : decode cX3_init 34 = .ok (.bipush 8, 2) := by decide +kernel
theorem dX3_init_36 : decode cX3_init 36 = .ok (.invokespecial 9, 3) := by decide +kernel
theorem dX3_init_39 : decode cX3_init 39 = .ok (.putfield 21, 3) := by decide +kernel
theorem dX3_init_42 : decode cX3_init 42 = .ok (.aload_n 0, 1) := by decide +kernel
theorem dX3_init_43 : decode cX3_init 43 = .ok (.new 7, 3) := by decide +kernel
theorem dX3_init_46 : decode cX3_init 46 = .ok (.dup, 1) := by decide +kernel
theorem dX3_init_47 : decode cX3_init 47 = .ok (.bipush 8, 2) := by decide +kernel
theorem dX3_init_49 : decode cX3_init 49 = .ok (.invokespecial 9, 3) := by decide +kernel
theorem dX3_init_52 : decode cX3_init 52 = .ok (.putfield 24, 3) := by decide +kernel
theorem dX3_init_55 : decode cX3_init 55 = .ok (.return_, 1) := by decide +kernel
theorem dX3_becomeLike_0 : decode cX3_becomeLike 0 = .ok (.aload_n 0, 1) := by decide +kernel
theorem dX3_becomeLike_1 : decode cX3_becomeLike 1 = .ok (.getfield 12, 3) := by decide +kernel
theorem dX3_becomeLike_4 : decode cX3_becomeLike 4 = .ok (.aload_n 1, 1) := by decide +kernel
theorem dX3_becomeLike_5 : decode cX3_becomeLike 5 = .ok (.getfield 12, 3) := by decide +kernel
theorem dX3_becomeLike_8 : decode cX3_becomeLike 8 = .ok (.invokevirtual 27, 3) := by decide +kernel
theorem dX3_becomeLike_11 : decode cX3_becomeLike 11 = .ok (.aload_n 0, 1) := by decide +kernel
theorem dX3_becomeLike_12 : decode cX3_becomeLike 12 = .ok (.getfield 18, 3) := by decide +kernel
theorem dX3_becomeLike_15 : decode cX3_becomeLike 15 = .ok (.aload_n 1, 1) := by decide +kernel
theorem dX3_becomeLike_16 : decode cX3_becomeLike 16 = .ok (.getfield 18, 3) := by decide +kernel
theorem dX3_becomeLike_19 : decode cX3_becomeLike 19 = .ok (.invokevirtual 27, 3) := by decide +kernel
theorem dX3_becomeLike_22 : decode cX3_becomeLike 22 = .ok (.aload_n 0, 1) := by decide +kernel
theorem dX3_becomeLike_23 : decode cX3_becomeLike 23 = .ok (.getfield 21, 3) := by decide +kernel
theorem dX3_becomeLike_26 : decode cX3_becomeLike 26 = .ok (.aload_n 1, 1) := by decide +kernel
theorem dX3_becomeLike_27 : decode cX3_becomeLike 27 = .ok (.getfield 21, 3) := by decide +kernel
theorem dX3_becomeLike_30 : decode cX3_becomeLike 30 = .ok (.invokevirtual 27, 3) := by decide +kernel
theorem dX3_becomeLike_33 : decode cX3_becomeLike 33 = .ok (.aload_n 0, 1) := by decide +kernel
theorem dX3_becomeLike_34 : decode cX3_becomeLike 34 = .ok (.getfield 24, 3) := by decide +kernel
theorem dX3_becomeLike_37 : decode cX3_becomeLike 37 = .ok (.aload_n 1, 1) := by decide +kernel
theorem dX3_becomeLike_38 : decode cX3_becomeLike 38 = .ok (.getfield 24, 3) := by decide +kernel
theorem dX3_becomeLike_41 : decode cX3_becomeLike 41 = .ok (.invokevirtual 27, 3) := by decide +kernel
theorem dX3_becomeLike_44 : decode cX3_becomeLike 44 = .ok (.return_, 1) := by decide +kernel
theorem dX4_init_0 : decode cX4_init 0 = .ok (.aload_n 0, 1) := by decide +kernel
theorem dX4_init_1 : decode cX4_init 1 = .ok (.invokespecial 3, 3) := by decide +kernel
theorem dX4_init_4 : decode cX4_init 4 = .ok (.aload_n 0, 1) := by decide +kernel
theorem dX4_init_5 : decode cX4_init 5 = .ok (.sipush 128, 3) := by decide +kernel
theorem dX4_init_8 : decode cX4_init 8 = .ok (.newarray .int, 2) := by decide +kernel
theorem dX4_init_10 : decode cX4_init 10 = .ok (.putfield 11, 3) := by decide +kernel
theorem dX4_init_13 : decode cX4_init 13 = .ok (.aload_n 0, 1) := by decide +kernel
theorem dX4_init_14 : decode cX4_init 14 = .ok (.sipush 128, 3) := by decide +kernel
theorem dX4_init_17 : decode cX4_init 17 = .ok (.newarray .int, 2) := by decide +kernel
theorem dX4_init_19 : decode cX4_init 19 = .ok (.putfield 15, 3) := by decide +kernel
theorem dX4_init_22 : decode cX4_init 22 = .ok (.aload_n 0, 1) := by decide +kernel
theorem dX4_init_23 : decode cX4_init 23 = .ok (.sipush 128, 3) := by decide +kernel
theorem dX4_init_26 : decode cX4_init 26 = .ok (.newarray .int, 2) := by decide +kernel
theorem dX4_init_28 : decode cX4_init 28 = .ok (.putfield 18, 3) := by decide +kernel
theorem dX4_init_31 : decode cX4_init 31 = .ok (.aload_n 0, 1) := by decide +kernel
theorem dX4_init_32 : decode cX4_init 32 = .ok (.iconst (-1), 1) := by decide +kernel
theorem dX4_init_33 : decode cX4_init 33 = .ok (.putfield 21, 3) := by decide +kernel
theorem dX4_init_36 : decode cX4_init 36 = .ok (.aload_n 0, 1) := by decide +kernel
theorem dX4_init_37 : decode cX4_init 37 = .ok (.aload_n 1, 1) := by decide +kernel
theorem dX4_init_38 : decode cX4_init 38 = .ok (.putfield 25, 3) := by decide +kernel
theorem dX4_init_41 : decode cX4_init 41 = .ok (.return_, 1) := by decide +kernel
theorem dX4_freshen_0 : decode cX4_freshen 0 = .ok (.aload_n 0, 1) := by decide +kernel
theorem dX4_freshen_1 : decode cX4_freshen 1 = .ok (.getfield 21, 3) := by decide +kernel
theorem dX4_freshen_4 : decode cX4_freshen 4 = .ok (.aload_n 0, 1) := by decide +kernel
theorem dX4_freshen_5 : decode cX4_freshen 5 = .ok (.getfield 25, 3) := by decide +kernel
theorem dX4_freshen_8 : decode cX4_freshen 8 = .ok (.getfield 29, 3) := by decide +kernel
theorem dX4_freshen_11 : decode cX4_freshen 11 = .ok (.if_icmp .ne 4, 3) := by decide +kernel
theorem dX4_freshen_14 : decode cX4_freshen 14 = .ok (.return_, 1) := by decide +kernel
theorem dX4_freshen_15 : decode cX4_freshen 15 = .ok (.iconst 0, 1) := by decide +kernel
theorem dX4_freshen_16 : decode cX4_freshen 16 = .ok (.istore_n 1, 1) := by decide +kernel
theorem dX4_freshen_17 : decode cX4_freshen 17 = .ok (.iload_n 1, 1) := by decide +kernel
theorem dX4_freshen_18 : decode cX4_freshen 18 = .ok (.sipush 128, 3) := by decide +kernel
theorem dX4_freshen_21 : decode cX4_freshen 21 = .ok (.if_icmp .ge 14, 3) := by decide +kernel
theorem dX4_freshen_24 : decode cX4_freshen 24 = .ok (.aload_n 0, 1) := by decide +kernel
theorem dX4_freshen_25 : decode cX4_freshen 25 = .ok (.iload_n 1, 1) := by decide +kernel
theorem dX4_freshen_26 : decode cX4_freshen 26 = .ok (.invokevirtual 32, 3) := by decide +kernel
theorem dX4_freshen_29 : decode cX4_freshen 29 = .ok (.iinc 1 1, 3) := by decide +kernel
theorem dX4_freshen_32 : decode cX4_freshen 32 = .ok (.goto (-15), 3) := by decide +kernel
theorem dX4_freshen_35 : decode cX4_freshen 35 = .ok (.aload_n 0, 1) := by decide +kernel
theorem dX4_freshen_36 : decode cX4_freshen 36 = .ok (.aload_n 0, 1) := by decide +kernel
theorem dX4_freshen_37 : decode cX4_freshen 37 = .ok (.getfield 25, 3) := by decide +kernel
theorem dX4_freshen_40 : decode cX4_freshen 40 = .ok (.getfield 29, 3) := by decide +kernel
theorem dX4_freshen_43 : decode cX4_freshen 43 = .ok (.putfield 21, 3) := by decide +kernel
theorem dX4_freshen_46 : decode cX4_freshen 46 = .ok (.return_, 1) := by decide +kernel
theorem dX4_workOut_0 : decode cX4_workOut 0 = .ok (.iload_n 1, 1) := by decide +kernel
theorem dX4_workOut_1 : decode cX4_workOut 1 = .ok (.bipush 8, 2) := by decide +kernel
theorem dX4_workOut_3 : decode cX4_workOut 3 = .ok (.irem, 1) := by decide +kernel
theorem dX4_workOut_4 : decode cX4_workOut 4 = .ok (.istore_n 2, 1) := by decide +kernel
theorem dX4_workOut_5 : decode cX4_workOut 5 = .ok (.iload_n 1, 1) := by decide +kernel
theorem dX4_workOut_6 : decode cX4_workOut 6 = .ok (.bipush 8, 2) := by decide +kernel
theorem dX4_workOut_8 : decode cX4_workOut 8 = .ok (.idiv, 1) := by decide +kernel
theorem dX4_workOut_9 : decode cX4_workOut 9 = .ok (.iconst 4, 1) := by decide +kernel
theorem dX4_workOut_10 : decode cX4_workOut 10 = .ok (.irem, 1) := by decide +kernel
theorem dX4_workOut_11 : decode cX4_workOut 11 = .ok (.istore_n 3, 1) := by decide +kernel
theorem dX4_workOut_12 : decode cX4_workOut 12 = .ok (.iload_n 1, 1) := by decide +kernel
theorem dX4_workOut_13 : decode cX4_workOut 13 = .ok (.bipush 8, 2) := by decide +kernel
theorem dX4_workOut_15 : decode cX4_workOut 15 = .ok (.idiv, 1) := by decide +kernel
theorem dX4_workOut_16 : decode cX4_workOut 16 = .ok (.iconst 4, 1) := by decide +kernel
theorem dX4_workOut_17 : decode cX4_workOut 17 = .ok (.idiv, 1) := by decide +kernel
theorem dX4_workOut_18 : decode cX4_workOut 18 = .ok (.istore 4, 2) := by decide +kernel
theorem dX4_workOut_20 : decode cX4_workOut 20 = .ok (.aload_n 0, 1) := by decide +kernel
theorem dX4_workOut_21 : decode cX4_workOut 21 = .ok (.getfield 25, 3) := by decide +kernel
theorem dX4_workOut_24 : decode cX4_workOut 24 = .ok (.iload 4, 2) := by decide +kernel
theorem dX4_workOut_26 : decode cX4_workOut 26 = .ok (.iload_n 3, 1) := by decide +kernel
theorem dX4_workOut_27 : decode cX4_workOut 27 = .ok (.invokevirtual 36, 3) := by decide +kernel
theorem dX4_workOut_30 : decode cX4_workOut 30 = .ok (.istore 5, 2) := by decide +kernel
theorem dX4_workOut_32 : decode cX4_workOut 32 = .ok (.aload_n 0, 1) := by decide +kernel
theorem dX4_workOut_33 : decode cX4_workOut 33 = .ok (.getfield 25, 3) := by decide +kernel
theorem dX4_workOut_36 : decode cX4_workOut 36 = .ok (.iload 4, 2) := by decide +kernel
theorem dX4_workOut_38 : decode cX4_workOut 38 = .ok (.iload_n 3, 1) := by decide +kernel
theorem dX4_workOut_39 : decode cX4_workOut 39 = .ok (.iload_n 2, 1) := by decide +kernel
theorem dX4_workOut_40 : decode cX4_workOut 40 = .ok (.invokevirtual 40, 3) := by decide +kernel
theorem dX4_workOut_43 : decode cX4_workOut 43 = .ok (.istore 6, 2) := by decide +kernel
theorem dX4_workOut_45 : decode cX4_workOut 45 = .ok (.aload_n 0, 1) := by decide +kernel
theorem dX4_workOut_46 : decode cX4_workOut 46 = .ok (.getfield 11, 3) := by decide +kernel
theorem dX4_workOut_49 : decode cX4_workOut 49 = .ok (.iload_n 1, 1) := by decide +kernel
theorem dX4_workOut_50 : decode cX4_workOut 50 = .ok (.iload 6, 2) := by decide +kernel
theorem dX4_workOut_52 : decode cX4_workOut 52 = .ok (.iconst 1, 1) := by decide +kernel
theorem dX4_workOut_53 : decode cX4_workOut 53 = .ok (.if_icmp .ge 7, 3) := by decide +kernel
theorem dX4_workOut_56 : decode cX4_workOut 56 = .ok (.iconst 0, 1) := by decide +kernel
theorem dX4_workOut_57 : decode cX4_workOut 57 = .ok (.goto 15, 3) := by decide +kernel
theorem dX4_workOut_60 : decode cX4_workOut 60 = .ok (.iload_n 2, 1) := by decide +kernel
theorem dX4_workOut_61 : decode cX4_workOut 61 = .ok (.invokestatic 44, 3) := by decide +kernel
theorem dX4_workOut_64 : decode cX4_workOut 64 = .ok (.iload 6, 2) := by decide +kernel
theorem dX4_workOut_66 : decode cX4_workOut 66 = .ok (.iadd, 1) := by decide +kernel
theorem dX4_workOut_67 : decode cX4_workOut 67 = .ok (.iconst 1, 1) := by decide +kernel
theorem dX4_workOut_68 : decode cX4_workOut 68 = .ok (.isub, 1) := by decide +kernel
theorem dX4_workOut_69 : decode cX4_workOut 69 = .ok (.iload 6, 2) := by decide +kernel
theorem dX4_workOut_71 : decode cX4_workOut 71 = .ok (.idiv, 1) := by decide +kernel
theorem dX4_workOut_72 : decode cX4_workOut 72 = .ok (.iastore, 1) := by decide +kernel
theorem dX4_workOut_73 : decode cX4_workOut 73 = .ok (.iload_n 2, 1) := by decide +kernel
theorem dX4_workOut_74 : decode cX4_workOut 74 = .ok (.bipush 8, 2) := by decide +kernel
theorem dX4_workOut_76 : decode cX4_workOut 76 = .ok (.iadd, 1) := by decide +kernel
theorem dX4_workOut_77 : decode cX4_workOut 77 = .ok (.iload 5, 2) := by decide +kernel
theorem dX4_workOut_79 : decode cX4_workOut 79 = .ok (.isub, 1) := by decide +kernel
theorem dX4_workOut_80 : decode cX4_workOut 80 = .ok (.bipush 8, 2) := by decide +kernel
theorem dX4_workOut_82 : decode cX4_workOut 82 = .ok (.irem, 1) := by decide +kernel
theorem dX4_workOut_83 : decode cX4_workOut 83 = .ok (.istore 7, 2) := by decide +kernel
theorem dX4_workOut_85 : decode cX4_workOut 85 = .ok (.aload_n 0, 1) := by decide +kernel
theorem dX4_workOut_86 : decode cX4_workOut 86 = .ok (.getfield 15, 3) := by decide +kernel
theorem dX4_workOut_89 : decode cX4_workOut 89 = .ok (.iload_n 1, 1) := by decide +kernel
theorem dX4_workOut_90 : decode cX4_workOut 90 = .ok (.iload 7, 2) := by decide +kernel
theorem dX4_workOut_92 : decode cX4_workOut 92 = .ok (.ifCond .eq 9, 3) := by decide +kernel
theorem dX4_workOut_95 : decode cX4_workOut 95 = .ok (.iload 7, 2) := by decide +kernel
theorem dX4_workOut_97 : decode cX4_workOut 97 = .ok (.iconst 4, 1) := by decide +kernel
theorem dX4_workOut_98 : decode cX4_workOut 98 = .ok (.if_icmp .ne 7, 3) := by decide +kernel
theorem dX4_workOut_101 : decode cX4_workOut 101 = .ok (.iconst 2, 1) := by decide +kernel
theorem dX4_workOut_102 : decode cX4_workOut 102 = .ok (.goto 14, 3) := by decide +kernel
theorem dX4_workOut_105 : decode cX4_workOut 105 = .ok (.iload 7, 2) := by decide +kernel
theorem dX4_workOut_107 : decode cX4_workOut 107 = .ok (.iconst 4, 1) := by decide +kernel
theorem dX4_workOut_108 : decode cX4_workOut 108 = .ok (.if_icmp .ge 7, 3) := by decide +kernel
theorem dX4_workOut_111 : decode cX4_workOut 111 = .ok (.iconst 0, 1) := by decide +kernel
theorem dX4_workOut_112 : decode cX4_workOut 112 = .ok (.goto 4, 3) := by decide +kernel
theorem dX4_workOut_115 : decode cX4_workOut 115 = .ok (.iconst 1, 1) := by decide +kernel
theorem dX4_workOut_116 : decode cX4_workOut 116 = .ok (.iastore, 1) := by decide +kernel
theorem dX4_workOut_117 : decode cX4_workOut 117 = .ok (.aload_n 0, 1) := by decide +kernel
theorem dX4_workOut_118 : decode cX4_workOut 118 = .ok (.getfield 18, 3) := by decide +kernel
theorem dX4_workOut_121 : decode cX4_workOut 121 = .ok (.iload_n 1, 1) := by decide +kernel
theorem dX4_workOut_122 : decode cX4_workOut 122 = .ok (.aload_n 0, 1) := by decide +kernel
theorem dX4_workOut_123 : decode cX4_workOut 123 = .ok (.getfield 25, 3) := by decide +kernel
theorem dX4_workOut_126 : decode cX4_workOut 126 = .ok (.iload_n 2, 1) := by decide +kernel
theorem dX4_workOut_127 : decode cX4_workOut 127 = .ok (.iload 5, 2) := by decide +kernel
theorem dX4_workOut_129 : decode cX4_workOut 129 = .ok (.invokestatic 50, 3) := by decide +kernel
theorem dX4_workOut_132 : decode cX4_workOut 132 = .ok (.iconst 2, 1) := by decide +kernel
theorem dX4_workOut_133 : decode cX4_workOut 133 = .ok (.if_icmp .gt 7, 3) := by decide +kernel
theorem dX4_workOut_136 : decode cX4_workOut 136 = .ok (.iconst 0, 1) := by decide +kernel
theorem dX4_workOut_137 : decode cX4_workOut 137 = .ok (.goto 4, 3) := by decide +kernel
theorem dX4_workOut_140 : decode cX4_workOut 140 = .ok (.iconst 1, 1) := by decide +kernel
theorem dX4_workOut_141 : decode cX4_workOut 141 = .ok (.invokevirtual 53, 3) := by decide +kernel
theorem dX4_workOut_144 : decode cX4_workOut 144 = .ok (.iastore, 1) := by decide +kernel
theorem dX4_workOut_145 : decode cX4_workOut 145 = .ok (.return_, 1) := by decide +kernel
theorem dX4_kindOf_0 : decode cX4_kindOf 0 = .ok (.iload_n 0, 1) := by decide +kernel
theorem dX4_kindOf_1 : decode cX4_kindOf 1 = .ok (.invokestatic 56, 3) := by decide +kernel
theorem dX4_kindOf_4 : decode cX4_kindOf 4 = .ok (.iconst 4, 1) := by decide +kernel
theorem dX4_kindOf_5 : decode cX4_kindOf 5 = .ok (.imul, 1) := by decide +kernel
theorem dX4_kindOf_6 : decode cX4_kindOf 6 = .ok (.iload_n 2, 1) := by decide +kernel
theorem dX4_kindOf_7 : decode cX4_kindOf 7 = .ok (.invokestatic 59, 3) := by decide +kernel
theorem dX4_kindOf_10 : decode cX4_kindOf 10 = .ok (.iadd, 1) := by decide +kernel
theorem dX4_kindOf_11 : decode cX4_kindOf 11 = .ok (.istore_n 3, 1) := by decide +kernel
theorem dX4_kindOf_12 : decode cX4_kindOf 12 = .ok (.iload_n 3, 1) := by decide +kernel
theorem dX4_kindOf_13 : decode cX4_kindOf 13 = .ok (.bipush 8, 2) := by decide +kernel
theorem dX4_kindOf_15 : decode cX4_kindOf 15 = .ok (.imul, 1) := by decide +kernel
theorem dX4_kindOf_16 : decode cX4_kindOf 16 = .ok (.iload_n 1, 1) := by decide +kernel
theorem dX4_kindOf_17 : decode cX4_kindOf 17 = .ok (.iadd, 1) := by decide +kernel
theorem dX4_kindOf_18 : decode cX4_kindOf 18 = .ok (.ireturn, 1) := by decide +kernel
theorem dX4_targetOf_0 : decode cX4_targetOf 0 = .ok (.iload_n 1, 1) := by decide +kernel
theorem dX4_targetOf_1 : decode cX4_targetOf 1 = .ok (.iload_n 2, 1) := by decide +kernel
theorem dX4_targetOf_2 : decode cX4_targetOf 2 = .ok (.invokestatic 62, 3) := by decide +kernel
theorem dX4_targetOf_5 : decode cX4_targetOf 5 = .ok (.istore_n 3, 1) := by decide +kernel
theorem dX4_targetOf_6 : decode cX4_targetOf 6 = .ok (.iload_n 3, 1) := by decide +kernel
theorem dX4_targetOf_7 : decode cX4_targetOf 7 = .ok (.iconst (-1), 1) := by decide +kernel
theorem dX4_targetOf_8 : decode cX4_targetOf 8 = .ok (.if_icmp .eq 14, 3) := by decide +kernel
theorem dX4_targetOf_11 : decode cX4_targetOf 11 = .ok (.aload_n 0, 1) := by decide +kernel
theorem dX4_targetOf_12 : decode cX4_targetOf 12 = .ok (.getfield 25, 3) := by decide +kernel
theorem dX4_targetOf_15 : decode cX4_targetOf 15 = .ok (.iload_n 3, 1) := by decide +kernel
theorem dX4_targetOf_16 : decode cX4_targetOf 16 = .ok (.invokevirtual 65, 3) := by decide +kernel
theorem dX4_targetOf_19 : decode cX4_targetOf 19 = .ok (.ifCond .eq 7, 3) := by decide +kernel
theorem dX4_targetOf_22 : decode cX4_targetOf 22 = .ok (.iconst (-1), 1) := by decide +kernel
theorem dX4_targetOf_23 : decode cX4_targetOf 23 = .ok (.goto 4, 3) := by decide +kernel
theorem dX4_targetOf_26 : decode cX4_targetOf 26 = .ok (.iload_n 3, 1) := by decide +kernel
theorem dX4_targetOf_27 : decode cX4_targetOf 27 = .ok (.ireturn, 1) := by decide +kernel
theorem dX4_departure_0 : decode cX4_departure 0 = .ok (.iload_n 1, 1) := by decide +kernel
theorem dX4_departure_1 : decode cX4_departure 1 = .ok (.ifCond .ne 7, 3) := by decide +kernel
theorem dX4_departure_4 : decode cX4_departure 4 = .ok (.iload_n 0, 1) := by decide +kernel
theorem dX4_departure_5 : decode cX4_departure 5 = .ok (.goto 14, 3) := by decide +kernel
theorem dX4_departure_8 : decode cX4_departure 8 = .ok (.iload_n 0, 1) := by decide +kernel
theorem dX4_departure_9 : decode cX4_departure 9 = .ok (.sipush 360, 3) := by decide +kernel
theorem dX4_departure_12 : decode cX4_departure 12 = .ok (.idiv, 1) := by decide +kernel
theorem dX4_departure_13 : decode cX4_departure 13 = .ok (.iload_n 1, 1) := by decide +kernel
theorem dX4_departure_14 : decode cX4_departure 14 = .ok (.iadd, 1) := by decide +kernel
theorem dX4_departure_15 : decode cX4_departure 15 = .ok (.sipush 360, 3) := by decide +kernel
theorem dX4_departure_18 : decode cX4_departure 18 = .ok (.imul, 1) := by decide +kernel
theorem dX4_departure_19 : decode cX4_departure 19 = .ok (.ireturn, 1) := by decide +kernel
theorem dX4_arrival_0 : decode cX4_arrival 0 = .ok (.aload_n 0, 1) := by decide +kernel
theorem dX4_arrival_1 : decode cX4_arrival 1 = .ok (.getfield 11, 3) := by decide +kernel
theorem dX4_arrival_4 : decode cX4_arrival 4 = .ok (.iload_n 1, 1) := by decide +kernel
theorem dX4_arrival_5 : decode cX4_arrival 5 = .ok (.iaload, 1) := by decide +kernel
theorem dX4_arrival_6 : decode cX4_arrival 6 = .ok (.ifCond .ne 6, 3) := by decide +kernel
theorem dX4_arrival_9 : decode cX4_arrival 9 = .ok (.ldc 69, 2) := by decide +kernel
theorem dX4_arrival_11 : decode cX4_arrival 11 = .ok (.ireturn, 1) := by decide +kernel
theorem dX4_arrival_12 : decode cX4_arrival 12 = .ok (.aload_n 0, 1) := by decide +kernel
theorem dX4_arrival_13 : decode cX4_arrival 13 = .ok (.getfield 15, 3) := by decide +kernel
theorem dX4_arrival_16 : decode cX4_arrival 16 = .ok (.iload_n 1, 1) := by decide +kernel
theorem dX4_arrival_17 : decode cX4_arrival 17 = .ok (.iaload, 1) := by decide +kernel
theorem dX4_arrival_18 : decode cX4_arrival 18 = .ok (.iconst 1, 1) := by decide +kernel
theorem dX4_arrival_19 : decode cX4_arrival 19 = .ok (.iload_n 2, 1) := by decide +kernel
theorem dX4_arrival_20 : decode cX4_arrival 20 = .ok (.isub, 1) := by decide +kernel
theorem dX4_arrival_21 : decode cX4_arrival 21 = .ok (.if_icmp .ne 12, 3) := by decide +kernel
theorem dX4_arrival_24 : decode cX4_arrival 24 = .ok (.aload_n 0, 1) := by decide +kernel
theorem dX4_arrival_25 : decode cX4_arrival 25 = .ok (.getfield 18, 3) := by decide +kernel
theorem dX4_arrival_28 : decode cX4_arrival 28 = .ok (.iload_n 1, 1) := by decide +kernel
theorem dX4_arrival_29 : decode cX4_arrival 29 = .ok (.iaload, 1) := by decide +kernel
theorem dX4_arrival_30 : decode cX4_arrival 30 = .ok (.goto 4, 3) := by decide +kernel
theorem dX4_arrival_33 : decode cX4_arrival 33 = .ok (.iconst 0, 1) := by decide +kernel
theorem dX4_arrival_34 : decode cX4_arrival 34 = .ok (.istore 4, 2) := by decide +kernel
theorem dX4_arrival_36 : decode cX4_arrival 36 = .ok (.iload_n 3, 1) := by decide +kernel
theorem dX4_arrival_37 : decode cX4_arrival 37 = .ok (.aload_n 0, 1) := by decide +kernel
theorem dX4_arrival_38 : decode cX4_arrival 38 = .ok (.getfield 11, 3) := by decide +kernel
theorem dX4_arrival_41 : decode cX4_arrival 41 = .ok (.iload_n 1, 1) := by decide +kernel
theorem dX4_arrival_42 : decode cX4_arrival 42 = .ok (.iaload, 1) := by decide +kernel
theorem dX4_arrival_43 : decode cX4_arrival 43 = .ok (.iadd, 1) := by decide +kernel
theorem dX4_arrival_44 : decode cX4_arrival 44 = .ok (.iload 4, 2) := by decide +kernel
theorem dX4_arrival_46 : decode cX4_arrival 46 = .ok (.iadd, 1) := by decide +kernel
theorem dX4_arrival_47 : decode cX4_arrival 47 = .ok (.ireturn, 1) := by decide +kernel
theorem dX4_sideThen_0 : decode cX4_sideThen 0 = .ok (.aload_n 0, 1) := by decide +kernel
theorem dX4_sideThen_1 : decode cX4_sideThen 1 = .ok (.getfield 15, 3) := by decide +kernel
theorem dX4_sideThen_4 : decode cX4_sideThen 4 = .ok (.iload_n 1, 1) := by decide +kernel
theorem dX4_sideThen_5 : decode cX4_sideThen 5 = .ok (.iaload, 1) := by decide +kernel
theorem dX4_sideThen_6 : decode cX4_sideThen 6 = .ok (.iconst 2, 1) := by decide +kernel
theorem dX4_sideThen_7 : decode cX4_sideThen 7 = .ok (.if_icmp .ne 7, 3) := by decide +kernel
theorem dX4_sideThen_10 : decode cX4_sideThen 10 = .ok (.iload_n 2, 1) := by decide +kernel
theorem dX4_sideThen_11 : decode cX4_sideThen 11 = .ok (.goto 9, 3) := by decide +kernel
theorem dX4_sideThen_14 : decode cX4_sideThen 14 = .ok (.aload_n 0, 1) := by decide +kernel
theorem dX4_sideThen_15 : decode cX4_sideThen 15 = .ok (.getfield 15, 3) := by decide +kernel
theorem dX4_sideThen_18 : decode cX4_sideThen 18 = .ok (.iload_n 1, 1) := by decide +kernel
theorem dX4_sideThen_19 : decode cX4_sideThen 19 = .ok (.iaload, 1) := by decide +kernel
theorem dX4_sideThen_20 : decode cX4_sideThen 20 = .ok (.ireturn, 1) := by decide +kernel
theorem dX4_soonestDeparture_0 : decode cX4_soonestDeparture 0 = .ok (.aload_n 0, 1) := by decide +kernel
theorem dX4_soonestDeparture_1 : decode cX4_soonestDeparture 1 = .ok (.iload_n 1, 1) := by decide +kernel
theorem dX4_soonestDeparture_2 : decode cX4_soonestDeparture 2 = .ok (.iload_n 3, 1) := by decide +kernel
theorem dX4_soonestDeparture_3 : decode cX4_soonestDeparture 3 = .ok (.invokevirtual 70, 3) := by decide +kernel
theorem dX4_soonestDeparture_6 : decode cX4_soonestDeparture 6 = .ok (.iconst (-1), 1) := by decide +kernel
theorem dX4_soonestDeparture_7 : decode cX4_soonestDeparture 7 = .ok (.if_icmp .ne 6, 3) := by decide +kernel
theorem dX4_soonestDeparture_10 : decode cX4_soonestDeparture 10 = .ok (.ldc 69, 2) := by decide +kernel
theorem dX4_soonestDeparture_12 : decode cX4_soonestDeparture 12 = .ok (.ireturn, 1) := by decide +kernel
theorem dX4_soonestDeparture_13 : decode cX4_soonestDeparture 13 = .ok (.ldc 69, 2) := by decide +kernel
theorem dX4_soonestDeparture_15 : decode cX4_soonestDeparture 15 = .ok (.istore 5, 2) := by decide +kernel
theorem dX4_soonestDeparture_17 : decode cX4_soonestDeparture 17 = .ok (.ldc 69, 2) := by decide +kernel
theorem dX4_soonestDeparture_19 : decode cX4_soonestDeparture 19 = .ok (.istore 6, 2) := by decide +kernel
theorem dX4_soonestDeparture_21 : decode cX4_soonestDeparture 21 = .ok (.iconst 0, 1) := by decide +kernel
theorem dX4_soonestDeparture_22 : decode cX4_soonestDeparture 22 = .ok (.istore 7, 2) := by decide +kernel
theorem dX4_soonestDeparture_24 : decode cX4_soonestDeparture 24 = .ok (.iload 7, 2) := by decide +kernel
theorem dX4_soonestDeparture_26 : decode cX4_soonestDeparture 26 = .ok (.iconst 4, 1) := by decide +kernel
theorem dX4_soonestDeparture_27 : decode cX4_soonestDeparture 27 = .ok (.if_icmp .ge 49, 3) := by decide +kernel
theorem dX4_soonestDeparture_30 : decode cX4_soonestDeparture 30 = .ok (.iload 4, 2) := by decide +kernel
theorem dX4_soonestDeparture_32 : decode cX4_soonestDeparture 32 = .ok (.iload 7, 2) := by decide +kernel
theorem dX4_soonestDeparture_34 : decode cX4_soonestDeparture 34 = .ok (.invokestatic 73, 3) := by decide +kernel
theorem dX4_soonestDeparture_37 : decode cX4_soonestDeparture 37 = .ok (.istore 8, 2) := by decide +kernel
theorem dX4_soonestDeparture_39 : decode cX4_soonestDeparture 39 = .ok (.aload_n 0, 1) := by decide +kernel
theorem dX4_soonestDeparture_40 : decode cX4_soonestDeparture 40 = .ok (.iload_n 1, 1) := by decide +kernel
theorem dX4_soonestDeparture_41 : decode cX4_soonestDeparture 41 = .ok (.iload_n 3, 1) := by decide +kernel
theorem dX4_soonestDeparture_42 : decode cX4_soonestDeparture 42 = .ok (.iload 8, 2) := by decide +kernel
theorem dX4_soonestDeparture_44 : decode cX4_soonestDeparture 44 = .ok (.invokestatic 76, 3) := by decide +kernel
theorem dX4_soonestDeparture_47 : decode cX4_soonestDeparture 47 = .ok (.iload_n 2, 1) := by decide +kernel
theorem dX4_soonestDeparture_48 : decode cX4_soonestDeparture 48 = .ok (.iload 8, 2) := by decide +kernel
theorem dX4_soonestDeparture_50 : decode cX4_soonestDeparture 50 = .ok (.invokevirtual 79, 3) := by decide +kernel
theorem dX4_soonestDeparture_53 : decode cX4_soonestDeparture 53 = .ok (.istore 9, 2) := by decide +kernel
theorem dX4_soonestDeparture_55 : decode cX4_soonestDeparture 55 = .ok (.iload 9, 2) := by decide +kernel
theorem dX4_soonestDeparture_57 : decode cX4_soonestDeparture 57 = .ok (.iload 6, 2) := by decide +kernel
theorem dX4_soonestDeparture_59 : decode cX4_soonestDeparture 59 = .ok (.if_icmp .ge 11, 3) := by decide +kernel
theorem dX4_soonestDeparture_62 : decode cX4_soonestDeparture 62 = .ok (.iload 9, 2) := by decide +kernel
theorem dX4_soonestDeparture_64 : decode cX4_soonestDeparture 64 = .ok (.istore 6, 2) := by decide +kernel
theorem dX4_soonestDeparture_66 : decode cX4_soonestDeparture 66 = .ok (.iload 8, 2) := by decide +kernel
theorem dX4_soonestDeparture_68 : decode cX4_soonestDeparture 68 = .ok (.istore 5, 2) := by decide +kernel
theorem dX4_soonestDeparture_70 : decode cX4_soonestDeparture 70 = .ok (.iinc 7 1, 3) := by decide +kernel
theorem dX4_soonestDeparture_73 : decode cX4_soonestDeparture 73 = .ok (.goto (-49), 3) := by decide +kernel
theorem dX4_soonestDeparture_76 : decode cX4_soonestDeparture 76 = .ok (.iload 5, 2) := by decide +kernel
theorem dX4_soonestDeparture_78 : decode cX4_soonestDeparture 78 = .ok (.ireturn, 1) := by decide +kernel
theorem dX5_init_0 : decode cX5_init 0 = .ok (.aload_n 0, 1) := by decide +kernel
theorem dX5_init_1 : decode cX5_init 1 = .ok (.invokespecial 3, 3) := by decide +kernel
theorem dX5_init_4 : decode cX5_init 4 = .ok (.aload_n 0, 1) := by decide +kernel
theorem dX5_init_5 : decode cX5_init 5 = .ok (.iconst 0, 1) := by decide +kernel
theorem dX5_init_6 : decode cX5_init 6 = .ok (.putfield 9, 3) := by decide +kernel
theorem dX5_init_9 : decode cX5_init 9 = .ok (.aload_n 0, 1) := by decide +kernel
theorem dX5_init_10 : decode cX5_init 10 = .ok (.iload_n 1, 1) := by decide +kernel
theorem dX5_init_11 : decode cX5_init 11 = .ok (.newarray .int, 2) := by decide +kernel
theorem dX5_init_13 : decode cX5_init 13 = .ok (.putfield 15, 3) := by decide +kernel
theorem dX5_init_16 : decode cX5_init 16 = .ok (.aload_n 0, 1) := by decide +kernel
theorem dX5_init_17 : decode cX5_init 17 = .ok (.iload_n 1, 1) := by decide +kernel
theorem dX5_init_18 : decode cX5_init 18 = .ok (.newarray .int, 2) := by decide +kernel
theorem dX5_init_20 : decode cX5_init 20 = .ok (.putfield 19, 3) := by decide +kernel
theorem dX5_init_23 : decode cX5_init 23 = .ok (.return_, 1) := by decide +kernel
theorem dX5_size_0 : decode cX5_size 0 = .ok (.aload_n 0, 1) := by decide +kernel
theorem dX5_size_1 : decode cX5_size 1 = .ok (.getfield 9, 3) := by decide +kernel
theorem dX5_size_4 : decode cX5_size 4 = .ok (.ireturn, 1) := by decide +kernel
theorem dX5_first_0 : decode cX5_first 0 = .ok (.iload_n 1, 1) := by decide +kernel
theorem dX5_first_1 : decode cX5_first 1 = .ok (.aload_n 0, 1) := by decide +kernel
theorem dX5_first_2 : decode cX5_first 2 = .ok (.getfield 9, 3) := by decide +kernel
theorem dX5_first_5 : decode cX5_first 5 = .ok (.invokestatic 22, 3) := by decide +kernel
theorem dX5_first_8 : decode cX5_first 8 = .ok (.ifCond .eq 12, 3) := by decide +kernel
theorem dX5_first_11 : decode cX5_first 11 = .ok (.aload_n 0, 1) := by decide +kernel
theorem dX5_first_12 : decode cX5_first 12 = .ok (.getfield 15, 3) := by decide +kernel
theorem dX5_first_15 : decode cX5_first 15 = .ok (.iload_n 1, 1) := by decide +kernel
theorem dX5_first_16 : decode cX5_first 16 = .ok (.iaload, 1) := by decide +kernel
theorem dX5_first_17 : decode cX5_first 17 = .ok (.goto 4, 3) := by decide +kernel
theorem dX5_first_20 : decode cX5_first 20 = .ok (.iconst (-1), 1) := by decide +kernel
theorem dX5_first_21 : decode cX5_first 21 = .ok (.ireturn, 1) := by decide +kernel
theorem dX5_second_0 : decode cX5_second 0 = .ok (.iload_n 1, 1) := by decide +kernel
theorem dX5_second_1 : decode cX5_second 1 = .ok (.aload_n 0, 1) := by decide +kernel
theorem dX5_second_2 : decode cX5_second 2 = .ok (.getfield 9, 3) := by decide +kernel
theorem dX5_second_5 : decode cX5_second 5 = .ok (.invokestatic 22, 3) := by decide +kernel
theorem dX5_second_8 : decode cX5_second 8 = .ok (.ifCond .eq 12, 3) := by decide +kernel
theorem dX5_second_11 : decode cX5_second 11 = .ok (.aload_n 0, 1) := by decide +kernel
theorem dX5_second_12 : decode cX5_second 12 = .ok (.getfield 19, 3) := by decide +kernel
theorem dX5_second_15 : decode cX5_second 15 = .ok (.iload_n 1, 1) := by decide +kernel
theorem dX5_second_16 : decode cX5_second 16 = .ok (.iaload, 1) := by decide +kernel
theorem dX5_second_17 : decode cX5_second 17 = .ok (.goto 4, 3) := by decide +kernel
theorem dX5_second_20 : decode cX5_second 20 = .ok (.iconst (-1), 1) := by decide +kernel
theorem dX5_second_21 : decode cX5_second 21 = .ok (.ireturn, 1) := by decide +kernel
theorem dX5_add_0 : decode cX5_add 0 = .ok (.aload_n 0, 1) := by decide +kernel
theorem dX5_add_1 : decode cX5_add 1 = .ok (.getfield 9, 3) := by decide +kernel
theorem dX5_add_4 : decode cX5_add 4 = .ok (.aload_n 0, 1) := by decide +kernel
theorem dX5_add_5 : decode cX5_add 5 = .ok (.getfield 15, 3) := by decide +kernel
theorem dX5_add_8 : decode cX5_add 8 = .ok (.arraylength, 1) := by decide +kernel
theorem dX5_add_9 : decode cX5_add 9 = .ok (.if_icmp .lt 6, 3) := by decide +kernel
theorem dX5_add_12 : decode cX5_add 12 = .ok (.bipush (-4), 2) := by decide +kernel
theorem dX5_add_14 : decode cX5_add 14 = .ok (.ireturn, 1) := by decide +kernel
theorem dX5_add_15 : decode cX5_add 15 = .ok (.aload_n 0, 1) := by decide +kernel
theorem dX5_add_16 : decode cX5_add 16 = .ok (.getfield 15, 3) := by decide +kernel
theorem dX5_add_19 : decode cX5_add 19 = .ok (.aload_n 0, 1) := by decide +kernel
theorem dX5_add_20 : decode cX5_add 20 = .ok (.getfield 9, 3) := by decide +kernel
theorem dX5_add_23 : decode cX5_add 23 = .ok (.iload_n 1, 1) := by decide +kernel
theorem dX5_add_24 : decode cX5_add 24 = .ok (.iastore, 1) := by decide +kernel
theorem dX5_add_25 : decode cX5_add 25 = .ok (.aload_n 0, 1) := by decide +kernel
theorem dX5_add_26 : decode cX5_add 26 = .ok (.getfield 19, 3) := by decide +kernel
theorem dX5_add_29 : decode cX5_add 29 = .ok (.aload_n 0, 1) := by decide +kernel
theorem dX5_add_30 : decode cX5_add 30 = .ok (.getfield 9, 3) := by decide +kernel
theorem dX5_add_33 : decode cX5_add 33 = .ok (.iload_n 2, 1) := by decide +kernel
theorem dX5_add_34 : decode cX5_add 34 = .ok (.iastore, 1) := by decide +kernel
theorem dX5_add_35 : decode cX5_add 35 = .ok (.aload_n 0, 1) := by decide +kernel
theorem dX5_add_36 : decode cX5_add 36 = .ok (.dup, 1) := by decide +kernel
theorem dX5_add_37 : decode cX5_add 37 = .ok (.getfield 9, 3) := by decide +kernel
theorem dX5_add_40 : decode cX5_add 40 = .ok (.iconst 1, 1) := by decide +kernel
theorem dX5_add_41 : decode cX5_add 41 = .ok (.iadd, 1) := by decide +kernel
theorem dX5_add_42 : decode cX5_add 42 = .ok (.putfield 9, 3) := by decide +kernel
theorem dX5_add_45 : decode cX5_add 45 = .ok (.aload_n 0, 1) := by decide +kernel
theorem dX5_add_46 : decode cX5_add 46 = .ok (.getfield 9, 3) := by decide +kernel
theorem dX5_add_49 : decode cX5_add 49 = .ok (.ireturn, 1) := by decide +kernel
theorem dX5_clear_0 : decode cX5_clear 0 = .ok (.aload_n 0, 1) := by decide +kernel
theorem dX5_clear_1 : decode cX5_clear 1 = .ok (.iconst 0, 1) := by decide +kernel
theorem dX5_clear_2 : decode cX5_clear 2 = .ok (.putfield 9, 3) := by decide +kernel
theorem dX5_clear_5 : decode cX5_clear 5 = .ok (.iconst 0, 1) := by decide +kernel
theorem dX5_clear_6 : decode cX5_clear 6 = .ok (.ireturn, 1) := by decide +kernel
theorem dX5_becomeLike_0 : decode cX5_becomeLike 0 = .ok (.aload_n 0, 1) := by decide +kernel
theorem dX5_becomeLike_1 : decode cX5_becomeLike 1 = .ok (.invokevirtual 26, 3) := by decide +kernel
theorem dX5_becomeLike_4 : decode cX5_becomeLike 4 = .ok (.pop, 1) := by decide +kernel
theorem dX5_becomeLike_5 : decode cX5_becomeLike 5 = .ok (.iconst 0, 1) := by decide +kernel
theorem dX5_becomeLike_6 : decode cX5_becomeLike 6 = .ok (.istore_n 2, 1) := by decide +kernel
theorem dX5_becomeLike_7 : decode cX5_becomeLike 7 = .ok (.iload_n 2, 1) := by decide +kernel
theorem dX5_becomeLike_8 : decode cX5_becomeLike 8 = .ok (.aload_n 1, 1) := by decide +kernel
theorem dX5_becomeLike_9 : decode cX5_becomeLike 9 = .ok (.getfield 9, 3) := by decide +kernel
theorem dX5_becomeLike_12 : decode cX5_becomeLike 12 = .ok (.if_icmp .ge 26, 3) := by decide +kernel
theorem dX5_becomeLike_15 : decode cX5_becomeLike 15 = .ok (.aload_n 0, 1) := by decide +kernel
theorem dX5_becomeLike_16 : decode cX5_becomeLike 16 = .ok (.aload_n 1, 1) := by decide +kernel
theorem dX5_becomeLike_17 : decode cX5_becomeLike 17 = .ok (.getfield 15, 3) := by decide +kernel
theorem dX5_becomeLike_20 : decode cX5_becomeLike 20 = .ok (.iload_n 2, 1) := by decide +kernel
theorem dX5_becomeLike_21 : decode cX5_becomeLike 21 = .ok (.iaload, 1) := by decide +kernel
theorem dX5_becomeLike_22 : decode cX5_becomeLike 22 = .ok (.aload_n 1, 1) := by decide +kernel
theorem dX5_becomeLike_23 : decode cX5_becomeLike 23 = .ok (.getfield 19, 3) := by decide +kernel
theorem dX5_becomeLike_26 : decode cX5_becomeLike 26 = .ok (.iload_n 2, 1) := by decide +kernel
theorem dX5_becomeLike_27 : decode cX5_becomeLike 27 = .ok (.iaload, 1) := by decide +kernel
theorem dX5_becomeLike_28 : decode cX5_becomeLike 28 = .ok (.invokevirtual 30, 3) := by decide +kernel
theorem dX5_becomeLike_31 : decode cX5_becomeLike 31 = .ok (.pop, 1) := by decide +kernel
theorem dX5_becomeLike_32 : decode cX5_becomeLike 32 = .ok (.iinc 2 1, 3) := by decide +kernel
theorem dX5_becomeLike_35 : decode cX5_becomeLike 35 = .ok (.goto (-28), 3) := by decide +kernel
theorem dX5_becomeLike_38 : decode cX5_becomeLike 38 = .ok (.return_, 1) := by decide +kernel
theorem dX6_init_0 : decode cX6_init 0 = .ok (.aload_n 0, 1) := by decide +kernel
theorem dX6_init_1 : decode cX6_init 1 = .ok (.invokespecial 3, 3) := by decide +kernel
theorem dX6_init_4 : decode cX6_init 4 = .ok (.aload_n 0, 1) := by decide +kernel
theorem dX6_init_5 : decode cX6_init 5 = .ok (.bipush 16, 2) := by decide +kernel
theorem dX6_init_7 : decode cX6_init 7 = .ok (.newarray .int, 2) := by decide +kernel
theorem dX6_init_9 : decode cX6_init 9 = .ok (.putfield 9, 3) := by decide +kernel
theorem dX6_init_12 : decode cX6_init 12 = .ok (.aload_n 0, 1) := by decide +kernel
theorem dX6_init_13 : decode cX6_init 13 = .ok (.bipush 16, 2) := by decide +kernel
theorem dX6_init_15 : decode cX6_init 15 = .ok (.newarray .int, 2) := by decide +kernel
theorem dX6_init_17 : decode cX6_init 17 = .ok (.putfield 15, 3) := by decide +kernel
theorem dX6_init_20 : decode cX6_init 20 = .ok (.aload_n 0, 1) := by decide +kernel
theorem dX6_init_21 : decode cX6_init 21 = .ok (.iconst 4, 1) := by decide +kernel
theorem dX6_init_22 : decode cX6_init 22 = .ok (.newarray .int, 2) := by decide +kernel
theorem dX6_init_24 : decode cX6_init 24 = .ok (.putfield 18, 3) := by decide +kernel
theorem dX6_init_27 : decode cX6_init 27 = .ok (.aload_n 0, 1) := by decide +kernel
theorem dX6_init_28 : decode cX6_init 28 = .ok (.iconst 4, 1) := by decide +kernel
theorem dX6_init_29 : decode cX6_init 29 = .ok (.newarray .int, 2) := by decide +kernel
theorem dX6_init_31 : decode cX6_init 31 = .ok (.putfield 21, 3) := by decide +kernel
theorem dX6_init_34 : decode cX6_init 34 = .ok (.aload_n 0, 1) := by decide +kernel
theorem dX6_init_35 : decode cX6_init 35 = .ok (.getstatic 24, 3) := by decide +kernel
theorem dX6_init_38 : decode cX6_init 38 = .ok (.arraylength, 1) := by decide +kernel
theorem dX6_init_39 : decode cX6_init 39 = .ok (.newarray .int, 2) := by decide +kernel
theorem dX6_init_41 : decode cX6_init 41 = .ok (.putfield 27, 3) := by decide +kernel
theorem dX6_init_44 : decode cX6_init 44 = .ok (.aload_n 0, 1) := by decide +kernel
theorem dX6_init_45 : decode cX6_init 45 = .ok (.iconst 2, 1) := by decide +kernel
theorem dX6_init_46 : decode cX6_init 46 = .ok (.newarray .int, 2) := by decide +kernel
theorem dX6_init_48 : decode cX6_init 48 = .ok (.putfield 30, 3) := by decide +kernel
theorem dX6_init_51 : decode cX6_init 51 = .ok (.aload_n 0, 1) := by decide +kernel
theorem dX6_init_52 : decode cX6_init 52 = .ok (.lconst 0, 1) := by decide +kernel
theorem dX6_init_53 : decode cX6_init 53 = .ok (.putfield 33, 3) := by decide +kernel
theorem dX6_init_56 : decode cX6_init 56 = .ok (.aload_n 0, 1) := by decide +kernel
theorem dX6_init_57 : decode cX6_init 57 = .ok (.iconst 0, 1) := by decide +kernel
theorem dX6_init_58 : decode cX6_init 58 = .ok (.putfield 37, 3) := by decide +kernel
theorem dX6_init_61 : decode cX6_init 61 = .ok (.aload_n 0, 1) := by decide +kernel
theorem dX6_init_62 : decode cX6_init 62 = .ok (.iconst 0, 1) := by decide +kernel
theorem dX6_init_63 : decode cX6_init 63 = .ok (.putfield 41, 3) := by decide +kernel
theorem dX6_init_66 : decode cX6_init 66 = .ok (.aload_n 0, 1) := by decide +kernel
theorem dX6_init_67 : decode cX6_init 67 = .ok (.iconst 0, 1) := by decide +kernel
theorem dX6_init_68 : decode cX6_init 68 = .ok (.putfield 44, 3) := by decide +kernel
theorem dX6_init_71 : decode cX6_init 71 = .ok (.aload_n 0, 1) := by decide +kernel
theorem dX6_init_72 : decode cX6_init 72 = .ok (.iconst 0, 1) := by decide +kernel
theorem dX6_init_73 : decode cX6_init 73 = .ok (.putfield 47, 3) := by decide +kernel
theorem dX6_init_76 : decode cX6_init 76 = .ok (.aload_n 0, 1) := by decide +kernel
theorem dX6_init_77 : decode cX6_init 77 = .ok (.getfield 15, 3) := by decide +kernel
theorem dX6_init_80 : decode cX6_init 80 = .ok (.iconst 2, 1) := by decide +kernel
theorem dX6_init_81 : decode cX6_init 81 = .ok (.invokestatic 50, 3) := by decide +kernel
theorem dX6_init_84 : decode cX6_init 84 = .ok (.getstatic 24, 3) := by decide +kernel
theorem dX6_init_87 : decode cX6_init 87 = .ok (.iconst 0, 1) := by decide +kernel
theorem dX6_init_88 : decode cX6_init 88 = .ok (.aload_n 0, 1) := by decide +kernel
theorem dX6_init_89 : decode cX6_init 89 = .ok (.getfield 27, 3) := by decide +kernel
theorem dX6_init_92 : decode cX6_init 92 = .ok (.iconst 0, 1) := by decide +kernel
theorem dX6_init_93 : decode cX6_init 93 = .ok (.getstatic 24, 3) := by decide +kernel
theorem dX6_init_96 : decode cX6_init 96 = .ok (.arraylength, 1) := by decide +kernel
theorem dX6_init_97 : decode cX6_init 97 = .ok (.invokestatic 56, 3) := by decide +kernel
theorem dX6_init_100 : decode cX6_init 100 = .ok (.aload_n 0, 1) := by decide +kernel
theorem dX6_init_101 : decode cX6_init 101 = .ok (.getfield 30, 3) := by decide +kernel
theorem dX6_init_104 : decode cX6_init 104 = .ok (.iconst 0, 1) := by decide +kernel
theorem dX6_init_105 : decode cX6_init 105 = .ok (.iconst 5, 1) := by decide +kernel
theorem dX6_init_106 : decode cX6_init 106 = .ok (.iastore, 1) := by decide +kernel
theorem dX6_init_107 : decode cX6_init 107 = .ok (.aload_n 0, 1) := by decide +kernel
theorem dX6_init_108 : decode cX6_init 108 = .ok (.getfield 30, 3) := by decide +kernel
theorem dX6_init_111 : decode cX6_init 111 = .ok (.iconst 1, 1) := by decide +kernel
theorem dX6_init_112 : decode cX6_init 112 = .ok (.bipush 9, 2) := by decide +kernel
theorem dX6_init_114 : decode cX6_init 114 = .ok (.iastore, 1) := by decide +kernel
theorem dX6_init_115 : decode cX6_init 115 = .ok (.return_, 1) := by decide +kernel
theorem dX6_becomeLike_0 : decode cX6_becomeLike 0 = .ok (.aload_n 1, 1) := by decide +kernel
theorem dX6_becomeLike_1 : decode cX6_becomeLike 1 = .ok (.getfield 9, 3) := by decide +kernel
theorem dX6_becomeLike_4 : decode cX6_becomeLike 4 = .ok (.iconst 0, 1) := by decide +kernel
theorem dX6_becomeLike_5 : decode cX6_becomeLike 5 = .ok (.aload_n 0, 1) := by decide +kernel
theorem dX6_becomeLike_6 : decode cX6_becomeLike 6 = .ok (.getfield 9, 3) := by decide +kernel
theorem dX6_becomeLike_9 : decode cX6_becomeLike 9 = .ok (.iconst 0, 1) := by decide +kernel
theorem dX6_becomeLike_10 : decode cX6_becomeLike 10 = .ok (.aload_n 0, 1) := by decide +kernel
theorem dX6_becomeLike_11 : decode cX6_becomeLike 11 = .ok (.getfield 9, 3) := by decide +kernel
theorem dX6_becomeLike_14 : decode cX6_becomeLike 14 = .ok (.arraylength, 1) := by decide +kernel
theorem dX6_becomeLike_15 : decode cX6_becomeLike 15 = .ok (.invokestatic 56, 3) := by decide +kernel
theorem dX6_becomeLike_18 : decode cX6_becomeLike 18 = .ok (.aload_n 1, 1) := by decide +kernel
theorem dX6_becomeLike_19 : decode cX6_becomeLike 19 = .ok (.getfield 15, 3) := by decide +kernel
theorem dX6_becomeLike_22 : decode cX6_becomeLike 22 = .ok (.iconst 0, 1) := by decide +kernel
theorem dX6_becomeLike_23 : decode cX6_becomeLike 23 = .ok (.aload_n 0, 1) := by decide +kernel
theorem dX6_becomeLike_24 : decode cX6_becomeLike 24 = .ok (.getfield 15, 3) := by decide +kernel
theorem dX6_becomeLike_27 : decode cX6_becomeLike 27 = .ok (.iconst 0, 1) := by decide +kernel
theorem dX6_becomeLike_28 : decode cX6_becomeLike 28 = .ok (.aload_n 0, 1) := by decide +kernel
theorem dX6_becomeLike_29 : decode cX6_becomeLike 29 = .ok (.getfield 15, 3) := by decide +kernel
theorem dX6_becomeLike_32 : decode cX6_becomeLike 32 = .ok (.arraylength, 1) := by decide +kernel
theorem dX6_becomeLike_33 : decode cX6_becomeLike 33 = .ok (.invokestatic 56, 3) := by decide +kernel
theorem dX6_becomeLike_36 : decode cX6_becomeLike 36 = .ok (.aload_n 1, 1) := by decide +kernel
theorem dX6_becomeLike_37 : decode cX6_becomeLike 37 = .ok (.getfield 18, 3) := by decide +kernel
theorem dX6_becomeLike_40 : decode cX6_becomeLike 40 = .ok (.iconst 0, 1) := by decide +kernel
theorem dX6_becomeLike_41 : decode cX6_becomeLike 41 = .ok (.aload_n 0, 1) := by decide +kernel
theorem dX6_becomeLike_42 : decode cX6_becomeLike 42 = .ok (.getfield 18, 3) := by decide +kernel
theorem dX6_becomeLike_45 : decode cX6_becomeLike 45 = .ok (.iconst 0, 1) := by decide +kernel
theorem dX6_becomeLike_46 : decode cX6_becomeLike 46 = .ok (.aload_n 0, 1) := by decide +kernel
theorem dX6_becomeLike_47 : decode cX6_becomeLike 47 = .ok (.getfield 18, 3) := by decide +kernel
theorem dX6_becomeLike_50 : decode cX6_becomeLike 50 = .ok (.arraylength, 1) := by decide +kernel
theorem dX6_becomeLike_51 : decode cX6_becomeLike 51 = .ok (.invokestatic 56, 3) := by decide +kernel
theorem dX6_becomeLike_54 : decode cX6_becomeLike 54 = .ok (.aload_n 1, 1) := by decide +kernel
theorem dX6_becomeLike_55 : decode cX6_becomeLike 55 = .ok (.getfield 21, 3) := by decide +kernel
theorem dX6_becomeLike_58 : decode cX6_becomeLike 58 = .ok (.iconst 0, 1) := by decide +kernel
theorem dX6_becomeLike_59 : decode cX6_becomeLike 59 = .ok (.aload_n 0, 1) := by decide +kernel
theorem dX6_becomeLike_60 : decode cX6_becomeLike 60 = .ok (.getfield 21, 3) := by decide +kernel
theorem dX6_becomeLike_63 : decode cX6_becomeLike 63 = .ok (.iconst 0, 1) := by decide +kernel
theorem dX6_becomeLike_64 : decode cX6_becomeLike 64 = .ok (.aload_n 0, 1) := by decide +kernel
theorem dX6_becomeLike_65 : decode cX6_becomeLike 65 = .ok (.getfield 21, 3) := by decide +kernel
theorem dX6_becomeLike_68 : decode cX6_becomeLike 68 = .ok (.arraylength, 1) := by decide +kernel
theorem dX6_becomeLike_69 : decode cX6_becomeLike 69 = .ok (.invokestatic 56, 3) := by decide +kernel
theorem dX6_becomeLike_72 : decode cX6_becomeLike 72 = .ok (.aload_n 1, 1) := by decide +kernel
theorem dX6_becomeLike_73 : decode cX6_becomeLike 73 = .ok (.getfield 27, 3) := by decide +kernel
theorem dX6_becomeLike_76 : decode cX6_becomeLike 76 = .ok (.iconst 0, 1) := by decide +kernel
theorem dX6_becomeLike_77 : decode cX6_becomeLike 77 = .ok (.aload_n 0, 1) := by decide +kernel
theorem dX6_becomeLike_78 : decode cX6_becomeLike 78 = .ok (.getfield 27, 3) := by decide +kernel
theorem dX6_becomeLike_81 : decode cX6_becomeLike 81 = .ok (.iconst 0, 1) := by decide +kernel
theorem dX6_becomeLike_82 : decode cX6_becomeLike 82 = .ok (.aload_n 0, 1) := by decide +kernel
theorem dX6_becomeLike_83 : decode cX6_becomeLike 83 = .ok (.getfield 27, 3) := by decide +kernel
theorem dX6_becomeLike_86 : decode cX6_becomeLike 86 = .ok (.arraylength, 1) := by decide +kernel
theorem dX6_becomeLike_87 : decode cX6_becomeLike 87 = .ok (.invokestatic 56, 3) := by decide +kernel
theorem dX6_becomeLike_90 : decode cX6_becomeLike 90 = .ok (.aload_n 1, 1) := by decide +kernel
theorem dX6_becomeLike_91 : decode cX6_becomeLike 91 = .ok (.getfield 30, 3) := by decide +kernel
theorem dX6_becomeLike_94 : decode cX6_becomeLike 94 = .ok (.iconst 0, 1) := by decide +kernel
theorem dX6_becomeLike_95 : decode cX6_becomeLike 95 = .ok (.aload_n 0, 1) := by decide +kernel
theorem dX6_becomeLike_96 : decode cX6_becomeLike 96 = .ok (.getfield 30, 3) := by decide +kernel
theorem dX6_becomeLike_99 : decode cX6_becomeLike 99 = .ok (.iconst 0, 1) := by decide +kernel
theorem dX6_becomeLike_100 : decode cX6_becomeLike 100 = .ok (.aload_n 0, 1) := by decide +kernel
theorem dX6_becomeLike_101 : decode cX6_becomeLike 101 = .ok (.getfield 30, 3) := by decide +kernel
theorem dX6_becomeLike_104 : decode cX6_becomeLike 104 = .ok (.arraylength, 1) := by decide +kernel
theorem dX6_becomeLike_105 : decode cX6_becomeLike 105 = .ok (.invokestatic 56, 3) := by decide +kernel
theorem dX6_becomeLike_108 : decode cX6_becomeLike 108 = .ok (.aload_n 0, 1) := by decide +kernel
theorem dX6_becomeLike_109 : decode cX6_becomeLike 109 = .ok (.aload_n 1, 1) := by decide +kernel
theorem dX6_becomeLike_110 : decode cX6_becomeLike 110 = .ok (.getfield 33, 3) := by decide +kernel
theorem dX6_becomeLike_113 : decode cX6_becomeLike 113 = .ok (.putfield 33, 3) := by decide +kernel
theorem dX6_becomeLike_116 : decode cX6_becomeLike 116 = .ok (.aload_n 0, 1) := by decide +kernel
theorem dX6_becomeLike_117 : decode cX6_becomeLike 117 = .ok (.aload_n 1, 1) := by decide +kernel
theorem dX6_becomeLike_118 : decode cX6_becomeLike 118 = .ok (.getfield 37, 3) := by decide +kernel
theorem dX6_becomeLike_121 : decode cX6_becomeLike 121 = .ok (.putfield 37, 3) := by decide +kernel
theorem dX6_becomeLike_124 : decode cX6_becomeLike 124 = .ok (.aload_n 0, 1) := by decide +kernel
theorem dX6_becomeLike_125 : decode cX6_becomeLike 125 = .ok (.aload_n 1, 1) := by decide +kernel
theorem dX6_becomeLike_126 : decode cX6_becomeLike 126 = .ok (.getfield 41, 3) := by decide +kernel
theorem dX6_becomeLike_129 : decode cX6_becomeLike 129 = .ok (.putfield 41, 3) := by decide +kernel
theorem dX6_becomeLike_132 : decode cX6_becomeLike 132 = .ok (.aload_n 0, 1) := by decide +kernel
theorem dX6_becomeLike_133 : decode cX6_becomeLike 133 = .ok (.aload_n 1, 1) := by decide +kernel
theorem dX6_becomeLike_134 : decode cX6_becomeLike 134 = .ok (.getfield 44, 3) := by decide +kernel
theorem dX6_becomeLike_137 : decode cX6_becomeLike 137 = .ok (.putfield 44, 3) := by decide +kernel
theorem dX6_becomeLike_140 : decode cX6_becomeLike 140 = .ok (.aload_n 0, 1) := by decide +kernel
theorem dX6_becomeLike_141 : decode cX6_becomeLike 141 = .ok (.dup, 1) := by decide +kernel
theorem dX6_becomeLike_142 : decode cX6_becomeLike 142 = .ok (.getfield 47, 3) := by decide +kernel
theorem dX6_becomeLike_145 : decode cX6_becomeLike 145 = .ok (.iconst 1, 1) := by decide +kernel
theorem dX6_becomeLike_146 : decode cX6_becomeLike 146 = .ok (.iadd, 1) := by decide +kernel
theorem dX6_becomeLike_147 : decode cX6_becomeLike 147 = .ok (.putfield 47, 3) := by decide +kernel
theorem dX6_becomeLike_150 : decode cX6_becomeLike 150 = .ok (.return_, 1) := by decide +kernel
theorem dX6_fromIn_0 : decode cX6_fromIn 0 = .ok (.aload_n 0, 1) := by decide +kernel
theorem dX6_fromIn_1 : decode cX6_fromIn 1 = .ok (.getfield 9, 3) := by decide +kernel
theorem dX6_fromIn_4 : decode cX6_fromIn 4 = .ok (.iload_n 1, 1) := by decide +kernel
theorem dX6_fromIn_5 : decode cX6_fromIn 5 = .ok (.iconst 4, 1) := by decide +kernel
theorem dX6_fromIn_6 : decode cX6_fromIn 6 = .ok (.imul, 1) := by decide +kernel
theorem dX6_fromIn_7 : decode cX6_fromIn 7 = .ok (.iload_n 2, 1) := by decide +kernel
theorem dX6_fromIn_8 : decode cX6_fromIn 8 = .ok (.iadd, 1) := by decide +kernel
theorem dX6_fromIn_9 : decode cX6_fromIn 9 = .ok (.iaload, 1) := by decide +kernel
theorem dX6_fromIn_10 : decode cX6_fromIn 10 = .ok (.ireturn, 1) := by decide +kernel
theorem dX6_forceIn_0 : decode cX6_forceIn 0 = .ok (.aload_n 0, 1) := by decide +kernel
theorem dX6_forceIn_1 : decode cX6_forceIn 1 = .ok (.getfield 15, 3) := by decide +kernel
theorem dX6_forceIn_4 : decode cX6_forceIn 4 = .ok (.iload_n 1, 1) := by decide +kernel
theorem dX6_forceIn_5 : decode cX6_forceIn 5 = .ok (.iconst 4, 1) := by decide +kernel
theorem dX6_forceIn_6 : decode cX6_forceIn 6 = .ok (.imul, 1) := by decide +kernel
theorem dX6_forceIn_7 : decode cX6_forceIn 7 = .ok (.iload_n 2, 1) := by decide +kernel
theorem dX6_forceIn_8 : decode cX6_forceIn 8 = .ok (.iadd, 1) := by decide +kernel
theorem dX6_forceIn_9 : decode cX6_forceIn 9 = .ok (.iaload, 1) := by decide +kernel
theorem dX6_forceIn_10 : decode cX6_forceIn 10 = .ok (.ireturn, 1) := by decide +kernel
theorem dX6_putWind_0 : decode cX6_putWind 0 = .ok (.aload_n 0, 1) := by decide +kernel
theorem dX6_putWind_1 : decode cX6_putWind 1 = .ok (.getfield 9, 3) := by decide +kernel
theorem dX6_putWind_4 : decode cX6_putWind 4 = .ok (.iload_n 1, 1) := by decide +kernel
theorem dX6_putWind_5 : decode cX6_putWind 5 = .ok (.iconst 4, 1) := by decide +kernel
theorem dX6_putWind_6 : decode cX6_putWind 6 = .ok (.imul, 1) := by decide +kernel
theorem dX6_putWind_7 : decode cX6_putWind 7 = .ok (.iload_n 2, 1) := by decide +kernel
theorem dX6_putWind_8 : decode cX6_putWind 8 = .ok (.iadd, 1) := by decide +kernel
theorem dX6_putWind_9 : decode cX6_putWind 9 = .ok (.iload_n 3, 1) := by decide +kernel
theorem dX6_putWind_10 : decode cX6_putWind 10 = .ok (.iastore, 1) := by decide +kernel
theorem dX6_putWind_11 : decode cX6_putWind 11 = .ok (.aload_n 0, 1) := by decide +kernel
theorem dX6_putWind_12 : decode cX6_putWind 12 = .ok (.getfield 15, 3) := by decide +kernel
theorem dX6_putWind_15 : decode cX6_putWind 15 = .ok (.iload_n 1, 1) := by decide +kernel
theorem dX6_putWind_16 : decode cX6_putWind 16 = .ok (.iconst 4, 1) := by decide +kernel
theorem dX6_putWind_17 : decode cX6_putWind 17 = .ok (.imul, 1) := by decide +kernel
theorem dX6_putWind_18 : decode cX6_putWind 18 = .ok (.iload_n 2, 1) := by decide +kernel
theorem dX6_putWind_19 : decode cX6_putWind 19 = .ok (.iadd, 1) := by decide +kernel
theorem dX6_putWind_20 : decode cX6_putWind 20 = .ok (.iload 4, 2) := by decide +kernel
theorem dX6_putWind_22 : decode cX6_putWind 22 = .ok (.iastore, 1) := by decide +kernel
theorem dX6_putWind_23 : decode cX6_putWind 23 = .ok (.aload_n 0, 1) := by decide +kernel
theorem dX6_putWind_24 : decode cX6_putWind 24 = .ok (.dup, 1) := by decide +kernel
theorem dX6_putWind_25 : decode cX6_putWind 25 = .ok (.getfield 47, 3) := by decide +kernel
theorem dX6_putWind_28 : decode cX6_putWind 28 = .ok (.iconst 1, 1) := by decide +kernel
theorem dX6_putWind_29 : decode cX6_putWind 29 = .ok (.iadd, 1) := by decide +kernel
theorem dX6_putWind_30 : decode cX6_putWind 30 = .ok (.putfield 47, 3) := by decide +kernel
theorem dX6_putWind_33 : decode cX6_putWind 33 = .ok (.return_, 1) := by decide +kernel
theorem dX6_toIn_0 : decode cX6_toIn 0 = .ok (.aload_n 0, 1) := by decide +kernel
theorem dX6_toIn_1 : decode cX6_toIn 1 = .ok (.getfield 18, 3) := by decide +kernel
theorem dX6_toIn_4 : decode cX6_toIn 4 = .ok (.iload_n 1, 1) := by decide +kernel
theorem dX6_toIn_5 : decode cX6_toIn 5 = .ok (.iaload, 1) := by decide +kernel
theorem dX6_toIn_6 : decode cX6_toIn 6 = .ok (.ireturn, 1) := by decide +kernel
theorem dX6_rateIn_0 : decode cX6_rateIn 0 = .ok (.aload_n 0, 1) := by decide +kernel
theorem dX6_rateIn_1 : decode cX6_rateIn 1 = .ok (.getfield 21, 3) := by decide +kernel
theorem dX6_rateIn_4 : decode cX6_rateIn 4 = .ok (.iload_n 1, 1) := by decide +kernel
theorem dX6_rateIn_5 : decode cX6_rateIn 5 = .ok (.iaload, 1) := by decide +kernel
theorem dX6_rateIn_6 : decode cX6_rateIn 6 = .ok (.ireturn, 1) := by decide +kernel
theorem dX6_putCurrent_0 : decode cX6_putCurrent 0 = .ok (.aload_n 0, 1) := by decide +kernel
theorem dX6_putCurrent_1 : decode cX6_putCurrent 1 = .ok (.getfield 18, 3) := by decide +kernel
theorem dX6_putCurrent_4 : decode cX6_putCurrent 4 = .ok (.iload_n 1, 1) := by decide +kernel
theorem dX6_putCurrent_5 : decode cX6_putCurrent 5 = .ok (.iload_n 2, 1) := by decide +kernel
theorem dX6_putCurrent_6 : decode cX6_putCurrent 6 = .ok (.iastore, 1) := by decide +kernel
theorem dX6_putCurrent_7 : decode cX6_putCurrent 7 = .ok (.aload_n 0, 1) := by decide +kernel
theorem dX6_putCurrent_8 : decode cX6_putCurrent 8 = .ok (.getfield 21, 3) := by decide +kernel
theorem dX6_putCurrent_11 : decode cX6_putCurrent 11 = .ok (.iload_n 1, 1) := by decide +kernel
theorem dX6_putCurrent_12 : decode cX6_putCurrent 12 = .ok (.iload_n 3, 1) := by decide +kernel
theorem dX6_putCurrent_13 : decode cX6_putCurrent 13 = .ok (.iastore, 1) := by decide +kernel
theorem dX6_putCurrent_14 : decode cX6_putCurrent 14 = .ok (.aload_n 0, 1) := by decide +kernel
theorem dX6_putCurrent_15 : decode cX6_putCurrent 15 = .ok (.dup, 1) := by decide +kernel
theorem dX6_putCurrent_16 : decode cX6_putCurrent 16 = .ok (.getfield 47, 3) := by decide +kernel
theorem dX6_putCurrent_19 : decode cX6_putCurrent 19 = .ok (.iconst 1, 1) := by decide +kernel
theorem dX6_putCurrent_20 : decode cX6_putCurrent 20 = .ok (.iadd, 1) := by decide +kernel
theorem dX6_putCurrent_21 : decode cX6_putCurrent 21 = .ok (.putfield 47, 3) := by decide +kernel
theorem dX6_putCurrent_24 : decode cX6_putCurrent 24 = .ok (.return_, 1) := by decide +kernel
theorem dX6_speedBy_0 : decode cX6_speedBy 0 = .ok (.iload_n 1, 1) := by decide +kernel
theorem dX6_speedBy_1 : decode cX6_speedBy 1 = .ok (.ifCond .ne 7, 3) := by decide +kernel
theorem dX6_speedBy_4 : decode cX6_speedBy 4 = .ok (.iconst 0, 1) := by decide +kernel
theorem dX6_speedBy_5 : decode cX6_speedBy 5 = .ok (.goto 15, 3) := by decide +kernel
theorem dX6_speedBy_8 : decode cX6_speedBy 8 = .ok (.aload_n 0, 1) := by decide +kernel
theorem dX6_speedBy_9 : decode cX6_speedBy 9 = .ok (.getfield 27, 3) := by decide +kernel
theorem dX6_speedBy_12 : decode cX6_speedBy 12 = .ok (.iload_n 1, 1) := by decide +kernel
theorem dX6_speedBy_13 : decode cX6_speedBy 13 = .ok (.iconst 1, 1) := by decide +kernel
theorem dX6_speedBy_14 : decode cX6_speedBy 14 = .ok (.isub, 1) := by decide +kernel
theorem dX6_speedBy_15 : decode cX6_speedBy 15 = .ok (.iconst 5, 1) := by decide +kernel
theorem dX6_speedBy_16 : decode cX6_speedBy 16 = .ok (.imul, 1) := by decide +kernel
theorem dX6_speedBy_17 : decode cX6_speedBy 17 = .ok (.iload_n 2, 1) := by decide +kernel
theorem dX6_speedBy_18 : decode cX6_speedBy 18 = .ok (.iadd, 1) := by decide +kernel
theorem dX6_speedBy_19 : decode cX6_speedBy 19 = .ok (.iaload, 1) := by decide +kernel
theorem dX6_speedBy_20 : decode cX6_speedBy 20 = .ok (.ireturn, 1) := by decide +kernel
theorem dX6_putSpeed_0 : decode cX6_putSpeed 0 = .ok (.aload_n 0, 1) := by decide +kernel
theorem dX6_putSpeed_1 : decode cX6_putSpeed 1 = .ok (.getfield 27, 3) := by decide +kernel
theorem dX6_putSpeed_4 : decode cX6_putSpeed 4 = .ok (.iload_n 1, 1) := by decide +kernel
theorem dX6_putSpeed_5 : decode cX6_putSpeed 5 = .ok (.iconst 1, 1) := by decide +kernel
theorem dX6_putSpeed_6 : decode cX6_putSpeed 6 = .ok (.isub, 1) := by decide +kernel
theorem dX6_putSpeed_7 : decode cX6_putSpeed 7 = .ok (.iconst 5, 1) := by decide +kernel
theorem dX6_putSpeed_8 : decode cX6_putSpeed 8 = .ok (.imul, 1) := by decide +kernel
theorem dX6_putSpeed_9 : decode cX6_putSpeed 9 = .ok (.iload_n 2, 1) := by decide +kernel
theorem dX6_putSpeed_10 : decode cX6_putSpeed 10 = .ok (.iadd, 1) := by decide +kernel
theorem dX6_putSpeed_11 : decode cX6_putSpeed 11 = .ok (.iload_n 3, 1) := by decide +kernel
theorem dX6_putSpeed_12 : decode cX6_putSpeed 12 = .ok (.iastore, 1) := by decide +kernel
theorem dX6_putSpeed_13 : decode cX6_putSpeed 13 = .ok (.aload_n 0, 1) := by decide +kernel
theorem dX6_putSpeed_14 : decode cX6_putSpeed 14 = .ok (.dup, 1) := by decide +kernel
theorem dX6_putSpeed_15 : decode cX6_putSpeed 15 = .ok (.getfield 47, 3) := by decide +kernel
theorem dX6_putSpeed_18 : decode cX6_putSpeed 18 = .ok (.iconst 1, 1) := by decide +kernel
theorem dX6_putSpeed_19 : decode cX6_putSpeed 19 = .ok (.iadd, 1) := by decide +kernel
theorem dX6_putSpeed_20 : decode cX6_putSpeed 20 = .ok (.putfield 47, 3) := by decide +kernel
theorem dX6_putSpeed_23 : decode cX6_putSpeed 23 = .ok (.return_, 1) := by decide +kernel
theorem dX6_lossBy_0 : decode cX6_lossBy 0 = .ok (.aload_n 0, 1) := by decide +kernel
theorem dX6_lossBy_1 : decode cX6_lossBy 1 = .ok (.getfield 30, 3) := by decide +kernel
theorem dX6_lossBy_4 : decode cX6_lossBy 4 = .ok (.iload_n 1, 1) := by decide +kernel
theorem dX6_lossBy_5 : decode cX6_lossBy 5 = .ok (.iaload, 1) := by decide +kernel
theorem dX6_lossBy_6 : decode cX6_lossBy 6 = .ok (.ireturn, 1) := by decide +kernel
theorem dX6_putLoss_0 : decode cX6_putLoss 0 = .ok (.aload_n 0, 1) := by decide +kernel
theorem dX6_putLoss_1 : decode cX6_putLoss 1 = .ok (.getfield 30, 3) := by decide +kernel
theorem dX6_putLoss_4 : decode cX6_putLoss 4 = .ok (.iload_n 1, 1) := by decide +kernel
theorem dX6_putLoss_5 : decode cX6_putLoss 5 = .ok (.iload_n 2, 1) := by decide +kernel
theorem dX6_putLoss_6 : decode cX6_putLoss 6 = .ok (.iastore, 1) := by decide +kernel
theorem dX6_putLoss_7 : decode cX6_putLoss 7 = .ok (.aload_n 0, 1) := by decide +kernel
theorem dX6_putLoss_8 : decode cX6_putLoss 8 = .ok (.dup, 1) := by decide +kernel
theorem dX6_putLoss_9 : decode cX6_putLoss 9 = .ok (.getfield 47, 3) := by decide +kernel
theorem dX6_putLoss_12 : decode cX6_putLoss 12 = .ok (.iconst 1, 1) := by decide +kernel
theorem dX6_putLoss_13 : decode cX6_putLoss 13 = .ok (.iadd, 1) := by decide +kernel
theorem dX6_putLoss_14 : decode cX6_putLoss 14 = .ok (.putfield 47, 3) := by decide +kernel
theorem dX6_putLoss_17 : decode cX6_putLoss 17 = .ok (.return_, 1) := by decide +kernel
theorem dX6_isLand_0 : decode cX6_isLand 0 = .ok (.aload_n 0, 1) := by decide +kernel
theorem dX6_isLand_1 : decode cX6_isLand 1 = .ok (.getfield 33, 3) := by decide +kernel
theorem dX6_isLand_4 : decode cX6_isLand 4 = .ok (.iload_n 1, 1) := by decide +kernel
theorem dX6_isLand_5 : decode cX6_isLand 5 = .ok (.lushr, 1) := by decide +kernel
theorem dX6_isLand_6 : decode cX6_isLand 6 = .ok (.lconst 1, 1) := by decide +kernel
theorem dX6_isLand_7 : decode cX6_isLand 7 = .ok (.land, 1) := by decide +kernel
theorem dX6_isLand_8 : decode cX6_isLand 8 = .ok (.lconst 0, 1) := by decide +kernel
theorem dX6_isLand_9 : decode cX6_isLand 9 = .ok (.lcmp, 1) := by decide +kernel
theorem dX6_isLand_10 : decode cX6_isLand 10 = .ok (.ifCond .eq 7, 3) := by decide +kernel
theorem dX6_isLand_13 : decode cX6_isLand 13 = .ok (.iconst 1, 1) := by decide +kernel
theorem dX6_isLand_14 : decode cX6_isLand 14 = .ok (.goto 4, 3) := by decide +kernel
theorem dX6_isLand_17 : decode cX6_isLand 17 = .ok (.iconst 0, 1) := by decide +kernel
theorem dX6_isLand_18 : decode cX6_isLand 18 = .ok (.ireturn, 1) := by decide +kernel
theorem dX6_landCount_0 : decode cX6_landCount 0 = .ok (.aload_n 0, 1) := by decide +kernel
theorem dX6_landCount_1 : decode cX6_landCount 1 = .ok (.getfield 33, 3) := by decide +kernel
theorem dX6_landCount_4 : decode cX6_landCount 4 = .ok (.invokestatic 62, 3) := by decide +kernel
theorem dX6_landCount_7 : decode cX6_landCount 7 = .ok (.ireturn, 1) := by decide +kernel
theorem dX6_putLand_0 : decode cX6_putLand 0 = .ok (.lconst 1, 1) := by decide +kernel
theorem dX6_putLand_1 : decode cX6_putLand 1 = .ok (.iload_n 1, 1) := by decide +kernel
theorem dX6_putLand_2 : decode cX6_putLand 2 = .ok (.lshl, 1) := by decide +kernel
theorem dX6_putLand_3 : decode cX6_putLand 3 = .ok (.lstore_n 3, 1) := by decide +kernel
theorem dX6_putLand_4 : decode cX6_putLand 4 = .ok (.aload_n 0, 1) := by decide +kernel
theorem dX6_putLand_5 : decode cX6_putLand 5 = .ok (.iload_n 2, 1) := by decide +kernel
theorem dX6_putLand_6 : decode cX6_putLand 6 = .ok (.ifCond .eq 12, 3) := by decide +kernel
theorem dX6_putLand_9 : decode cX6_putLand 9 = .ok (.aload_n 0, 1) := by decide +kernel
theorem dX6_putLand_10 : decode cX6_putLand 10 = .ok (.getfield 33, 3) := by decide +kernel
theorem dX6_putLand_13 : decode cX6_putLand 13 = .ok (.lload_n 3, 1) := by decide +kernel
theorem dX6_putLand_14 : decode cX6_putLand 14 = .ok (.lor, 1) := by decide +kernel
theorem dX6_putLand_15 : decode cX6_putLand 15 = .ok (.goto 13, 3) := by decide +kernel
theorem dX6_putLand_18 : decode cX6_putLand 18 = .ok (.aload_n 0, 1) := by decide +kernel
theorem dX6_putLand_19 : decode cX6_putLand 19 = .ok (.getfield 33, 3) := by decide +kernel
theorem dX6_putLand_22 : decode cX6_putLand 22 = .ok (.lload_n 3, 1) := by decide +kernel
theorem dX6_putLand_23 : decode cX6_putLand 23 = .ok (.ldc2_w 68, 3) := by decide +kernel
theorem dX6_putLand_26 : decode cX6_putLand 26 = .ok (.lxor, 1) := by decide +kernel
theorem dX6_putLand_27 : decode cX6_putLand 27 = .ok (.land, 1) := by decide +kernel
theorem dX6_putLand_28 : decode cX6_putLand 28 = .ok (.putfield 33, 3) := by decide +kernel
theorem dX6_putLand_31 : decode cX6_putLand 31 = .ok (.aload_n 0, 1) := by decide +kernel
theorem dX6_putLand_32 : decode cX6_putLand 32 = .ok (.dup, 1) := by decide +kernel
theorem dX6_putLand_33 : decode cX6_putLand 33 = .ok (.getfield 47, 3) := by decide +kernel
theorem dX6_putLand_36 : decode cX6_putLand 36 = .ok (.iconst 1, 1) := by decide +kernel
theorem dX6_putLand_37 : decode cX6_putLand 37 = .ok (.iadd, 1) := by decide +kernel
theorem dX6_putLand_38 : decode cX6_putLand 38 = .ok (.putfield 47, 3) := by decide +kernel
theorem dX6_putLand_41 : decode cX6_putLand 41 = .ok (.return_, 1) := by decide +kernel
theorem dX6_putStart_0 : decode cX6_putStart 0 = .ok (.aload_n 0, 1) := by decide +kernel
theorem dX6_putStart_1 : decode cX6_putStart 1 = .ok (.iload_n 1, 1) := by decide +kernel
theorem dX6_putStart_2 : decode cX6_putStart 2 = .ok (.putfield 37, 3) := by decide +kernel
theorem dX6_putStart_5 : decode cX6_putStart 5 = .ok (.aload_n 0, 1) := by decide +kernel
theorem dX6_putStart_6 : decode cX6_putStart 6 = .ok (.iload_n 2, 1) := by decide +kernel
theorem dX6_putStart_7 : decode cX6_putStart 7 = .ok (.putfield 41, 3) := by decide +kernel
theorem dX6_putStart_10 : decode cX6_putStart 10 = .ok (.aload_n 0, 1) := by decide +kernel
theorem dX6_putStart_11 : decode cX6_putStart 11 = .ok (.iload_n 3, 1) := by decide +kernel
theorem dX6_putStart_12 : decode cX6_putStart 12 = .ok (.putfield 44, 3) := by decide +kernel
theorem dX6_putStart_15 : decode cX6_putStart 15 = .ok (.aload_n 0, 1) := by decide +kernel
theorem dX6_putStart_16 : decode cX6_putStart 16 = .ok (.dup, 1) := by decide +kernel
theorem dX6_putStart_17 : decode cX6_putStart 17 = .ok (.getfield 47, 3) := by decide +kernel
theorem dX6_putStart_20 : decode cX6_putStart 20 = .ok (.iconst 1, 1) := by decide +kernel
theorem dX6_putStart_21 : decode cX6_putStart 21 = .ok (.iadd, 1) := by decide +kernel
theorem dX6_putStart_22 : decode cX6_putStart 22 = .ok (.putfield 47, 3) := by decide +kernel
theorem dX6_putStart_25 : decode cX6_putStart 25 = .ok (.return_, 1) := by decide +kernel
theorem dX6_paceBy_0 : decode cX6_paceBy 0 = .ok (.iload_n 3, 1) := by decide +kernel
theorem dX6_paceBy_1 : decode cX6_paceBy 1 = .ok (.aload_n 0, 1) := by decide +kernel
theorem dX6_paceBy_2 : decode cX6_paceBy 2 = .ok (.iload_n 1, 1) := by decide +kernel
theorem dX6_paceBy_3 : decode cX6_paceBy 3 = .ok (.iload_n 2, 1) := by decide +kernel
theorem dX6_paceBy_4 : decode cX6_paceBy 4 = .ok (.invokevirtual 70, 3) := by decide +kernel
theorem dX6_paceBy_7 : decode cX6_paceBy 7 = .ok (.invokestatic 74, 3) := by decide +kernel
theorem dX6_paceBy_10 : decode cX6_paceBy 10 = .ok (.istore 4, 2) := by decide +kernel
theorem dX6_paceBy_12 : decode cX6_paceBy 12 = .ok (.aload_n 0, 1) := by decide +kernel
theorem dX6_paceBy_13 : decode cX6_paceBy 13 = .ok (.iload_n 1, 1) := by decide +kernel
theorem dX6_paceBy_14 : decode cX6_paceBy 14 = .ok (.invokevirtual 79, 3) := by decide +kernel
theorem dX6_paceBy_17 : decode cX6_paceBy 17 = .ok (.iload_n 3, 1) := by decide +kernel
theorem dX6_paceBy_18 : decode cX6_paceBy 18 = .ok (.aload_n 0, 1) := by decide +kernel
theorem dX6_paceBy_19 : decode cX6_paceBy 19 = .ok (.iload_n 1, 1) := by decide +kernel
theorem dX6_paceBy_20 : decode cX6_paceBy 20 = .ok (.invokevirtual 83, 3) := by decide +kernel
theorem dX6_paceBy_23 : decode cX6_paceBy 23 = .ok (.invokestatic 74, 3) := by decide +kernel
theorem dX6_paceBy_26 : decode cX6_paceBy 26 = .ok (.invokestatic 86, 3) := by decide +kernel
theorem dX6_paceBy_29 : decode cX6_paceBy 29 = .ok (.istore 5, 2) := by decide +kernel
theorem dX6_paceBy_31 : decode cX6_paceBy 31 = .ok (.aload_n 0, 1) := by decide +kernel
theorem dX6_paceBy_32 : decode cX6_paceBy 32 = .ok (.aload_n 0, 1) := by decide +kernel
theorem dX6_paceBy_33 : decode cX6_paceBy 33 = .ok (.iload_n 1, 1) := by decide +kernel
theorem dX6_paceBy_34 : decode cX6_paceBy 34 = .ok (.iload_n 2, 1) := by decide +kernel
theorem dX6_paceBy_35 : decode cX6_paceBy 35 = .ok (.invokevirtual 89, 3) := by decide +kernel
theorem dX6_paceBy_38 : decode cX6_paceBy 38 = .ok (.iload 4, 2) := by decide +kernel
theorem dX6_paceBy_40 : decode cX6_paceBy 40 = .ok (.invokevirtual 92, 3) := by decide +kernel
theorem dX6_paceBy_43 : decode cX6_paceBy 43 = .ok (.iload 5, 2) := by decide +kernel
theorem dX6_paceBy_45 : decode cX6_paceBy 45 = .ok (.iadd, 1) := by decide +kernel
theorem dX6_paceBy_46 : decode cX6_paceBy 46 = .ok (.iconst 0, 1) := by decide +kernel
theorem dX6_paceBy_47 : decode cX6_paceBy 47 = .ok (.invokestatic 95, 3) := by decide +kernel
theorem dX6_paceBy_50 : decode cX6_paceBy 50 = .ok (.ireturn, 1) := by decide +kernel
theorem dX6_driftBy_0 : decode cX6_driftBy 0 = .ok (.iload_n 1, 1) := by decide +kernel
theorem dX6_driftBy_1 : decode cX6_driftBy 1 = .ok (.tableswitch 49 0 4 #[35, 37, 49, 41, 46], 35) := by decide +kernel
theorem dX6_driftBy_36 : decode cX6_driftBy 36 = .ok (.iload_n 0, 1) := by decide +kernel
theorem dX6_driftBy_37 : decode cX6_driftBy 37 = .ok (.ireturn, 1) := by decide +kernel
theorem dX6_driftBy_38 : decode cX6_driftBy 38 = .ok (.iload_n 0, 1) := by decide +kernel
theorem dX6_driftBy_39 : decode cX6_driftBy 39 = .ok (.iconst 2, 1) := by decide +kernel
theorem dX6_driftBy_40 : decode cX6_driftBy 40 = .ok (.idiv, 1) := by decide +kernel
theorem dX6_driftBy_41 : decode cX6_driftBy 41 = .ok (.ireturn, 1) := by decide +kernel
theorem dX6_driftBy_42 : decode cX6_driftBy 42 = .ok (.iload_n 0, 1) := by decide +kernel
theorem dX6_driftBy_43 : decode cX6_driftBy 43 = .ok (.iconst 2, 1) := by decide +kernel
theorem dX6_driftBy_44 : decode cX6_driftBy 44 = .ok (.idiv, 1) := by decide +kernel
theorem dX6_driftBy_45 : decode cX6_driftBy 45 = .ok (.ineg, 1) := by decide +kernel
theorem dX6_driftBy_46 : decode cX6_driftBy 46 = .ok (.ireturn, 1) := by decide +kernel
theorem dX6_driftBy_47 : decode cX6_driftBy 47 = .ok (.iload_n 0, 1) := by decide +kernel
theorem dX6_driftBy_48 : decode cX6_driftBy 48 = .ok (.ineg, 1) := by decide +kernel
theorem dX6_driftBy_49 : decode cX6_driftBy 49 = .ok (.ireturn, 1) := by decide +kernel
theorem dX6_driftBy_50 : decode cX6_driftBy 50 = .ok (.iconst 0, 1) := by decide +kernel
theorem dX6_driftBy_51 : decode cX6_driftBy 51 = .ok (.ireturn, 1) := by decide +kernel
theorem dX6_undergo_0 : decode cX6_undergo 0 = .ok (.aload_n 0, 1) := by decide +kernel
theorem dX6_undergo_1 : decode cX6_undergo 1 = .ok (.dup, 1) := by decide +kernel
theorem dX6_undergo_2 : decode cX6_undergo 2 = .ok (.getfield 47, 3) := by decide +kernel
theorem dX6_undergo_5 : decode cX6_undergo 5 = .ok (.iconst 1, 1) := by decide +kernel
theorem dX6_undergo_6 : decode cX6_undergo 6 = .ok (.iadd, 1) := by decide +kernel
theorem dX6_undergo_7 : decode cX6_undergo 7 = .ok (.putfield 47, 3) := by decide +kernel
theorem dX6_undergo_10 : decode cX6_undergo 10 = .ok (.iload_n 1, 1) := by decide +kernel
theorem dX6_undergo_11 : decode cX6_undergo 11 = .ok (.tableswitch 133 0 3 #[29, 48, 86, 123], 29) := by decide +kernel
theorem dX6_undergo_40 : decode cX6_undergo 40 = .ok (.aload_n 0, 1) := by decide +kernel
theorem dX6_undergo_41 : decode cX6_undergo 41 = .ok (.getfield 15, 3) := by decide +kernel
theorem dX6_undergo_44 : decode cX6_undergo 44 = .ok (.iload_n 2, 1) := by decide +kernel
theorem dX6_undergo_45 : decode cX6_undergo 45 = .ok (.iconst 4, 1) := by decide +kernel
theorem dX6_undergo_46 : decode cX6_undergo 46 = .ok (.imul, 1) := by decide +kernel
theorem dX6_undergo_47 : decode cX6_undergo 47 = .ok (.iload_n 2, 1) := by decide +kernel
theorem dX6_undergo_48 : decode cX6_undergo 48 = .ok (.iconst 1, 1) := by decide +kernel
theorem dX6_undergo_49 : decode cX6_undergo 49 = .ok (.iadd, 1) := by decide +kernel
theorem dX6_undergo_50 : decode cX6_undergo 50 = .ok (.iconst 4, 1) := by decide +kernel
theorem dX6_undergo_51 : decode cX6_undergo 51 = .ok (.imul, 1) := by decide +kernel
theorem dX6_undergo_52 : decode cX6_undergo 52 = .ok (.iconst 0, 1) := by decide +kernel
theorem dX6_undergo_53 : decode cX6_undergo 53 = .ok (.invokestatic 100, 3) := by decide +kernel
theorem dX6_undergo_56 : decode cX6_undergo 56 = .ok (.goto 88, 3) := by decide +kernel
theorem dX6_undergo_59 : decode cX6_undergo 59 = .ok (.iconst 0, 1) := by decide +kernel
theorem dX6_undergo_60 : decode cX6_undergo 60 = .ok (.istore_n 3, 1) := by decide +kernel
theorem dX6_undergo_61 : decode cX6_undergo 61 = .ok (.iload_n 3, 1) := by decide +kernel
theorem dX6_undergo_62 : decode cX6_undergo 62 = .ok (.iconst 4, 1) := by decide +kernel
theorem dX6_undergo_63 : decode cX6_undergo 63 = .ok (.if_icmp .ge 31, 3) := by decide +kernel
theorem dX6_undergo_66 : decode cX6_undergo 66 = .ok (.aload_n 0, 1) := by decide +kernel
theorem dX6_undergo_67 : decode cX6_undergo 67 = .ok (.getfield 15, 3) := by decide +kernel
theorem dX6_undergo_70 : decode cX6_undergo 70 = .ok (.iload_n 2, 1) := by decide +kernel
theorem dX6_undergo_71 : decode cX6_undergo 71 = .ok (.iconst 4, 1) := by decide +kernel
theorem dX6_undergo_72 : decode cX6_undergo 72 = .ok (.imul, 1) := by decide +kernel
theorem dX6_undergo_73 : decode cX6_undergo 73 = .ok (.iload_n 3, 1) := by decide +kernel
theorem dX6_undergo_74 : decode cX6_undergo 74 = .ok (.iadd, 1) := by decide +kernel
theorem dX6_undergo_75 : decode cX6_undergo 75 = .ok (.aload_n 0, 1) := by decide +kernel
theorem dX6_undergo_76 : decode cX6_undergo 76 = .ok (.iload_n 2, 1) := by decide +kernel
theorem dX6_undergo_77 : decode cX6_undergo 77 = .ok (.iload_n 3, 1) := by decide +kernel
theorem dX6_undergo_78 : decode cX6_undergo 78 = .ok (.invokevirtual 89, 3) := by decide +kernel
theorem dX6_undergo_81 : decode cX6_undergo 81 = .ok (.iconst 1, 1) := by decide +kernel
theorem dX6_undergo_82 : decode cX6_undergo 82 = .ok (.iadd, 1) := by decide +kernel
theorem dX6_undergo_83 : decode cX6_undergo 83 = .ok (.iconst 3, 1) := by decide +kernel
theorem dX6_undergo_84 : decode cX6_undergo 84 = .ok (.invokestatic 103, 3) := by decide +kernel
theorem dX6_undergo_87 : decode cX6_undergo 87 = .ok (.iastore, 1) := by decide +kernel
theorem dX6_undergo_88 : decode cX6_undergo 88 = .ok (.iinc 3 1, 3) := by decide +kernel
theorem dX6_undergo_91 : decode cX6_undergo 91 = .ok (.goto (-30), 3) := by decide +kernel
theorem dX6_undergo_94 : decode cX6_undergo 94 = .ok (.goto 50, 3) := by decide +kernel
theorem dX6_undergo_97 : decode cX6_undergo 97 = .ok (.iconst 0, 1) := by decide +kernel
theorem dX6_undergo_98 : decode cX6_undergo 98 = .ok (.istore_n 3, 1) := by decide +kernel
theorem dX6_undergo_99 : decode cX6_undergo 99 = .ok (.iload_n 3, 1) := by decide +kernel
theorem dX6_undergo_100 : decode cX6_undergo 100 = .ok (.aload_n 0, 1) := by decide +kernel
theorem dX6_undergo_101 : decode cX6_undergo 101 = .ok (.getfield 9, 3) := by decide +kernel
theorem dX6_undergo_104 : decode cX6_undergo 104 = .ok (.arraylength, 1) := by decide +kernel
theorem dX6_undergo_105 : decode cX6_undergo 105 = .ok (.if_icmp .ge 26, 3) := by decide +kernel
theorem dX6_undergo_108 : decode cX6_undergo 108 = .ok (.aload_n 0, 1) := by decide +kernel
theorem dX6_undergo_109 : decode cX6_undergo 109 = .ok (.getfield 9, 3) := by decide +kernel
theorem dX6_undergo_112 : decode cX6_undergo 112 = .ok (.iload_n 3, 1) := by decide +kernel
theorem dX6_undergo_113 : decode cX6_undergo 113 = .ok (.aload_n 0, 1) := by decide +kernel
theorem dX6_undergo_114 : decode cX6_undergo 114 = .ok (.getfield 9, 3) := by decide +kernel
theorem dX6_undergo_117 : decode cX6_undergo 117 = .ok (.iload_n 3, 1) := by decide +kernel
theorem dX6_undergo_118 : decode cX6_undergo 118 = .ok (.iaload, 1) := by decide +kernel
theorem dX6_undergo_119 : decode cX6_undergo 119 = .ok (.iload_n 2, 1) := by decide +kernel
theorem dX6_undergo_120 : decode cX6_undergo 120 = .ok (.iadd, 1) := by decide +kernel
theorem dX6_undergo_121 : decode cX6_undergo 121 = .ok (.bipush 8, 2) := by decide +kernel
theorem dX6_undergo_123 : decode cX6_undergo 123 = .ok (.irem, 1) := by decide +kernel
theorem dX6_undergo_124 : decode cX6_undergo 124 = .ok (.iastore, 1) := by decide +kernel
theorem dX6_undergo_125 : decode cX6_undergo 125 = .ok (.iinc 3 1, 3) := by decide +kernel
theorem dX6_undergo_128 : decode cX6_undergo 128 = .ok (.goto (-29), 3) := by decide +kernel
theorem dX6_undergo_131 : decode cX6_undergo 131 = .ok (.goto 13, 3) := by decide +kernel
theorem dX6_undergo_134 : decode cX6_undergo 134 = .ok (.aload_n 0, 1) := by decide +kernel
theorem dX6_undergo_135 : decode cX6_undergo 135 = .ok (.getfield 21, 3) := by decide +kernel
theorem dX6_undergo_138 : decode cX6_undergo 138 = .ok (.iload_n 2, 1) := by decide +kernel
theorem dX6_undergo_139 : decode cX6_undergo 139 = .ok (.iconst 0, 1) := by decide +kernel
theorem dX6_undergo_140 : decode cX6_undergo 140 = .ok (.iastore, 1) := by decide +kernel
theorem dX6_undergo_141 : decode cX6_undergo 141 = .ok (.goto 3, 3) := by decide +kernel
theorem dX6_undergo_144 : decode cX6_undergo 144 = .ok (.return_, 1) := by decide +kernel
theorem dX7_init_0 : decode cX7_init 0 = .ok (.aload_n 0, 1) := by decide +kernel
theorem dX7_init_1 : decode cX7_init 1 = .ok (.invokespecial 3, 3) := by decide +kernel
theorem dX7_init_4 : decode cX7_init 4 = .ok (.aload_n 0, 1) := by decide +kernel
theorem dX7_init_5 : decode cX7_init 5 = .ok (.bipush 100, 2) := by decide +kernel
theorem dX7_init_7 : decode cX7_init 7 = .ok (.newarray .int, 2) := by decide +kernel
theorem dX7_init_9 : decode cX7_init 9 = .ok (.putfield 11, 3) := by decide +kernel
theorem dX7_init_12 : decode cX7_init 12 = .ok (.aload_n 0, 1) := by decide +kernel
theorem dX7_init_13 : decode cX7_init 13 = .ok (.iconst 0, 1) := by decide +kernel
theorem dX7_init_14 : decode cX7_init 14 = .ok (.putfield 15, 3) := by decide +kernel
theorem dX7_init_17 : decode cX7_init 17 = .ok (.aload_n 0, 1) := by decide +kernel
theorem dX7_init_18 : decode cX7_init 18 = .ok (.bipush 12, 2) := by decide +kernel
theorem dX7_init_20 : decode cX7_init 20 = .ok (.newarray .int, 2) := by decide +kernel
theorem dX7_init_22 : decode cX7_init 22 = .ok (.putfield 19, 3) := by decide +kernel
theorem dX7_init_25 : decode cX7_init 25 = .ok (.aload_n 0, 1) := by decide +kernel
theorem dX7_init_26 : decode cX7_init 26 = .ok (.bipush 72, 2) := by decide +kernel
theorem dX7_init_28 : decode cX7_init 28 = .ok (.newarray .int, 2) := by decide +kernel
theorem dX7_init_30 : decode cX7_init 30 = .ok (.putfield 22, 3) := by decide +kernel
theorem dX7_init_33 : decode cX7_init 33 = .ok (.aload_n 0, 1) := by decide +kernel
theorem dX7_init_34 : decode cX7_init 34 = .ok (.iconst 0, 1) := by decide +kernel
theorem dX7_init_35 : decode cX7_init 35 = .ok (.putfield 25, 3) := by decide +kernel
theorem dX7_init_38 : decode cX7_init 38 = .ok (.aload_n 0, 1) := by decide +kernel
theorem dX7_init_39 : decode cX7_init 39 = .ok (.iconst 0, 1) := by decide +kernel
theorem dX7_init_40 : decode cX7_init 40 = .ok (.putfield 28, 3) := by decide +kernel
theorem dX7_init_43 : decode cX7_init 43 = .ok (.aload_n 0, 1) := by decide +kernel
theorem dX7_init_44 : decode cX7_init 44 = .ok (.iconst 0, 1) := by decide +kernel
theorem dX7_init_45 : decode cX7_init 45 = .ok (.putfield 31, 3) := by decide +kernel
theorem dX7_init_48 : decode cX7_init 48 = .ok (.return_, 1) := by decide +kernel
theorem dX7_length_0 : decode cX7_length 0 = .ok (.aload_n 0, 1) := by decide +kernel
theorem dX7_length_1 : decode cX7_length 1 = .ok (.getfield 15, 3) := by decide +kernel
theorem dX7_length_4 : decode cX7_length 4 = .ok (.ireturn, 1) := by decide +kernel
theorem dX7_append_0 : decode cX7_append 0 = .ok (.aload_n 0, 1) := by decide +kernel
theorem dX7_append_1 : decode cX7_append 1 = .ok (.getfield 15, 3) := by decide +kernel
theorem dX7_append_4 : decode cX7_append 4 = .ok (.bipush 100, 2) := by decide +kernel
theorem dX7_append_6 : decode cX7_append 6 = .ok (.if_icmp .lt 6, 3) := by decide +kernel
theorem dX7_append_9 : decode cX7_append 9 = .ok (.bipush (-4), 2) := by decide +kernel
theorem dX7_append_11 : decode cX7_append 11 = .ok (.ireturn, 1) := by decide +kernel
theorem dX7_append_12 : decode cX7_append 12 = .ok (.aload_n 0, 1) := by decide +kernel
theorem dX7_append_13 : decode cX7_append 13 = .ok (.getfield 11, 3) := by decide +kernel
theorem dX7_append_16 : decode cX7_append 16 = .ok (.aload_n 0, 1) := by decide +kernel
theorem dX7_append_17 : decode cX7_append 17 = .ok (.getfield 15, 3) := by decide +kernel
theorem dX7_append_20 : decode cX7_append 20 = .ok (.iload_n 1, 1) := by decide +kernel
theorem dX7_append_21 : decode cX7_append 21 = .ok (.iastore, 1) := by decide +kernel
theorem dX7_append_22 : decode cX7_append 22 = .ok (.aload_n 0, 1) := by decide +kernel
theorem dX7_append_23 : decode cX7_append 23 = .ok (.dup, 1) := by decide +kernel
theorem dX7_append_24 : decode cX7_append 24 = .ok (.getfield 15, 3) := by decide +kernel
theorem dX7_append_27 : decode cX7_append 27 = .ok (.iconst 1, 1) := by decide +kernel
theorem dX7_append_28 : decode cX7_append 28 = .ok (.iadd, 1) := by decide +kernel
theorem dX7_append_29 : decode cX7_append 29 = .ok (.putfield 15, 3) := by decide +kernel
theorem dX7_append_32 : decode cX7_append 32 = .ok (.aload_n 0, 1) := by decide +kernel
theorem dX7_append_33 : decode cX7_append 33 = .ok (.getfield 15, 3) := by decide +kernel
theorem dX7_append_36 : decode cX7_append 36 = .ok (.ireturn, 1) := by decide +kernel
theorem dX7_clear_0 : decode cX7_clear 0 = .ok (.aload_n 0, 1) := by decide +kernel
theorem dX7_clear_1 : decode cX7_clear 1 = .ok (.iconst 0, 1) := by decide +kernel
theorem dX7_clear_2 : decode cX7_clear 2 = .ok (.putfield 15, 3) := by decide +kernel
theorem dX7_clear_5 : decode cX7_clear 5 = .ok (.return_, 1) := by decide +kernel
theorem dX7_clauseCount_0 : decode cX7_clauseCount 0 = .ok (.aload_n 0, 1) := by decide +kernel
theorem dX7_clauseCount_1 : decode cX7_clauseCount 1 = .ok (.getfield 25, 3) := by decide +kernel
theorem dX7_clauseCount_4 : decode cX7_clauseCount 4 = .ok (.ireturn, 1) := by decide +kernel
theorem dX7_kind_0 : decode cX7_kind 0 = .ok (.iload_n 1, 1) := by decide +kernel
theorem dX7_kind_1 : decode cX7_kind 1 = .ok (.aload_n 0, 1) := by decide +kernel
theorem dX7_kind_2 : decode cX7_kind 2 = .ok (.getfield 25, 3) := by decide +kernel
theorem dX7_kind_5 : decode cX7_kind 5 = .ok (.invokestatic 34, 3) := by decide +kernel
theorem dX7_kind_8 : decode cX7_kind 8 = .ok (.ifCond .eq 12, 3) := by decide +kernel
theorem dX7_kind_11 : decode cX7_kind 11 = .ok (.aload_n 0, 1) := by decide +kernel
theorem dX7_kind_12 : decode cX7_kind 12 = .ok (.getfield 19, 3) := by decide +kernel
theorem dX7_kind_15 : decode cX7_kind 15 = .ok (.iload_n 1, 1) := by decide +kernel
theorem dX7_kind_16 : decode cX7_kind 16 = .ok (.iaload, 1) := by decide +kernel
theorem dX7_kind_17 : decode cX7_kind 17 = .ok (.goto 4, 3) := by decide +kernel
theorem dX7_kind_20 : decode cX7_kind 20 = .ok (.iconst 0, 1) := by decide +kernel
theorem dX7_kind_21 : decode cX7_kind 21 = .ok (.ireturn, 1) := by decide +kernel
theorem dX7_number_0 : decode cX7_number 0 = .ok (.iload_n 1, 1) := by decide +kernel
theorem dX7_number_1 : decode cX7_number 1 = .ok (.aload_n 0, 1) := by decide +kernel
theorem dX7_number_2 : decode cX7_number 2 = .ok (.getfield 25, 3) := by decide +kernel
theorem dX7_number_5 : decode cX7_number 5 = .ok (.invokestatic 34, 3) := by decide +kernel
theorem dX7_number_8 : decode cX7_number 8 = .ok (.ifCond .eq 12, 3) := by decide +kernel
theorem dX7_number_11 : decode cX7_number 11 = .ok (.iload_n 2, 1) := by decide +kernel
theorem dX7_number_12 : decode cX7_number 12 = .ok (.bipush 6, 2) := by decide +kernel
theorem dX7_number_14 : decode cX7_number 14 = .ok (.invokestatic 34, 3) := by decide +kernel
theorem dX7_number_17 : decode cX7_number 17 = .ok (.ifCond .ne 5, 3) := by decide +kernel
theorem dX7_number_20 : decode cX7_number 20 = .ok (.iconst (-1), 1) := by decide +kernel
theorem dX7_number_21 : decode cX7_number 21 = .ok (.ireturn, 1) := by decide +kernel
theorem dX7_number_22 : decode cX7_number 22 = .ok (.aload_n 0, 1) := by decide +kernel
theorem dX7_number_23 : decode cX7_number 23 = .ok (.getfield 22, 3) := by decide +kernel
theorem dX7_number_26 : decode cX7_number 26 = .ok (.iload_n 1, 1) := by decide +kernel
theorem dX7_number_27 : decode cX7_number 27 = .ok (.bipush 6, 2) := by decide +kernel
theorem dX7_number_29 : decode cX7_number 29 = .ok (.imul, 1) := by decide +kernel
theorem dX7_number_30 : decode cX7_number 30 = .ok (.iload_n 2, 1) := by decide +kernel
theorem dX7_number_31 : decode cX7_number 31 = .ok (.iadd, 1) := by decide +kernel
theorem dX7_number_32 : decode cX7_number 32 = .ok (.iaload, 1) := by decide +kernel
theorem dX7_number_33 : decode cX7_number 33 = .ok (.ireturn, 1) := by decide +kernel
theorem dX7_parse_0 : decode cX7_parse 0 = .ok (.aload_n 0, 1) := by decide +kernel
theorem dX7_parse_1 : decode cX7_parse 1 = .ok (.iconst 0, 1) := by decide +kernel
theorem dX7_parse_2 : decode cX7_parse 2 = .ok (.putfield 31, 3) := by decide +kernel
theorem dX7_parse_5 : decode cX7_parse 5 = .ok (.aload_n 0, 1) := by decide +kernel
theorem dX7_parse_6 : decode cX7_parse 6 = .ok (.iconst 0, 1) := by decide +kernel
theorem dX7_parse_7 : decode cX7_parse 7 = .ok (.putfield 25, 3) := by decide +kernel
theorem dX7_parse_10 : decode cX7_parse 10 = .ok (.iconst 0, 1) := by decide +kernel
theorem dX7_parse_11 : decode cX7_parse 11 = .ok (.istore_n 1, 1) := by decide +kernel
theorem dX7_parse_12 : decode cX7_parse 12 = .ok (.iload_n 1, 1) := by decide +kernel
theorem dX7_parse_13 : decode cX7_parse 13 = .ok (.bipush 12, 2) := by decide +kernel
theorem dX7_parse_15 : decode cX7_parse 15 = .ok (.if_icmp .ge 57, 3) := by decide +kernel
theorem dX7_parse_18 : decode cX7_parse 18 = .ok (.aload_n 0, 1) := by decide +kernel
theorem dX7_parse_19 : decode cX7_parse 19 = .ok (.invokevirtual 38, 3) := by decide +kernel
theorem dX7_parse_22 : decode cX7_parse 22 = .ok (.ifCond .ne 8, 3) := by decide +kernel
theorem dX7_parse_25 : decode cX7_parse 25 = .ok (.aload_n 0, 1) := by decide +kernel
theorem dX7_parse_26 : decode cX7_parse 26 = .ok (.getfield 31, 3) := by decide +kernel
theorem dX7_parse_29 : decode cX7_parse 29 = .ok (.ireturn, 1) := by decide +kernel
theorem dX7_parse_30 : decode cX7_parse 30 = .ok (.aload_n 0, 1) := by decide +kernel
theorem dX7_parse_31 : decode cX7_parse 31 = .ok (.getfield 31, 3) := by decide +kernel
theorem dX7_parse_34 : decode cX7_parse 34 = .ok (.aload_n 0, 1) := by decide +kernel
theorem dX7_parse_35 : decode cX7_parse 35 = .ok (.getfield 15, 3) := by decide +kernel
theorem dX7_parse_38 : decode cX7_parse 38 = .ok (.if_icmp .ne 5, 3) := by decide +kernel
theorem dX7_parse_41 : decode cX7_parse 41 = .ok (.iconst (-1), 1) := by decide +kernel
theorem dX7_parse_42 : decode cX7_parse 42 = .ok (.ireturn, 1) := by decide +kernel
theorem dX7_parse_43 : decode cX7_parse 43 = .ok (.aload_n 0, 1) := by decide +kernel
theorem dX7_parse_44 : decode cX7_parse 44 = .ok (.getfield 25, 3) := by decide +kernel
theorem dX7_parse_47 : decode cX7_parse 47 = .ok (.bipush 12, 2) := by decide +kernel
theorem dX7_parse_49 : decode cX7_parse 49 = .ok (.if_icmp .eq 12, 3) := by decide +kernel
theorem dX7_parse_52 : decode cX7_parse 52 = .ok (.aload_n 0, 1) := by decide +kernel
theorem dX7_parse_53 : decode cX7_parse 53 = .ok (.bipush 59, 2) := by decide +kernel
theorem dX7_parse_55 : decode cX7_parse 55 = .ok (.invokevirtual 42, 3) := by decide +kernel
theorem dX7_parse_58 : decode cX7_parse 58 = .ok (.ifCond .ne 8, 3) := by decide +kernel
theorem dX7_parse_61 : decode cX7_parse 61 = .ok (.aload_n 0, 1) := by decide +kernel
theorem dX7_parse_62 : decode cX7_parse 62 = .ok (.getfield 31, 3) := by decide +kernel
theorem dX7_parse_65 : decode cX7_parse 65 = .ok (.ireturn, 1) := by decide +kernel
theorem dX7_parse_66 : decode cX7_parse 66 = .ok (.iinc 1 1, 3) := by decide +kernel
theorem dX7_parse_69 : decode cX7_parse 69 = .ok (.goto (-57), 3) := by decide +kernel
theorem dX7_parse_72 : decode cX7_parse 72 = .ok (.aload_n 0, 1) := by decide +kernel
theorem dX7_parse_73 : decode cX7_parse 73 = .ok (.getfield 31, 3) := by decide +kernel
theorem dX7_parse_76 : decode cX7_parse 76 = .ok (.ireturn, 1) := by decide +kernel
theorem dX7_isNext_0 : decode cX7_isNext 0 = .ok (.aload_n 0, 1) := by decide +kernel
theorem dX7_isNext_1 : decode cX7_isNext 1 = .ok (.getfield 31, 3) := by decide +kernel
theorem dX7_isNext_4 : decode cX7_isNext 4 = .ok (.aload_n 0, 1) := by decide +kernel
theorem dX7_isNext_5 : decode cX7_isNext 5 = .ok (.getfield 15, 3) := by decide +kernel
theorem dX7_isNext_8 : decode cX7_isNext 8 = .ok (.if_icmp .ge 33, 3) := by decide +kernel
theorem dX7_isNext_11 : decode cX7_isNext 11 = .ok (.aload_n 0, 1) := by decide +kernel
theorem dX7_isNext_12 : decode cX7_isNext 12 = .ok (.getfield 11, 3) := by decide +kernel
theorem dX7_isNext_15 : decode cX7_isNext 15 = .ok (.aload_n 0, 1) := by decide +kernel
theorem dX7_isNext_16 : decode cX7_isNext 16 = .ok (.getfield 31, 3) := by decide +kernel
theorem dX7_isNext_19 : decode cX7_isNext 19 = .ok (.iaload, 1) := by decide +kernel
theorem dX7_isNext_20 : decode cX7_isNext 20 = .ok (.iload_n 1, 1) := by decide +kernel
theorem dX7_isNext_21 : decode cX7_isNext 21 = .ok (.if_icmp .lt 20, 3) := by decide +kernel
theorem dX7_isNext_24 : decode cX7_isNext 24 = .ok (.aload_n 0, 1) := by decide +kernel
theorem dX7_isNext_25 : decode cX7_isNext 25 = .ok (.getfield 11, 3) := by decide +kernel
theorem dX7_isNext_28 : decode cX7_isNext 28 = .ok (.aload_n 0, 1) := by decide +kernel
theorem dX7_isNext_29 : decode cX7_isNext 29 = .ok (.getfield 31, 3) := by decide +kernel
theorem dX7_isNext_32 : decode cX7_isNext 32 = .ok (.iaload, 1) := by decide +kernel
theorem dX7_isNext_33 : decode cX7_isNext 33 = .ok (.iload_n 2, 1) := by decide +kernel
theorem dX7_isNext_34 : decode cX7_isNext 34 = .ok (.if_icmp .gt 7, 3) := by decide +kernel
theorem dX7_isNext_37 : decode cX7_isNext 37 = .ok (.iconst 1, 1) := by decide +kernel
theorem dX7_isNext_38 : decode cX7_isNext 38 = .ok (.goto 4, 3) := by decide +kernel
theorem dX7_isNext_41 : decode cX7_isNext 41 = .ok (.iconst 0, 1) := by decide +kernel
theorem dX7_isNext_42 : decode cX7_isNext 42 = .ok (.ireturn, 1) := by decide +kernel
theorem dX7_take_0 : decode cX7_take 0 = .ok (.aload_n 0, 1) := by decide +kernel
theorem dX7_take_1 : decode cX7_take 1 = .ok (.iload_n 1, 1) := by decide +kernel
theorem dX7_take_2 : decode cX7_take 2 = .ok (.iload_n 1, 1) := by decide +kernel
theorem dX7_take_3 : decode cX7_take 3 = .ok (.invokevirtual 46, 3) := by decide +kernel
theorem dX7_take_6 : decode cX7_take 6 = .ok (.ifCond .ne 5, 3) := by decide +kernel
theorem dX7_take_9 : decode cX7_take 9 = .ok (.iconst 0, 1) := by decide +kernel
theorem dX7_take_10 : decode cX7_take 10 = .ok (.ireturn, 1) := by decide +kernel
theorem dX7_take_11 : decode cX7_take 11 = .ok (.aload_n 0, 1) := by decide +kernel
theorem dX7_take_12 : decode cX7_take 12 = .ok (.dup, 1) := by decide +kernel
theorem dX7_take_13 : decode cX7_take 13 = .ok (.getfield 31, 3) := by decide +kernel
theorem dX7_take_16 : decode cX7_take 16 = .ok (.iconst 1, 1) := by decide +kernel
theorem dX7_take_17 : decode cX7_take 17 = .ok (.iadd, 1) := by decide +kernel
theorem dX7_take_18 : decode cX7_take 18 = .ok (.putfield 31, 3) := by decide +kernel
theorem dX7_take_21 : decode cX7_take 21 = .ok (.iconst 1, 1) := by decide +kernel
theorem dX7_take_22 : decode cX7_take 22 = .ok (.ireturn, 1) := by decide +kernel
theorem dX7_takeClause_0 : decode cX7_takeClause 0 = .ok (.aload_n 0, 1) := by decide +kernel
theorem dX7_takeClause_1 : decode cX7_takeClause 1 = .ok (.getfield 31, 3) := by decide +kernel
theorem dX7_takeClause_4 : decode cX7_takeClause 4 = .ok (.aload_n 0, 1) := by decide +kernel
theorem dX7_takeClause_5 : decode cX7_takeClause 5 = .ok (.getfield 15, 3) := by decide +kernel
theorem dX7_takeClause_8 : decode cX7_takeClause 8 = .ok (.if_icmp .ge 12, 3) := by decide +kernel
theorem dX7_takeClause_11 : decode cX7_takeClause 11 = .ok (.aload_n 0, 1) := by decide +kernel
theorem dX7_takeClause_12 : decode cX7_takeClause 12 = .ok (.getfield 25, 3) := by decide +kernel
theorem dX7_takeClause_15 : decode cX7_takeClause 15 = .ok (.bipush 12, 2) := by decide +kernel
theorem dX7_takeClause_17 : decode cX7_takeClause 17 = .ok (.if_icmp .lt 5, 3) := by decide +kernel
theorem dX7_takeClause_20 : decode cX7_takeClause 20 = .ok (.iconst 0, 1) := by decide +kernel
theorem dX7_takeClause_21 : decode cX7_takeClause 21 = .ok (.ireturn, 1) := by decide +kernel
theorem dX7_takeClause_22 : decode cX7_takeClause 22 = .ok (.aload_n 0, 1) := by decide +kernel
theorem dX7_takeClause_23 : decode cX7_takeClause 23 = .ok (.getfield 11, 3) := by decide +kernel
theorem dX7_takeClause_26 : decode cX7_takeClause 26 = .ok (.aload_n 0, 1) := by decide +kernel
theorem dX7_takeClause_27 : decode cX7_takeClause 27 = .ok (.getfield 31, 3) := by decide +kernel
theorem dX7_takeClause_30 : decode cX7_takeClause 30 = .ok (.iaload, 1) := by decide +kernel
theorem dX7_takeClause_31 : decode cX7_takeClause 31 = .ok (.invokestatic 49, 3) := by decide +kernel
theorem dX7_takeClause_34 : decode cX7_takeClause 34 = .ok (.astore_n 1, 1) := by decide +kernel
theorem dX7_takeClause_35 : decode cX7_takeClause 35 = .ok (.aload_n 1, 1) := by decide +kernel
theorem dX7_takeClause_36 : decode cX7_takeClause 36 = .ok (.invokevirtual 53, 3) := by decide +kernel
theorem dX7_takeClause_39 : decode cX7_takeClause 39 = .ok (.ifCond .eq 5, 3) := by decide +kernel
theorem dX7_takeClause_42 : decode cX7_takeClause 42 = .ok (.iconst 0, 1) := by decide +kernel
theorem dX7_takeClause_43 : decode cX7_takeClause 43 = .ok (.ireturn, 1) := by decide +kernel
theorem dX7_takeClause_44 : decode cX7_takeClause 44 = .ok (.aload_n 0, 1) := by decide +kernel
theorem dX7_takeClause_45 : decode cX7_takeClause 45 = .ok (.getfield 19, 3) := by decide +kernel
theorem dX7_takeClause_48 : decode cX7_takeClause 48 = .ok (.aload_n 0, 1) := by decide +kernel
theorem dX7_takeClause_49 : decode cX7_takeClause 49 = .ok (.getfield 25, 3) := by decide +kernel
theorem dX7_takeClause_52 : decode cX7_takeClause 52 = .ok (.aload_n 0, 1) := by decide +kernel
theorem dX7_takeClause_53 : decode cX7_takeClause 53 = .ok (.getfield 11, 3) := by decide +kernel
theorem dX7_takeClause_56 : decode cX7_takeClause 56 = .ok (.aload_n 0, 1) := by decide +kernel
theorem dX7_takeClause_57 : decode cX7_takeClause 57 = .ok (.getfield 31, 3) := by decide +kernel
theorem dX7_takeClause_60 : decode cX7_takeClause 60 = .ok (.iaload, 1) := by decide +kernel
theorem dX7_takeClause_61 : decode cX7_takeClause 61 = .ok (.iastore, 1) := by decide +kernel
theorem dX7_takeClause_62 : decode cX7_takeClause 62 = .ok (.aload_n 0, 1) := by decide +kernel
theorem dX7_takeClause_63 : decode cX7_takeClause 63 = .ok (.iconst 0, 1) := by decide +kernel
theorem dX7_takeClause_64 : decode cX7_takeClause 64 = .ok (.putfield 28, 3) := by decide +kernel
theorem dX7_takeClause_67 : decode cX7_takeClause 67 = .ok (.aload_n 0, 1) := by decide +kernel
theorem dX7_takeClause_68 : decode cX7_takeClause 68 = .ok (.dup, 1) := by decide +kernel
theorem dX7_takeClause_69 : decode cX7_takeClause 69 = .ok (.getfield 31, 3) := by decide +kernel
theorem dX7_takeClause_72 : decode cX7_takeClause 72 = .ok (.iconst 1, 1) := by decide +kernel
theorem dX7_takeClause_73 : decode cX7_takeClause 73 = .ok (.iadd, 1) := by decide +kernel
theorem dX7_takeClause_74 : decode cX7_takeClause 74 = .ok (.putfield 31, 3) := by decide +kernel
theorem dX7_takeClause_77 : decode cX7_takeClause 77 = .ok (.iconst 0, 1) := by decide +kernel
theorem dX7_takeClause_78 : decode cX7_takeClause 78 = .ok (.istore_n 2, 1) := by decide +kernel
theorem dX7_takeClause_79 : decode cX7_takeClause 79 = .ok (.iload_n 2, 1) := by decide +kernel
theorem dX7_takeClause_80 : decode cX7_takeClause 80 = .ok (.aload_n 1, 1) := by decide +kernel
theorem dX7_takeClause_81 : decode cX7_takeClause 81 = .ok (.invokevirtual 58, 3) := by decide +kernel
theorem dX7_takeClause_84 : decode cX7_takeClause 84 = .ok (.if_icmp .ge 23, 3) := by decide +kernel
theorem dX7_takeClause_87 : decode cX7_takeClause 87 = .ok (.aload_n 0, 1) := by decide +kernel
theorem dX7_takeClause_88 : decode cX7_takeClause 88 = .ok (.aload_n 1, 1) := by decide +kernel
theorem dX7_takeClause_89 : decode cX7_takeClause 89 = .ok (.iload_n 2, 1) := by decide +kernel
theorem dX7_takeClause_90 : decode cX7_takeClause 90 = .ok (.invokevirtual 61, 3) := by decide +kernel
theorem dX7_takeClause_93 : decode cX7_takeClause 93 = .ok (.invokevirtual 65, 3) := by decide +kernel
theorem dX7_takeClause_96 : decode cX7_takeClause 96 = .ok (.ifCond .ne 5, 3) := by decide +kernel
theorem dX7_takeClause_99 : decode cX7_takeClause 99 = .ok (.iconst 0, 1) := by decide +kernel
theorem dX7_takeClause_100 : decode cX7_takeClause 100 = .ok (.ireturn, 1) := by decide +kernel
theorem dX7_takeClause_101 : decode cX7_takeClause 101 = .ok (.iinc 2 1, 3) := by decide +kernel
theorem dX7_takeClause_104 : decode cX7_takeClause 104 = .ok (.goto (-25), 3) := by decide +kernel
theorem dX7_takeClause_107 : decode cX7_takeClause 107 = .ok (.aload_n 0, 1) := by decide +kernel
theorem dX7_takeClause_108 : decode cX7_takeClause 108 = .ok (.dup, 1) := by decide +kernel
theorem dX7_takeClause_109 : decode cX7_takeClause 109 = .ok (.getfield 25, 3) := by decide +kernel
theorem dX7_takeClause_112 : decode cX7_takeClause 112 = .ok (.iconst 1, 1) := by decide +kernel
theorem dX7_takeClause_113 : decode cX7_takeClause 113 = .ok (.iadd, 1) := by decide +kernel
theorem dX7_takeClause_114 : decode cX7_takeClause 114 = .ok (.putfield 25, 3) := by decide +kernel
theorem dX7_takeClause_117 : decode cX7_takeClause 117 = .ok (.iconst 1, 1) := by decide +kernel
theorem dX7_takeClause_118 : decode cX7_takeClause 118 = .ok (.ireturn, 1) := by decide +kernel
theorem dX7_formOf_0 : decode cX7_formOf 0 = .ok (.iload_n 0, 1) := by decide +kernel
theorem dX7_formOf_1 : decode cX7_formOf 1 = .ok (.lookupswitch 77 #[(98, 65), (99, 62), (108, 68), (115, 71), (116, 74), (119, 59)], 59) := by decide +kernel
theorem dX7_formOf_60 : decode cX7_formOf 60 = .ok (.ldc 68, 2) := by decide +kernel
theorem dX7_formOf_62 : decode cX7_formOf 62 = .ok (.areturn, 1) := by decide +kernel
theorem dX7_formOf_63 : decode cX7_formOf 63 = .ok (.ldc 70, 2) := by decide +kernel
theorem dX7_formOf_65 : decode cX7_formOf 65 = .ok (.areturn, 1) := by decide +kernel
theorem dX7_formOf_66 : decode cX7_formOf 66 = .ok (.ldc 72, 2) := by decide +kernel
theorem dX7_formOf_68 : decode cX7_formOf 68 = .ok (.areturn, 1) := by decide +kernel
theorem dX7_formOf_69 : decode cX7_formOf 69 = .ok (.ldc 74, 2) := by decide +kernel
theorem dX7_formOf_71 : decode cX7_formOf 71 = .ok (.areturn, 1) := by decide +kernel
theorem dX7_formOf_72 : decode cX7_formOf 72 = .ok (.ldc 76, 2) := by decide +kernel
theorem dX7_formOf_74 : decode cX7_formOf 74 = .ok (.areturn, 1) := by decide +kernel
theorem dX7_formOf_75 : decode cX7_formOf 75 = .ok (.ldc 78, 2) := by decide +kernel
theorem dX7_formOf_77 : decode cX7_formOf 77 = .ok (.areturn, 1) := by decide +kernel
theorem dX7_formOf_78 : decode cX7_formOf 78 = .ok (.ldc 80, 2) := by decide +kernel
theorem dX7_formOf_80 : decode cX7_formOf 80 = .ok (.areturn, 1) := by decide +kernel
theorem dX7_takeField_0 : decode cX7_takeField 0 = .ok (.iload_n 1, 1) := by decide +kernel
theorem dX7_takeField_1 : decode cX7_takeField 1 = .ok (.lookupswitch 71 #[(100, 43), (109, 64), (113, 50), (117, 57)], 43) := by decide +kernel
theorem dX7_takeField_44 : decode cX7_takeField 44 = .ok (.aload_n 0, 1) := by decide +kernel
theorem dX7_takeField_45 : decode cX7_takeField 45 = .ok (.iconst 1, 1) := by decide +kernel
theorem dX7_takeField_46 : decode cX7_takeField 46 = .ok (.iconst 1, 1) := by decide +kernel
theorem dX7_takeField_47 : decode cX7_takeField 47 = .ok (.invokevirtual 82, 3) := by decide +kernel
theorem dX7_takeField_50 : decode cX7_takeField 50 = .ok (.ireturn, 1) := by decide +kernel
theorem dX7_takeField_51 : decode cX7_takeField 51 = .ok (.aload_n 0, 1) := by decide +kernel
theorem dX7_takeField_52 : decode cX7_takeField 52 = .ok (.iconst 2, 1) := by decide +kernel
theorem dX7_takeField_53 : decode cX7_takeField 53 = .ok (.iconst 2, 1) := by decide +kernel
theorem dX7_takeField_54 : decode cX7_takeField 54 = .ok (.invokevirtual 82, 3) := by decide +kernel
theorem dX7_takeField_57 : decode cX7_takeField 57 = .ok (.ireturn, 1) := by decide +kernel
theorem dX7_takeField_58 : decode cX7_takeField 58 = .ok (.aload_n 0, 1) := by decide +kernel
theorem dX7_takeField_59 : decode cX7_takeField 59 = .ok (.iconst 1, 1) := by decide +kernel
theorem dX7_takeField_60 : decode cX7_takeField 60 = .ok (.iconst 2, 1) := by decide +kernel
theorem dX7_takeField_61 : decode cX7_takeField 61 = .ok (.invokevirtual 82, 3) := by decide +kernel
theorem dX7_takeField_64 : decode cX7_takeField 64 = .ok (.ireturn, 1) := by decide +kernel
theorem dX7_takeField_65 : decode cX7_takeField 65 = .ok (.aload_n 0, 1) := by decide +kernel
theorem dX7_takeField_66 : decode cX7_takeField 66 = .ok (.iconst 1, 1) := by decide +kernel
theorem dX7_takeField_67 : decode cX7_takeField 67 = .ok (.iconst 4, 1) := by decide +kernel
theorem dX7_takeField_68 : decode cX7_takeField 68 = .ok (.invokevirtual 82, 3) := by decide +kernel
theorem dX7_takeField_71 : decode cX7_takeField 71 = .ok (.ireturn, 1) := by decide +kernel
theorem dX7_takeField_72 : decode cX7_takeField 72 = .ok (.aload_n 0, 1) := by decide +kernel
theorem dX7_takeField_73 : decode cX7_takeField 73 = .ok (.iload_n 1, 1) := by decide +kernel
theorem dX7_takeField_74 : decode cX7_takeField 74 = .ok (.invokevirtual 42, 3) := by decide +kernel
theorem dX7_takeField_77 : decode cX7_takeField 77 = .ok (.ireturn, 1) := by decide +kernel
theorem dX7_takeNumber_0 : decode cX7_takeNumber 0 = .ok (.iconst 0, 1) := by decide +kernel
theorem dX7_takeNumber_1 : decode cX7_takeNumber 1 = .ok (.istore_n 3, 1) := by decide +kernel
theorem dX7_takeNumber_2 : decode cX7_takeNumber 2 = .ok (.iconst 0, 1) := by decide +kernel
theorem dX7_takeNumber_3 : decode cX7_takeNumber 3 = .ok (.istore 4, 2) := by decide +kernel
theorem dX7_takeNumber_5 : decode cX7_takeNumber 5 = .ok (.iload 4, 2) := by decide +kernel
theorem dX7_takeNumber_7 : decode cX7_takeNumber 7 = .ok (.iload_n 2, 1) := by decide +kernel
theorem dX7_takeNumber_8 : decode cX7_takeNumber 8 = .ok (.if_icmp .ge 48, 3) := by decide +kernel
theorem dX7_takeNumber_11 : decode cX7_takeNumber 11 = .ok (.aload_n 0, 1) := by decide +kernel
theorem dX7_takeNumber_12 : decode cX7_takeNumber 12 = .ok (.bipush 48, 2) := by decide +kernel
theorem dX7_takeNumber_14 : decode cX7_takeNumber 14 = .ok (.bipush 57, 2) := by decide +kernel
theorem dX7_takeNumber_16 : decode cX7_takeNumber 16 = .ok (.invokevirtual 46, 3) := by decide +kernel
theorem dX7_takeNumber_19 : decode cX7_takeNumber 19 = .ok (.ifCond .eq 37, 3) := by decide +kernel
theorem dX7_takeNumber_22 : decode cX7_takeNumber 22 = .ok (.bipush 10, 2) := by decide +kernel
theorem dX7_takeNumber_24 : decode cX7_takeNumber 24 = .ok (.iload_n 3, 1) := by decide +kernel
theorem dX7_takeNumber_25 : decode cX7_takeNumber 25 = .ok (.imul, 1) := by decide +kernel
theorem dX7_takeNumber_26 : decode cX7_takeNumber 26 = .ok (.aload_n 0, 1) := by decide +kernel
theorem dX7_takeNumber_27 : decode cX7_takeNumber 27 = .ok (.getfield 11, 3) := by decide +kernel
theorem dX7_takeNumber_30 : decode cX7_takeNumber 30 = .ok (.aload_n 0, 1) := by decide +kernel
theorem dX7_takeNumber_31 : decode cX7_takeNumber 31 = .ok (.getfield 31, 3) := by decide +kernel
theorem dX7_takeNumber_34 : decode cX7_takeNumber 34 = .ok (.iaload, 1) := by decide +kernel
theorem dX7_takeNumber_35 : decode cX7_takeNumber 35 = .ok (.iadd, 1) := by decide +kernel
theorem dX7_takeNumber_36 : decode cX7_takeNumber 36 = .ok (.bipush 48, 2) := by decide +kernel
theorem dX7_takeNumber_38 : decode cX7_takeNumber 38 = .ok (.isub, 1) := by decide +kernel
theorem dX7_takeNumber_39 : decode cX7_takeNumber 39 = .ok (.istore_n 3, 1) := by decide +kernel
theorem dX7_takeNumber_40 : decode cX7_takeNumber 40 = .ok (.aload_n 0, 1) := by decide +kernel
theorem dX7_takeNumber_41 : decode cX7_takeNumber 41 = .ok (.dup, 1) := by decide +kernel
theorem dX7_takeNumber_42 : decode cX7_takeNumber 42 = .ok (.getfield 31, 3) := by decide +kernel
theorem dX7_takeNumber_45 : decode cX7_takeNumber 45 = .ok (.iconst 1, 1) := by decide +kernel
theorem dX7_takeNumber_46 : decode cX7_takeNumber 46 = .ok (.iadd, 1) := by decide +kernel
theorem dX7_takeNumber_47 : decode cX7_takeNumber 47 = .ok (.putfield 31, 3) := by decide +kernel
theorem dX7_takeNumber_50 : decode cX7_takeNumber 50 = .ok (.iinc 4 1, 3) := by decide +kernel
theorem dX7_takeNumber_53 : decode cX7_takeNumber 53 = .ok (.goto (-48), 3) := by decide +kernel
theorem dX7_takeNumber_56 : decode cX7_takeNumber 56 = .ok (.iload 4, 2) := by decide +kernel
theorem dX7_takeNumber_58 : decode cX7_takeNumber 58 = .ok (.iload_n 1, 1) := by decide +kernel
theorem dX7_takeNumber_59 : decode cX7_takeNumber 59 = .ok (.if_icmp .lt 12, 3) := by decide +kernel
theorem dX7_takeNumber_62 : decode cX7_takeNumber 62 = .ok (.aload_n 0, 1) := by decide +kernel
theorem dX7_takeNumber_63 : decode cX7_takeNumber 63 = .ok (.getfield 28, 3) := by decide +kernel
theorem dX7_takeNumber_66 : decode cX7_takeNumber 66 = .ok (.bipush 6, 2) := by decide +kernel
theorem dX7_takeNumber_68 : decode cX7_takeNumber 68 = .ok (.if_icmp .lt 5, 3) := by decide +kernel
theorem dX7_takeNumber_71 : decode cX7_takeNumber 71 = .ok (.iconst 0, 1) := by decide +kernel
theorem dX7_takeNumber_72 : decode cX7_takeNumber 72 = .ok (.ireturn, 1) := by decide +kernel
theorem dX7_takeNumber_73 : decode cX7_takeNumber 73 = .ok (.aload_n 0, 1) := by decide +kernel
theorem dX7_takeNumber_74 : decode cX7_takeNumber 74 = .ok (.getfield 22, 3) := by decide +kernel
theorem dX7_takeNumber_77 : decode cX7_takeNumber 77 = .ok (.aload_n 0, 1) := by decide +kernel
theorem dX7_takeNumber_78 : decode cX7_takeNumber 78 = .ok (.getfield 25, 3) := by decide +kernel
theorem dX7_takeNumber_81 : decode cX7_takeNumber 81 = .ok (.bipush 6, 2) := by decide +kernel
theorem dX7_takeNumber_83 : decode cX7_takeNumber 83 = .ok (.imul, 1) := by decide +kernel
theorem dX7_takeNumber_84 : decode cX7_takeNumber 84 = .ok (.aload_n 0, 1) := by decide +kernel
theorem dX7_takeNumber_85 : decode cX7_takeNumber 85 = .ok (.getfield 28, 3) := by decide +kernel
theorem dX7_takeNumber_88 : decode cX7_takeNumber 88 = .ok (.iadd, 1) := by decide +kernel
theorem dX7_takeNumber_89 : decode cX7_takeNumber 89 = .ok (.iload_n 3, 1) := by decide +kernel
theorem dX7_takeNumber_90 : decode cX7_takeNumber 90 = .ok (.iastore, 1) := by decide +kernel
theorem dX7_takeNumber_91 : decode cX7_takeNumber 91 = .ok (.aload_n 0, 1) := by decide +kernel
theorem dX7_takeNumber_92 : decode cX7_takeNumber 92 = .ok (.dup, 1) := by decide +kernel
theorem dX7_takeNumber_93 : decode cX7_takeNumber 93 = .ok (.getfield 28, 3) := by decide +kernel
theorem dX7_takeNumber_96 : decode cX7_takeNumber 96 = .ok (.iconst 1, 1) := by decide +kernel
theorem dX7_takeNumber_97 : decode cX7_takeNumber 97 = .ok (.iadd, 1) := by decide +kernel
theorem dX7_takeNumber_98 : decode cX7_takeNumber 98 = .ok (.putfield 28, 3) := by decide +kernel
theorem dX7_takeNumber_101 : decode cX7_takeNumber 101 = .ok (.iconst 1, 1) := by decide +kernel
theorem dX7_takeNumber_102 : decode cX7_takeNumber 102 = .ok (.ireturn, 1) := by decide +kernel
theorem dX8_init_0 : decode cX8_init 0 = .ok (.aload_n 0, 1) := by decide +kernel
theorem dX8_init_1 : decode cX8_init 1 = .ok (.invokespecial 3, 3) := by decide +kernel
theorem dX8_init_4 : decode cX8_init 4 = .ok (.aload_n 0, 1) := by decide +kernel
theorem dX8_init_5 : decode cX8_init 5 = .ok (.new 9, 3) := by decide +kernel
theorem dX8_init_8 : decode cX8_init 8 = .ok (.dup, 1) := by decide +kernel
theorem dX8_init_9 : decode cX8_init 9 = .ok (.invokespecial 11, 3) := by decide +kernel
theorem dX8_init_12 : decode cX8_init 12 = .ok (.putfield 12, 3) := by decide +kernel
theorem dX8_init_15 : decode cX8_init 15 = .ok (.aload_n 0, 1) := by decide +kernel
theorem dX8_init_16 : decode cX8_init 16 = .ok (.new 18, 3) := by decide +kernel
theorem dX8_init_19 : decode cX8_init 19 = .ok (.dup, 1) := by decide +kernel
theorem dX8_init_20 : decode cX8_init 20 = .ok (.aload_n 0, 1) := by decide +kernel
theorem dX8_init_21 : decode cX8_init 21 = .ok (.getfield 12, 3) := by decide +kernel
theorem dX8_init_24 : decode cX8_init 24 = .ok (.invokespecial 20, 3) := by decide +kernel
theorem dX8_init_27 : decode cX8_init 27 = .ok (.putfield 23, 3) := by decide +kernel
theorem dX8_init_30 : decode cX8_init 30 = .ok (.aload_n 0, 1) := by decide +kernel
theorem dX8_init_31 : decode cX8_init 31 = .ok (.sipush 288, 3) := by decide +kernel
theorem dX8_init_34 : decode cX8_init 34 = .ok (.newarray .int, 2) := by decide +kernel
theorem dX8_init_36 : decode cX8_init 36 = .ok (.putfield 27, 3) := by decide +kernel
theorem dX8_init_39 : decode cX8_init 39 = .ok (.aload_n 0, 1) := by decide +kernel
theorem dX8_init_40 : decode cX8_init 40 = .ok (.iconst (-1), 1) := by decide +kernel
theorem dX8_init_41 : decode cX8_init 41 = .ok (.putfield 31, 3) := by decide +kernel
theorem dX8_init_44 : decode cX8_init 44 = .ok (.aload_n 0, 1) := by decide +kernel
theorem dX8_init_45 : decode cX8_init 45 = .ok (.iconst (-1), 1) := by decide +kernel
theorem dX8_init_46 : decode cX8_init 46 = .ok (.putfield 35, 3) := by decide +kernel
theorem dX8_init_49 : decode cX8_init 49 = .ok (.aload_n 0, 1) := by decide +kernel
theorem dX8_init_50 : decode cX8_init 50 = .ok (.iconst (-1), 1) := by decide +kernel
theorem dX8_init_51 : decode cX8_init 51 = .ok (.putfield 38, 3) := by decide +kernel
theorem dX8_init_54 : decode cX8_init 54 = .ok (.return_, 1) := by decide +kernel
theorem dX8_turnWind_0 : decode cX8_turnWind 0 = .ok (.iload_n 2, 1) := by decide +kernel
theorem dX8_turnWind_1 : decode cX8_turnWind 1 = .ok (.aload_n 0, 1) := by decide +kernel
theorem dX8_turnWind_2 : decode cX8_turnWind 2 = .ok (.getfield 31, 3) := by decide +kernel
theorem dX8_turnWind_5 : decode cX8_turnWind 5 = .ok (.if_icmp .ne 23, 3) := by decide +kernel
theorem dX8_turnWind_8 : decode cX8_turnWind 8 = .ok (.iload_n 3, 1) := by decide +kernel
theorem dX8_turnWind_9 : decode cX8_turnWind 9 = .ok (.aload_n 0, 1) := by decide +kernel
theorem dX8_turnWind_10 : decode cX8_turnWind 10 = .ok (.getfield 35, 3) := by decide +kernel
theorem dX8_turnWind_13 : decode cX8_turnWind 13 = .ok (.if_icmp .ne 15, 3) := by decide +kernel
theorem dX8_turnWind_16 : decode cX8_turnWind 16 = .ok (.aload_n 0, 1) := by decide +kernel
theorem dX8_turnWind_17 : decode cX8_turnWind 17 = .ok (.getfield 38, 3) := by decide +kernel
theorem dX8_turnWind_20 : decode cX8_turnWind 20 = .ok (.aload_n 1, 1) := by decide +kernel
theorem dX8_turnWind_21 : decode cX8_turnWind 21 = .ok (.getfield 41, 3) := by decide +kernel
theorem dX8_turnWind_24 : decode cX8_turnWind 24 = .ok (.if_icmp .ne 4, 3) := by decide +kernel
theorem dX8_turnWind_27 : decode cX8_turnWind 27 = .ok (.return_, 1) := by decide +kernel
theorem dX8_turnWind_28 : decode cX8_turnWind 28 = .ok (.aload_n 0, 1) := by decide +kernel
theorem dX8_turnWind_29 : decode cX8_turnWind 29 = .ok (.getfield 12, 3) := by decide +kernel
theorem dX8_turnWind_32 : decode cX8_turnWind 32 = .ok (.aload_n 1, 1) := by decide +kernel
theorem dX8_turnWind_33 : decode cX8_turnWind 33 = .ok (.invokevirtual 42, 3) := by decide +kernel
theorem dX8_turnWind_36 : decode cX8_turnWind 36 = .ok (.iconst 0, 1) := by decide +kernel
theorem dX8_turnWind_37 : decode cX8_turnWind 37 = .ok (.istore 4, 2) := by decide +kernel
theorem dX8_turnWind_39 : decode cX8_turnWind 39 = .ok (.iload 4, 2) := by decide +kernel
theorem dX8_turnWind_41 : decode cX8_turnWind 41 = .ok (.bipush 8, 2) := by decide +kernel
theorem dX8_turnWind_43 : decode cX8_turnWind 43 = .ok (.if_icmp .ge 71, 3) := by decide +kernel
theorem dX8_turnWind_46 : decode cX8_turnWind 46 = .ok (.aload_n 0, 1) := by decide +kernel
theorem dX8_turnWind_47 : decode cX8_turnWind 47 = .ok (.getfield 12, 3) := by decide +kernel
theorem dX8_turnWind_50 : decode cX8_turnWind 50 = .ok (.iload_n 2, 1) := by decide +kernel
theorem dX8_turnWind_51 : decode cX8_turnWind 51 = .ok (.iload_n 3, 1) := by decide +kernel
theorem dX8_turnWind_52 : decode cX8_turnWind 52 = .ok (.iload 4, 2) := by decide +kernel
theorem dX8_turnWind_54 : decode cX8_turnWind 54 = .ok (.aload_n 1, 1) := by decide +kernel
theorem dX8_turnWind_55 : decode cX8_turnWind 55 = .ok (.iload_n 2, 1) := by decide +kernel
theorem dX8_turnWind_56 : decode cX8_turnWind 56 = .ok (.iload_n 3, 1) := by decide +kernel
theorem dX8_turnWind_57 : decode cX8_turnWind 57 = .ok (.invokevirtual 45, 3) := by decide +kernel
theorem dX8_turnWind_60 : decode cX8_turnWind 60 = .ok (.invokevirtual 49, 3) := by decide +kernel
theorem dX8_turnWind_63 : decode cX8_turnWind 63 = .ok (.aload_n 0, 1) := by decide +kernel
theorem dX8_turnWind_64 : decode cX8_turnWind 64 = .ok (.getfield 23, 3) := by decide +kernel
theorem dX8_turnWind_67 : decode cX8_turnWind 67 = .ok (.invokevirtual 53, 3) := by decide +kernel
theorem dX8_turnWind_70 : decode cX8_turnWind 70 = .ok (.iconst 0, 1) := by decide +kernel
theorem dX8_turnWind_71 : decode cX8_turnWind 71 = .ok (.istore 5, 2) := by decide +kernel
theorem dX8_turnWind_73 : decode cX8_turnWind 73 = .ok (.iload 5, 2) := by decide +kernel
theorem dX8_turnWind_75 : decode cX8_turnWind 75 = .ok (.bipush 36, 2) := by decide +kernel
theorem dX8_turnWind_77 : decode cX8_turnWind 77 = .ok (.if_icmp .ge 31, 3) := by decide +kernel
theorem dX8_turnWind_80 : decode cX8_turnWind 80 = .ok (.aload_n 0, 1) := by decide +kernel
theorem dX8_turnWind_81 : decode cX8_turnWind 81 = .ok (.getfield 27, 3) := by decide +kernel
theorem dX8_turnWind_84 : decode cX8_turnWind 84 = .ok (.iload 4, 2) := by decide +kernel
theorem dX8_turnWind_86 : decode cX8_turnWind 86 = .ok (.bipush 36, 2) := by decide +kernel
theorem dX8_turnWind_88 : decode cX8_turnWind 88 = .ok (.imul, 1) := by decide +kernel
theorem dX8_turnWind_89 : decode cX8_turnWind 89 = .ok (.iload 5, 2) := by decide +kernel
theorem dX8_turnWind_91 : decode cX8_turnWind 91 = .ok (.iadd, 1) := by decide +kernel
theorem dX8_turnWind_92 : decode cX8_turnWind 92 = .ok (.aload_n 0, 1) := by decide +kernel
theorem dX8_turnWind_93 : decode cX8_turnWind 93 = .ok (.getfield 23, 3) := by decide +kernel
theorem dX8_turnWind_96 : decode cX8_turnWind 96 = .ok (.iload 5, 2) := by decide +kernel
theorem dX8_turnWind_98 : decode cX8_turnWind 98 = .ok (.invokevirtual 56, 3) := by decide +kernel
theorem dX8_turnWind_101 : decode cX8_turnWind 101 = .ok (.iastore, 1) := by decide +kernel
theorem dX8_turnWind_102 : decode cX8_turnWind 102 = .ok (.iinc 5 1, 3) := by decide +kernel
theorem dX8_turnWind_105 : decode cX8_turnWind 105 = .ok (.goto (-32), 3) := by decide +kernel
theorem dX8_turnWind_108 : decode cX8_turnWind 108 = .ok (.iinc 4 1, 3) := by decide +kernel
theorem dX8_turnWind_111 : decode cX8_turnWind 111 = .ok (.goto (-72), 3) := by decide +kernel
theorem dX8_turnWind_114 : decode cX8_turnWind 114 = .ok (.aload_n 0, 1) := by decide +kernel
theorem dX8_turnWind_115 : decode cX8_turnWind 115 = .ok (.iload_n 2, 1) := by decide +kernel
theorem dX8_turnWind_116 : decode cX8_turnWind 116 = .ok (.putfield 31, 3) := by decide +kernel
theorem dX8_turnWind_119 : decode cX8_turnWind 119 = .ok (.aload_n 0, 1) := by decide +kernel
theorem dX8_turnWind_120 : decode cX8_turnWind 120 = .ok (.iload_n 3, 1) := by decide +kernel
theorem dX8_turnWind_121 : decode cX8_turnWind 121 = .ok (.putfield 35, 3) := by decide +kernel
theorem dX8_turnWind_124 : decode cX8_turnWind 124 = .ok (.aload_n 0, 1) := by decide +kernel
theorem dX8_turnWind_125 : decode cX8_turnWind 125 = .ok (.aload_n 1, 1) := by decide +kernel
theorem dX8_turnWind_126 : decode cX8_turnWind 126 = .ok (.getfield 41, 3) := by decide +kernel
theorem dX8_turnWind_129 : decode cX8_turnWind 129 = .ok (.putfield 38, 3) := by decide +kernel
theorem dX8_turnWind_132 : decode cX8_turnWind 132 = .ok (.return_, 1) := by decide +kernel
theorem dX8_leastWhenFrom_0 : decode cX8_leastWhenFrom 0 = .ok (.aload_n 0, 1) := by decide +kernel
theorem dX8_leastWhenFrom_1 : decode cX8_leastWhenFrom 1 = .ok (.getfield 27, 3) := by decide +kernel
theorem dX8_leastWhenFrom_4 : decode cX8_leastWhenFrom 4 = .ok (.iload_n 1, 1) := by decide +kernel
theorem dX8_leastWhenFrom_5 : decode cX8_leastWhenFrom 5 = .ok (.bipush 36, 2) := by decide +kernel
theorem dX8_leastWhenFrom_7 : decode cX8_leastWhenFrom 7 = .ok (.imul, 1) := by decide +kernel
theorem dX8_leastWhenFrom_8 : decode cX8_leastWhenFrom 8 = .ok (.iload_n 2, 1) := by decide +kernel
theorem dX8_leastWhenFrom_9 : decode cX8_leastWhenFrom 9 = .ok (.iadd, 1) := by decide +kernel
theorem dX8_leastWhenFrom_10 : decode cX8_leastWhenFrom 10 = .ok (.iaload, 1) := by decide +kernel
theorem dX8_leastWhenFrom_11 : decode cX8_leastWhenFrom 11 = .ok (.ireturn, 1) := by decide +kernel
theorem dX8_allSeenInTime_0 : decode cX8_allSeenInTime 0 = .ok (.iconst 0, 1) := by decide +kernel
theorem dX8_allSeenInTime_1 : decode cX8_allSeenInTime 1 = .ok (.istore_n 3, 1) := by decide +kernel
theorem dX8_allSeenInTime_2 : decode cX8_allSeenInTime 2 = .ok (.iload_n 3, 1) := by decide +kernel
theorem dX8_allSeenInTime_3 : decode cX8_allSeenInTime 3 = .ok (.aload_n 2, 1) := by decide +kernel
theorem dX8_allSeenInTime_4 : decode cX8_allSeenInTime 4 = .ok (.invokevirtual 60, 3) := by decide +kernel
theorem dX8_allSeenInTime_7 : decode cX8_allSeenInTime 7 = .ok (.if_icmp .ge 29, 3) := by decide +kernel
theorem dX8_allSeenInTime_10 : decode cX8_allSeenInTime 10 = .ok (.aload_n 0, 1) := by decide +kernel
theorem dX8_allSeenInTime_11 : decode cX8_allSeenInTime 11 = .ok (.iload_n 1, 1) := by decide +kernel
theorem dX8_allSeenInTime_12 : decode cX8_allSeenInTime 12 = .ok (.aload_n 2, 1) := by decide +kernel
theorem dX8_allSeenInTime_13 : decode cX8_allSeenInTime 13 = .ok (.iload_n 3, 1) := by decide +kernel
theorem dX8_allSeenInTime_14 : decode cX8_allSeenInTime 14 = .ok (.invokevirtual 66, 3) := by decide +kernel
theorem dX8_allSeenInTime_17 : decode cX8_allSeenInTime 17 = .ok (.invokevirtual 69, 3) := by decide +kernel
theorem dX8_allSeenInTime_20 : decode cX8_allSeenInTime 20 = .ok (.aload_n 2, 1) := by decide +kernel
theorem dX8_allSeenInTime_21 : decode cX8_allSeenInTime 21 = .ok (.iload_n 3, 1) := by decide +kernel
theorem dX8_allSeenInTime_22 : decode cX8_allSeenInTime 22 = .ok (.invokevirtual 72, 3) := by decide +kernel
theorem dX8_allSeenInTime_25 : decode cX8_allSeenInTime 25 = .ok (.if_icmp .le 5, 3) := by decide +kernel
theorem dX8_allSeenInTime_28 : decode cX8_allSeenInTime 28 = .ok (.iconst 0, 1) := by decide +kernel
theorem dX8_allSeenInTime_29 : decode cX8_allSeenInTime 29 = .ok (.ireturn, 1) := by decide +kernel
theorem dX8_allSeenInTime_30 : decode cX8_allSeenInTime 30 = .ok (.iinc 3 1, 3) := by decide +kernel
theorem dX8_allSeenInTime_33 : decode cX8_allSeenInTime 33 = .ok (.goto (-31), 3) := by decide +kernel
theorem dX8_allSeenInTime_36 : decode cX8_allSeenInTime 36 = .ok (.iconst 1, 1) := by decide +kernel
theorem dX8_allSeenInTime_37 : decode cX8_allSeenInTime 37 = .ok (.ireturn, 1) := by decide +kernel
theorem dX8_undergo_0 : decode cX8_undergo 0 = .ok (.aload_n 0, 1) := by decide +kernel
theorem dX8_undergo_1 : decode cX8_undergo 1 = .ok (.getfield 12, 3) := by decide +kernel
theorem dX8_undergo_4 : decode cX8_undergo 4 = .ok (.aload_n 1, 1) := by decide +kernel
theorem dX8_undergo_5 : decode cX8_undergo 5 = .ok (.invokevirtual 42, 3) := by decide +kernel
theorem dX8_undergo_8 : decode cX8_undergo 8 = .ok (.iconst 0, 1) := by decide +kernel
theorem dX8_undergo_9 : decode cX8_undergo 9 = .ok (.istore_n 3, 1) := by decide +kernel
theorem dX8_undergo_10 : decode cX8_undergo 10 = .ok (.iload_n 3, 1) := by decide +kernel
theorem dX8_undergo_11 : decode cX8_undergo 11 = .ok (.aload_n 2, 1) := by decide +kernel
theorem dX8_undergo_12 : decode cX8_undergo 12 = .ok (.invokevirtual 60, 3) := by decide +kernel
theorem dX8_undergo_15 : decode cX8_undergo 15 = .ok (.if_icmp .ge 26, 3) := by decide +kernel
theorem dX8_undergo_18 : decode cX8_undergo 18 = .ok (.aload_n 0, 1) := by decide +kernel
theorem dX8_undergo_19 : decode cX8_undergo 19 = .ok (.getfield 12, 3) := by decide +kernel
theorem dX8_undergo_22 : decode cX8_undergo 22 = .ok (.aload_n 2, 1) := by decide +kernel
theorem dX8_undergo_23 : decode cX8_undergo 23 = .ok (.iload_n 3, 1) := by decide +kernel
theorem dX8_undergo_24 : decode cX8_undergo 24 = .ok (.invokevirtual 66, 3) := by decide +kernel
theorem dX8_undergo_27 : decode cX8_undergo 27 = .ok (.aload_n 2, 1) := by decide +kernel
theorem dX8_undergo_28 : decode cX8_undergo 28 = .ok (.iload_n 3, 1) := by decide +kernel
theorem dX8_undergo_29 : decode cX8_undergo 29 = .ok (.invokevirtual 72, 3) := by decide +kernel
theorem dX8_undergo_32 : decode cX8_undergo 32 = .ok (.invokevirtual 75, 3) := by decide +kernel
theorem dX8_undergo_35 : decode cX8_undergo 35 = .ok (.iinc 3 1, 3) := by decide +kernel
theorem dX8_undergo_38 : decode cX8_undergo 38 = .ok (.goto (-28), 3) := by decide +kernel
theorem dX8_undergo_41 : decode cX8_undergo 41 = .ok (.aload_n 0, 1) := by decide +kernel
theorem dX8_undergo_42 : decode cX8_undergo 42 = .ok (.getfield 23, 3) := by decide +kernel
theorem dX8_undergo_45 : decode cX8_undergo 45 = .ok (.invokevirtual 53, 3) := by decide +kernel
theorem dX8_undergo_48 : decode cX8_undergo 48 = .ok (.aload_n 0, 1) := by decide +kernel
theorem dX8_undergo_49 : decode cX8_undergo 49 = .ok (.getfield 23, 3) := by decide +kernel
theorem dX8_undergo_52 : decode cX8_undergo 52 = .ok (.areturn, 1) := by decide +kernel
theorem dX9_init_0 : decode cX9_init 0 = .ok (.aload_n 0, 1) := by decide +kernel
theorem dX9_init_1 : decode cX9_init 1 = .ok (.invokespecial 3, 3) := by decide +kernel
theorem dX9_init_4 : decode cX9_init 4 = .ok (.aload_n 0, 1) := by decide +kernel
theorem dX9_init_5 : decode cX9_init 5 = .ok (.bipush 60, 2) := by decide +kernel
theorem dX9_init_7 : decode cX9_init 7 = .ok (.newarray .long, 2) := by decide +kernel
theorem dX9_init_9 : decode cX9_init 9 = .ok (.putfield 11, 3) := by decide +kernel
theorem dX9_init_12 : decode cX9_init 12 = .ok (.aload_n 0, 1) := by decide +kernel
theorem dX9_init_13 : decode cX9_init 13 = .ok (.iconst (-1), 1) := by decide +kernel
theorem dX9_init_14 : decode cX9_init 14 = .ok (.putfield 15, 3) := by decide +kernel
theorem dX9_init_17 : decode cX9_init 17 = .ok (.aload_n 0, 1) := by decide +kernel
theorem dX9_init_18 : decode cX9_init 18 = .ok (.iconst 0, 1) := by decide +kernel
theorem dX9_init_19 : decode cX9_init 19 = .ok (.putfield 19, 3) := by decide +kernel
theorem dX9_init_22 : decode cX9_init 22 = .ok (.return_, 1) := by decide +kernel
theorem dX9_sort_0 : decode cX9_sort 0 = .ok (.aload_n 0, 1) := by decide +kernel
theorem dX9_sort_1 : decode cX9_sort 1 = .ok (.getfield 15, 3) := by decide +kernel
theorem dX9_sort_4 : decode cX9_sort 4 = .ok (.ireturn, 1) := by decide +kernel
theorem dX9_length_0 : decode cX9_length 0 = .ok (.aload_n 0, 1) := by decide +kernel
theorem dX9_length_1 : decode cX9_length 1 = .ok (.getfield 19, 3) := by decide +kernel
theorem dX9_length_4 : decode cX9_length 4 = .ok (.ireturn, 1) := by decide +kernel
theorem dX9_holdsNothing_0 : decode cX9_holdsNothing 0 = .ok (.aload_n 0, 1) := by decide +kernel
theorem dX9_holdsNothing_1 : decode cX9_holdsNothing 1 = .ok (.getfield 15, 3) := by decide +kernel
theorem dX9_holdsNothing_4 : decode cX9_holdsNothing 4 = .ok (.iconst (-1), 1) := by decide +kernel
theorem dX9_holdsNothing_5 : decode cX9_holdsNothing 5 = .ok (.if_icmp .ne 7, 3) := by decide +kernel
theorem dX9_holdsNothing_8 : decode cX9_holdsNothing 8 = .ok (.iconst 1, 1) := by decide +kernel
theorem dX9_holdsNothing_9 : decode cX9_holdsNothing 9 = .ok (.goto 4, 3) := by decide +kernel
theorem dX9_holdsNothing_12 : decode cX9_holdsNothing 12 = .ok (.iconst 0, 1) := by decide +kernel
theorem dX9_holdsNothing_13 : decode cX9_holdsNothing 13 = .ok (.ireturn, 1) := by decide +kernel
theorem dX9_become_0 : decode cX9_become 0 = .ok (.aload_n 0, 1) := by decide +kernel
theorem dX9_become_1 : decode cX9_become 1 = .ok (.iload_n 1, 1) := by decide +kernel
theorem dX9_become_2 : decode cX9_become 2 = .ok (.putfield 15, 3) := by decide +kernel
theorem dX9_become_5 : decode cX9_become 5 = .ok (.aload_n 0, 1) := by decide +kernel
theorem dX9_become_6 : decode cX9_become 6 = .ok (.iload_n 2, 1) := by decide +kernel
theorem dX9_become_7 : decode cX9_become 7 = .ok (.putfield 19, 3) := by decide +kernel
theorem dX9_become_10 : decode cX9_become 10 = .ok (.aload_n 0, 1) := by decide +kernel
theorem dX9_become_11 : decode cX9_become 11 = .ok (.getfield 11, 3) := by decide +kernel
theorem dX9_become_14 : decode cX9_become 14 = .ok (.lconst 0, 1) := by decide +kernel
theorem dX9_become_15 : decode cX9_become 15 = .ok (.invokestatic 22, 3) := by decide +kernel
theorem dX9_become_18 : decode cX9_become 18 = .ok (.return_, 1) := by decide +kernel
theorem dX9_get_0 : decode cX9_get 0 = .ok (.iload_n 1, 1) := by decide +kernel
theorem dX9_get_1 : decode cX9_get 1 = .ok (.aload_n 0, 1) := by decide +kernel
theorem dX9_get_2 : decode cX9_get 2 = .ok (.getfield 19, 3) := by decide +kernel
theorem dX9_get_5 : decode cX9_get 5 = .ok (.invokestatic 28, 3) := by decide +kernel
theorem dX9_get_8 : decode cX9_get 8 = .ok (.ifCond .eq 12, 3) := by decide +kernel
theorem dX9_get_11 : decode cX9_get 11 = .ok (.aload_n 0, 1) := by decide +kernel
theorem dX9_get_12 : decode cX9_get 12 = .ok (.getfield 11, 3) := by decide +kernel
theorem dX9_get_15 : decode cX9_get 15 = .ok (.iload_n 1, 1) := by decide +kernel
theorem dX9_get_16 : decode cX9_get 16 = .ok (.laload, 1) := by decide +kernel
theorem dX9_get_17 : decode cX9_get 17 = .ok (.goto 6, 3) := by decide +kernel
theorem dX9_get_20 : decode cX9_get 20 = .ok (.ldc2_w 32, 3) := by decide +kernel
theorem dX9_get_23 : decode cX9_get 23 = .ok (.lreturn, 1) := by decide +kernel
theorem dX9_put_0 : decode cX9_put 0 = .ok (.iload_n 1, 1) := by decide +kernel
theorem dX9_put_1 : decode cX9_put 1 = .ok (.aload_n 0, 1) := by decide +kernel
theorem dX9_put_2 : decode cX9_put 2 = .ok (.getfield 19, 3) := by decide +kernel
theorem dX9_put_5 : decode cX9_put 5 = .ok (.invokestatic 28, 3) := by decide +kernel
theorem dX9_put_8 : decode cX9_put 8 = .ok (.ifCond .eq 14, 3) := by decide +kernel
theorem dX9_put_11 : decode cX9_put 11 = .ok (.aload_n 0, 1) := by decide +kernel
theorem dX9_put_12 : decode cX9_put 12 = .ok (.getfield 11, 3) := by decide +kernel
theorem dX9_put_15 : decode cX9_put 15 = .ok (.iload_n 1, 1) := by decide +kernel
theorem dX9_put_16 : decode cX9_put 16 = .ok (.aload_n 0, 1) := by decide +kernel
theorem dX9_put_17 : decode cX9_put 17 = .ok (.lload_n 2, 1) := by decide +kernel
theorem dX9_put_18 : decode cX9_put 18 = .ok (.invokevirtual 34, 3) := by decide +kernel
theorem dX9_put_21 : decode cX9_put 21 = .ok (.lastore, 1) := by decide +kernel
theorem dX9_put_22 : decode cX9_put 22 = .ok (.return_, 1) := by decide +kernel
theorem dX9_fitted_0 : decode cX9_fitted 0 = .ok (.aload_n 0, 1) := by decide +kernel
theorem dX9_fitted_1 : decode cX9_fitted 1 = .ok (.getfield 15, 3) := by decide +kernel
theorem dX9_fitted_4 : decode cX9_fitted 4 = .ok (.tableswitch 62 0 4 #[36, 41, 46, 62, 50], 36) := by decide +kernel
theorem dX9_fitted_40 : decode cX9_fitted 40 = .ok (.lload_n 1, 1) := by decide +kernel
theorem dX9_fitted_41 : decode cX9_fitted 41 = .ok (.l2i, 1) := by decide +kernel
theorem dX9_fitted_42 : decode cX9_fitted 42 = .ok (.i2b, 1) := by decide +kernel
theorem dX9_fitted_43 : decode cX9_fitted 43 = .ok (.i2l, 1) := by decide +kernel
theorem dX9_fitted_44 : decode cX9_fitted 44 = .ok (.lreturn, 1) := by decide +kernel
theorem dX9_fitted_45 : decode cX9_fitted 45 = .ok (.lload_n 1, 1) := by decide +kernel
theorem dX9_fitted_46 : decode cX9_fitted 46 = .ok (.l2i, 1) := by decide +kernel
theorem dX9_fitted_47 : decode cX9_fitted 47 = .ok (.i2s, 1) := by decide +kernel
theorem dX9_fitted_48 : decode cX9_fitted 48 = .ok (.i2l, 1) := by decide +kernel
theorem dX9_fitted_49 : decode cX9_fitted 49 = .ok (.lreturn, 1) := by decide +kernel
theorem dX9_fitted_50 : decode cX9_fitted 50 = .ok (.lload_n 1, 1) := by decide +kernel
theorem dX9_fitted_51 : decode cX9_fitted 51 = .ok (.l2i, 1) := by decide +kernel
theorem dX9_fitted_52 : decode cX9_fitted 52 = .ok (.i2l, 1) := by decide +kernel
theorem dX9_fitted_53 : decode cX9_fitted 53 = .ok (.lreturn, 1) := by decide +kernel
theorem dX9_fitted_54 : decode cX9_fitted 54 = .ok (.lload_n 1, 1) := by decide +kernel
theorem dX9_fitted_55 : decode cX9_fitted 55 = .ok (.lconst 0, 1) := by decide +kernel
theorem dX9_fitted_56 : decode cX9_fitted 56 = .ok (.lcmp, 1) := by decide +kernel
theorem dX9_fitted_57 : decode cX9_fitted 57 = .ok (.ifCond .eq 7, 3) := by decide +kernel
theorem dX9_fitted_60 : decode cX9_fitted 60 = .ok (.lconst 1, 1) := by decide +kernel
theorem dX9_fitted_61 : decode cX9_fitted 61 = .ok (.goto 4, 3) := by decide +kernel
theorem dX9_fitted_64 : decode cX9_fitted 64 = .ok (.lconst 0, 1) := by decide +kernel
theorem dX9_fitted_65 : decode cX9_fitted 65 = .ok (.lreturn, 1) := by decide +kernel
theorem dX9_fitted_66 : decode cX9_fitted 66 = .ok (.lload_n 1, 1) := by decide +kernel
theorem dX9_fitted_67 : decode cX9_fitted 67 = .ok (.lreturn, 1) := by decide +kernel
theorem dX9_has_0 : decode cX9_has 0 = .ok (.iload_n 1, 1) := by decide +kernel
theorem dX9_has_1 : decode cX9_has 1 = .ok (.ifCond .lt 29, 3) := by decide +kernel
theorem dX9_has_4 : decode cX9_has 4 = .ok (.iload_n 2, 1) := by decide +kernel
theorem dX9_has_5 : decode cX9_has 5 = .ok (.ifCond .lt 25, 3) := by decide +kernel
theorem dX9_has_8 : decode cX9_has 8 = .ok (.iload_n 1, 1) := by decide +kernel
theorem dX9_has_9 : decode cX9_has 9 = .ok (.aload_n 0, 1) := by decide +kernel
theorem dX9_has_10 : decode cX9_has 10 = .ok (.getfield 19, 3) := by decide +kernel
theorem dX9_has_13 : decode cX9_has 13 = .ok (.if_icmp .gt 17, 3) := by decide +kernel
theorem dX9_has_16 : decode cX9_has 16 = .ok (.iload_n 2, 1) := by decide +kernel
theorem dX9_has_17 : decode cX9_has 17 = .ok (.aload_n 0, 1) := by decide +kernel
theorem dX9_has_18 : decode cX9_has 18 = .ok (.getfield 19, 3) := by decide +kernel
theorem dX9_has_21 : decode cX9_has 21 = .ok (.iload_n 1, 1) := by decide +kernel
theorem dX9_has_22 : decode cX9_has 22 = .ok (.isub, 1) := by decide +kernel
theorem dX9_has_23 : decode cX9_has 23 = .ok (.if_icmp .gt 7, 3) := by decide +kernel
theorem dX9_has_26 : decode cX9_has 26 = .ok (.iconst 1, 1) := by decide +kernel
theorem dX9_has_27 : decode cX9_has 27 = .ok (.goto 4, 3) := by decide +kernel
theorem dX9_has_30 : decode cX9_has 30 = .ok (.iconst 0, 1) := by decide +kernel
theorem dX9_has_31 : decode cX9_has 31 = .ok (.ireturn, 1) := by decide +kernel
theorem dX9_take_0 : decode cX9_take 0 = .ok (.aload_n 1, 1) := by decide +kernel
theorem dX9_take_1 : decode cX9_take 1 = .ok (.iload_n 2, 1) := by decide +kernel
theorem dX9_take_2 : decode cX9_take 2 = .ok (.iload 4, 2) := by decide +kernel
theorem dX9_take_4 : decode cX9_take 4 = .ok (.invokevirtual 38, 3) := by decide +kernel
theorem dX9_take_7 : decode cX9_take 7 = .ok (.ifCond .eq 28, 3) := by decide +kernel
theorem dX9_take_10 : decode cX9_take 10 = .ok (.aload_n 0, 1) := by decide +kernel
theorem dX9_take_11 : decode cX9_take 11 = .ok (.iload_n 3, 1) := by decide +kernel
theorem dX9_take_12 : decode cX9_take 12 = .ok (.iload 4, 2) := by decide +kernel
theorem dX9_take_14 : decode cX9_take 14 = .ok (.invokevirtual 38, 3) := by decide +kernel
theorem dX9_take_17 : decode cX9_take 17 = .ok (.ifCond .eq 18, 3) := by decide +kernel
theorem dX9_take_20 : decode cX9_take 20 = .ok (.aload_n 1, 1) := by decide +kernel
theorem dX9_take_21 : decode cX9_take 21 = .ok (.getfield 11, 3) := by decide +kernel
theorem dX9_take_24 : decode cX9_take 24 = .ok (.iload_n 2, 1) := by decide +kernel
theorem dX9_take_25 : decode cX9_take 25 = .ok (.aload_n 0, 1) := by decide +kernel
theorem dX9_take_26 : decode cX9_take 26 = .ok (.getfield 11, 3) := by decide +kernel
theorem dX9_take_29 : decode cX9_take 29 = .ok (.iload_n 3, 1) := by decide +kernel
theorem dX9_take_30 : decode cX9_take 30 = .ok (.iload 4, 2) := by decide +kernel
theorem dX9_take_32 : decode cX9_take 32 = .ok (.invokestatic 41, 3) := by decide +kernel
theorem dX9_take_35 : decode cX9_take 35 = .ok (.return_, 1) := by decide +kernel
