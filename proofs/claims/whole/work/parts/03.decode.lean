theorem dX10_init_0 : decode cX10_init 0 = .ok (.aload_n 0, 1) := by decide +kernel
theorem dX10_init_1 : decode cX10_init 1 = .ok (.invokespecial 3, 3) := by decide +kernel
theorem dX10_init_4 : decode cX10_init 4 = .ok (.aload_n 0, 1) := by decide +kernel
theorem dX10_init_5 : decode cX10_init 5 = .ok (.new 9, 3) := by decide +kernel
theorem dX10_init_8 : decode cX10_init 8 = .ok (.dup, 1) := by decide +kernel
theorem dX10_init_9 : decode cX10_init 9 = .ok (.invokespecial 11, 3) := by decide +kernel
theorem dX10_init_12 : decode cX10_init 12 = .ok (.putfield 12, 3) := by decide +kernel
theorem dX10_init_15 : decode cX10_init 15 = .ok (.aload_n 0, 1) := by decide +kernel
theorem dX10_init_16 : decode cX10_init 16 = .ok (.new 18, 3) := by decide +kernel
theorem dX10_init_19 : decode cX10_init 19 = .ok (.dup, 1) := by decide +kernel
theorem dX10_init_20 : decode cX10_init 20 = .ok (.invokespecial 20, 3) := by decide +kernel
theorem dX10_init_23 : decode cX10_init 23 = .ok (.putfield 21, 3) := by decide +kernel
theorem dX10_init_26 : decode cX10_init 26 = .ok (.aload_n 0, 1) := by decide +kernel
theorem dX10_init_27 : decode cX10_init 27 = .ok (.new 25, 3) := by decide +kernel
theorem dX10_init_30 : decode cX10_init 30 = .ok (.dup, 1) := by decide +kernel
theorem dX10_init_31 : decode cX10_init 31 = .ok (.aload_n 0, 1) := by decide +kernel
theorem dX10_init_32 : decode cX10_init 32 = .ok (.getfield 12, 3) := by decide +kernel
theorem dX10_init_35 : decode cX10_init 35 = .ok (.invokespecial 27, 3) := by decide +kernel
theorem dX10_init_38 : decode cX10_init 38 = .ok (.putfield 30, 3) := by decide +kernel
theorem dX10_init_41 : decode cX10_init 41 = .ok (.aload_n 0, 1) := by decide +kernel
theorem dX10_init_42 : decode cX10_init 42 = .ok (.new 34, 3) := by decide +kernel
theorem dX10_init_45 : decode cX10_init 45 = .ok (.dup, 1) := by decide +kernel
theorem dX10_init_46 : decode cX10_init 46 = .ok (.invokespecial 36, 3) := by decide +kernel
theorem dX10_init_49 : decode cX10_init 49 = .ok (.putfield 37, 3) := by decide +kernel
theorem dX10_init_52 : decode cX10_init 52 = .ok (.aload_n 0, 1) := by decide +kernel
theorem dX10_init_53 : decode cX10_init 53 = .ok (.new 41, 3) := by decide +kernel
theorem dX10_init_56 : decode cX10_init 56 = .ok (.dup, 1) := by decide +kernel
theorem dX10_init_57 : decode cX10_init 57 = .ok (.invokespecial 43, 3) := by decide +kernel
theorem dX10_init_60 : decode cX10_init 60 = .ok (.putfield 44, 3) := by decide +kernel
theorem dX10_init_63 : decode cX10_init 63 = .ok (.aload_n 0, 1) := by decide +kernel
theorem dX10_init_64 : decode cX10_init 64 = .ok (.bipush 6, 2) := by decide +kernel
theorem dX10_init_66 : decode cX10_init 66 = .ok (.anewarray 48, 3) := by decide +kernel
theorem dX10_init_69 : decode cX10_init 69 = .ok (.putfield 50, 3) := by decide +kernel
theorem dX10_init_72 : decode cX10_init 72 = .ok (.aload_n 0, 1) := by decide +kernel
theorem dX10_init_73 : decode cX10_init 73 = .ok (.new 9, 3) := by decide +kernel
theorem dX10_init_76 : decode cX10_init 76 = .ok (.dup, 1) := by decide +kernel
theorem dX10_init_77 : decode cX10_init 77 = .ok (.invokespecial 11, 3) := by decide +kernel
theorem dX10_init_80 : decode cX10_init 80 = .ok (.putfield 54, 3) := by decide +kernel
theorem dX10_init_83 : decode cX10_init 83 = .ok (.aload_n 0, 1) := by decide +kernel
theorem dX10_init_84 : decode cX10_init 84 = .ok (.new 18, 3) := by decide +kernel
theorem dX10_init_87 : decode cX10_init 87 = .ok (.dup, 1) := by decide +kernel
theorem dX10_init_88 : decode cX10_init 88 = .ok (.invokespecial 20, 3) := by decide +kernel
theorem dX10_init_91 : decode cX10_init 91 = .ok (.putfield 57, 3) := by decide +kernel
theorem dX10_init_94 : decode cX10_init 94 = .ok (.aload_n 0, 1) := by decide +kernel
theorem dX10_init_95 : decode cX10_init 95 = .ok (.iconst 0, 1) := by decide +kernel
theorem dX10_init_96 : decode cX10_init 96 = .ok (.putfield 60, 3) := by decide +kernel
theorem dX10_init_99 : decode cX10_init 99 = .ok (.iconst 0, 1) := by decide +kernel
theorem dX10_init_100 : decode cX10_init 100 = .ok (.istore_n 1, 1) := by decide +kernel
theorem dX10_init_101 : decode cX10_init 101 = .ok (.iload_n 1, 1) := by decide +kernel
theorem dX10_init_102 : decode cX10_init 102 = .ok (.bipush 6, 2) := by decide +kernel
theorem dX10_init_104 : decode cX10_init 104 = .ok (.if_icmp .ge 22, 3) := by decide +kernel
theorem dX10_init_107 : decode cX10_init 107 = .ok (.aload_n 0, 1) := by decide +kernel
theorem dX10_init_108 : decode cX10_init 108 = .ok (.getfield 50, 3) := by decide +kernel
theorem dX10_init_111 : decode cX10_init 111 = .ok (.iload_n 1, 1) := by decide +kernel
theorem dX10_init_112 : decode cX10_init 112 = .ok (.new 48, 3) := by decide +kernel
theorem dX10_init_115 : decode cX10_init 115 = .ok (.dup, 1) := by decide +kernel
theorem dX10_init_116 : decode cX10_init 116 = .ok (.invokespecial 64, 3) := by decide +kernel
theorem dX10_init_119 : decode cX10_init 119 = .ok (.aastore, 1) := by decide +kernel
theorem dX10_init_120 : decode cX10_init 120 = .ok (.iinc 1 1, 3) := by decide +kernel
theorem dX10_init_123 : decode cX10_init 123 = .ok (.goto (-22), 3) := by decide +kernel
theorem dX10_init_126 : decode cX10_init 126 = .ok (.return_, 1) := by decide +kernel
theorem dX10_wind_0 : decode cX10_wind 0 = .ok (.iload_n 1, 1) := by decide +kernel
theorem dX10_wind_1 : decode cX10_wind 1 = .ok (.iconst 4, 1) := by decide +kernel
theorem dX10_wind_2 : decode cX10_wind 2 = .ok (.invokestatic 65, 3) := by decide +kernel
theorem dX10_wind_5 : decode cX10_wind 5 = .ok (.ifCond .eq 11, 3) := by decide +kernel
theorem dX10_wind_8 : decode cX10_wind 8 = .ok (.iload_n 2, 1) := by decide +kernel
theorem dX10_wind_9 : decode cX10_wind 9 = .ok (.iconst 4, 1) := by decide +kernel
theorem dX10_wind_10 : decode cX10_wind 10 = .ok (.invokestatic 65, 3) := by decide +kernel
theorem dX10_wind_13 : decode cX10_wind 13 = .ok (.ifCond .ne 5, 3) := by decide +kernel
theorem dX10_wind_16 : decode cX10_wind 16 = .ok (.iconst (-1), 1) := by decide +kernel
theorem dX10_wind_17 : decode cX10_wind 17 = .ok (.ireturn, 1) := by decide +kernel
theorem dX10_wind_18 : decode cX10_wind 18 = .ok (.iload_n 3, 1) := by decide +kernel
theorem dX10_wind_19 : decode cX10_wind 19 = .ok (.bipush 8, 2) := by decide +kernel
theorem dX10_wind_21 : decode cX10_wind 21 = .ok (.invokestatic 65, 3) := by decide +kernel
theorem dX10_wind_24 : decode cX10_wind 24 = .ok (.ifCond .eq 12, 3) := by decide +kernel
theorem dX10_wind_27 : decode cX10_wind 27 = .ok (.iload 4, 2) := by decide +kernel
theorem dX10_wind_29 : decode cX10_wind 29 = .ok (.iconst 4, 1) := by decide +kernel
theorem dX10_wind_30 : decode cX10_wind 30 = .ok (.invokestatic 65, 3) := by decide +kernel
theorem dX10_wind_33 : decode cX10_wind 33 = .ok (.ifCond .ne 6, 3) := by decide +kernel
theorem dX10_wind_36 : decode cX10_wind 36 = .ok (.bipush (-2), 2) := by decide +kernel
theorem dX10_wind_38 : decode cX10_wind 38 = .ok (.ireturn, 1) := by decide +kernel
theorem dX10_wind_39 : decode cX10_wind 39 = .ok (.bipush 10, 2) := by decide +kernel
theorem dX10_wind_41 : decode cX10_wind 41 = .ok (.aload_n 0, 1) := by decide +kernel
theorem dX10_wind_42 : decode cX10_wind 42 = .ok (.getfield 12, 3) := by decide +kernel
theorem dX10_wind_45 : decode cX10_wind 45 = .ok (.iload_n 1, 1) := by decide +kernel
theorem dX10_wind_46 : decode cX10_wind 46 = .ok (.iload_n 2, 1) := by decide +kernel
theorem dX10_wind_47 : decode cX10_wind 47 = .ok (.invokevirtual 69, 3) := by decide +kernel
theorem dX10_wind_50 : decode cX10_wind 50 = .ok (.imul, 1) := by decide +kernel
theorem dX10_wind_51 : decode cX10_wind 51 = .ok (.aload_n 0, 1) := by decide +kernel
theorem dX10_wind_52 : decode cX10_wind 52 = .ok (.getfield 12, 3) := by decide +kernel
theorem dX10_wind_55 : decode cX10_wind 55 = .ok (.iload_n 1, 1) := by decide +kernel
theorem dX10_wind_56 : decode cX10_wind 56 = .ok (.iload_n 2, 1) := by decide +kernel
theorem dX10_wind_57 : decode cX10_wind 57 = .ok (.invokevirtual 73, 3) := by decide +kernel
theorem dX10_wind_60 : decode cX10_wind 60 = .ok (.iadd, 1) := by decide +kernel
theorem dX10_wind_61 : decode cX10_wind 61 = .ok (.istore 5, 2) := by decide +kernel
theorem dX10_wind_63 : decode cX10_wind 63 = .ok (.aload_n 0, 1) := by decide +kernel
theorem dX10_wind_64 : decode cX10_wind 64 = .ok (.getfield 12, 3) := by decide +kernel
theorem dX10_wind_67 : decode cX10_wind 67 = .ok (.iload_n 1, 1) := by decide +kernel
theorem dX10_wind_68 : decode cX10_wind 68 = .ok (.iload_n 2, 1) := by decide +kernel
theorem dX10_wind_69 : decode cX10_wind 69 = .ok (.iload_n 3, 1) := by decide +kernel
theorem dX10_wind_70 : decode cX10_wind 70 = .ok (.iload 4, 2) := by decide +kernel
theorem dX10_wind_72 : decode cX10_wind 72 = .ok (.invokevirtual 76, 3) := by decide +kernel
theorem dX10_wind_75 : decode cX10_wind 75 = .ok (.iload 5, 2) := by decide +kernel
theorem dX10_wind_77 : decode cX10_wind 77 = .ok (.ireturn, 1) := by decide +kernel
theorem dX10_current_0 : decode cX10_current 0 = .ok (.iload_n 1, 1) := by decide +kernel
theorem dX10_current_1 : decode cX10_current 1 = .ok (.iconst 4, 1) := by decide +kernel
theorem dX10_current_2 : decode cX10_current 2 = .ok (.invokestatic 65, 3) := by decide +kernel
theorem dX10_current_5 : decode cX10_current 5 = .ok (.ifCond .ne 5, 3) := by decide +kernel
theorem dX10_current_8 : decode cX10_current 8 = .ok (.iconst (-1), 1) := by decide +kernel
theorem dX10_current_9 : decode cX10_current 9 = .ok (.ireturn, 1) := by decide +kernel
theorem dX10_current_10 : decode cX10_current 10 = .ok (.iload_n 2, 1) := by decide +kernel
theorem dX10_current_11 : decode cX10_current 11 = .ok (.bipush 8, 2) := by decide +kernel
theorem dX10_current_13 : decode cX10_current 13 = .ok (.invokestatic 65, 3) := by decide +kernel
theorem dX10_current_16 : decode cX10_current 16 = .ok (.ifCond .eq 11, 3) := by decide +kernel
theorem dX10_current_19 : decode cX10_current 19 = .ok (.iload_n 3, 1) := by decide +kernel
theorem dX10_current_20 : decode cX10_current 20 = .ok (.iconst 4, 1) := by decide +kernel
theorem dX10_current_21 : decode cX10_current 21 = .ok (.invokestatic 65, 3) := by decide +kernel
theorem dX10_current_24 : decode cX10_current 24 = .ok (.ifCond .ne 6, 3) := by decide +kernel
theorem dX10_current_27 : decode cX10_current 27 = .ok (.bipush (-2), 2) := by decide +kernel
theorem dX10_current_29 : decode cX10_current 29 = .ok (.ireturn, 1) := by decide +kernel
theorem dX10_current_30 : decode cX10_current 30 = .ok (.bipush 10, 2) := by decide +kernel
theorem dX10_current_32 : decode cX10_current 32 = .ok (.aload_n 0, 1) := by decide +kernel
theorem dX10_current_33 : decode cX10_current 33 = .ok (.getfield 12, 3) := by decide +kernel
theorem dX10_current_36 : decode cX10_current 36 = .ok (.iload_n 1, 1) := by decide +kernel
theorem dX10_current_37 : decode cX10_current 37 = .ok (.invokevirtual 80, 3) := by decide +kernel
theorem dX10_current_40 : decode cX10_current 40 = .ok (.imul, 1) := by decide +kernel
theorem dX10_current_41 : decode cX10_current 41 = .ok (.aload_n 0, 1) := by decide +kernel
theorem dX10_current_42 : decode cX10_current 42 = .ok (.getfield 12, 3) := by decide +kernel
theorem dX10_current_45 : decode cX10_current 45 = .ok (.iload_n 1, 1) := by decide +kernel
theorem dX10_current_46 : decode cX10_current 46 = .ok (.invokevirtual 84, 3) := by decide +kernel
theorem dX10_current_49 : decode cX10_current 49 = .ok (.iadd, 1) := by decide +kernel
theorem dX10_current_50 : decode cX10_current 50 = .ok (.istore 4, 2) := by decide +kernel
theorem dX10_current_52 : decode cX10_current 52 = .ok (.aload_n 0, 1) := by decide +kernel
theorem dX10_current_53 : decode cX10_current 53 = .ok (.getfield 12, 3) := by decide +kernel
theorem dX10_current_56 : decode cX10_current 56 = .ok (.iload_n 1, 1) := by decide +kernel
theorem dX10_current_57 : decode cX10_current 57 = .ok (.iload_n 2, 1) := by decide +kernel
theorem dX10_current_58 : decode cX10_current 58 = .ok (.iload_n 3, 1) := by decide +kernel
theorem dX10_current_59 : decode cX10_current 59 = .ok (.invokevirtual 87, 3) := by decide +kernel
theorem dX10_current_62 : decode cX10_current 62 = .ok (.iload 4, 2) := by decide +kernel
theorem dX10_current_64 : decode cX10_current 64 = .ok (.ireturn, 1) := by decide +kernel
theorem dX10_table_0 : decode cX10_table 0 = .ok (.iload_n 1, 1) := by decide +kernel
theorem dX10_table_1 : decode cX10_table 1 = .ok (.iconst 1, 1) := by decide +kernel
theorem dX10_table_2 : decode cX10_table 2 = .ok (.if_icmp .lt 16, 3) := by decide +kernel
theorem dX10_table_5 : decode cX10_table 5 = .ok (.iload_n 1, 1) := by decide +kernel
theorem dX10_table_6 : decode cX10_table 6 = .ok (.iconst 3, 1) := by decide +kernel
theorem dX10_table_7 : decode cX10_table 7 = .ok (.if_icmp .gt 11, 3) := by decide +kernel
theorem dX10_table_10 : decode cX10_table 10 = .ok (.iload_n 2, 1) := by decide +kernel
theorem dX10_table_11 : decode cX10_table 11 = .ok (.iconst 5, 1) := by decide +kernel
theorem dX10_table_12 : decode cX10_table 12 = .ok (.invokestatic 65, 3) := by decide +kernel
theorem dX10_table_15 : decode cX10_table 15 = .ok (.ifCond .ne 5, 3) := by decide +kernel
theorem dX10_table_18 : decode cX10_table 18 = .ok (.iconst (-1), 1) := by decide +kernel
theorem dX10_table_19 : decode cX10_table 19 = .ok (.ireturn, 1) := by decide +kernel
theorem dX10_table_20 : decode cX10_table 20 = .ok (.iload_n 3, 1) := by decide +kernel
theorem dX10_table_21 : decode cX10_table 21 = .ok (.bipush 10, 2) := by decide +kernel
theorem dX10_table_23 : decode cX10_table 23 = .ok (.invokestatic 65, 3) := by decide +kernel
theorem dX10_table_26 : decode cX10_table 26 = .ok (.ifCond .ne 6, 3) := by decide +kernel
theorem dX10_table_29 : decode cX10_table 29 = .ok (.bipush (-2), 2) := by decide +kernel
theorem dX10_table_31 : decode cX10_table 31 = .ok (.ireturn, 1) := by decide +kernel
theorem dX10_table_32 : decode cX10_table 32 = .ok (.aload_n 0, 1) := by decide +kernel
theorem dX10_table_33 : decode cX10_table 33 = .ok (.getfield 12, 3) := by decide +kernel
theorem dX10_table_36 : decode cX10_table 36 = .ok (.iload_n 1, 1) := by decide +kernel
theorem dX10_table_37 : decode cX10_table 37 = .ok (.iload_n 2, 1) := by decide +kernel
theorem dX10_table_38 : decode cX10_table 38 = .ok (.invokevirtual 91, 3) := by decide +kernel
theorem dX10_table_41 : decode cX10_table 41 = .ok (.istore 4, 2) := by decide +kernel
theorem dX10_table_43 : decode cX10_table 43 = .ok (.aload_n 0, 1) := by decide +kernel
theorem dX10_table_44 : decode cX10_table 44 = .ok (.getfield 12, 3) := by decide +kernel
theorem dX10_table_47 : decode cX10_table 47 = .ok (.iload_n 1, 1) := by decide +kernel
theorem dX10_table_48 : decode cX10_table 48 = .ok (.iload_n 2, 1) := by decide +kernel
theorem dX10_table_49 : decode cX10_table 49 = .ok (.iload_n 3, 1) := by decide +kernel
theorem dX10_table_50 : decode cX10_table 50 = .ok (.invokevirtual 94, 3) := by decide +kernel
theorem dX10_table_53 : decode cX10_table 53 = .ok (.iload 4, 2) := by decide +kernel
theorem dX10_table_55 : decode cX10_table 55 = .ok (.ireturn, 1) := by decide +kernel
theorem dX10_land_0 : decode cX10_land 0 = .ok (.iload_n 1, 1) := by decide +kernel
theorem dX10_land_1 : decode cX10_land 1 = .ok (.bipush 36, 2) := by decide +kernel
theorem dX10_land_3 : decode cX10_land 3 = .ok (.invokestatic 65, 3) := by decide +kernel
theorem dX10_land_6 : decode cX10_land 6 = .ok (.ifCond .ne 5, 3) := by decide +kernel
theorem dX10_land_9 : decode cX10_land 9 = .ok (.iconst (-1), 1) := by decide +kernel
theorem dX10_land_10 : decode cX10_land 10 = .ok (.ireturn, 1) := by decide +kernel
theorem dX10_land_11 : decode cX10_land 11 = .ok (.iload_n 2, 1) := by decide +kernel
theorem dX10_land_12 : decode cX10_land 12 = .ok (.ifCond .eq 17, 3) := by decide +kernel
theorem dX10_land_15 : decode cX10_land 15 = .ok (.iload_n 1, 1) := by decide +kernel
theorem dX10_land_16 : decode cX10_land 16 = .ok (.aload_n 0, 1) := by decide +kernel
theorem dX10_land_17 : decode cX10_land 17 = .ok (.getfield 12, 3) := by decide +kernel
theorem dX10_land_20 : decode cX10_land 20 = .ok (.getfield 97, 3) := by decide +kernel
theorem dX10_land_23 : decode cX10_land 23 = .ok (.if_icmp .ne 6, 3) := by decide +kernel
theorem dX10_land_26 : decode cX10_land 26 = .ok (.bipush (-3), 2) := by decide +kernel
theorem dX10_land_28 : decode cX10_land 28 = .ok (.ireturn, 1) := by decide +kernel
theorem dX10_land_29 : decode cX10_land 29 = .ok (.aload_n 0, 1) := by decide +kernel
theorem dX10_land_30 : decode cX10_land 30 = .ok (.getfield 12, 3) := by decide +kernel
theorem dX10_land_33 : decode cX10_land 33 = .ok (.iload_n 1, 1) := by decide +kernel
theorem dX10_land_34 : decode cX10_land 34 = .ok (.invokevirtual 101, 3) := by decide +kernel
theorem dX10_land_37 : decode cX10_land 37 = .ok (.ifCond .eq 7, 3) := by decide +kernel
theorem dX10_land_40 : decode cX10_land 40 = .ok (.iconst 1, 1) := by decide +kernel
theorem dX10_land_41 : decode cX10_land 41 = .ok (.goto 4, 3) := by decide +kernel
theorem dX10_land_44 : decode cX10_land 44 = .ok (.iconst 0, 1) := by decide +kernel
theorem dX10_land_45 : decode cX10_land 45 = .ok (.istore_n 3, 1) := by decide +kernel
theorem dX10_land_46 : decode cX10_land 46 = .ok (.aload_n 0, 1) := by decide +kernel
theorem dX10_land_47 : decode cX10_land 47 = .ok (.getfield 12, 3) := by decide +kernel
theorem dX10_land_50 : decode cX10_land 50 = .ok (.iload_n 1, 1) := by decide +kernel
theorem dX10_land_51 : decode cX10_land 51 = .ok (.iload_n 2, 1) := by decide +kernel
theorem dX10_land_52 : decode cX10_land 52 = .ok (.invokevirtual 105, 3) := by decide +kernel
theorem dX10_land_55 : decode cX10_land 55 = .ok (.iload_n 3, 1) := by decide +kernel
theorem dX10_land_56 : decode cX10_land 56 = .ok (.ireturn, 1) := by decide +kernel
theorem dX10_start_0 : decode cX10_start 0 = .ok (.aload_n 0, 1) := by decide +kernel
theorem dX10_start_1 : decode cX10_start 1 = .ok (.iload_n 1, 1) := by decide +kernel
theorem dX10_start_2 : decode cX10_start 2 = .ok (.iload_n 2, 1) := by decide +kernel
theorem dX10_start_3 : decode cX10_start 3 = .ok (.iload_n 3, 1) := by decide +kernel
theorem dX10_start_4 : decode cX10_start 4 = .ok (.invokevirtual 109, 3) := by decide +kernel
theorem dX10_start_7 : decode cX10_start 7 = .ok (.istore 4, 2) := by decide +kernel
theorem dX10_start_9 : decode cX10_start 9 = .ok (.iload 4, 2) := by decide +kernel
theorem dX10_start_11 : decode cX10_start 11 = .ok (.ifCond .eq 6, 3) := by decide +kernel
theorem dX10_start_14 : decode cX10_start 14 = .ok (.iload 4, 2) := by decide +kernel
theorem dX10_start_16 : decode cX10_start 16 = .ok (.ireturn, 1) := by decide +kernel
theorem dX10_start_17 : decode cX10_start 17 = .ok (.aload_n 0, 1) := by decide +kernel
theorem dX10_start_18 : decode cX10_start 18 = .ok (.getfield 12, 3) := by decide +kernel
theorem dX10_start_21 : decode cX10_start 21 = .ok (.iload_n 1, 1) := by decide +kernel
theorem dX10_start_22 : decode cX10_start 22 = .ok (.iload_n 2, 1) := by decide +kernel
theorem dX10_start_23 : decode cX10_start 23 = .ok (.iload_n 3, 1) := by decide +kernel
theorem dX10_start_24 : decode cX10_start 24 = .ok (.invokevirtual 113, 3) := by decide +kernel
theorem dX10_start_27 : decode cX10_start 27 = .ok (.aload_n 0, 1) := by decide +kernel
theorem dX10_start_28 : decode cX10_start 28 = .ok (.invokevirtual 116, 3) := by decide +kernel
theorem dX10_start_31 : decode cX10_start 31 = .ok (.invokevirtual 120, 3) := by decide +kernel
theorem dX10_start_34 : decode cX10_start 34 = .ok (.ireturn, 1) := by decide +kernel
theorem dX10_loss_0 : decode cX10_loss 0 = .ok (.iload_n 1, 1) := by decide +kernel
theorem dX10_loss_1 : decode cX10_loss 1 = .ok (.iconst 2, 1) := by decide +kernel
theorem dX10_loss_2 : decode cX10_loss 2 = .ok (.invokestatic 65, 3) := by decide +kernel
theorem dX10_loss_5 : decode cX10_loss 5 = .ok (.ifCond .ne 5, 3) := by decide +kernel
theorem dX10_loss_8 : decode cX10_loss 8 = .ok (.iconst (-1), 1) := by decide +kernel
theorem dX10_loss_9 : decode cX10_loss 9 = .ok (.ireturn, 1) := by decide +kernel
theorem dX10_loss_10 : decode cX10_loss 10 = .ok (.iload_n 2, 1) := by decide +kernel
theorem dX10_loss_11 : decode cX10_loss 11 = .ok (.ifCond .lt 9, 3) := by decide +kernel
theorem dX10_loss_14 : decode cX10_loss 14 = .ok (.iload_n 2, 1) := by decide +kernel
theorem dX10_loss_15 : decode cX10_loss 15 = .ok (.bipush 60, 2) := by decide +kernel
theorem dX10_loss_17 : decode cX10_loss 17 = .ok (.if_icmp .le 6, 3) := by decide +kernel
theorem dX10_loss_20 : decode cX10_loss 20 = .ok (.bipush (-2), 2) := by decide +kernel
theorem dX10_loss_22 : decode cX10_loss 22 = .ok (.ireturn, 1) := by decide +kernel
theorem dX10_loss_23 : decode cX10_loss 23 = .ok (.aload_n 0, 1) := by decide +kernel
theorem dX10_loss_24 : decode cX10_loss 24 = .ok (.getfield 12, 3) := by decide +kernel
theorem dX10_loss_27 : decode cX10_loss 27 = .ok (.iload_n 1, 1) := by decide +kernel
theorem dX10_loss_28 : decode cX10_loss 28 = .ok (.invokevirtual 124, 3) := by decide +kernel
theorem dX10_loss_31 : decode cX10_loss 31 = .ok (.istore_n 3, 1) := by decide +kernel
theorem dX10_loss_32 : decode cX10_loss 32 = .ok (.aload_n 0, 1) := by decide +kernel
theorem dX10_loss_33 : decode cX10_loss 33 = .ok (.getfield 12, 3) := by decide +kernel
theorem dX10_loss_36 : decode cX10_loss 36 = .ok (.iload_n 1, 1) := by decide +kernel
theorem dX10_loss_37 : decode cX10_loss 37 = .ok (.iload_n 2, 1) := by decide +kernel
theorem dX10_loss_38 : decode cX10_loss 38 = .ok (.invokevirtual 127, 3) := by decide +kernel
theorem dX10_loss_41 : decode cX10_loss 41 = .ok (.iload_n 3, 1) := by decide +kernel
theorem dX10_loss_42 : decode cX10_loss 42 = .ok (.ireturn, 1) := by decide +kernel
theorem dX10_steer_0 : decode cX10_steer 0 = .ok (.iload_n 1, 1) := by decide +kernel
theorem dX10_steer_1 : decode cX10_steer 1 = .ok (.iconst (-1), 1) := by decide +kernel
theorem dX10_steer_2 : decode cX10_steer 2 = .ok (.if_icmp .ne 14, 3) := by decide +kernel
theorem dX10_steer_5 : decode cX10_steer 5 = .ok (.aload_n 0, 1) := by decide +kernel
theorem dX10_steer_6 : decode cX10_steer 6 = .ok (.getfield 21, 3) := by decide +kernel
theorem dX10_steer_9 : decode cX10_steer 9 = .ok (.getfield 131, 3) := by decide +kernel
theorem dX10_steer_12 : decode cX10_steer 12 = .ok (.invokevirtual 135, 3) := by decide +kernel
theorem dX10_steer_15 : decode cX10_steer 15 = .ok (.ireturn, 1) := by decide +kernel
theorem dX10_steer_16 : decode cX10_steer 16 = .ok (.iload_n 1, 1) := by decide +kernel
theorem dX10_steer_17 : decode cX10_steer 17 = .ok (.bipush 8, 2) := by decide +kernel
theorem dX10_steer_19 : decode cX10_steer 19 = .ok (.invokestatic 65, 3) := by decide +kernel
theorem dX10_steer_22 : decode cX10_steer 22 = .ok (.ifCond .ne 5, 3) := by decide +kernel
theorem dX10_steer_25 : decode cX10_steer 25 = .ok (.iconst (-1), 1) := by decide +kernel
theorem dX10_steer_26 : decode cX10_steer 26 = .ok (.ireturn, 1) := by decide +kernel
theorem dX10_steer_27 : decode cX10_steer 27 = .ok (.aload_n 0, 1) := by decide +kernel
theorem dX10_steer_28 : decode cX10_steer 28 = .ok (.getfield 21, 3) := by decide +kernel
theorem dX10_steer_31 : decode cX10_steer 31 = .ok (.getfield 131, 3) := by decide +kernel
theorem dX10_steer_34 : decode cX10_steer 34 = .ok (.iload_n 1, 1) := by decide +kernel
theorem dX10_steer_35 : decode cX10_steer 35 = .ok (.iconst 0, 1) := by decide +kernel
theorem dX10_steer_36 : decode cX10_steer 36 = .ok (.invokevirtual 140, 3) := by decide +kernel
theorem dX10_steer_39 : decode cX10_steer 39 = .ok (.ireturn, 1) := by decide +kernel
theorem dX10_feed_0 : decode cX10_feed 0 = .ok (.iload_n 1, 1) := by decide +kernel
theorem dX10_feed_1 : decode cX10_feed 1 = .ok (.sipush 128, 3) := by decide +kernel
theorem dX10_feed_4 : decode cX10_feed 4 = .ok (.invokestatic 65, 3) := by decide +kernel
theorem dX10_feed_7 : decode cX10_feed 7 = .ok (.ifCond .ne 6, 3) := by decide +kernel
theorem dX10_feed_10 : decode cX10_feed 10 = .ok (.bipush (-2), 2) := by decide +kernel
theorem dX10_feed_12 : decode cX10_feed 12 = .ok (.ireturn, 1) := by decide +kernel
theorem dX10_feed_13 : decode cX10_feed 13 = .ok (.aload_n 0, 1) := by decide +kernel
theorem dX10_feed_14 : decode cX10_feed 14 = .ok (.getfield 44, 3) := by decide +kernel
theorem dX10_feed_17 : decode cX10_feed 17 = .ok (.iload_n 1, 1) := by decide +kernel
theorem dX10_feed_18 : decode cX10_feed 18 = .ok (.invokevirtual 143, 3) := by decide +kernel
theorem dX10_feed_21 : decode cX10_feed 21 = .ok (.ireturn, 1) := by decide +kernel
theorem dX10_read_0 : decode cX10_read 0 = .ok (.aload_n 0, 1) := by decide +kernel
theorem dX10_read_1 : decode cX10_read 1 = .ok (.getfield 44, 3) := by decide +kernel
theorem dX10_read_4 : decode cX10_read 4 = .ok (.invokevirtual 146, 3) := by decide +kernel
theorem dX10_read_7 : decode cX10_read 7 = .ok (.istore_n 1, 1) := by decide +kernel
theorem dX10_read_8 : decode cX10_read 8 = .ok (.aload_n 0, 1) := by decide +kernel
theorem dX10_read_9 : decode cX10_read 9 = .ok (.getfield 44, 3) := by decide +kernel
theorem dX10_read_12 : decode cX10_read 12 = .ok (.invokevirtual 149, 3) := by decide +kernel
theorem dX10_read_15 : decode cX10_read 15 = .ok (.iload_n 1, 1) := by decide +kernel
theorem dX10_read_16 : decode cX10_read 16 = .ok (.iconst (-1), 1) := by decide +kernel
theorem dX10_read_17 : decode cX10_read 17 = .ok (.if_icmp .eq 8, 3) := by decide +kernel
theorem dX10_read_20 : decode cX10_read 20 = .ok (.bipush (-10), 2) := by decide +kernel
theorem dX10_read_22 : decode cX10_read 22 = .ok (.iload_n 1, 1) := by decide +kernel
theorem dX10_read_23 : decode cX10_read 23 = .ok (.isub, 1) := by decide +kernel
theorem dX10_read_24 : decode cX10_read 24 = .ok (.ireturn, 1) := by decide +kernel
theorem dX10_read_25 : decode cX10_read 25 = .ok (.iconst 0, 1) := by decide +kernel
theorem dX10_read_26 : decode cX10_read 26 = .ok (.istore_n 2, 1) := by decide +kernel
theorem dX10_read_27 : decode cX10_read 27 = .ok (.iconst 0, 1) := by decide +kernel
theorem dX10_read_28 : decode cX10_read 28 = .ok (.istore_n 3, 1) := by decide +kernel
theorem dX10_read_29 : decode cX10_read 29 = .ok (.iload_n 3, 1) := by decide +kernel
theorem dX10_read_30 : decode cX10_read 30 = .ok (.aload_n 0, 1) := by decide +kernel
theorem dX10_read_31 : decode cX10_read 31 = .ok (.getfield 44, 3) := by decide +kernel
theorem dX10_read_34 : decode cX10_read 34 = .ok (.invokevirtual 151, 3) := by decide +kernel
theorem dX10_read_37 : decode cX10_read 37 = .ok (.if_icmp .ge 20, 3) := by decide +kernel
theorem dX10_read_40 : decode cX10_read 40 = .ok (.aload_n 0, 1) := by decide +kernel
theorem dX10_read_41 : decode cX10_read 41 = .ok (.iload_n 3, 1) := by decide +kernel
theorem dX10_read_42 : decode cX10_read 42 = .ok (.invokevirtual 154, 3) := by decide +kernel
theorem dX10_read_45 : decode cX10_read 45 = .ok (.ifCond .eq 6, 3) := by decide +kernel
theorem dX10_read_48 : decode cX10_read 48 = .ok (.iinc 2 1, 3) := by decide +kernel
theorem dX10_read_51 : decode cX10_read 51 = .ok (.iinc 3 1, 3) := by decide +kernel
theorem dX10_read_54 : decode cX10_read 54 = .ok (.goto (-25), 3) := by decide +kernel
theorem dX10_read_57 : decode cX10_read 57 = .ok (.iload_n 2, 1) := by decide +kernel
theorem dX10_read_58 : decode cX10_read 58 = .ok (.ireturn, 1) := by decide +kernel
theorem dX10_of_0 : decode cX10_of 0 = .ok (.iload_n 1, 1) := by decide +kernel
theorem dX10_of_1 : decode cX10_of 1 = .ok (.iconst 4, 1) := by decide +kernel
theorem dX10_of_2 : decode cX10_of 2 = .ok (.invokestatic 65, 3) := by decide +kernel
theorem dX10_of_5 : decode cX10_of 5 = .ok (.ifCond .eq 11, 3) := by decide +kernel
theorem dX10_of_8 : decode cX10_of 8 = .ok (.iload_n 2, 1) := by decide +kernel
theorem dX10_of_9 : decode cX10_of 9 = .ok (.iconst 4, 1) := by decide +kernel
theorem dX10_of_10 : decode cX10_of 10 = .ok (.invokestatic 65, 3) := by decide +kernel
theorem dX10_of_13 : decode cX10_of 13 = .ok (.ifCond .ne 5, 3) := by decide +kernel
theorem dX10_of_16 : decode cX10_of 16 = .ok (.iconst (-1), 1) := by decide +kernel
theorem dX10_of_17 : decode cX10_of 17 = .ok (.ireturn, 1) := by decide +kernel
theorem dX10_of_18 : decode cX10_of 18 = .ok (.iload_n 3, 1) := by decide +kernel
theorem dX10_of_19 : decode cX10_of 19 = .ok (.tableswitch 67 0 3 #[29, 39, 49, 58], 29) := by decide +kernel
theorem dX10_of_48 : decode cX10_of 48 = .ok (.aload_n 0, 1) := by decide +kernel
theorem dX10_of_49 : decode cX10_of 49 = .ok (.getfield 12, 3) := by decide +kernel
theorem dX10_of_52 : decode cX10_of 52 = .ok (.iload_n 1, 1) := by decide +kernel
theorem dX10_of_53 : decode cX10_of 53 = .ok (.iload_n 2, 1) := by decide +kernel
theorem dX10_of_54 : decode cX10_of 54 = .ok (.invokevirtual 69, 3) := by decide +kernel
theorem dX10_of_57 : decode cX10_of 57 = .ok (.ireturn, 1) := by decide +kernel
theorem dX10_of_58 : decode cX10_of 58 = .ok (.aload_n 0, 1) := by decide +kernel
theorem dX10_of_59 : decode cX10_of 59 = .ok (.getfield 12, 3) := by decide +kernel
theorem dX10_of_62 : decode cX10_of 62 = .ok (.iload_n 1, 1) := by decide +kernel
theorem dX10_of_63 : decode cX10_of 63 = .ok (.iload_n 2, 1) := by decide +kernel
theorem dX10_of_64 : decode cX10_of 64 = .ok (.invokevirtual 73, 3) := by decide +kernel
theorem dX10_of_67 : decode cX10_of 67 = .ok (.ireturn, 1) := by decide +kernel
theorem dX10_of_68 : decode cX10_of 68 = .ok (.aload_n 0, 1) := by decide +kernel
theorem dX10_of_69 : decode cX10_of 69 = .ok (.getfield 12, 3) := by decide +kernel
theorem dX10_of_72 : decode cX10_of 72 = .ok (.iload_n 1, 1) := by decide +kernel
theorem dX10_of_73 : decode cX10_of 73 = .ok (.invokevirtual 80, 3) := by decide +kernel
theorem dX10_of_76 : decode cX10_of 76 = .ok (.ireturn, 1) := by decide +kernel
theorem dX10_of_77 : decode cX10_of 77 = .ok (.aload_n 0, 1) := by decide +kernel
theorem dX10_of_78 : decode cX10_of 78 = .ok (.getfield 12, 3) := by decide +kernel
theorem dX10_of_81 : decode cX10_of 81 = .ok (.iload_n 1, 1) := by decide +kernel
theorem dX10_of_82 : decode cX10_of 82 = .ok (.invokevirtual 84, 3) := by decide +kernel
theorem dX10_of_85 : decode cX10_of 85 = .ok (.ireturn, 1) := by decide +kernel
theorem dX10_of_86 : decode cX10_of 86 = .ok (.iconst (-1), 1) := by decide +kernel
theorem dX10_of_87 : decode cX10_of 87 = .ok (.ireturn, 1) := by decide +kernel
theorem dX10_speed_0 : decode cX10_speed 0 = .ok (.iload_n 1, 1) := by decide +kernel
theorem dX10_speed_1 : decode cX10_speed 1 = .ok (.iconst 1, 1) := by decide +kernel
theorem dX10_speed_2 : decode cX10_speed 2 = .ok (.if_icmp .lt 16, 3) := by decide +kernel
theorem dX10_speed_5 : decode cX10_speed 5 = .ok (.iload_n 1, 1) := by decide +kernel
theorem dX10_speed_6 : decode cX10_speed 6 = .ok (.iconst 3, 1) := by decide +kernel
theorem dX10_speed_7 : decode cX10_speed 7 = .ok (.if_icmp .gt 11, 3) := by decide +kernel
theorem dX10_speed_10 : decode cX10_speed 10 = .ok (.iload_n 2, 1) := by decide +kernel
theorem dX10_speed_11 : decode cX10_speed 11 = .ok (.iconst 5, 1) := by decide +kernel
theorem dX10_speed_12 : decode cX10_speed 12 = .ok (.invokestatic 65, 3) := by decide +kernel
theorem dX10_speed_15 : decode cX10_speed 15 = .ok (.ifCond .ne 5, 3) := by decide +kernel
theorem dX10_speed_18 : decode cX10_speed 18 = .ok (.iconst (-1), 1) := by decide +kernel
theorem dX10_speed_19 : decode cX10_speed 19 = .ok (.ireturn, 1) := by decide +kernel
theorem dX10_speed_20 : decode cX10_speed 20 = .ok (.aload_n 0, 1) := by decide +kernel
theorem dX10_speed_21 : decode cX10_speed 21 = .ok (.getfield 12, 3) := by decide +kernel
theorem dX10_speed_24 : decode cX10_speed 24 = .ok (.iload_n 1, 1) := by decide +kernel
theorem dX10_speed_25 : decode cX10_speed 25 = .ok (.iload_n 2, 1) := by decide +kernel
theorem dX10_speed_26 : decode cX10_speed 26 = .ok (.invokevirtual 91, 3) := by decide +kernel
theorem dX10_speed_29 : decode cX10_speed 29 = .ok (.ireturn, 1) := by decide +kernel
theorem dX10_told_0 : decode cX10_told 0 = .ok (.iload_n 1, 1) := by decide +kernel
theorem dX10_told_1 : decode cX10_told 1 = .ok (.tableswitch 123 0 8 #[51, 51, 60, 68, 76, 84, 92, 100, 115], 51) := by decide +kernel
theorem dX10_told_52 : decode cX10_told 52 = .ok (.aload_n 0, 1) := by decide +kernel
theorem dX10_told_53 : decode cX10_told 53 = .ok (.getfield 12, 3) := by decide +kernel
theorem dX10_told_56 : decode cX10_told 56 = .ok (.iload_n 1, 1) := by decide +kernel
theorem dX10_told_57 : decode cX10_told 57 = .ok (.invokevirtual 124, 3) := by decide +kernel
theorem dX10_told_60 : decode cX10_told 60 = .ok (.ireturn, 1) := by decide +kernel
theorem dX10_told_61 : decode cX10_told 61 = .ok (.aload_n 0, 1) := by decide +kernel
theorem dX10_told_62 : decode cX10_told 62 = .ok (.getfield 12, 3) := by decide +kernel
theorem dX10_told_65 : decode cX10_told 65 = .ok (.getfield 97, 3) := by decide +kernel
theorem dX10_told_68 : decode cX10_told 68 = .ok (.ireturn, 1) := by decide +kernel
theorem dX10_told_69 : decode cX10_told 69 = .ok (.aload_n 0, 1) := by decide +kernel
theorem dX10_told_70 : decode cX10_told 70 = .ok (.getfield 12, 3) := by decide +kernel
theorem dX10_told_73 : decode cX10_told 73 = .ok (.getfield 157, 3) := by decide +kernel
theorem dX10_told_76 : decode cX10_told 76 = .ok (.ireturn, 1) := by decide +kernel
theorem dX10_told_77 : decode cX10_told 77 = .ok (.aload_n 0, 1) := by decide +kernel
theorem dX10_told_78 : decode cX10_told 78 = .ok (.getfield 12, 3) := by decide +kernel
theorem dX10_told_81 : decode cX10_told 81 = .ok (.getfield 160, 3) := by decide +kernel
theorem dX10_told_84 : decode cX10_told 84 = .ok (.ireturn, 1) := by decide +kernel
theorem dX10_told_85 : decode cX10_told 85 = .ok (.aload_n 0, 1) := by decide +kernel
theorem dX10_told_86 : decode cX10_told 86 = .ok (.getfield 12, 3) := by decide +kernel
theorem dX10_told_89 : decode cX10_told 89 = .ok (.invokevirtual 163, 3) := by decide +kernel
theorem dX10_told_92 : decode cX10_told 92 = .ok (.ireturn, 1) := by decide +kernel
theorem dX10_told_93 : decode cX10_told 93 = .ok (.aload_n 0, 1) := by decide +kernel
theorem dX10_told_94 : decode cX10_told 94 = .ok (.invokevirtual 116, 3) := by decide +kernel
theorem dX10_told_97 : decode cX10_told 97 = .ok (.invokevirtual 120, 3) := by decide +kernel
theorem dX10_told_100 : decode cX10_told 100 = .ok (.ireturn, 1) := by decide +kernel
theorem dX10_told_101 : decode cX10_told 101 = .ok (.aload_n 0, 1) := by decide +kernel
theorem dX10_told_102 : decode cX10_told 102 = .ok (.invokevirtual 116, 3) := by decide +kernel
theorem dX10_told_105 : decode cX10_told 105 = .ok (.aload_n 0, 1) := by decide +kernel
theorem dX10_told_106 : decode cX10_told 106 = .ok (.invokevirtual 116, 3) := by decide +kernel
theorem dX10_told_109 : decode cX10_told 109 = .ok (.invokevirtual 166, 3) := by decide +kernel
theorem dX10_told_112 : decode cX10_told 112 = .ok (.invokevirtual 169, 3) := by decide +kernel
theorem dX10_told_115 : decode cX10_told 115 = .ok (.ireturn, 1) := by decide +kernel
theorem dX10_told_116 : decode cX10_told 116 = .ok (.aload_n 0, 1) := by decide +kernel
theorem dX10_told_117 : decode cX10_told 117 = .ok (.invokevirtual 116, 3) := by decide +kernel
theorem dX10_told_120 : decode cX10_told 120 = .ok (.invokevirtual 166, 3) := by decide +kernel
theorem dX10_told_123 : decode cX10_told 123 = .ok (.ireturn, 1) := by decide +kernel
theorem dX10_told_124 : decode cX10_told 124 = .ok (.iconst (-1), 1) := by decide +kernel
theorem dX10_told_125 : decode cX10_told 125 = .ok (.ireturn, 1) := by decide +kernel
theorem dX10_pace_0 : decode cX10_pace 0 = .ok (.iload_n 1, 1) := by decide +kernel
theorem dX10_pace_1 : decode cX10_pace 1 = .ok (.bipush 36, 2) := by decide +kernel
theorem dX10_pace_3 : decode cX10_pace 3 = .ok (.invokestatic 65, 3) := by decide +kernel
theorem dX10_pace_6 : decode cX10_pace 6 = .ok (.ifCond .eq 12, 3) := by decide +kernel
theorem dX10_pace_9 : decode cX10_pace 9 = .ok (.iload_n 2, 1) := by decide +kernel
theorem dX10_pace_10 : decode cX10_pace 10 = .ok (.bipush 8, 2) := by decide +kernel
theorem dX10_pace_12 : decode cX10_pace 12 = .ok (.invokestatic 65, 3) := by decide +kernel
theorem dX10_pace_15 : decode cX10_pace 15 = .ok (.ifCond .ne 5, 3) := by decide +kernel
theorem dX10_pace_18 : decode cX10_pace 18 = .ok (.iconst (-1), 1) := by decide +kernel
theorem dX10_pace_19 : decode cX10_pace 19 = .ok (.ireturn, 1) := by decide +kernel
theorem dX10_pace_20 : decode cX10_pace 20 = .ok (.iload_n 3, 1) := by decide +kernel
theorem dX10_pace_21 : decode cX10_pace 21 = .ok (.ifCond .lt 10, 3) := by decide +kernel
theorem dX10_pace_24 : decode cX10_pace 24 = .ok (.iload_n 3, 1) := by decide +kernel
theorem dX10_pace_25 : decode cX10_pace 25 = .ok (.sipush 9999, 3) := by decide +kernel
theorem dX10_pace_28 : decode cX10_pace 28 = .ok (.if_icmp .le 6, 3) := by decide +kernel
theorem dX10_pace_31 : decode cX10_pace 31 = .ok (.bipush (-2), 2) := by decide +kernel
theorem dX10_pace_33 : decode cX10_pace 33 = .ok (.ireturn, 1) := by decide +kernel
theorem dX10_pace_34 : decode cX10_pace 34 = .ok (.aload_n 0, 1) := by decide +kernel
theorem dX10_pace_35 : decode cX10_pace 35 = .ok (.getfield 12, 3) := by decide +kernel
theorem dX10_pace_38 : decode cX10_pace 38 = .ok (.iload_n 1, 1) := by decide +kernel
theorem dX10_pace_39 : decode cX10_pace 39 = .ok (.invokestatic 172, 3) := by decide +kernel
theorem dX10_pace_42 : decode cX10_pace 42 = .ok (.iload_n 3, 1) := by decide +kernel
theorem dX10_pace_43 : decode cX10_pace 43 = .ok (.invokestatic 177, 3) := by decide +kernel
theorem dX10_pace_46 : decode cX10_pace 46 = .ok (.iload_n 2, 1) := by decide +kernel
theorem dX10_pace_47 : decode cX10_pace 47 = .ok (.invokevirtual 180, 3) := by decide +kernel
theorem dX10_pace_50 : decode cX10_pace 50 = .ok (.ireturn, 1) := by decide +kernel
theorem dX10_leg_0 : decode cX10_leg 0 = .ok (.iload_n 1, 1) := by decide +kernel
theorem dX10_leg_1 : decode cX10_leg 1 = .ok (.bipush 36, 2) := by decide +kernel
theorem dX10_leg_3 : decode cX10_leg 3 = .ok (.invokestatic 65, 3) := by decide +kernel
theorem dX10_leg_6 : decode cX10_leg 6 = .ok (.ifCond .eq 22, 3) := by decide +kernel
theorem dX10_leg_9 : decode cX10_leg 9 = .ok (.aload_n 0, 1) := by decide +kernel
theorem dX10_leg_10 : decode cX10_leg 10 = .ok (.getfield 12, 3) := by decide +kernel
theorem dX10_leg_13 : decode cX10_leg 13 = .ok (.iload_n 1, 1) := by decide +kernel
theorem dX10_leg_14 : decode cX10_leg 14 = .ok (.invokevirtual 101, 3) := by decide +kernel
theorem dX10_leg_17 : decode cX10_leg 17 = .ok (.ifCond .ne 11, 3) := by decide +kernel
theorem dX10_leg_20 : decode cX10_leg 20 = .ok (.iload_n 2, 1) := by decide +kernel
theorem dX10_leg_21 : decode cX10_leg 21 = .ok (.iconst 2, 1) := by decide +kernel
theorem dX10_leg_22 : decode cX10_leg 22 = .ok (.invokestatic 65, 3) := by decide +kernel
theorem dX10_leg_25 : decode cX10_leg 25 = .ok (.ifCond .ne 5, 3) := by decide +kernel
theorem dX10_leg_28 : decode cX10_leg 28 = .ok (.iconst (-1), 1) := by decide +kernel
theorem dX10_leg_29 : decode cX10_leg 29 = .ok (.ireturn, 1) := by decide +kernel
theorem dX10_leg_30 : decode cX10_leg 30 = .ok (.iload_n 3, 1) := by decide +kernel
theorem dX10_leg_31 : decode cX10_leg 31 = .ok (.bipush 8, 2) := by decide +kernel
theorem dX10_leg_33 : decode cX10_leg 33 = .ok (.invokestatic 65, 3) := by decide +kernel
theorem dX10_leg_36 : decode cX10_leg 36 = .ok (.ifCond .eq 12, 3) := by decide +kernel
theorem dX10_leg_39 : decode cX10_leg 39 = .ok (.iload 5, 2) := by decide +kernel
theorem dX10_leg_41 : decode cX10_leg 41 = .ok (.iconst 3, 1) := by decide +kernel
theorem dX10_leg_42 : decode cX10_leg 42 = .ok (.invokestatic 65, 3) := by decide +kernel
theorem dX10_leg_45 : decode cX10_leg 45 = .ok (.ifCond .ne 5, 3) := by decide +kernel
theorem dX10_leg_48 : decode cX10_leg 48 = .ok (.iconst (-1), 1) := by decide +kernel
theorem dX10_leg_49 : decode cX10_leg 49 = .ok (.ireturn, 1) := by decide +kernel
theorem dX10_leg_50 : decode cX10_leg 50 = .ok (.iload 4, 2) := by decide +kernel
theorem dX10_leg_52 : decode cX10_leg 52 = .ok (.ifCond .lt 11, 3) := by decide +kernel
theorem dX10_leg_55 : decode cX10_leg 55 = .ok (.iload 4, 2) := by decide +kernel
theorem dX10_leg_57 : decode cX10_leg 57 = .ok (.sipush 9999, 3) := by decide +kernel
theorem dX10_leg_60 : decode cX10_leg 60 = .ok (.if_icmp .le 6, 3) := by decide +kernel
theorem dX10_leg_63 : decode cX10_leg 63 = .ok (.bipush (-2), 2) := by decide +kernel
theorem dX10_leg_65 : decode cX10_leg 65 = .ok (.ireturn, 1) := by decide +kernel
theorem dX10_leg_66 : decode cX10_leg 66 = .ok (.aload_n 0, 1) := by decide +kernel
theorem dX10_leg_67 : decode cX10_leg 67 = .ok (.getfield 30, 3) := by decide +kernel
theorem dX10_leg_70 : decode cX10_leg 70 = .ok (.invokevirtual 183, 3) := by decide +kernel
theorem dX10_leg_73 : decode cX10_leg 73 = .ok (.astore 6, 2) := by decide +kernel
theorem dX10_leg_75 : decode cX10_leg 75 = .ok (.aload 6, 2) := by decide +kernel
theorem dX10_leg_77 : decode cX10_leg 77 = .ok (.iload_n 1, 1) := by decide +kernel
theorem dX10_leg_78 : decode cX10_leg 78 = .ok (.iload_n 2, 1) := by decide +kernel
theorem dX10_leg_79 : decode cX10_leg 79 = .ok (.iload_n 3, 1) := by decide +kernel
theorem dX10_leg_80 : decode cX10_leg 80 = .ok (.iload 4, 2) := by decide +kernel
theorem dX10_leg_82 : decode cX10_leg 82 = .ok (.invokevirtual 187, 3) := by decide +kernel
theorem dX10_leg_85 : decode cX10_leg 85 = .ok (.istore 7, 2) := by decide +kernel
theorem dX10_leg_87 : decode cX10_leg 87 = .ok (.iload 7, 2) := by decide +kernel
theorem dX10_leg_89 : decode cX10_leg 89 = .ok (.ldc 193, 2) := by decide +kernel
theorem dX10_leg_91 : decode cX10_leg 91 = .ok (.if_icmp .ne 6, 3) := by decide +kernel
theorem dX10_leg_94 : decode cX10_leg 94 = .ok (.bipush (-5), 2) := by decide +kernel
theorem dX10_leg_96 : decode cX10_leg 96 = .ok (.ireturn, 1) := by decide +kernel
theorem dX10_leg_97 : decode cX10_leg 97 = .ok (.iload 5, 2) := by decide +kernel
theorem dX10_leg_99 : decode cX10_leg 99 = .ok (.iconst 1, 1) := by decide +kernel
theorem dX10_leg_100 : decode cX10_leg 100 = .ok (.if_icmp .ne 6, 3) := by decide +kernel
theorem dX10_leg_103 : decode cX10_leg 103 = .ok (.iload 7, 2) := by decide +kernel
theorem dX10_leg_105 : decode cX10_leg 105 = .ok (.ireturn, 1) := by decide +kernel
theorem dX10_leg_106 : decode cX10_leg 106 = .ok (.iload_n 1, 1) := by decide +kernel
theorem dX10_leg_107 : decode cX10_leg 107 = .ok (.iload_n 3, 1) := by decide +kernel
theorem dX10_leg_108 : decode cX10_leg 108 = .ok (.iload 7, 2) := by decide +kernel
theorem dX10_leg_110 : decode cX10_leg 110 = .ok (.invokestatic 194, 3) := by decide +kernel
theorem dX10_leg_113 : decode cX10_leg 113 = .ok (.istore 8, 2) := by decide +kernel
theorem dX10_leg_115 : decode cX10_leg 115 = .ok (.iload 5, 2) := by decide +kernel
theorem dX10_leg_117 : decode cX10_leg 117 = .ok (.ifCond .ne 16, 3) := by decide +kernel
theorem dX10_leg_120 : decode cX10_leg 120 = .ok (.aload 6, 2) := by decide +kernel
theorem dX10_leg_122 : decode cX10_leg 122 = .ok (.iload 8, 2) := by decide +kernel
theorem dX10_leg_124 : decode cX10_leg 124 = .ok (.iload_n 2, 1) := by decide +kernel
theorem dX10_leg_125 : decode cX10_leg 125 = .ok (.iload 7, 2) := by decide +kernel
theorem dX10_leg_127 : decode cX10_leg 127 = .ok (.invokevirtual 197, 3) := by decide +kernel
theorem dX10_leg_130 : decode cX10_leg 130 = .ok (.goto 11, 3) := by decide +kernel
theorem dX10_leg_133 : decode cX10_leg 133 = .ok (.aload 6, 2) := by decide +kernel
theorem dX10_leg_135 : decode cX10_leg 135 = .ok (.iload 8, 2) := by decide +kernel
theorem dX10_leg_137 : decode cX10_leg 137 = .ok (.iload_n 2, 1) := by decide +kernel
theorem dX10_leg_138 : decode cX10_leg 138 = .ok (.invokevirtual 200, 3) := by decide +kernel
theorem dX10_leg_141 : decode cX10_leg 141 = .ok (.ireturn, 1) := by decide +kernel
theorem dX10_least_0 : decode cX10_least 0 = .ok (.iload_n 1, 1) := by decide +kernel
theorem dX10_least_1 : decode cX10_least 1 = .ok (.bipush 36, 2) := by decide +kernel
theorem dX10_least_3 : decode cX10_least 3 = .ok (.invokestatic 65, 3) := by decide +kernel
theorem dX10_least_6 : decode cX10_least 6 = .ok (.ifCond .eq 11, 3) := by decide +kernel
theorem dX10_least_9 : decode cX10_least 9 = .ok (.iload_n 2, 1) := by decide +kernel
theorem dX10_least_10 : decode cX10_least 10 = .ok (.iconst 3, 1) := by decide +kernel
theorem dX10_least_11 : decode cX10_least 11 = .ok (.invokestatic 65, 3) := by decide +kernel
theorem dX10_least_14 : decode cX10_least 14 = .ok (.ifCond .ne 5, 3) := by decide +kernel
theorem dX10_least_17 : decode cX10_least 17 = .ok (.iconst (-1), 1) := by decide +kernel
theorem dX10_least_18 : decode cX10_least 18 = .ok (.ireturn, 1) := by decide +kernel
theorem dX10_least_19 : decode cX10_least 19 = .ok (.iload_n 2, 1) := by decide +kernel
theorem dX10_least_20 : decode cX10_least 20 = .ok (.iconst 2, 1) := by decide +kernel
theorem dX10_least_21 : decode cX10_least 21 = .ok (.if_icmp .ne 14, 3) := by decide +kernel
theorem dX10_least_24 : decode cX10_least 24 = .ok (.aload_n 0, 1) := by decide +kernel
theorem dX10_least_25 : decode cX10_least 25 = .ok (.invokevirtual 116, 3) := by decide +kernel
theorem dX10_least_28 : decode cX10_least 28 = .ok (.iload_n 1, 1) := by decide +kernel
theorem dX10_least_29 : decode cX10_least 29 = .ok (.invokevirtual 169, 3) := by decide +kernel
theorem dX10_least_32 : decode cX10_least 32 = .ok (.goto 12, 3) := by decide +kernel
theorem dX10_least_35 : decode cX10_least 35 = .ok (.aload_n 0, 1) := by decide +kernel
theorem dX10_least_36 : decode cX10_least 36 = .ok (.invokevirtual 116, 3) := by decide +kernel
theorem dX10_least_39 : decode cX10_least 39 = .ok (.iload_n 1, 1) := by decide +kernel
theorem dX10_least_40 : decode cX10_least 40 = .ok (.iload_n 2, 1) := by decide +kernel
theorem dX10_least_41 : decode cX10_least 41 = .ok (.invokevirtual 203, 3) := by decide +kernel
theorem dX10_least_44 : decode cX10_least 44 = .ok (.istore_n 3, 1) := by decide +kernel
theorem dX10_least_45 : decode cX10_least 45 = .ok (.iload_n 3, 1) := by decide +kernel
theorem dX10_least_46 : decode cX10_least 46 = .ok (.ldc 193, 2) := by decide +kernel
theorem dX10_least_48 : decode cX10_least 48 = .ok (.if_icmp .ne 8, 3) := by decide +kernel
theorem dX10_least_51 : decode cX10_least 51 = .ok (.bipush (-5), 2) := by decide +kernel
theorem dX10_least_53 : decode cX10_least 53 = .ok (.goto 4, 3) := by decide +kernel
theorem dX10_least_56 : decode cX10_least 56 = .ok (.iload_n 3, 1) := by decide +kernel
theorem dX10_least_57 : decode cX10_least 57 = .ok (.ireturn, 1) := by decide +kernel
theorem dX10_last_0 : decode cX10_last 0 = .ok (.iload_n 1, 1) := by decide +kernel
theorem dX10_last_1 : decode cX10_last 1 = .ok (.bipush 36, 2) := by decide +kernel
theorem dX10_last_3 : decode cX10_last 3 = .ok (.invokestatic 65, 3) := by decide +kernel
theorem dX10_last_6 : decode cX10_last 6 = .ok (.ifCond .eq 11, 3) := by decide +kernel
theorem dX10_last_9 : decode cX10_last 9 = .ok (.iload_n 2, 1) := by decide +kernel
theorem dX10_last_10 : decode cX10_last 10 = .ok (.iconst 2, 1) := by decide +kernel
theorem dX10_last_11 : decode cX10_last 11 = .ok (.invokestatic 65, 3) := by decide +kernel
theorem dX10_last_14 : decode cX10_last 14 = .ok (.ifCond .ne 5, 3) := by decide +kernel
theorem dX10_last_17 : decode cX10_last 17 = .ok (.iconst (-1), 1) := by decide +kernel
theorem dX10_last_18 : decode cX10_last 18 = .ok (.ireturn, 1) := by decide +kernel
theorem dX10_last_19 : decode cX10_last 19 = .ok (.aload_n 0, 1) := by decide +kernel
theorem dX10_last_20 : decode cX10_last 20 = .ok (.invokevirtual 116, 3) := by decide +kernel
theorem dX10_last_23 : decode cX10_last 23 = .ok (.iload_n 1, 1) := by decide +kernel
theorem dX10_last_24 : decode cX10_last 24 = .ok (.iload_n 2, 1) := by decide +kernel
theorem dX10_last_25 : decode cX10_last 25 = .ok (.invokevirtual 206, 3) := by decide +kernel
theorem dX10_last_28 : decode cX10_last 28 = .ok (.ireturn, 1) := by decide +kernel
theorem dX10_course_0 : decode cX10_course 0 = .ok (.iload_n 1, 1) := by decide +kernel
theorem dX10_course_1 : decode cX10_course 1 = .ok (.bipush 36, 2) := by decide +kernel
theorem dX10_course_3 : decode cX10_course 3 = .ok (.invokestatic 65, 3) := by decide +kernel
theorem dX10_course_6 : decode cX10_course 6 = .ok (.ifCond .eq 8, 3) := by decide +kernel
theorem dX10_course_9 : decode cX10_course 9 = .ok (.iload_n 2, 1) := by decide +kernel
theorem dX10_course_10 : decode cX10_course 10 = .ok (.iconst (-1), 1) := by decide +kernel
theorem dX10_course_11 : decode cX10_course 11 = .ok (.if_icmp .ge 5, 3) := by decide +kernel
theorem dX10_course_14 : decode cX10_course 14 = .ok (.iconst (-1), 1) := by decide +kernel
theorem dX10_course_15 : decode cX10_course 15 = .ok (.ireturn, 1) := by decide +kernel
theorem dX10_course_16 : decode cX10_course 16 = .ok (.aload_n 0, 1) := by decide +kernel
theorem dX10_course_17 : decode cX10_course 17 = .ok (.invokevirtual 116, 3) := by decide +kernel
theorem dX10_course_20 : decode cX10_course 20 = .ok (.iload_n 1, 1) := by decide +kernel
theorem dX10_course_21 : decode cX10_course 21 = .ok (.invokevirtual 209, 3) := by decide +kernel
theorem dX10_course_24 : decode cX10_course 24 = .ok (.istore_n 3, 1) := by decide +kernel
theorem dX10_course_25 : decode cX10_course 25 = .ok (.iload_n 3, 1) := by decide +kernel
theorem dX10_course_26 : decode cX10_course 26 = .ok (.bipush (-5), 2) := by decide +kernel
theorem dX10_course_28 : decode cX10_course 28 = .ok (.if_icmp .eq 8, 3) := by decide +kernel
theorem dX10_course_31 : decode cX10_course 31 = .ok (.iload_n 2, 1) := by decide +kernel
theorem dX10_course_32 : decode cX10_course 32 = .ok (.iload_n 3, 1) := by decide +kernel
theorem dX10_course_33 : decode cX10_course 33 = .ok (.if_icmp .lt 6, 3) := by decide +kernel
theorem dX10_course_36 : decode cX10_course 36 = .ok (.bipush (-5), 2) := by decide +kernel
theorem dX10_course_38 : decode cX10_course 38 = .ok (.ireturn, 1) := by decide +kernel
theorem dX10_course_39 : decode cX10_course 39 = .ok (.iload_n 2, 1) := by decide +kernel
theorem dX10_course_40 : decode cX10_course 40 = .ok (.iconst (-1), 1) := by decide +kernel
theorem dX10_course_41 : decode cX10_course 41 = .ok (.if_icmp .ne 7, 3) := by decide +kernel
theorem dX10_course_44 : decode cX10_course 44 = .ok (.iload_n 3, 1) := by decide +kernel
theorem dX10_course_45 : decode cX10_course 45 = .ok (.goto 11, 3) := by decide +kernel
theorem dX10_course_48 : decode cX10_course 48 = .ok (.aload_n 0, 1) := by decide +kernel
theorem dX10_course_49 : decode cX10_course 49 = .ok (.getfield 30, 3) := by decide +kernel
theorem dX10_course_52 : decode cX10_course 52 = .ok (.iload_n 2, 1) := by decide +kernel
theorem dX10_course_53 : decode cX10_course 53 = .ok (.invokevirtual 212, 3) := by decide +kernel
theorem dX10_course_56 : decode cX10_course 56 = .ok (.ireturn, 1) := by decide +kernel
theorem dX10_reckon_0 : decode cX10_reckon 0 = .ok (.iload_n 1, 1) := by decide +kernel
theorem dX10_reckon_1 : decode cX10_reckon 1 = .ok (.iconst 2, 1) := by decide +kernel
theorem dX10_reckon_2 : decode cX10_reckon 2 = .ok (.invokestatic 65, 3) := by decide +kernel
theorem dX10_reckon_5 : decode cX10_reckon 5 = .ok (.ifCond .eq 11, 3) := by decide +kernel
theorem dX10_reckon_8 : decode cX10_reckon 8 = .ok (.iload_n 2, 1) := by decide +kernel
theorem dX10_reckon_9 : decode cX10_reckon 9 = .ok (.iconst 2, 1) := by decide +kernel
theorem dX10_reckon_10 : decode cX10_reckon 10 = .ok (.invokestatic 65, 3) := by decide +kernel
theorem dX10_reckon_13 : decode cX10_reckon 13 = .ok (.ifCond .ne 7, 3) := by decide +kernel
theorem dX10_reckon_16 : decode cX10_reckon 16 = .ok (.ldc2_w 215, 3) := by decide +kernel
theorem dX10_reckon_19 : decode cX10_reckon 19 = .ok (.lreturn, 1) := by decide +kernel
theorem dX10_reckon_20 : decode cX10_reckon 20 = .ok (.aload_n 0, 1) := by decide +kernel
theorem dX10_reckon_21 : decode cX10_reckon 21 = .ok (.iload_n 1, 1) := by decide +kernel
theorem dX10_reckon_22 : decode cX10_reckon 22 = .ok (.ifCond .ne 7, 3) := by decide +kernel
theorem dX10_reckon_25 : decode cX10_reckon 25 = .ok (.iconst 1, 1) := by decide +kernel
theorem dX10_reckon_26 : decode cX10_reckon 26 = .ok (.goto 4, 3) := by decide +kernel
theorem dX10_reckon_29 : decode cX10_reckon 29 = .ok (.iconst 0, 1) := by decide +kernel
theorem dX10_reckon_30 : decode cX10_reckon 30 = .ok (.invokevirtual 217, 3) := by decide +kernel
theorem dX10_reckon_33 : decode cX10_reckon 33 = .ok (.invokestatic 221, 3) := by decide +kernel
theorem dX10_reckon_36 : decode cX10_reckon 36 = .ok (.lstore_n 3, 1) := by decide +kernel
theorem dX10_reckon_37 : decode cX10_reckon 37 = .ok (.iload_n 2, 1) := by decide +kernel
theorem dX10_reckon_38 : decode cX10_reckon 38 = .ok (.ifCond .ne 10, 3) := by decide +kernel
theorem dX10_reckon_41 : decode cX10_reckon 41 = .ok (.lload_n 3, 1) := by decide +kernel
theorem dX10_reckon_42 : decode cX10_reckon 42 = .ok (.bipush 32, 2) := by decide +kernel
theorem dX10_reckon_44 : decode cX10_reckon 44 = .ok (.lushr, 1) := by decide +kernel
theorem dX10_reckon_45 : decode cX10_reckon 45 = .ok (.goto 8, 3) := by decide +kernel
theorem dX10_reckon_48 : decode cX10_reckon 48 = .ok (.lload_n 3, 1) := by decide +kernel
theorem dX10_reckon_49 : decode cX10_reckon 49 = .ok (.ldc2_w 227, 3) := by decide +kernel
theorem dX10_reckon_52 : decode cX10_reckon 52 = .ok (.land, 1) := by decide +kernel
theorem dX10_reckon_53 : decode cX10_reckon 53 = .ok (.lreturn, 1) := by decide +kernel
theorem dX10_meanPace_0 : decode cX10_meanPace 0 = .ok (.iload_n 1, 1) := by decide +kernel
theorem dX10_meanPace_1 : decode cX10_meanPace 1 = .ok (.bipush 36, 2) := by decide +kernel
theorem dX10_meanPace_3 : decode cX10_meanPace 3 = .ok (.invokestatic 65, 3) := by decide +kernel
theorem dX10_meanPace_6 : decode cX10_meanPace 6 = .ok (.ifCond .ne 7, 3) := by decide +kernel
theorem dX10_meanPace_9 : decode cX10_meanPace 9 = .ok (.ldc2_w 215, 3) := by decide +kernel
theorem dX10_meanPace_12 : decode cX10_meanPace 12 = .ok (.lreturn, 1) := by decide +kernel
theorem dX10_meanPace_13 : decode cX10_meanPace 13 = .ok (.aload_n 0, 1) := by decide +kernel
theorem dX10_meanPace_14 : decode cX10_meanPace 14 = .ok (.invokevirtual 116, 3) := by decide +kernel
theorem dX10_meanPace_17 : decode cX10_meanPace 17 = .ok (.iload_n 1, 1) := by decide +kernel
theorem dX10_meanPace_18 : decode cX10_meanPace 18 = .ok (.invokevirtual 209, 3) := by decide +kernel
theorem dX10_meanPace_21 : decode cX10_meanPace 21 = .ok (.istore_n 2, 1) := by decide +kernel
theorem dX10_meanPace_22 : decode cX10_meanPace 22 = .ok (.iload_n 2, 1) := by decide +kernel
theorem dX10_meanPace_23 : decode cX10_meanPace 23 = .ok (.bipush (-5), 2) := by decide +kernel
theorem dX10_meanPace_25 : decode cX10_meanPace 25 = .ok (.if_icmp .ne 7, 3) := by decide +kernel
theorem dX10_meanPace_28 : decode cX10_meanPace 28 = .ok (.ldc2_w 215, 3) := by decide +kernel
theorem dX10_meanPace_31 : decode cX10_meanPace 31 = .ok (.lreturn, 1) := by decide +kernel
theorem dX10_meanPace_32 : decode cX10_meanPace 32 = .ok (.aload_n 0, 1) := by decide +kernel
theorem dX10_meanPace_33 : decode cX10_meanPace 33 = .ok (.getfield 30, 3) := by decide +kernel
theorem dX10_meanPace_36 : decode cX10_meanPace 36 = .ok (.iload_n 1, 1) := by decide +kernel
theorem dX10_meanPace_37 : decode cX10_meanPace 37 = .ok (.invokevirtual 169, 3) := by decide +kernel
theorem dX10_meanPace_40 : decode cX10_meanPace 40 = .ok (.aload_n 0, 1) := by decide +kernel
theorem dX10_meanPace_41 : decode cX10_meanPace 41 = .ok (.getfield 12, 3) := by decide +kernel
theorem dX10_meanPace_44 : decode cX10_meanPace 44 = .ok (.getfield 160, 3) := by decide +kernel
theorem dX10_meanPace_47 : decode cX10_meanPace 47 = .ok (.isub, 1) := by decide +kernel
theorem dX10_meanPace_48 : decode cX10_meanPace 48 = .ok (.istore_n 3, 1) := by decide +kernel
theorem dX10_meanPace_49 : decode cX10_meanPace 49 = .ok (.iload_n 3, 1) := by decide +kernel
theorem dX10_meanPace_50 : decode cX10_meanPace 50 = .ok (.ifCond .ne 5, 3) := by decide +kernel
theorem dX10_meanPace_53 : decode cX10_meanPace 53 = .ok (.lconst 0, 1) := by decide +kernel
theorem dX10_meanPace_54 : decode cX10_meanPace 54 = .ok (.lreturn, 1) := by decide +kernel
theorem dX10_meanPace_55 : decode cX10_meanPace 55 = .ok (.aload_n 0, 1) := by decide +kernel
theorem dX10_meanPace_56 : decode cX10_meanPace 56 = .ok (.getfield 30, 3) := by decide +kernel
theorem dX10_meanPace_59 : decode cX10_meanPace 59 = .ok (.invokevirtual 229, 3) := by decide +kernel
theorem dX10_meanPace_62 : decode cX10_meanPace 62 = .ok (.i2f, 1) := by decide +kernel
theorem dX10_meanPace_63 : decode cX10_meanPace 63 = .ok (.iload_n 3, 1) := by decide +kernel
theorem dX10_meanPace_64 : decode cX10_meanPace 64 = .ok (.i2f, 1) := by decide +kernel
theorem dX10_meanPace_65 : decode cX10_meanPace 65 = .ok (.fdiv, 1) := by decide +kernel
theorem dX10_meanPace_66 : decode cX10_meanPace 66 = .ok (.invokestatic 232, 3) := by decide +kernel
theorem dX10_meanPace_69 : decode cX10_meanPace 69 = .ok (.lreturn, 1) := by decide +kernel
theorem dX10_see_0 : decode cX10_see 0 = .ok (.aload_n 0, 1) := by decide +kernel
theorem dX10_see_1 : decode cX10_see 1 = .ok (.getfield 21, 3) := by decide +kernel
theorem dX10_see_4 : decode cX10_see 4 = .ok (.getfield 236, 3) := by decide +kernel
theorem dX10_see_7 : decode cX10_see 7 = .ok (.iload_n 1, 1) := by decide +kernel
theorem dX10_see_8 : decode cX10_see 8 = .ok (.iload_n 2, 1) := by decide +kernel
theorem dX10_see_9 : decode cX10_see 9 = .ok (.invokestatic 239, 3) := by decide +kernel
theorem dX10_see_12 : decode cX10_see 12 = .ok (.ireturn, 1) := by decide +kernel
theorem dX10_fits_0 : decode cX10_fits 0 = .ok (.iload_n 1, 1) := by decide +kernel
theorem dX10_fits_1 : decode cX10_fits 1 = .ok (.iconst 4, 1) := by decide +kernel
theorem dX10_fits_2 : decode cX10_fits 2 = .ok (.invokestatic 65, 3) := by decide +kernel
theorem dX10_fits_5 : decode cX10_fits 5 = .ok (.ifCond .eq 19, 3) := by decide +kernel
theorem dX10_fits_8 : decode cX10_fits 8 = .ok (.iload_n 2, 1) := by decide +kernel
theorem dX10_fits_9 : decode cX10_fits 9 = .ok (.iconst 4, 1) := by decide +kernel
theorem dX10_fits_10 : decode cX10_fits 10 = .ok (.invokestatic 65, 3) := by decide +kernel
theorem dX10_fits_13 : decode cX10_fits 13 = .ok (.ifCond .eq 11, 3) := by decide +kernel
theorem dX10_fits_16 : decode cX10_fits 16 = .ok (.iload_n 3, 1) := by decide +kernel
theorem dX10_fits_17 : decode cX10_fits 17 = .ok (.iconst 2, 1) := by decide +kernel
theorem dX10_fits_18 : decode cX10_fits 18 = .ok (.invokestatic 65, 3) := by decide +kernel
theorem dX10_fits_21 : decode cX10_fits 21 = .ok (.ifCond .ne 5, 3) := by decide +kernel
theorem dX10_fits_24 : decode cX10_fits 24 = .ok (.iconst (-1), 1) := by decide +kernel
theorem dX10_fits_25 : decode cX10_fits 25 = .ok (.ireturn, 1) := by decide +kernel
theorem dX10_fits_26 : decode cX10_fits 26 = .ok (.aload_n 0, 1) := by decide +kernel
theorem dX10_fits_27 : decode cX10_fits 27 = .ok (.getfield 37, 3) := by decide +kernel
theorem dX10_fits_30 : decode cX10_fits 30 = .ok (.aload_n 0, 1) := by decide +kernel
theorem dX10_fits_31 : decode cX10_fits 31 = .ok (.getfield 12, 3) := by decide +kernel
theorem dX10_fits_34 : decode cX10_fits 34 = .ok (.iload_n 1, 1) := by decide +kernel
theorem dX10_fits_35 : decode cX10_fits 35 = .ok (.iload_n 2, 1) := by decide +kernel
theorem dX10_fits_36 : decode cX10_fits 36 = .ok (.invokevirtual 243, 3) := by decide +kernel
theorem dX10_fits_39 : decode cX10_fits 39 = .ok (.iconst 0, 1) := by decide +kernel
theorem dX10_fits_40 : decode cX10_fits 40 = .ok (.istore 4, 2) := by decide +kernel
theorem dX10_fits_42 : decode cX10_fits 42 = .ok (.bipush (-5), 2) := by decide +kernel
theorem dX10_fits_44 : decode cX10_fits 44 = .ok (.istore 5, 2) := by decide +kernel
theorem dX10_fits_46 : decode cX10_fits 46 = .ok (.bipush 7, 2) := by decide +kernel
theorem dX10_fits_48 : decode cX10_fits 48 = .ok (.istore 6, 2) := by decide +kernel
theorem dX10_fits_50 : decode cX10_fits 50 = .ok (.iload 6, 2) := by decide +kernel
theorem dX10_fits_52 : decode cX10_fits 52 = .ok (.ifCond .lt 35, 3) := by decide +kernel
theorem dX10_fits_55 : decode cX10_fits 55 = .ok (.aload_n 0, 1) := by decide +kernel
theorem dX10_fits_56 : decode cX10_fits 56 = .ok (.getfield 37, 3) := by decide +kernel
theorem dX10_fits_59 : decode cX10_fits 59 = .ok (.iload 6, 2) := by decide +kernel
theorem dX10_fits_61 : decode cX10_fits 61 = .ok (.aload_n 0, 1) := by decide +kernel
theorem dX10_fits_62 : decode cX10_fits 62 = .ok (.getfield 21, 3) := by decide +kernel
theorem dX10_fits_65 : decode cX10_fits 65 = .ok (.getfield 236, 3) := by decide +kernel
theorem dX10_fits_68 : decode cX10_fits 68 = .ok (.invokevirtual 247, 3) := by decide +kernel
theorem dX10_fits_71 : decode cX10_fits 71 = .ok (.ifCond .eq 10, 3) := by decide +kernel
theorem dX10_fits_74 : decode cX10_fits 74 = .ok (.iinc 4 1, 3) := by decide +kernel
theorem dX10_fits_77 : decode cX10_fits 77 = .ok (.iload 6, 2) := by decide +kernel
theorem dX10_fits_79 : decode cX10_fits 79 = .ok (.istore 5, 2) := by decide +kernel
theorem dX10_fits_81 : decode cX10_fits 81 = .ok (.iinc 6 (-1), 3) := by decide +kernel
theorem dX10_fits_84 : decode cX10_fits 84 = .ok (.goto (-34), 3) := by decide +kernel
theorem dX10_fits_87 : decode cX10_fits 87 = .ok (.iload_n 3, 1) := by decide +kernel
theorem dX10_fits_88 : decode cX10_fits 88 = .ok (.ifCond .ne 8, 3) := by decide +kernel
theorem dX10_fits_91 : decode cX10_fits 91 = .ok (.iload 4, 2) := by decide +kernel
theorem dX10_fits_93 : decode cX10_fits 93 = .ok (.goto 5, 3) := by decide +kernel
theorem dX10_fits_96 : decode cX10_fits 96 = .ok (.iload 5, 2) := by decide +kernel
theorem dX10_fits_98 : decode cX10_fits 98 = .ok (.ireturn, 1) := by decide +kernel
theorem dX10_odds_0 : decode cX10_odds 0 = .ok (.iload_n 1, 1) := by decide +kernel
theorem dX10_odds_1 : decode cX10_odds 1 = .ok (.iconst 4, 1) := by decide +kernel
theorem dX10_odds_2 : decode cX10_odds 2 = .ok (.invokestatic 65, 3) := by decide +kernel
theorem dX10_odds_5 : decode cX10_odds 5 = .ok (.ifCond .eq 20, 3) := by decide +kernel
theorem dX10_odds_8 : decode cX10_odds 8 = .ok (.iload_n 2, 1) := by decide +kernel
theorem dX10_odds_9 : decode cX10_odds 9 = .ok (.iconst 4, 1) := by decide +kernel
theorem dX10_odds_10 : decode cX10_odds 10 = .ok (.invokestatic 65, 3) := by decide +kernel
theorem dX10_odds_13 : decode cX10_odds 13 = .ok (.ifCond .eq 12, 3) := by decide +kernel
theorem dX10_odds_16 : decode cX10_odds 16 = .ok (.iload_n 3, 1) := by decide +kernel
theorem dX10_odds_17 : decode cX10_odds 17 = .ok (.bipush 36, 2) := by decide +kernel
theorem dX10_odds_19 : decode cX10_odds 19 = .ok (.invokestatic 65, 3) := by decide +kernel
theorem dX10_odds_22 : decode cX10_odds 22 = .ok (.ifCond .ne 7, 3) := by decide +kernel
theorem dX10_odds_25 : decode cX10_odds 25 = .ok (.ldc2_w 215, 3) := by decide +kernel
theorem dX10_odds_28 : decode cX10_odds 28 = .ok (.lreturn, 1) := by decide +kernel
theorem dX10_odds_29 : decode cX10_odds 29 = .ok (.iload 4, 2) := by decide +kernel
theorem dX10_odds_31 : decode cX10_odds 31 = .ok (.ifCond .lt 19, 3) := by decide +kernel
theorem dX10_odds_34 : decode cX10_odds 34 = .ok (.iload 4, 2) := by decide +kernel
theorem dX10_odds_36 : decode cX10_odds 36 = .ok (.ldc 251, 2) := by decide +kernel
theorem dX10_odds_38 : decode cX10_odds 38 = .ok (.if_icmp .gt 12, 3) := by decide +kernel
theorem dX10_odds_41 : decode cX10_odds 41 = .ok (.iload 5, 2) := by decide +kernel
theorem dX10_odds_43 : decode cX10_odds 43 = .ok (.iconst 2, 1) := by decide +kernel
theorem dX10_odds_44 : decode cX10_odds 44 = .ok (.invokestatic 65, 3) := by decide +kernel
theorem dX10_odds_47 : decode cX10_odds 47 = .ok (.ifCond .ne 7, 3) := by decide +kernel
theorem dX10_odds_50 : decode cX10_odds 50 = .ok (.ldc2_w 215, 3) := by decide +kernel
theorem dX10_odds_53 : decode cX10_odds 53 = .ok (.lreturn, 1) := by decide +kernel
theorem dX10_odds_54 : decode cX10_odds 54 = .ok (.aload_n 0, 1) := by decide +kernel
theorem dX10_odds_55 : decode cX10_odds 55 = .ok (.getfield 37, 3) := by decide +kernel
theorem dX10_odds_58 : decode cX10_odds 58 = .ok (.aload_n 0, 1) := by decide +kernel
theorem dX10_odds_59 : decode cX10_odds 59 = .ok (.getfield 12, 3) := by decide +kernel
theorem dX10_odds_62 : decode cX10_odds 62 = .ok (.iload_n 1, 1) := by decide +kernel
theorem dX10_odds_63 : decode cX10_odds 63 = .ok (.iload_n 2, 1) := by decide +kernel
theorem dX10_odds_64 : decode cX10_odds 64 = .ok (.invokevirtual 243, 3) := by decide +kernel
theorem dX10_odds_67 : decode cX10_odds 67 = .ok (.iconst 0, 1) := by decide +kernel
theorem dX10_odds_68 : decode cX10_odds 68 = .ok (.istore 6, 2) := by decide +kernel
theorem dX10_odds_70 : decode cX10_odds 70 = .ok (.iconst 0, 1) := by decide +kernel
theorem dX10_odds_71 : decode cX10_odds 71 = .ok (.istore 7, 2) := by decide +kernel
theorem dX10_odds_73 : decode cX10_odds 73 = .ok (.iload 7, 2) := by decide +kernel
theorem dX10_odds_75 : decode cX10_odds 75 = .ok (.bipush 8, 2) := by decide +kernel
theorem dX10_odds_77 : decode cX10_odds 77 = .ok (.if_icmp .ge 27, 3) := by decide +kernel
theorem dX10_odds_80 : decode cX10_odds 80 = .ok (.aload_n 0, 1) := by decide +kernel
theorem dX10_odds_81 : decode cX10_odds 81 = .ok (.getfield 37, 3) := by decide +kernel
theorem dX10_odds_84 : decode cX10_odds 84 = .ok (.iload 7, 2) := by decide +kernel
theorem dX10_odds_86 : decode cX10_odds 86 = .ok (.iload_n 3, 1) := by decide +kernel
theorem dX10_odds_87 : decode cX10_odds 87 = .ok (.invokevirtual 252, 3) := by decide +kernel
theorem dX10_odds_90 : decode cX10_odds 90 = .ok (.iload 4, 2) := by decide +kernel
theorem dX10_odds_92 : decode cX10_odds 92 = .ok (.if_icmp .gt 6, 3) := by decide +kernel
theorem dX10_odds_95 : decode cX10_odds 95 = .ok (.iinc 6 1, 3) := by decide +kernel
theorem dX10_odds_98 : decode cX10_odds 98 = .ok (.iinc 7 1, 3) := by decide +kernel
theorem dX10_odds_101 : decode cX10_odds 101 = .ok (.goto (-28), 3) := by decide +kernel
theorem dX10_odds_104 : decode cX10_odds 104 = .ok (.iload 6, 2) := by decide +kernel
theorem dX10_odds_106 : decode cX10_odds 106 = .ok (.i2l, 1) := by decide +kernel
theorem dX10_odds_107 : decode cX10_odds 107 = .ok (.ldc2_w 255, 3) := by decide +kernel
theorem dX10_odds_110 : decode cX10_odds 110 = .ok (.iload 5, 2) := by decide +kernel
theorem dX10_odds_112 : decode cX10_odds 112 = .ok (.invokestatic 257, 3) := by decide +kernel
theorem dX10_odds_115 : decode cX10_odds 115 = .ok (.lreturn, 1) := by decide +kernel
theorem dX10_mean_0 : decode cX10_mean 0 = .ok (.iload_n 1, 1) := by decide +kernel
theorem dX10_mean_1 : decode cX10_mean 1 = .ok (.iconst 2, 1) := by decide +kernel
theorem dX10_mean_2 : decode cX10_mean 2 = .ok (.invokestatic 65, 3) := by decide +kernel
theorem dX10_mean_5 : decode cX10_mean 5 = .ok (.ifCond .ne 7, 3) := by decide +kernel
theorem dX10_mean_8 : decode cX10_mean 8 = .ok (.ldc2_w 215, 3) := by decide +kernel
theorem dX10_mean_11 : decode cX10_mean 11 = .ok (.lreturn, 1) := by decide +kernel
theorem dX10_mean_12 : decode cX10_mean 12 = .ok (.aload_n 0, 1) := by decide +kernel
theorem dX10_mean_13 : decode cX10_mean 13 = .ok (.invokevirtual 116, 3) := by decide +kernel
theorem dX10_mean_16 : decode cX10_mean 16 = .ok (.invokevirtual 120, 3) := by decide +kernel
theorem dX10_mean_19 : decode cX10_mean 19 = .ok (.istore_n 2, 1) := by decide +kernel
theorem dX10_mean_20 : decode cX10_mean 20 = .ok (.aload_n 0, 1) := by decide +kernel
theorem dX10_mean_21 : decode cX10_mean 21 = .ok (.getfield 30, 3) := by decide +kernel
theorem dX10_mean_24 : decode cX10_mean 24 = .ok (.invokevirtual 261, 3) := by decide +kernel
theorem dX10_mean_27 : decode cX10_mean 27 = .ok (.i2l, 1) := by decide +kernel
theorem dX10_mean_28 : decode cX10_mean 28 = .ok (.iload_n 2, 1) := by decide +kernel
theorem dX10_mean_29 : decode cX10_mean 29 = .ok (.i2l, 1) := by decide +kernel
theorem dX10_mean_30 : decode cX10_mean 30 = .ok (.aload_n 0, 1) := by decide +kernel
theorem dX10_mean_31 : decode cX10_mean 31 = .ok (.getfield 12, 3) := by decide +kernel
theorem dX10_mean_34 : decode cX10_mean 34 = .ok (.getfield 160, 3) := by decide +kernel
theorem dX10_mean_37 : decode cX10_mean 37 = .ok (.i2l, 1) := by decide +kernel
theorem dX10_mean_38 : decode cX10_mean 38 = .ok (.lmul, 1) := by decide +kernel
theorem dX10_mean_39 : decode cX10_mean 39 = .ok (.lsub, 1) := by decide +kernel
theorem dX10_mean_40 : decode cX10_mean 40 = .ok (.lstore_n 3, 1) := by decide +kernel
theorem dX10_mean_41 : decode cX10_mean 41 = .ok (.lload_n 3, 1) := by decide +kernel
theorem dX10_mean_42 : decode cX10_mean 42 = .ok (.iload_n 2, 1) := by decide +kernel
theorem dX10_mean_43 : decode cX10_mean 43 = .ok (.i2l, 1) := by decide +kernel
theorem dX10_mean_44 : decode cX10_mean 44 = .ok (.iload_n 1, 1) := by decide +kernel
theorem dX10_mean_45 : decode cX10_mean 45 = .ok (.invokestatic 257, 3) := by decide +kernel
theorem dX10_mean_48 : decode cX10_mean 48 = .ok (.lreturn, 1) := by decide +kernel
theorem dX10_event_0 : decode cX10_event 0 = .ok (.iload_n 1, 1) := by decide +kernel
theorem dX10_event_1 : decode cX10_event 1 = .ok (.iconst (-1), 1) := by decide +kernel
theorem dX10_event_2 : decode cX10_event 2 = .ok (.if_icmp .ne 14, 3) := by decide +kernel
theorem dX10_event_5 : decode cX10_event 5 = .ok (.aload_n 0, 1) := by decide +kernel
theorem dX10_event_6 : decode cX10_event 6 = .ok (.getfield 21, 3) := by decide +kernel
theorem dX10_event_9 : decode cX10_event 9 = .ok (.getfield 264, 3) := by decide +kernel
theorem dX10_event_12 : decode cX10_event 12 = .ok (.invokevirtual 135, 3) := by decide +kernel
theorem dX10_event_15 : decode cX10_event 15 = .ok (.ireturn, 1) := by decide +kernel
theorem dX10_event_16 : decode cX10_event 16 = .ok (.iload_n 1, 1) := by decide +kernel
theorem dX10_event_17 : decode cX10_event 17 = .ok (.iconst 4, 1) := by decide +kernel
theorem dX10_event_18 : decode cX10_event 18 = .ok (.invokestatic 65, 3) := by decide +kernel
theorem dX10_event_21 : decode cX10_event 21 = .ok (.ifCond .eq 16, 3) := by decide +kernel
theorem dX10_event_24 : decode cX10_event 24 = .ok (.iload_n 1, 1) := by decide +kernel
theorem dX10_event_25 : decode cX10_event 25 = .ok (.iconst 2, 1) := by decide +kernel
theorem dX10_event_26 : decode cX10_event 26 = .ok (.if_icmp .eq 13, 3) := by decide +kernel
theorem dX10_event_29 : decode cX10_event 29 = .ok (.iload_n 2, 1) := by decide +kernel
theorem dX10_event_30 : decode cX10_event 30 = .ok (.iconst 4, 1) := by decide +kernel
theorem dX10_event_31 : decode cX10_event 31 = .ok (.invokestatic 65, 3) := by decide +kernel
theorem dX10_event_34 : decode cX10_event 34 = .ok (.ifCond .ne 5, 3) := by decide +kernel
theorem dX10_event_37 : decode cX10_event 37 = .ok (.iconst (-1), 1) := by decide +kernel
theorem dX10_event_38 : decode cX10_event 38 = .ok (.ireturn, 1) := by decide +kernel
theorem dX10_event_39 : decode cX10_event 39 = .ok (.iload_n 2, 1) := by decide +kernel
theorem dX10_event_40 : decode cX10_event 40 = .ok (.bipush 8, 2) := by decide +kernel
theorem dX10_event_42 : decode cX10_event 42 = .ok (.invokestatic 65, 3) := by decide +kernel
theorem dX10_event_45 : decode cX10_event 45 = .ok (.ifCond .ne 6, 3) := by decide +kernel
theorem dX10_event_48 : decode cX10_event 48 = .ok (.bipush (-2), 2) := by decide +kernel
theorem dX10_event_50 : decode cX10_event 50 = .ok (.ireturn, 1) := by decide +kernel
theorem dX10_event_51 : decode cX10_event 51 = .ok (.aload_n 0, 1) := by decide +kernel
theorem dX10_event_52 : decode cX10_event 52 = .ok (.getfield 21, 3) := by decide +kernel
theorem dX10_event_55 : decode cX10_event 55 = .ok (.getfield 264, 3) := by decide +kernel
theorem dX10_event_58 : decode cX10_event 58 = .ok (.iload_n 1, 1) := by decide +kernel
theorem dX10_event_59 : decode cX10_event 59 = .ok (.iload_n 2, 1) := by decide +kernel
theorem dX10_event_60 : decode cX10_event 60 = .ok (.invokevirtual 140, 3) := by decide +kernel
theorem dX10_event_63 : decode cX10_event 63 = .ok (.ireturn, 1) := by decide +kernel
theorem dX10_after_0 : decode cX10_after 0 = .ok (.iload_n 1, 1) := by decide +kernel
theorem dX10_after_1 : decode cX10_after 1 = .ok (.iconst 3, 1) := by decide +kernel
theorem dX10_after_2 : decode cX10_after 2 = .ok (.invokestatic 65, 3) := by decide +kernel
theorem dX10_after_5 : decode cX10_after 5 = .ok (.ifCond .ne 5, 3) := by decide +kernel
theorem dX10_after_8 : decode cX10_after 8 = .ok (.iconst (-1), 1) := by decide +kernel
theorem dX10_after_9 : decode cX10_after 9 = .ok (.ireturn, 1) := by decide +kernel
theorem dX10_after_10 : decode cX10_after 10 = .ok (.aload_n 0, 1) := by decide +kernel
theorem dX10_after_11 : decode cX10_after 11 = .ok (.getfield 37, 3) := by decide +kernel
theorem dX10_after_14 : decode cX10_after 14 = .ok (.aload_n 0, 1) := by decide +kernel
theorem dX10_after_15 : decode cX10_after 15 = .ok (.getfield 12, 3) := by decide +kernel
theorem dX10_after_18 : decode cX10_after 18 = .ok (.aload_n 0, 1) := by decide +kernel
theorem dX10_after_19 : decode cX10_after 19 = .ok (.getfield 21, 3) := by decide +kernel
theorem dX10_after_22 : decode cX10_after 22 = .ok (.getfield 264, 3) := by decide +kernel
theorem dX10_after_25 : decode cX10_after 25 = .ok (.invokevirtual 267, 3) := by decide +kernel
theorem dX10_after_28 : decode cX10_after 28 = .ok (.astore_n 2, 1) := by decide +kernel
theorem dX10_after_29 : decode cX10_after 29 = .ok (.iload_n 1, 1) := by decide +kernel
theorem dX10_after_30 : decode cX10_after 30 = .ok (.iconst 1, 1) := by decide +kernel
theorem dX10_after_31 : decode cX10_after 31 = .ok (.if_icmp .ne 8, 3) := by decide +kernel
theorem dX10_after_34 : decode cX10_after 34 = .ok (.aload_n 2, 1) := by decide +kernel
theorem dX10_after_35 : decode cX10_after 35 = .ok (.invokevirtual 120, 3) := by decide +kernel
theorem dX10_after_38 : decode cX10_after 38 = .ok (.ireturn, 1) := by decide +kernel
theorem dX10_after_39 : decode cX10_after 39 = .ok (.iload_n 1, 1) := by decide +kernel
theorem dX10_after_40 : decode cX10_after 40 = .ok (.iconst 2, 1) := by decide +kernel
theorem dX10_after_41 : decode cX10_after 41 = .ok (.if_icmp .ne 8, 3) := by decide +kernel
theorem dX10_after_44 : decode cX10_after 44 = .ok (.aload_n 2, 1) := by decide +kernel
theorem dX10_after_45 : decode cX10_after 45 = .ok (.invokevirtual 261, 3) := by decide +kernel
theorem dX10_after_48 : decode cX10_after 48 = .ok (.ireturn, 1) := by decide +kernel
theorem dX10_after_49 : decode cX10_after 49 = .ok (.aload_n 2, 1) := by decide +kernel
theorem dX10_after_50 : decode cX10_after 50 = .ok (.bipush 35, 2) := by decide +kernel
theorem dX10_after_52 : decode cX10_after 52 = .ok (.invokevirtual 169, 3) := by decide +kernel
theorem dX10_after_55 : decode cX10_after 55 = .ok (.istore_n 3, 1) := by decide +kernel
theorem dX10_after_56 : decode cX10_after 56 = .ok (.iload_n 3, 1) := by decide +kernel
theorem dX10_after_57 : decode cX10_after 57 = .ok (.ldc 193, 2) := by decide +kernel
theorem dX10_after_59 : decode cX10_after 59 = .ok (.if_icmp .ne 8, 3) := by decide +kernel
theorem dX10_after_62 : decode cX10_after 62 = .ok (.bipush (-5), 2) := by decide +kernel
theorem dX10_after_64 : decode cX10_after 64 = .ok (.goto 4, 3) := by decide +kernel
theorem dX10_after_67 : decode cX10_after 67 = .ok (.iload_n 3, 1) := by decide +kernel
theorem dX10_after_68 : decode cX10_after 68 = .ok (.ireturn, 1) := by decide +kernel
theorem dX10_book_0 : decode cX10_book 0 = .ok (.aload_n 0, 1) := by decide +kernel
theorem dX10_book_1 : decode cX10_book 1 = .ok (.getfield 21, 3) := by decide +kernel
theorem dX10_book_4 : decode cX10_book 4 = .ok (.getfield 271, 3) := by decide +kernel
theorem dX10_book_7 : decode cX10_book 7 = .ok (.iload_n 1, 1) := by decide +kernel
theorem dX10_book_8 : decode cX10_book 8 = .ok (.iload_n 2, 1) := by decide +kernel
theorem dX10_book_9 : decode cX10_book 9 = .ok (.invokestatic 239, 3) := by decide +kernel
theorem dX10_book_12 : decode cX10_book 12 = .ok (.ireturn, 1) := by decide +kernel
theorem dX10_looked_0 : decode cX10_looked 0 = .ok (.iconst 0, 1) := by decide +kernel
theorem dX10_looked_1 : decode cX10_looked 1 = .ok (.istore_n 1, 1) := by decide +kernel
theorem dX10_looked_2 : decode cX10_looked 2 = .ok (.iload_n 1, 1) := by decide +kernel
theorem dX10_looked_3 : decode cX10_looked 3 = .ok (.aload_n 0, 1) := by decide +kernel
theorem dX10_looked_4 : decode cX10_looked 4 = .ok (.getfield 21, 3) := by decide +kernel
theorem dX10_looked_7 : decode cX10_looked 7 = .ok (.getfield 271, 3) := by decide +kernel
theorem dX10_looked_10 : decode cX10_looked 10 = .ok (.invokevirtual 274, 3) := by decide +kernel
theorem dX10_looked_13 : decode cX10_looked 13 = .ok (.if_icmp .ge 43, 3) := by decide +kernel
theorem dX10_looked_16 : decode cX10_looked 16 = .ok (.aload_n 0, 1) := by decide +kernel
theorem dX10_looked_17 : decode cX10_looked 17 = .ok (.invokevirtual 116, 3) := by decide +kernel
theorem dX10_looked_20 : decode cX10_looked 20 = .ok (.aload_n 0, 1) := by decide +kernel
theorem dX10_looked_21 : decode cX10_looked 21 = .ok (.getfield 21, 3) := by decide +kernel
theorem dX10_looked_24 : decode cX10_looked 24 = .ok (.getfield 271, 3) := by decide +kernel
theorem dX10_looked_27 : decode cX10_looked 27 = .ok (.iload_n 1, 1) := by decide +kernel
theorem dX10_looked_28 : decode cX10_looked 28 = .ok (.invokevirtual 277, 3) := by decide +kernel
theorem dX10_looked_31 : decode cX10_looked 31 = .ok (.invokevirtual 169, 3) := by decide +kernel
theorem dX10_looked_34 : decode cX10_looked 34 = .ok (.aload_n 0, 1) := by decide +kernel
theorem dX10_looked_35 : decode cX10_looked 35 = .ok (.getfield 21, 3) := by decide +kernel
theorem dX10_looked_38 : decode cX10_looked 38 = .ok (.getfield 271, 3) := by decide +kernel
theorem dX10_looked_41 : decode cX10_looked 41 = .ok (.iload_n 1, 1) := by decide +kernel
theorem dX10_looked_42 : decode cX10_looked 42 = .ok (.invokevirtual 280, 3) := by decide +kernel
theorem dX10_looked_45 : decode cX10_looked 45 = .ok (.if_icmp .eq 5, 3) := by decide +kernel
theorem dX10_looked_48 : decode cX10_looked 48 = .ok (.iload_n 1, 1) := by decide +kernel
theorem dX10_looked_49 : decode cX10_looked 49 = .ok (.ireturn, 1) := by decide +kernel
theorem dX10_looked_50 : decode cX10_looked 50 = .ok (.iinc 1 1, 3) := by decide +kernel
theorem dX10_looked_53 : decode cX10_looked 53 = .ok (.goto (-51), 3) := by decide +kernel
theorem dX10_looked_56 : decode cX10_looked 56 = .ok (.bipush (-5), 2) := by decide +kernel
theorem dX10_looked_58 : decode cX10_looked 58 = .ok (.ireturn, 1) := by decide +kernel
theorem dX10_judge_0 : decode cX10_judge 0 = .ok (.aload_n 0, 1) := by decide +kernel
theorem dX10_judge_1 : decode cX10_judge 1 = .ok (.iload_n 1, 1) := by decide +kernel
theorem dX10_judge_2 : decode cX10_judge 2 = .ok (.invokevirtual 283, 3) := by decide +kernel
theorem dX10_judge_5 : decode cX10_judge 5 = .ok (.astore_n 3, 1) := by decide +kernel
theorem dX10_judge_6 : decode cX10_judge 6 = .ok (.aload_n 3, 1) := by decide +kernel
theorem dX10_judge_7 : decode cX10_judge 7 = .ok (.ifnonnull 5, 3) := by decide +kernel
theorem dX10_judge_10 : decode cX10_judge 10 = .ok (.iconst (-1), 1) := by decide +kernel
theorem dX10_judge_11 : decode cX10_judge 11 = .ok (.ireturn, 1) := by decide +kernel
theorem dX10_judge_12 : decode cX10_judge 12 = .ok (.aload_n 3, 1) := by decide +kernel
theorem dX10_judge_13 : decode cX10_judge 13 = .ok (.invokevirtual 287, 3) := by decide +kernel
theorem dX10_judge_16 : decode cX10_judge 16 = .ok (.ifCond .eq 6, 3) := by decide +kernel
theorem dX10_judge_19 : decode cX10_judge 19 = .ok (.bipush 100, 2) := by decide +kernel
theorem dX10_judge_21 : decode cX10_judge 21 = .ok (.ireturn, 1) := by decide +kernel
theorem dX10_judge_22 : decode cX10_judge 22 = .ok (.aload_n 3, 1) := by decide +kernel
theorem dX10_judge_23 : decode cX10_judge 23 = .ok (.invokevirtual 291, 3) := by decide +kernel
theorem dX10_judge_26 : decode cX10_judge 26 = .ok (.iconst 2, 1) := by decide +kernel
theorem dX10_judge_27 : decode cX10_judge 27 = .ok (.if_icmp .eq 6, 3) := by decide +kernel
theorem dX10_judge_30 : decode cX10_judge 30 = .ok (.bipush (-12), 2) := by decide +kernel
theorem dX10_judge_32 : decode cX10_judge 32 = .ok (.ireturn, 1) := by decide +kernel
theorem dX10_judge_33 : decode cX10_judge 33 = .ok (.iconst 0, 1) := by decide +kernel
theorem dX10_judge_34 : decode cX10_judge 34 = .ok (.istore 4, 2) := by decide +kernel
theorem dX10_judge_36 : decode cX10_judge 36 = .ok (.iload 4, 2) := by decide +kernel
theorem dX10_judge_38 : decode cX10_judge 38 = .ok (.bipush 36, 2) := by decide +kernel
theorem dX10_judge_40 : decode cX10_judge 40 = .ok (.if_icmp .ge 77, 3) := by decide +kernel
theorem dX10_judge_43 : decode cX10_judge 43 = .ok (.iload_n 2, 1) := by decide +kernel
theorem dX10_judge_44 : decode cX10_judge 44 = .ok (.i2l, 1) := by decide +kernel
theorem dX10_judge_45 : decode cX10_judge 45 = .ok (.iload 4, 2) := by decide +kernel
theorem dX10_judge_47 : decode cX10_judge 47 = .ok (.i2l, 1) := by decide +kernel
theorem dX10_judge_48 : decode cX10_judge 48 = .ok (.ladd, 1) := by decide +kernel
theorem dX10_judge_49 : decode cX10_judge 49 = .ok (.lstore 5, 2) := by decide +kernel
theorem dX10_judge_51 : decode cX10_judge 51 = .ok (.iload_n 2, 1) := by decide +kernel
theorem dX10_judge_52 : decode cX10_judge 52 = .ok (.ifCond .lt 14, 3) := by decide +kernel
theorem dX10_judge_55 : decode cX10_judge 55 = .ok (.lload 5, 2) := by decide +kernel
theorem dX10_judge_57 : decode cX10_judge 57 = .ok (.aload_n 3, 1) := by decide +kernel
theorem dX10_judge_58 : decode cX10_judge 58 = .ok (.invokevirtual 294, 3) := by decide +kernel
theorem dX10_judge_61 : decode cX10_judge 61 = .ok (.i2l, 1) := by decide +kernel
theorem dX10_judge_62 : decode cX10_judge 62 = .ok (.lcmp, 1) := by decide +kernel
theorem dX10_judge_63 : decode cX10_judge 63 = .ok (.ifCond .lt 9, 3) := by decide +kernel
theorem dX10_judge_66 : decode cX10_judge 66 = .ok (.bipush 100, 2) := by decide +kernel
theorem dX10_judge_68 : decode cX10_judge 68 = .ok (.iload 4, 2) := by decide +kernel
theorem dX10_judge_70 : decode cX10_judge 70 = .ok (.iadd, 1) := by decide +kernel
theorem dX10_judge_71 : decode cX10_judge 71 = .ok (.ireturn, 1) := by decide +kernel
theorem dX10_judge_72 : decode cX10_judge 72 = .ok (.aload_n 0, 1) := by decide +kernel
theorem dX10_judge_73 : decode cX10_judge 73 = .ok (.invokevirtual 116, 3) := by decide +kernel
theorem dX10_judge_76 : decode cX10_judge 76 = .ok (.iload 4, 2) := by decide +kernel
theorem dX10_judge_78 : decode cX10_judge 78 = .ok (.invokevirtual 169, 3) := by decide +kernel
theorem dX10_judge_81 : decode cX10_judge 81 = .ok (.istore 7, 2) := by decide +kernel
theorem dX10_judge_83 : decode cX10_judge 83 = .ok (.aload_n 3, 1) := by decide +kernel
theorem dX10_judge_84 : decode cX10_judge 84 = .ok (.lload 5, 2) := by decide +kernel
theorem dX10_judge_86 : decode cX10_judge 86 = .ok (.l2i, 1) := by decide +kernel
theorem dX10_judge_87 : decode cX10_judge 87 = .ok (.invokevirtual 297, 3) := by decide +kernel
theorem dX10_judge_90 : decode cX10_judge 90 = .ok (.iload 7, 2) := by decide +kernel
theorem dX10_judge_92 : decode cX10_judge 92 = .ok (.ldc 193, 2) := by decide +kernel
theorem dX10_judge_94 : decode cX10_judge 94 = .ok (.if_icmp .ne 7, 3) := by decide +kernel
theorem dX10_judge_97 : decode cX10_judge 97 = .ok (.iconst (-1), 1) := by decide +kernel
theorem dX10_judge_98 : decode cX10_judge 98 = .ok (.goto 5, 3) := by decide +kernel
theorem dX10_judge_101 : decode cX10_judge 101 = .ok (.iload 7, 2) := by decide +kernel
theorem dX10_judge_103 : decode cX10_judge 103 = .ok (.i2l, 1) := by decide +kernel
theorem dX10_judge_104 : decode cX10_judge 104 = .ok (.lcmp, 1) := by decide +kernel
theorem dX10_judge_105 : decode cX10_judge 105 = .ok (.ifCond .eq 6, 3) := by decide +kernel
theorem dX10_judge_108 : decode cX10_judge 108 = .ok (.iload 4, 2) := by decide +kernel
theorem dX10_judge_110 : decode cX10_judge 110 = .ok (.ireturn, 1) := by decide +kernel
theorem dX10_judge_111 : decode cX10_judge 111 = .ok (.iinc 4 1, 3) := by decide +kernel
theorem dX10_judge_114 : decode cX10_judge 114 = .ok (.goto (-78), 3) := by decide +kernel
theorem dX10_judge_117 : decode cX10_judge 117 = .ok (.bipush (-5), 2) := by decide +kernel
theorem dX10_judge_119 : decode cX10_judge 119 = .ok (.ireturn, 1) := by decide +kernel
theorem dX10_image_0 : decode cX10_image 0 = .ok (.aload_n 0, 1) := by decide +kernel
theorem dX10_image_1 : decode cX10_image 1 = .ok (.getfield 54, 3) := by decide +kernel
theorem dX10_image_4 : decode cX10_image 4 = .ok (.aload_n 0, 1) := by decide +kernel
theorem dX10_image_5 : decode cX10_image 5 = .ok (.getfield 12, 3) := by decide +kernel
theorem dX10_image_8 : decode cX10_image 8 = .ok (.invokevirtual 301, 3) := by decide +kernel
theorem dX10_image_11 : decode cX10_image 11 = .ok (.aload_n 0, 1) := by decide +kernel
theorem dX10_image_12 : decode cX10_image 12 = .ok (.getfield 57, 3) := by decide +kernel
theorem dX10_image_15 : decode cX10_image 15 = .ok (.aload_n 0, 1) := by decide +kernel
theorem dX10_image_16 : decode cX10_image 16 = .ok (.getfield 21, 3) := by decide +kernel
theorem dX10_image_19 : decode cX10_image 19 = .ok (.invokevirtual 304, 3) := by decide +kernel
theorem dX10_image_22 : decode cX10_image 22 = .ok (.aload_n 0, 1) := by decide +kernel
theorem dX10_image_23 : decode cX10_image 23 = .ok (.iconst 1, 1) := by decide +kernel
theorem dX10_image_24 : decode cX10_image 24 = .ok (.putfield 60, 3) := by decide +kernel
theorem dX10_image_27 : decode cX10_image 27 = .ok (.aload_n 0, 1) := by decide +kernel
theorem dX10_image_28 : decode cX10_image 28 = .ok (.getfield 12, 3) := by decide +kernel
theorem dX10_image_31 : decode cX10_image 31 = .ok (.invokevirtual 163, 3) := by decide +kernel
theorem dX10_image_34 : decode cX10_image 34 = .ok (.ireturn, 1) := by decide +kernel
theorem dX10_undo_0 : decode cX10_undo 0 = .ok (.aload_n 0, 1) := by decide +kernel
theorem dX10_undo_1 : decode cX10_undo 1 = .ok (.getfield 60, 3) := by decide +kernel
theorem dX10_undo_4 : decode cX10_undo 4 = .ok (.ifCond .ne 6, 3) := by decide +kernel
theorem dX10_undo_7 : decode cX10_undo 7 = .ok (.bipush (-3), 2) := by decide +kernel
theorem dX10_undo_9 : decode cX10_undo 9 = .ok (.ireturn, 1) := by decide +kernel
theorem dX10_undo_10 : decode cX10_undo 10 = .ok (.aload_n 0, 1) := by decide +kernel
theorem dX10_undo_11 : decode cX10_undo 11 = .ok (.getfield 12, 3) := by decide +kernel
theorem dX10_undo_14 : decode cX10_undo 14 = .ok (.aload_n 0, 1) := by decide +kernel
theorem dX10_undo_15 : decode cX10_undo 15 = .ok (.getfield 54, 3) := by decide +kernel
theorem dX10_undo_18 : decode cX10_undo 18 = .ok (.invokevirtual 301, 3) := by decide +kernel
theorem dX10_undo_21 : decode cX10_undo 21 = .ok (.aload_n 0, 1) := by decide +kernel
theorem dX10_undo_22 : decode cX10_undo 22 = .ok (.getfield 21, 3) := by decide +kernel
theorem dX10_undo_25 : decode cX10_undo 25 = .ok (.aload_n 0, 1) := by decide +kernel
theorem dX10_undo_26 : decode cX10_undo 26 = .ok (.getfield 57, 3) := by decide +kernel
theorem dX10_undo_29 : decode cX10_undo 29 = .ok (.invokevirtual 304, 3) := by decide +kernel
theorem dX10_undo_32 : decode cX10_undo 32 = .ok (.aload_n 0, 1) := by decide +kernel
theorem dX10_undo_33 : decode cX10_undo 33 = .ok (.getfield 12, 3) := by decide +kernel
theorem dX10_undo_36 : decode cX10_undo 36 = .ok (.invokevirtual 163, 3) := by decide +kernel
theorem dX10_undo_39 : decode cX10_undo 39 = .ok (.ireturn, 1) := by decide +kernel
theorem dX10_count_0 : decode cX10_count 0 = .ok (.iload_n 1, 1) := by decide +kernel
theorem dX10_count_1 : decode cX10_count 1 = .ok (.tableswitch 87 0 4 #[35, 46, 57, 68, 76], 35) := by decide +kernel
theorem dX10_count_36 : decode cX10_count 36 = .ok (.aload_n 0, 1) := by decide +kernel
theorem dX10_count_37 : decode cX10_count 37 = .ok (.getfield 21, 3) := by decide +kernel
theorem dX10_count_40 : decode cX10_count 40 = .ok (.getfield 236, 3) := by decide +kernel
theorem dX10_count_43 : decode cX10_count 43 = .ok (.invokevirtual 274, 3) := by decide +kernel
theorem dX10_count_46 : decode cX10_count 46 = .ok (.ireturn, 1) := by decide +kernel
theorem dX10_count_47 : decode cX10_count 47 = .ok (.aload_n 0, 1) := by decide +kernel
theorem dX10_count_48 : decode cX10_count 48 = .ok (.getfield 21, 3) := by decide +kernel
theorem dX10_count_51 : decode cX10_count 51 = .ok (.getfield 264, 3) := by decide +kernel
theorem dX10_count_54 : decode cX10_count 54 = .ok (.invokevirtual 274, 3) := by decide +kernel
theorem dX10_count_57 : decode cX10_count 57 = .ok (.ireturn, 1) := by decide +kernel
theorem dX10_count_58 : decode cX10_count 58 = .ok (.aload_n 0, 1) := by decide +kernel
theorem dX10_count_59 : decode cX10_count 59 = .ok (.getfield 21, 3) := by decide +kernel
theorem dX10_count_62 : decode cX10_count 62 = .ok (.getfield 271, 3) := by decide +kernel
theorem dX10_count_65 : decode cX10_count 65 = .ok (.invokevirtual 274, 3) := by decide +kernel
theorem dX10_count_68 : decode cX10_count 68 = .ok (.ireturn, 1) := by decide +kernel
theorem dX10_count_69 : decode cX10_count 69 = .ok (.aload_n 0, 1) := by decide +kernel
theorem dX10_count_70 : decode cX10_count 70 = .ok (.getfield 44, 3) := by decide +kernel
theorem dX10_count_73 : decode cX10_count 73 = .ok (.invokevirtual 307, 3) := by decide +kernel
theorem dX10_count_76 : decode cX10_count 76 = .ok (.ireturn, 1) := by decide +kernel
theorem dX10_count_77 : decode cX10_count 77 = .ok (.aload_n 0, 1) := by decide +kernel
theorem dX10_count_78 : decode cX10_count 78 = .ok (.getfield 21, 3) := by decide +kernel
theorem dX10_count_81 : decode cX10_count 81 = .ok (.getfield 131, 3) := by decide +kernel
theorem dX10_count_84 : decode cX10_count 84 = .ok (.invokevirtual 274, 3) := by decide +kernel
theorem dX10_count_87 : decode cX10_count 87 = .ok (.ireturn, 1) := by decide +kernel
theorem dX10_count_88 : decode cX10_count 88 = .ok (.bipush (-2), 2) := by decide +kernel
theorem dX10_count_90 : decode cX10_count 90 = .ok (.ireturn, 1) := by decide +kernel
theorem dX10_tape_0 : decode cX10_tape 0 = .ok (.aload_n 0, 1) := by decide +kernel
theorem dX10_tape_1 : decode cX10_tape 1 = .ok (.iload_n 1, 1) := by decide +kernel
theorem dX10_tape_2 : decode cX10_tape 2 = .ok (.invokevirtual 283, 3) := by decide +kernel
theorem dX10_tape_5 : decode cX10_tape 5 = .ok (.astore 4, 2) := by decide +kernel
theorem dX10_tape_7 : decode cX10_tape 7 = .ok (.aload 4, 2) := by decide +kernel
theorem dX10_tape_9 : decode cX10_tape 9 = .ok (.ifnonnull 5, 3) := by decide +kernel
theorem dX10_tape_12 : decode cX10_tape 12 = .ok (.iconst (-1), 1) := by decide +kernel
theorem dX10_tape_13 : decode cX10_tape 13 = .ok (.ireturn, 1) := by decide +kernel
theorem dX10_tape_14 : decode cX10_tape 14 = .ok (.iload_n 2, 1) := by decide +kernel
theorem dX10_tape_15 : decode cX10_tape 15 = .ok (.iconst (-1), 1) := by decide +kernel
theorem dX10_tape_16 : decode cX10_tape 16 = .ok (.if_icmp .ne 12, 3) := by decide +kernel
theorem dX10_tape_19 : decode cX10_tape 19 = .ok (.aload 4, 2) := by decide +kernel
theorem dX10_tape_21 : decode cX10_tape 21 = .ok (.iconst (-1), 1) := by decide +kernel
theorem dX10_tape_22 : decode cX10_tape 22 = .ok (.iconst 0, 1) := by decide +kernel
theorem dX10_tape_23 : decode cX10_tape 23 = .ok (.invokevirtual 308, 3) := by decide +kernel
theorem dX10_tape_26 : decode cX10_tape 26 = .ok (.iconst 1, 1) := by decide +kernel
theorem dX10_tape_27 : decode cX10_tape 27 = .ok (.ireturn, 1) := by decide +kernel
theorem dX10_tape_28 : decode cX10_tape 28 = .ok (.iload_n 2, 1) := by decide +kernel
theorem dX10_tape_29 : decode cX10_tape 29 = .ok (.iconst 5, 1) := by decide +kernel
theorem dX10_tape_30 : decode cX10_tape 30 = .ok (.invokestatic 65, 3) := by decide +kernel
theorem dX10_tape_33 : decode cX10_tape 33 = .ok (.ifCond .eq 9, 3) := by decide +kernel
theorem dX10_tape_36 : decode cX10_tape 36 = .ok (.iload_n 3, 1) := by decide +kernel
theorem dX10_tape_37 : decode cX10_tape 37 = .ok (.bipush 60, 2) := by decide +kernel
theorem dX10_tape_39 : decode cX10_tape 39 = .ok (.if_icmp .le 6, 3) := by decide +kernel
theorem dX10_tape_42 : decode cX10_tape 42 = .ok (.bipush (-2), 2) := by decide +kernel
theorem dX10_tape_44 : decode cX10_tape 44 = .ok (.ireturn, 1) := by decide +kernel
theorem dX10_tape_45 : decode cX10_tape 45 = .ok (.iload_n 3, 1) := by decide +kernel
theorem dX10_tape_46 : decode cX10_tape 46 = .ok (.ifCond .ge 6, 3) := by decide +kernel
theorem dX10_tape_49 : decode cX10_tape 49 = .ok (.bipush (-14), 2) := by decide +kernel
theorem dX10_tape_51 : decode cX10_tape 51 = .ok (.ireturn, 1) := by decide +kernel
theorem dX10_tape_52 : decode cX10_tape 52 = .ok (.aload 4, 2) := by decide +kernel
theorem dX10_tape_54 : decode cX10_tape 54 = .ok (.iload_n 2, 1) := by decide +kernel
theorem dX10_tape_55 : decode cX10_tape 55 = .ok (.iload_n 3, 1) := by decide +kernel
theorem dX10_tape_56 : decode cX10_tape 56 = .ok (.invokevirtual 308, 3) := by decide +kernel
theorem dX10_tape_59 : decode cX10_tape 59 = .ok (.iconst 1, 1) := by decide +kernel
theorem dX10_tape_60 : decode cX10_tape 60 = .ok (.ireturn, 1) := by decide +kernel
theorem dX10_item_0 : decode cX10_item 0 = .ok (.aload_n 0, 1) := by decide +kernel
theorem dX10_item_1 : decode cX10_item 1 = .ok (.iload_n 1, 1) := by decide +kernel
theorem dX10_item_2 : decode cX10_item 2 = .ok (.invokevirtual 283, 3) := by decide +kernel
theorem dX10_item_5 : decode cX10_item 5 = .ok (.astore 5, 2) := by decide +kernel
theorem dX10_item_7 : decode cX10_item 7 = .ok (.aload 5, 2) := by decide +kernel
theorem dX10_item_9 : decode cX10_item 9 = .ok (.ifnonnull 5, 3) := by decide +kernel
theorem dX10_item_12 : decode cX10_item 12 = .ok (.iconst (-1), 1) := by decide +kernel
theorem dX10_item_13 : decode cX10_item 13 = .ok (.ireturn, 1) := by decide +kernel
theorem dX10_item_14 : decode cX10_item 14 = .ok (.aload 5, 2) := by decide +kernel
theorem dX10_item_16 : decode cX10_item 16 = .ok (.invokevirtual 287, 3) := by decide +kernel
theorem dX10_item_19 : decode cX10_item 19 = .ok (.ifCond .eq 6, 3) := by decide +kernel
theorem dX10_item_22 : decode cX10_item 22 = .ok (.bipush (-11), 2) := by decide +kernel
theorem dX10_item_24 : decode cX10_item 24 = .ok (.ireturn, 1) := by decide +kernel
theorem dX10_item_25 : decode cX10_item 25 = .ok (.iload_n 2, 1) := by decide +kernel
theorem dX10_item_26 : decode cX10_item 26 = .ok (.aload 5, 2) := by decide +kernel
theorem dX10_item_28 : decode cX10_item 28 = .ok (.invokevirtual 294, 3) := by decide +kernel
theorem dX10_item_31 : decode cX10_item 31 = .ok (.invokestatic 65, 3) := by decide +kernel
theorem dX10_item_34 : decode cX10_item 34 = .ok (.ifCond .ne 6, 3) := by decide +kernel
theorem dX10_item_37 : decode cX10_item 37 = .ok (.bipush (-13), 2) := by decide +kernel
theorem dX10_item_39 : decode cX10_item 39 = .ok (.ireturn, 1) := by decide +kernel
theorem dX10_item_40 : decode cX10_item 40 = .ok (.aload 5, 2) := by decide +kernel
theorem dX10_item_42 : decode cX10_item 42 = .ok (.iload_n 2, 1) := by decide +kernel
theorem dX10_item_43 : decode cX10_item 43 = .ok (.lload_n 3, 1) := by decide +kernel
theorem dX10_item_44 : decode cX10_item 44 = .ok (.invokevirtual 311, 3) := by decide +kernel
theorem dX10_item_47 : decode cX10_item 47 = .ok (.iconst 1, 1) := by decide +kernel
theorem dX10_item_48 : decode cX10_item 48 = .ok (.ireturn, 1) := by decide +kernel
theorem dX10_peek_0 : decode cX10_peek 0 = .ok (.aload_n 0, 1) := by decide +kernel
theorem dX10_peek_1 : decode cX10_peek 1 = .ok (.iload_n 1, 1) := by decide +kernel
theorem dX10_peek_2 : decode cX10_peek 2 = .ok (.invokevirtual 283, 3) := by decide +kernel
theorem dX10_peek_5 : decode cX10_peek 5 = .ok (.astore_n 3, 1) := by decide +kernel
theorem dX10_peek_6 : decode cX10_peek 6 = .ok (.aload_n 3, 1) := by decide +kernel
theorem dX10_peek_7 : decode cX10_peek 7 = .ok (.ifnull 21, 3) := by decide +kernel
theorem dX10_peek_10 : decode cX10_peek 10 = .ok (.aload_n 3, 1) := by decide +kernel
theorem dX10_peek_11 : decode cX10_peek 11 = .ok (.invokevirtual 287, 3) := by decide +kernel
theorem dX10_peek_14 : decode cX10_peek 14 = .ok (.ifCond .ne 14, 3) := by decide +kernel
theorem dX10_peek_17 : decode cX10_peek 17 = .ok (.iload_n 2, 1) := by decide +kernel
theorem dX10_peek_18 : decode cX10_peek 18 = .ok (.aload_n 3, 1) := by decide +kernel
theorem dX10_peek_19 : decode cX10_peek 19 = .ok (.invokevirtual 294, 3) := by decide +kernel
theorem dX10_peek_22 : decode cX10_peek 22 = .ok (.invokestatic 65, 3) := by decide +kernel
theorem dX10_peek_25 : decode cX10_peek 25 = .ok (.ifCond .ne 7, 3) := by decide +kernel
theorem dX10_peek_28 : decode cX10_peek 28 = .ok (.ldc2_w 215, 3) := by decide +kernel
theorem dX10_peek_31 : decode cX10_peek 31 = .ok (.lreturn, 1) := by decide +kernel
theorem dX10_peek_32 : decode cX10_peek 32 = .ok (.aload_n 3, 1) := by decide +kernel
theorem dX10_peek_33 : decode cX10_peek 33 = .ok (.iload_n 2, 1) := by decide +kernel
theorem dX10_peek_34 : decode cX10_peek 34 = .ok (.invokevirtual 297, 3) := by decide +kernel
theorem dX10_peek_37 : decode cX10_peek 37 = .ok (.lreturn, 1) := by decide +kernel
theorem dX10_shift_0 : decode cX10_shift 0 = .ok (.aload_n 0, 1) := by decide +kernel
theorem dX10_shift_1 : decode cX10_shift 1 = .ok (.iload_n 1, 1) := by decide +kernel
theorem dX10_shift_2 : decode cX10_shift 2 = .ok (.invokevirtual 283, 3) := by decide +kernel
theorem dX10_shift_5 : decode cX10_shift 5 = .ok (.astore 6, 2) := by decide +kernel
theorem dX10_shift_7 : decode cX10_shift 7 = .ok (.aload_n 0, 1) := by decide +kernel
theorem dX10_shift_8 : decode cX10_shift 8 = .ok (.iload_n 3, 1) := by decide +kernel
theorem dX10_shift_9 : decode cX10_shift 9 = .ok (.invokevirtual 283, 3) := by decide +kernel
theorem dX10_shift_12 : decode cX10_shift 12 = .ok (.astore 7, 2) := by decide +kernel
theorem dX10_shift_14 : decode cX10_shift 14 = .ok (.aload 6, 2) := by decide +kernel
theorem dX10_shift_16 : decode cX10_shift 16 = .ok (.ifnull 8, 3) := by decide +kernel
theorem dX10_shift_19 : decode cX10_shift 19 = .ok (.aload 7, 2) := by decide +kernel
theorem dX10_shift_21 : decode cX10_shift 21 = .ok (.ifnonnull 5, 3) := by decide +kernel
theorem dX10_shift_24 : decode cX10_shift 24 = .ok (.iconst (-1), 1) := by decide +kernel
theorem dX10_shift_25 : decode cX10_shift 25 = .ok (.ireturn, 1) := by decide +kernel
theorem dX10_shift_26 : decode cX10_shift 26 = .ok (.aload 6, 2) := by decide +kernel
theorem dX10_shift_28 : decode cX10_shift 28 = .ok (.invokevirtual 287, 3) := by decide +kernel
theorem dX10_shift_31 : decode cX10_shift 31 = .ok (.ifCond .ne 11, 3) := by decide +kernel
theorem dX10_shift_34 : decode cX10_shift 34 = .ok (.aload 7, 2) := by decide +kernel
theorem dX10_shift_36 : decode cX10_shift 36 = .ok (.invokevirtual 287, 3) := by decide +kernel
theorem dX10_shift_39 : decode cX10_shift 39 = .ok (.ifCond .eq 6, 3) := by decide +kernel
theorem dX10_shift_42 : decode cX10_shift 42 = .ok (.bipush (-11), 2) := by decide +kernel
theorem dX10_shift_44 : decode cX10_shift 44 = .ok (.ireturn, 1) := by decide +kernel
theorem dX10_shift_45 : decode cX10_shift 45 = .ok (.aload 6, 2) := by decide +kernel
theorem dX10_shift_47 : decode cX10_shift 47 = .ok (.invokevirtual 291, 3) := by decide +kernel
theorem dX10_shift_50 : decode cX10_shift 50 = .ok (.aload 7, 2) := by decide +kernel
theorem dX10_shift_52 : decode cX10_shift 52 = .ok (.invokevirtual 291, 3) := by decide +kernel
theorem dX10_shift_55 : decode cX10_shift 55 = .ok (.if_icmp .eq 6, 3) := by decide +kernel
theorem dX10_shift_58 : decode cX10_shift 58 = .ok (.bipush (-12), 2) := by decide +kernel
theorem dX10_shift_60 : decode cX10_shift 60 = .ok (.ireturn, 1) := by decide +kernel
theorem dX10_shift_61 : decode cX10_shift 61 = .ok (.aload 6, 2) := by decide +kernel
theorem dX10_shift_63 : decode cX10_shift 63 = .ok (.iload_n 2, 1) := by decide +kernel
theorem dX10_shift_64 : decode cX10_shift 64 = .ok (.iload 5, 2) := by decide +kernel
theorem dX10_shift_66 : decode cX10_shift 66 = .ok (.invokevirtual 315, 3) := by decide +kernel
theorem dX10_shift_69 : decode cX10_shift 69 = .ok (.ifCond .eq 15, 3) := by decide +kernel
theorem dX10_shift_72 : decode cX10_shift 72 = .ok (.aload 7, 2) := by decide +kernel
theorem dX10_shift_74 : decode cX10_shift 74 = .ok (.iload 4, 2) := by decide +kernel
theorem dX10_shift_76 : decode cX10_shift 76 = .ok (.iload 5, 2) := by decide +kernel
theorem dX10_shift_78 : decode cX10_shift 78 = .ok (.invokevirtual 315, 3) := by decide +kernel
theorem dX10_shift_81 : decode cX10_shift 81 = .ok (.ifCond .ne 6, 3) := by decide +kernel
theorem dX10_shift_84 : decode cX10_shift 84 = .ok (.bipush (-13), 2) := by decide +kernel
theorem dX10_shift_86 : decode cX10_shift 86 = .ok (.ireturn, 1) := by decide +kernel
theorem dX10_shift_87 : decode cX10_shift 87 = .ok (.aload 7, 2) := by decide +kernel
theorem dX10_shift_89 : decode cX10_shift 89 = .ok (.aload 6, 2) := by decide +kernel
theorem dX10_shift_91 : decode cX10_shift 91 = .ok (.iload_n 2, 1) := by decide +kernel
theorem dX10_shift_92 : decode cX10_shift 92 = .ok (.iload 4, 2) := by decide +kernel
theorem dX10_shift_94 : decode cX10_shift 94 = .ok (.iload 5, 2) := by decide +kernel
theorem dX10_shift_96 : decode cX10_shift 96 = .ok (.invokevirtual 318, 3) := by decide +kernel
theorem dX10_shift_99 : decode cX10_shift 99 = .ok (.iload 5, 2) := by decide +kernel
theorem dX10_shift_101 : decode cX10_shift 101 = .ok (.ireturn, 1) := by decide +kernel
theorem dX10_below_0 : decode cX10_below 0 = .ok (.iload_n 0, 1) := by decide +kernel
theorem dX10_below_1 : decode cX10_below 1 = .ok (.ifCond .lt 12, 3) := by decide +kernel
theorem dX10_below_4 : decode cX10_below 4 = .ok (.iload_n 0, 1) := by decide +kernel
theorem dX10_below_5 : decode cX10_below 5 = .ok (.iload_n 1, 1) := by decide +kernel
theorem dX10_below_6 : decode cX10_below 6 = .ok (.if_icmp .ge 7, 3) := by decide +kernel
theorem dX10_below_9 : decode cX10_below 9 = .ok (.iconst 1, 1) := by decide +kernel
theorem dX10_below_10 : decode cX10_below 10 = .ok (.goto 4, 3) := by decide +kernel
theorem dX10_below_13 : decode cX10_below 13 = .ok (.iconst 0, 1) := by decide +kernel
theorem dX10_below_14 : decode cX10_below 14 = .ok (.ireturn, 1) := by decide +kernel
theorem dX10_freshChart_0 : decode cX10_freshChart 0 = .ok (.aload_n 0, 1) := by decide +kernel
theorem dX10_freshChart_1 : decode cX10_freshChart 1 = .ok (.getfield 30, 3) := by decide +kernel
theorem dX10_freshChart_4 : decode cX10_freshChart 4 = .ok (.invokevirtual 322, 3) := by decide +kernel
theorem dX10_freshChart_7 : decode cX10_freshChart 7 = .ok (.aload_n 0, 1) := by decide +kernel
theorem dX10_freshChart_8 : decode cX10_freshChart 8 = .ok (.getfield 30, 3) := by decide +kernel
theorem dX10_freshChart_11 : decode cX10_freshChart 11 = .ok (.areturn, 1) := by decide +kernel
theorem dX10_tapeAt_0 : decode cX10_tapeAt 0 = .ok (.iload_n 1, 1) := by decide +kernel
theorem dX10_tapeAt_1 : decode cX10_tapeAt 1 = .ok (.bipush 6, 2) := by decide +kernel
theorem dX10_tapeAt_3 : decode cX10_tapeAt 3 = .ok (.invokestatic 65, 3) := by decide +kernel
theorem dX10_tapeAt_6 : decode cX10_tapeAt 6 = .ok (.ifCond .eq 12, 3) := by decide +kernel
theorem dX10_tapeAt_9 : decode cX10_tapeAt 9 = .ok (.aload_n 0, 1) := by decide +kernel
theorem dX10_tapeAt_10 : decode cX10_tapeAt 10 = .ok (.getfield 50, 3) := by decide +kernel
theorem dX10_tapeAt_13 : decode cX10_tapeAt 13 = .ok (.iload_n 1, 1) := by decide +kernel
theorem dX10_tapeAt_14 : decode cX10_tapeAt 14 = .ok (.aaload, 1) := by decide +kernel
theorem dX10_tapeAt_15 : decode cX10_tapeAt 15 = .ok (.goto 4, 3) := by decide +kernel
theorem dX10_tapeAt_18 : decode cX10_tapeAt 18 = .ok (.aconst_null, 1) := by decide +kernel
theorem dX10_tapeAt_19 : decode cX10_tapeAt 19 = .ok (.areturn, 1) := by decide +kernel
theorem dX10_refusalOfStart_0 : decode cX10_refusalOfStart 0 = .ok (.iload_n 1, 1) := by decide +kernel
theorem dX10_refusalOfStart_1 : decode cX10_refusalOfStart 1 = .ok (.bipush 36, 2) := by decide +kernel
theorem dX10_refusalOfStart_3 : decode cX10_refusalOfStart 3 = .ok (.invokestatic 65, 3) := by decide +kernel
theorem dX10_refusalOfStart_6 : decode cX10_refusalOfStart 6 = .ok (.ifCond .eq 11, 3) := by decide +kernel
theorem dX10_refusalOfStart_9 : decode cX10_refusalOfStart 9 = .ok (.iload_n 2, 1) := by decide +kernel
theorem dX10_refusalOfStart_10 : decode cX10_refusalOfStart 10 = .ok (.iconst 2, 1) := by decide +kernel
theorem dX10_refusalOfStart_11 : decode cX10_refusalOfStart 11 = .ok (.invokestatic 65, 3) := by decide +kernel
theorem dX10_refusalOfStart_14 : decode cX10_refusalOfStart 14 = .ok (.ifCond .ne 5, 3) := by decide +kernel
theorem dX10_refusalOfStart_17 : decode cX10_refusalOfStart 17 = .ok (.iconst (-1), 1) := by decide +kernel
theorem dX10_refusalOfStart_18 : decode cX10_refusalOfStart 18 = .ok (.ireturn, 1) := by decide +kernel
theorem dX10_refusalOfStart_19 : decode cX10_refusalOfStart 19 = .ok (.iload_n 3, 1) := by decide +kernel
theorem dX10_refusalOfStart_20 : decode cX10_refusalOfStart 20 = .ok (.ifCond .lt 10, 3) := by decide +kernel
theorem dX10_refusalOfStart_23 : decode cX10_refusalOfStart 23 = .ok (.iload_n 3, 1) := by decide +kernel
theorem dX10_refusalOfStart_24 : decode cX10_refusalOfStart 24 = .ok (.sipush 9999, 3) := by decide +kernel
theorem dX10_refusalOfStart_27 : decode cX10_refusalOfStart 27 = .ok (.if_icmp .le 6, 3) := by decide +kernel
theorem dX10_refusalOfStart_30 : decode cX10_refusalOfStart 30 = .ok (.bipush (-2), 2) := by decide +kernel
theorem dX10_refusalOfStart_32 : decode cX10_refusalOfStart 32 = .ok (.ireturn, 1) := by decide +kernel
theorem dX10_refusalOfStart_33 : decode cX10_refusalOfStart 33 = .ok (.aload_n 0, 1) := by decide +kernel
theorem dX10_refusalOfStart_34 : decode cX10_refusalOfStart 34 = .ok (.getfield 12, 3) := by decide +kernel
theorem dX10_refusalOfStart_37 : decode cX10_refusalOfStart 37 = .ok (.iload_n 1, 1) := by decide +kernel
theorem dX10_refusalOfStart_38 : decode cX10_refusalOfStart 38 = .ok (.invokevirtual 101, 3) := by decide +kernel
theorem dX10_refusalOfStart_41 : decode cX10_refusalOfStart 41 = .ok (.ifCond .eq 8, 3) := by decide +kernel
theorem dX10_refusalOfStart_44 : decode cX10_refusalOfStart 44 = .ok (.bipush (-3), 2) := by decide +kernel
theorem dX10_refusalOfStart_46 : decode cX10_refusalOfStart 46 = .ok (.goto 4, 3) := by decide +kernel
theorem dX10_refusalOfStart_49 : decode cX10_refusalOfStart 49 = .ok (.iconst 0, 1) := by decide +kernel
theorem dX10_refusalOfStart_50 : decode cX10_refusalOfStart 50 = .ok (.ireturn, 1) := by decide +kernel
theorem dX10_tellSquareAndMinute_0 : decode cX10_tellSquareAndMinute 0 = .ok (.iload_n 1, 1) := by decide +kernel
theorem dX10_tellSquareAndMinute_1 : decode cX10_tellSquareAndMinute 1 = .ok (.iconst (-1), 1) := by decide +kernel
theorem dX10_tellSquareAndMinute_2 : decode cX10_tellSquareAndMinute 2 = .ok (.if_icmp .ne 8, 3) := by decide +kernel
theorem dX10_tellSquareAndMinute_5 : decode cX10_tellSquareAndMinute 5 = .ok (.aload_n 0, 1) := by decide +kernel
theorem dX10_tellSquareAndMinute_6 : decode cX10_tellSquareAndMinute 6 = .ok (.invokevirtual 135, 3) := by decide +kernel
theorem dX10_tellSquareAndMinute_9 : decode cX10_tellSquareAndMinute 9 = .ok (.ireturn, 1) := by decide +kernel
theorem dX10_tellSquareAndMinute_10 : decode cX10_tellSquareAndMinute 10 = .ok (.iload_n 1, 1) := by decide +kernel
theorem dX10_tellSquareAndMinute_11 : decode cX10_tellSquareAndMinute 11 = .ok (.bipush 36, 2) := by decide +kernel
theorem dX10_tellSquareAndMinute_13 : decode cX10_tellSquareAndMinute 13 = .ok (.invokestatic 65, 3) := by decide +kernel
theorem dX10_tellSquareAndMinute_16 : decode cX10_tellSquareAndMinute 16 = .ok (.ifCond .ne 5, 3) := by decide +kernel
theorem dX10_tellSquareAndMinute_19 : decode cX10_tellSquareAndMinute 19 = .ok (.iconst (-1), 1) := by decide +kernel
theorem dX10_tellSquareAndMinute_20 : decode cX10_tellSquareAndMinute 20 = .ok (.ireturn, 1) := by decide +kernel
theorem dX10_tellSquareAndMinute_21 : decode cX10_tellSquareAndMinute 21 = .ok (.iload_n 2, 1) := by decide +kernel
theorem dX10_tellSquareAndMinute_22 : decode cX10_tellSquareAndMinute 22 = .ok (.ifCond .lt 9, 3) := by decide +kernel
theorem dX10_tellSquareAndMinute_25 : decode cX10_tellSquareAndMinute 25 = .ok (.iload_n 2, 1) := by decide +kernel
theorem dX10_tellSquareAndMinute_26 : decode cX10_tellSquareAndMinute 26 = .ok (.ldc 251, 2) := by decide +kernel
theorem dX10_tellSquareAndMinute_28 : decode cX10_tellSquareAndMinute 28 = .ok (.if_icmp .le 6, 3) := by decide +kernel
theorem dX10_tellSquareAndMinute_31 : decode cX10_tellSquareAndMinute 31 = .ok (.bipush (-2), 2) := by decide +kernel
theorem dX10_tellSquareAndMinute_33 : decode cX10_tellSquareAndMinute 33 = .ok (.ireturn, 1) := by decide +kernel
theorem dX10_tellSquareAndMinute_34 : decode cX10_tellSquareAndMinute 34 = .ok (.aload_n 0, 1) := by decide +kernel
theorem dX10_tellSquareAndMinute_35 : decode cX10_tellSquareAndMinute 35 = .ok (.iload_n 1, 1) := by decide +kernel
theorem dX10_tellSquareAndMinute_36 : decode cX10_tellSquareAndMinute 36 = .ok (.iload_n 2, 1) := by decide +kernel
theorem dX10_tellSquareAndMinute_37 : decode cX10_tellSquareAndMinute 37 = .ok (.invokevirtual 140, 3) := by decide +kernel
theorem dX10_tellSquareAndMinute_40 : decode cX10_tellSquareAndMinute 40 = .ok (.ireturn, 1) := by decide +kernel
theorem dX10_fractionPart_0 : decode cX10_fractionPart 0 = .ok (.lload_n 0, 1) := by decide +kernel
theorem dX10_fractionPart_1 : decode cX10_fractionPart 1 = .ok (.lload_n 2, 1) := by decide +kernel
theorem dX10_fractionPart_2 : decode cX10_fractionPart 2 = .ok (.invokestatic 325, 3) := by decide +kernel
theorem dX10_fractionPart_5 : decode cX10_fractionPart 5 = .ok (.lstore 5, 2) := by decide +kernel
theorem dX10_fractionPart_7 : decode cX10_fractionPart 7 = .ok (.lload 5, 2) := by decide +kernel
theorem dX10_fractionPart_9 : decode cX10_fractionPart 9 = .ok (.lconst 0, 1) := by decide +kernel
theorem dX10_fractionPart_10 : decode cX10_fractionPart 10 = .ok (.lcmp, 1) := by decide +kernel
theorem dX10_fractionPart_11 : decode cX10_fractionPart 11 = .ok (.ifCond .ne 7, 3) := by decide +kernel
theorem dX10_fractionPart_14 : decode cX10_fractionPart 14 = .ok (.ldc2_w 215, 3) := by decide +kernel
theorem dX10_fractionPart_17 : decode cX10_fractionPart 17 = .ok (.lreturn, 1) := by decide +kernel
theorem dX10_fractionPart_18 : decode cX10_fractionPart 18 = .ok (.iload 4, 2) := by decide +kernel
theorem dX10_fractionPart_20 : decode cX10_fractionPart 20 = .ok (.ifCond .ne 7, 3) := by decide +kernel
theorem dX10_fractionPart_23 : decode cX10_fractionPart 23 = .ok (.lload_n 0, 1) := by decide +kernel
theorem dX10_fractionPart_24 : decode cX10_fractionPart 24 = .ok (.goto 4, 3) := by decide +kernel
theorem dX10_fractionPart_27 : decode cX10_fractionPart 27 = .ok (.lload_n 2, 1) := by decide +kernel
theorem dX10_fractionPart_28 : decode cX10_fractionPart 28 = .ok (.lload 5, 2) := by decide +kernel
theorem dX10_fractionPart_30 : decode cX10_fractionPart 30 = .ok (.ldiv, 1) := by decide +kernel
theorem dX10_fractionPart_31 : decode cX10_fractionPart 31 = .ok (.lreturn, 1) := by decide +kernel
theorem dX10_reckoned_0 : decode cX10_reckoned 0 = .ok (.aload_n 0, 1) := by decide +kernel
theorem dX10_reckoned_1 : decode cX10_reckoned 1 = .ok (.getfield 12, 3) := by decide +kernel
theorem dX10_reckoned_4 : decode cX10_reckoned 4 = .ok (.getfield 97, 3) := by decide +kernel
theorem dX10_reckoned_7 : decode cX10_reckoned 7 = .ok (.invokestatic 172, 3) := by decide +kernel
theorem dX10_reckoned_10 : decode cX10_reckoned 10 = .ok (.istore_n 2, 1) := by decide +kernel
theorem dX10_reckoned_11 : decode cX10_reckoned 11 = .ok (.aload_n 0, 1) := by decide +kernel
theorem dX10_reckoned_12 : decode cX10_reckoned 12 = .ok (.getfield 12, 3) := by decide +kernel
theorem dX10_reckoned_15 : decode cX10_reckoned 15 = .ok (.getfield 160, 3) := by decide +kernel
theorem dX10_reckoned_18 : decode cX10_reckoned 18 = .ok (.istore_n 3, 1) := by decide +kernel
theorem dX10_reckoned_19 : decode cX10_reckoned 19 = .ok (.dconst 0, 1) := by decide +kernel
theorem dX10_reckoned_20 : decode cX10_reckoned 20 = .ok (.dstore 4, 2) := by decide +kernel
theorem dX10_reckoned_22 : decode cX10_reckoned 22 = .ok (.iconst 0, 1) := by decide +kernel
theorem dX10_reckoned_23 : decode cX10_reckoned 23 = .ok (.istore 6, 2) := by decide +kernel
theorem dX10_reckoned_25 : decode cX10_reckoned 25 = .ok (.iload 6, 2) := by decide +kernel
theorem dX10_reckoned_27 : decode cX10_reckoned 27 = .ok (.aload_n 0, 1) := by decide +kernel
theorem dX10_reckoned_28 : decode cX10_reckoned 28 = .ok (.getfield 21, 3) := by decide +kernel
theorem dX10_reckoned_31 : decode cX10_reckoned 31 = .ok (.getfield 131, 3) := by decide +kernel
theorem dX10_reckoned_34 : decode cX10_reckoned 34 = .ok (.invokevirtual 274, 3) := by decide +kernel
theorem dX10_reckoned_37 : decode cX10_reckoned 37 = .ok (.if_icmp .ge 79, 3) := by decide +kernel
theorem dX10_reckoned_40 : decode cX10_reckoned 40 = .ok (.aload_n 0, 1) := by decide +kernel
theorem dX10_reckoned_41 : decode cX10_reckoned 41 = .ok (.getfield 21, 3) := by decide +kernel
theorem dX10_reckoned_44 : decode cX10_reckoned 44 = .ok (.getfield 131, 3) := by decide +kernel
theorem dX10_reckoned_47 : decode cX10_reckoned 47 = .ok (.iload 6, 2) := by decide +kernel
theorem dX10_reckoned_49 : decode cX10_reckoned 49 = .ok (.invokevirtual 277, 3) := by decide +kernel
theorem dX10_reckoned_52 : decode cX10_reckoned 52 = .ok (.istore 7, 2) := by decide +kernel
theorem dX10_reckoned_54 : decode cX10_reckoned 54 = .ok (.aload_n 0, 1) := by decide +kernel
theorem dX10_reckoned_55 : decode cX10_reckoned 55 = .ok (.getfield 12, 3) := by decide +kernel
theorem dX10_reckoned_58 : decode cX10_reckoned 58 = .ok (.iload_n 2, 1) := by decide +kernel
theorem dX10_reckoned_59 : decode cX10_reckoned 59 = .ok (.iload_n 3, 1) := by decide +kernel
theorem dX10_reckoned_60 : decode cX10_reckoned 60 = .ok (.invokestatic 177, 3) := by decide +kernel
theorem dX10_reckoned_63 : decode cX10_reckoned 63 = .ok (.iload 7, 2) := by decide +kernel
theorem dX10_reckoned_65 : decode cX10_reckoned 65 = .ok (.invokevirtual 180, 3) := by decide +kernel
theorem dX10_reckoned_68 : decode cX10_reckoned 68 = .ok (.istore 8, 2) := by decide +kernel
theorem dX10_reckoned_70 : decode cX10_reckoned 70 = .ok (.iload 8, 2) := by decide +kernel
theorem dX10_reckoned_72 : decode cX10_reckoned 72 = .ok (.i2f, 1) := by decide +kernel
theorem dX10_reckoned_73 : decode cX10_reckoned 73 = .ok (.ldc_w 329, 3) := by decide +kernel
theorem dX10_reckoned_76 : decode cX10_reckoned 76 = .ok (.fdiv, 1) := by decide +kernel
theorem dX10_reckoned_77 : decode cX10_reckoned 77 = .ok (.f2d, 1) := by decide +kernel
theorem dX10_reckoned_78 : decode cX10_reckoned 78 = .ok (.dstore 9, 2) := by decide +kernel
theorem dX10_reckoned_80 : decode cX10_reckoned 80 = .ok (.dload 4, 2) := by decide +kernel
theorem dX10_reckoned_82 : decode cX10_reckoned 82 = .ok (.dload 9, 2) := by decide +kernel
theorem dX10_reckoned_84 : decode cX10_reckoned 84 = .ok (.iload_n 1, 1) := by decide +kernel
theorem dX10_reckoned_85 : decode cX10_reckoned 85 = .ok (.ifCond .eq 11, 3) := by decide +kernel
theorem dX10_reckoned_88 : decode cX10_reckoned 88 = .ok (.iload 7, 2) := by decide +kernel
theorem dX10_reckoned_90 : decode cX10_reckoned 90 = .ok (.invokestatic 330, 3) := by decide +kernel
theorem dX10_reckoned_93 : decode cX10_reckoned 93 = .ok (.goto 8, 3) := by decide +kernel
theorem dX10_reckoned_96 : decode cX10_reckoned 96 = .ok (.iload 7, 2) := by decide +kernel
theorem dX10_reckoned_98 : decode cX10_reckoned 98 = .ok (.invokestatic 334, 3) := by decide +kernel
theorem dX10_reckoned_101 : decode cX10_reckoned 101 = .ok (.dmul, 1) := by decide +kernel
theorem dX10_reckoned_102 : decode cX10_reckoned 102 = .ok (.dadd, 1) := by decide +kernel
theorem dX10_reckoned_103 : decode cX10_reckoned 103 = .ok (.dstore 4, 2) := by decide +kernel
theorem dX10_reckoned_105 : decode cX10_reckoned 105 = .ok (.iload_n 3, 1) := by decide +kernel
theorem dX10_reckoned_106 : decode cX10_reckoned 106 = .ok (.bipush 10, 2) := by decide +kernel
theorem dX10_reckoned_108 : decode cX10_reckoned 108 = .ok (.iadd, 1) := by decide +kernel
theorem dX10_reckoned_109 : decode cX10_reckoned 109 = .ok (.istore_n 3, 1) := by decide +kernel
theorem dX10_reckoned_110 : decode cX10_reckoned 110 = .ok (.iinc 6 1, 3) := by decide +kernel
theorem dX10_reckoned_113 : decode cX10_reckoned 113 = .ok (.goto (-88), 3) := by decide +kernel
theorem dX10_reckoned_116 : decode cX10_reckoned 116 = .ok (.dload 4, 2) := by decide +kernel
theorem dX10_reckoned_118 : decode cX10_reckoned 118 = .ok (.dreturn, 1) := by decide +kernel
theorem dX10_doClause_0 : decode cX10_doClause 0 = .ok (.aload_n 0, 1) := by decide +kernel
theorem dX10_doClause_1 : decode cX10_doClause 1 = .ok (.getfield 44, 3) := by decide +kernel
theorem dX10_doClause_4 : decode cX10_doClause 4 = .ok (.iload_n 1, 1) := by decide +kernel
theorem dX10_doClause_5 : decode cX10_doClause 5 = .ok (.iconst 0, 1) := by decide +kernel
theorem dX10_doClause_6 : decode cX10_doClause 6 = .ok (.invokevirtual 337, 3) := by decide +kernel
theorem dX10_doClause_9 : decode cX10_doClause 9 = .ok (.istore_n 2, 1) := by decide +kernel
theorem dX10_doClause_10 : decode cX10_doClause 10 = .ok (.aload_n 0, 1) := by decide +kernel
theorem dX10_doClause_11 : decode cX10_doClause 11 = .ok (.getfield 44, 3) := by decide +kernel
theorem dX10_doClause_14 : decode cX10_doClause 14 = .ok (.iload_n 1, 1) := by decide +kernel
theorem dX10_doClause_15 : decode cX10_doClause 15 = .ok (.iconst 1, 1) := by decide +kernel
theorem dX10_doClause_16 : decode cX10_doClause 16 = .ok (.invokevirtual 337, 3) := by decide +kernel
theorem dX10_doClause_19 : decode cX10_doClause 19 = .ok (.istore_n 3, 1) := by decide +kernel
theorem dX10_doClause_20 : decode cX10_doClause 20 = .ok (.aload_n 0, 1) := by decide +kernel
theorem dX10_doClause_21 : decode cX10_doClause 21 = .ok (.getfield 44, 3) := by decide +kernel
theorem dX10_doClause_24 : decode cX10_doClause 24 = .ok (.iload_n 1, 1) := by decide +kernel
theorem dX10_doClause_25 : decode cX10_doClause 25 = .ok (.iconst 2, 1) := by decide +kernel
theorem dX10_doClause_26 : decode cX10_doClause 26 = .ok (.invokevirtual 337, 3) := by decide +kernel
theorem dX10_doClause_29 : decode cX10_doClause 29 = .ok (.istore 4, 2) := by decide +kernel
theorem dX10_doClause_31 : decode cX10_doClause 31 = .ok (.aload_n 0, 1) := by decide +kernel
theorem dX10_doClause_32 : decode cX10_doClause 32 = .ok (.getfield 44, 3) := by decide +kernel
theorem dX10_doClause_35 : decode cX10_doClause 35 = .ok (.iload_n 1, 1) := by decide +kernel
theorem dX10_doClause_36 : decode cX10_doClause 36 = .ok (.invokevirtual 340, 3) := by decide +kernel
theorem dX10_doClause_39 : decode cX10_doClause 39 = .ok (.lookupswitch 162 #[(98, 100), (99, 83), (108, 107), (115, 146), (116, 155), (119, 57)], 57) := by decide +kernel
theorem dX10_doClause_96 : decode cX10_doClause 96 = .ok (.aload_n 0, 1) := by decide +kernel
theorem dX10_doClause_97 : decode cX10_doClause 97 = .ok (.iload_n 2, 1) := by decide +kernel
theorem dX10_doClause_98 : decode cX10_doClause 98 = .ok (.iload_n 3, 1) := by decide +kernel
theorem dX10_doClause_99 : decode cX10_doClause 99 = .ok (.iload 4, 2) := by decide +kernel
theorem dX10_doClause_101 : decode cX10_doClause 101 = .ok (.aload_n 0, 1) := by decide +kernel
theorem dX10_doClause_102 : decode cX10_doClause 102 = .ok (.getfield 44, 3) := by decide +kernel
theorem dX10_doClause_105 : decode cX10_doClause 105 = .ok (.iload_n 1, 1) := by decide +kernel
theorem dX10_doClause_106 : decode cX10_doClause 106 = .ok (.iconst 3, 1) := by decide +kernel
theorem dX10_doClause_107 : decode cX10_doClause 107 = .ok (.invokevirtual 337, 3) := by decide +kernel
theorem dX10_doClause_110 : decode cX10_doClause 110 = .ok (.invokevirtual 343, 3) := by decide +kernel
theorem dX10_doClause_113 : decode cX10_doClause 113 = .ok (.ifCond .lt 7, 3) := by decide +kernel
theorem dX10_doClause_116 : decode cX10_doClause 116 = .ok (.iconst 1, 1) := by decide +kernel
theorem dX10_doClause_117 : decode cX10_doClause 117 = .ok (.goto 4, 3) := by decide +kernel
theorem dX10_doClause_120 : decode cX10_doClause 120 = .ok (.iconst 0, 1) := by decide +kernel
theorem dX10_doClause_121 : decode cX10_doClause 121 = .ok (.ireturn, 1) := by decide +kernel
theorem dX10_doClause_122 : decode cX10_doClause 122 = .ok (.aload_n 0, 1) := by decide +kernel
theorem dX10_doClause_123 : decode cX10_doClause 123 = .ok (.iload_n 2, 1) := by decide +kernel
theorem dX10_doClause_124 : decode cX10_doClause 124 = .ok (.iload_n 3, 1) := by decide +kernel
theorem dX10_doClause_125 : decode cX10_doClause 125 = .ok (.iload 4, 2) := by decide +kernel
theorem dX10_doClause_127 : decode cX10_doClause 127 = .ok (.invokevirtual 346, 3) := by decide +kernel
theorem dX10_doClause_130 : decode cX10_doClause 130 = .ok (.ifCond .lt 7, 3) := by decide +kernel
theorem dX10_doClause_133 : decode cX10_doClause 133 = .ok (.iconst 1, 1) := by decide +kernel
theorem dX10_doClause_134 : decode cX10_doClause 134 = .ok (.goto 4, 3) := by decide +kernel
theorem dX10_doClause_137 : decode cX10_doClause 137 = .ok (.iconst 0, 1) := by decide +kernel
theorem dX10_doClause_138 : decode cX10_doClause 138 = .ok (.ireturn, 1) := by decide +kernel
theorem dX10_doClause_139 : decode cX10_doClause 139 = .ok (.aload_n 0, 1) := by decide +kernel
theorem dX10_doClause_140 : decode cX10_doClause 140 = .ok (.iload_n 1, 1) := by decide +kernel
theorem dX10_doClause_141 : decode cX10_doClause 141 = .ok (.iload_n 2, 1) := by decide +kernel
theorem dX10_doClause_142 : decode cX10_doClause 142 = .ok (.invokevirtual 349, 3) := by decide +kernel
theorem dX10_doClause_145 : decode cX10_doClause 145 = .ok (.ireturn, 1) := by decide +kernel
theorem dX10_doClause_146 : decode cX10_doClause 146 = .ok (.iload_n 2, 1) := by decide +kernel
theorem dX10_doClause_147 : decode cX10_doClause 147 = .ok (.bipush 36, 2) := by decide +kernel
theorem dX10_doClause_149 : decode cX10_doClause 149 = .ok (.invokestatic 65, 3) := by decide +kernel
theorem dX10_doClause_152 : decode cX10_doClause 152 = .ok (.ifCond .eq 31, 3) := by decide +kernel
theorem dX10_doClause_155 : decode cX10_doClause 155 = .ok (.aload_n 0, 1) := by decide +kernel
theorem dX10_doClause_156 : decode cX10_doClause 156 = .ok (.iload_n 2, 1) := by decide +kernel
theorem dX10_doClause_157 : decode cX10_doClause 157 = .ok (.aload_n 0, 1) := by decide +kernel
theorem dX10_doClause_158 : decode cX10_doClause 158 = .ok (.getfield 12, 3) := by decide +kernel
theorem dX10_doClause_161 : decode cX10_doClause 161 = .ok (.iload_n 2, 1) := by decide +kernel
theorem dX10_doClause_162 : decode cX10_doClause 162 = .ok (.invokevirtual 101, 3) := by decide +kernel
theorem dX10_doClause_165 : decode cX10_doClause 165 = .ok (.ifCond .ne 7, 3) := by decide +kernel
theorem dX10_doClause_168 : decode cX10_doClause 168 = .ok (.iconst 1, 1) := by decide +kernel
theorem dX10_doClause_169 : decode cX10_doClause 169 = .ok (.goto 4, 3) := by decide +kernel
theorem dX10_doClause_172 : decode cX10_doClause 172 = .ok (.iconst 0, 1) := by decide +kernel
theorem dX10_doClause_173 : decode cX10_doClause 173 = .ok (.invokevirtual 352, 3) := by decide +kernel
theorem dX10_doClause_176 : decode cX10_doClause 176 = .ok (.ifCond .lt 7, 3) := by decide +kernel
theorem dX10_doClause_179 : decode cX10_doClause 179 = .ok (.iconst 1, 1) := by decide +kernel
theorem dX10_doClause_180 : decode cX10_doClause 180 = .ok (.goto 4, 3) := by decide +kernel
theorem dX10_doClause_183 : decode cX10_doClause 183 = .ok (.iconst 0, 1) := by decide +kernel
theorem dX10_doClause_184 : decode cX10_doClause 184 = .ok (.ireturn, 1) := by decide +kernel
theorem dX10_doClause_185 : decode cX10_doClause 185 = .ok (.aload_n 0, 1) := by decide +kernel
theorem dX10_doClause_186 : decode cX10_doClause 186 = .ok (.iload_n 2, 1) := by decide +kernel
theorem dX10_doClause_187 : decode cX10_doClause 187 = .ok (.iload_n 3, 1) := by decide +kernel
theorem dX10_doClause_188 : decode cX10_doClause 188 = .ok (.iload 4, 2) := by decide +kernel
theorem dX10_doClause_190 : decode cX10_doClause 190 = .ok (.invokevirtual 356, 3) := by decide +kernel
theorem dX10_doClause_193 : decode cX10_doClause 193 = .ok (.ireturn, 1) := by decide +kernel
theorem dX10_doClause_194 : decode cX10_doClause 194 = .ok (.aload_n 0, 1) := by decide +kernel
theorem dX10_doClause_195 : decode cX10_doClause 195 = .ok (.iload_n 2, 1) := by decide +kernel
theorem dX10_doClause_196 : decode cX10_doClause 196 = .ok (.iload_n 3, 1) := by decide +kernel
theorem dX10_doClause_197 : decode cX10_doClause 197 = .ok (.invokevirtual 360, 3) := by decide +kernel
theorem dX10_doClause_200 : decode cX10_doClause 200 = .ok (.ireturn, 1) := by decide +kernel
theorem dX10_doClause_201 : decode cX10_doClause 201 = .ok (.iconst 0, 1) := by decide +kernel
theorem dX10_doClause_202 : decode cX10_doClause 202 = .ok (.ireturn, 1) := by decide +kernel
theorem dX10_doTable_0 : decode cX10_doTable 0 = .ok (.iload_n 2, 1) := by decide +kernel
theorem dX10_doTable_1 : decode cX10_doTable 1 = .ok (.iconst 1, 1) := by decide +kernel
theorem dX10_doTable_2 : decode cX10_doTable 2 = .ok (.if_icmp .lt 8, 3) := by decide +kernel
theorem dX10_doTable_5 : decode cX10_doTable 5 = .ok (.iload_n 2, 1) := by decide +kernel
theorem dX10_doTable_6 : decode cX10_doTable 6 = .ok (.iconst 3, 1) := by decide +kernel
theorem dX10_doTable_7 : decode cX10_doTable 7 = .ok (.if_icmp .le 5, 3) := by decide +kernel
theorem dX10_doTable_10 : decode cX10_doTable 10 = .ok (.iconst 0, 1) := by decide +kernel
theorem dX10_doTable_11 : decode cX10_doTable 11 = .ok (.ireturn, 1) := by decide +kernel
theorem dX10_doTable_12 : decode cX10_doTable 12 = .ok (.iconst 0, 1) := by decide +kernel
theorem dX10_doTable_13 : decode cX10_doTable 13 = .ok (.istore_n 3, 1) := by decide +kernel
theorem dX10_doTable_14 : decode cX10_doTable 14 = .ok (.iload_n 3, 1) := by decide +kernel
theorem dX10_doTable_15 : decode cX10_doTable 15 = .ok (.iconst 5, 1) := by decide +kernel
theorem dX10_doTable_16 : decode cX10_doTable 16 = .ok (.if_icmp .ge 29, 3) := by decide +kernel
theorem dX10_doTable_19 : decode cX10_doTable 19 = .ok (.aload_n 0, 1) := by decide +kernel
theorem dX10_doTable_20 : decode cX10_doTable 20 = .ok (.getfield 12, 3) := by decide +kernel
theorem dX10_doTable_23 : decode cX10_doTable 23 = .ok (.iload_n 2, 1) := by decide +kernel
theorem dX10_doTable_24 : decode cX10_doTable 24 = .ok (.iload_n 3, 1) := by decide +kernel
theorem dX10_doTable_25 : decode cX10_doTable 25 = .ok (.aload_n 0, 1) := by decide +kernel
theorem dX10_doTable_26 : decode cX10_doTable 26 = .ok (.getfield 44, 3) := by decide +kernel
theorem dX10_doTable_29 : decode cX10_doTable 29 = .ok (.iload_n 1, 1) := by decide +kernel
theorem dX10_doTable_30 : decode cX10_doTable 30 = .ok (.iconst 1, 1) := by decide +kernel
theorem dX10_doTable_31 : decode cX10_doTable 31 = .ok (.iload_n 3, 1) := by decide +kernel
theorem dX10_doTable_32 : decode cX10_doTable 32 = .ok (.iadd, 1) := by decide +kernel
theorem dX10_doTable_33 : decode cX10_doTable 33 = .ok (.invokevirtual 337, 3) := by decide +kernel
theorem dX10_doTable_36 : decode cX10_doTable 36 = .ok (.invokevirtual 94, 3) := by decide +kernel
theorem dX10_doTable_39 : decode cX10_doTable 39 = .ok (.iinc 3 1, 3) := by decide +kernel
theorem dX10_doTable_42 : decode cX10_doTable 42 = .ok (.goto (-28), 3) := by decide +kernel
theorem dX10_doTable_45 : decode cX10_doTable 45 = .ok (.iconst 1, 1) := by decide +kernel
theorem dX10_doTable_46 : decode cX10_doTable 46 = .ok (.ireturn, 1) := by decide +kernel
theorem dX10_doStart_0 : decode cX10_doStart 0 = .ok (.aload_n 0, 1) := by decide +kernel
theorem dX10_doStart_1 : decode cX10_doStart 1 = .ok (.iload_n 1, 1) := by decide +kernel
theorem dX10_doStart_2 : decode cX10_doStart 2 = .ok (.iload_n 2, 1) := by decide +kernel
theorem dX10_doStart_3 : decode cX10_doStart 3 = .ok (.iload_n 3, 1) := by decide +kernel
theorem dX10_doStart_4 : decode cX10_doStart 4 = .ok (.invokevirtual 109, 3) := by decide +kernel
theorem dX10_doStart_7 : decode cX10_doStart 7 = .ok (.ifCond .eq 5, 3) := by decide +kernel
theorem dX10_doStart_10 : decode cX10_doStart 10 = .ok (.iconst 0, 1) := by decide +kernel
theorem dX10_doStart_11 : decode cX10_doStart 11 = .ok (.ireturn, 1) := by decide +kernel
theorem dX10_doStart_12 : decode cX10_doStart 12 = .ok (.aload_n 0, 1) := by decide +kernel
theorem dX10_doStart_13 : decode cX10_doStart 13 = .ok (.getfield 12, 3) := by decide +kernel
theorem dX10_doStart_16 : decode cX10_doStart 16 = .ok (.iload_n 1, 1) := by decide +kernel
theorem dX10_doStart_17 : decode cX10_doStart 17 = .ok (.iload_n 2, 1) := by decide +kernel
theorem dX10_doStart_18 : decode cX10_doStart 18 = .ok (.iload_n 3, 1) := by decide +kernel
theorem dX10_doStart_19 : decode cX10_doStart 19 = .ok (.invokevirtual 113, 3) := by decide +kernel
theorem dX10_doStart_22 : decode cX10_doStart 22 = .ok (.iconst 1, 1) := by decide +kernel
theorem dX10_doStart_23 : decode cX10_doStart 23 = .ok (.ireturn, 1) := by decide +kernel
theorem dX10_doLosses_0 : decode cX10_doLosses 0 = .ok (.iload_n 1, 1) := by decide +kernel
theorem dX10_doLosses_1 : decode cX10_doLosses 1 = .ok (.bipush 60, 2) := by decide +kernel
theorem dX10_doLosses_3 : decode cX10_doLosses 3 = .ok (.if_icmp .gt 9, 3) := by decide +kernel
theorem dX10_doLosses_6 : decode cX10_doLosses 6 = .ok (.iload_n 2, 1) := by decide +kernel
theorem dX10_doLosses_7 : decode cX10_doLosses 7 = .ok (.bipush 60, 2) := by decide +kernel
theorem dX10_doLosses_9 : decode cX10_doLosses 9 = .ok (.if_icmp .le 5, 3) := by decide +kernel
theorem dX10_doLosses_12 : decode cX10_doLosses 12 = .ok (.iconst 0, 1) := by decide +kernel
theorem dX10_doLosses_13 : decode cX10_doLosses 13 = .ok (.ireturn, 1) := by decide +kernel
theorem dX10_doLosses_14 : decode cX10_doLosses 14 = .ok (.aload_n 0, 1) := by decide +kernel
theorem dX10_doLosses_15 : decode cX10_doLosses 15 = .ok (.getfield 12, 3) := by decide +kernel
theorem dX10_doLosses_18 : decode cX10_doLosses 18 = .ok (.iconst 0, 1) := by decide +kernel
theorem dX10_doLosses_19 : decode cX10_doLosses 19 = .ok (.iload_n 1, 1) := by decide +kernel
theorem dX10_doLosses_20 : decode cX10_doLosses 20 = .ok (.invokevirtual 127, 3) := by decide +kernel
theorem dX10_doLosses_23 : decode cX10_doLosses 23 = .ok (.aload_n 0, 1) := by decide +kernel
theorem dX10_doLosses_24 : decode cX10_doLosses 24 = .ok (.getfield 12, 3) := by decide +kernel
theorem dX10_doLosses_27 : decode cX10_doLosses 27 = .ok (.iconst 1, 1) := by decide +kernel
theorem dX10_doLosses_28 : decode cX10_doLosses 28 = .ok (.iload_n 2, 1) := by decide +kernel
theorem dX10_doLosses_29 : decode cX10_doLosses 29 = .ok (.invokevirtual 127, 3) := by decide +kernel
theorem dX10_doLosses_32 : decode cX10_doLosses 32 = .ok (.iconst 1, 1) := by decide +kernel
theorem dX10_doLosses_33 : decode cX10_doLosses 33 = .ok (.ireturn, 1) := by decide +kernel
