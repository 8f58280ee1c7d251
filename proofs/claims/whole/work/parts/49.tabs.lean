theorem rf_0_0 : rf 0 0 = 1 := by decide +kernel
theorem rf_0_1 : rf 0 1 = 8 := by decide +kernel
theorem rf_0_2 : rf 0 2 = 21 := by decide +kernel
theorem rf_0_3 : rf 0 3 = 30 := by decide +kernel
theorem rf_0_4 : rf 0 4 = 48 := by decide +kernel
theorem rf_0_5 : rf 0 5 = 52 := by decide +kernel
theorem rf_0_6 : rf 0 6 = 65 := by decide +kernel
theorem rf_0_7 : rf 0 7 = 72 := by decide +kernel
theorem kd_0 : knd 0 = 8 := by decide +kernel
theorem rf_1_0 : rf 1 0 = 2 := by decide +kernel
theorem rf_1_1 : rf 1 1 = 3 := by decide +kernel
theorem rf_1_2 : rf 1 2 = 4 := by decide +kernel
theorem rf_1_3 : rf 1 3 = 5 := by decide +kernel
theorem rf_1_4 : rf 1 4 = 6 := by decide +kernel
theorem rf_1_5 : rf 1 5 = 7 := by decide +kernel
theorem kd_1 : knd 1 = 4 := by decide +kernel
theorem al_2 : aln 2 = 16 := by decide +kernel
theorem kd_2 : knd 2 = 10 := by decide +kernel
theorem al_3 : aln 3 = 16 := by decide +kernel
theorem kd_3 : knd 3 = 10 := by decide +kernel
theorem al_4 : aln 4 = 4 := by decide +kernel
theorem kd_4 : knd 4 = 10 := by decide +kernel
theorem al_5 : aln 5 = 4 := by decide +kernel
theorem kd_5 : knd 5 = 10 := by decide +kernel
theorem al_6 : aln 6 = 15 := by decide +kernel
theorem kd_6 : knd 6 = 10 := by decide +kernel
theorem al_7 : aln 7 = 2 := by decide +kernel
theorem kd_7 : knd 7 = 10 := by decide +kernel
theorem rf_8_0 : rf 8 0 = 9 := by decide +kernel
theorem rf_8_1 : rf 8 1 = 12 := by decide +kernel
theorem rf_8_2 : rf 8 2 = 15 := by decide +kernel
theorem rf_8_3 : rf 8 3 = 18 := by decide +kernel
theorem kd_8 : knd 8 = 1 := by decide +kernel
theorem rf_9_0 : rf 9 0 = 10 := by decide +kernel
theorem rf_9_1 : rf 9 1 = 11 := by decide +kernel
theorem kd_9 : knd 9 = 3 := by decide +kernel
theorem al_10 : aln 10 = 8 := by decide +kernel
theorem kd_10 : knd 10 = 10 := by decide +kernel
theorem al_11 : aln 11 = 8 := by decide +kernel
theorem kd_11 : knd 11 = 10 := by decide +kernel
theorem rf_12_0 : rf 12 0 = 13 := by decide +kernel
theorem rf_12_1 : rf 12 1 = 14 := by decide +kernel
theorem kd_12 : knd 12 = 3 := by decide +kernel
theorem al_13 : aln 13 = 5 := by decide +kernel
theorem kd_13 : knd 13 = 10 := by decide +kernel
theorem al_14 : aln 14 = 5 := by decide +kernel
theorem kd_14 : knd 14 = 10 := by decide +kernel
theorem rf_15_0 : rf 15 0 = 16 := by decide +kernel
theorem rf_15_1 : rf 15 1 = 17 := by decide +kernel
theorem kd_15 : knd 15 = 3 := by decide +kernel
theorem al_16 : aln 16 = 8 := by decide +kernel
theorem kd_16 : knd 16 = 10 := by decide +kernel
theorem al_17 : aln 17 = 8 := by decide +kernel
theorem kd_17 : knd 17 = 10 := by decide +kernel
theorem rf_18_0 : rf 18 0 = 19 := by decide +kernel
theorem rf_18_1 : rf 18 1 = 20 := by decide +kernel
theorem kd_18 : knd 18 = 3 := by decide +kernel
theorem al_19 : aln 19 = 8 := by decide +kernel
theorem kd_19 : knd 19 = 10 := by decide +kernel
theorem al_20 : aln 20 = 8 := by decide +kernel
theorem kd_20 : knd 20 = 10 := by decide +kernel
theorem rf_21_0 : rf 21 0 = 1 := by decide +kernel
theorem rf_21_1 : rf 21 1 = 22 := by decide +kernel
theorem rf_21_2 : rf 21 2 = 26 := by decide +kernel
theorem rf_21_3 : rf 21 3 = 27 := by decide +kernel
theorem rf_21_5 : rf 21 5 = 28 := by decide +kernel
theorem rf_21_6 : rf 21 6 = 29 := by decide +kernel
theorem kd_21 : knd 21 = 0 := by decide +kernel
theorem rf_22_0 : rf 22 0 = 1 := by decide +kernel
theorem rf_22_1 : rf 22 1 = 23 := by decide +kernel
theorem rf_22_2 : rf 22 2 = 24 := by decide +kernel
theorem rf_22_3 : rf 22 3 = 25 := by decide +kernel
theorem kd_22 : knd 22 = 2 := by decide +kernel
theorem al_23 : aln 23 = 128 := by decide +kernel
theorem kd_23 : knd 23 = 10 := by decide +kernel
theorem al_24 : aln 24 = 128 := by decide +kernel
theorem kd_24 : knd 24 = 10 := by decide +kernel
theorem al_25 : aln 25 = 128 := by decide +kernel
theorem kd_25 : knd 25 = 10 := by decide +kernel
theorem al_26 : aln 26 = 72 := by decide +kernel
theorem kd_26 : knd 26 = 10 := by decide +kernel
theorem al_27 : aln 27 = 72 := by decide +kernel
theorem kd_27 : knd 27 = 10 := by decide +kernel
theorem al_28 : aln 28 = 72 := by decide +kernel
theorem kd_28 : knd 28 = 10 := by decide +kernel
theorem al_29 : aln 29 = 72 := by decide +kernel
theorem kd_29 : knd 29 = 10 := by decide +kernel
theorem rf_30_0 : rf 30 0 = 31 := by decide +kernel
theorem rf_30_1 : rf 30 1 = 38 := by decide +kernel
theorem rf_30_2 : rf 30 2 = 47 := by decide +kernel
theorem kd_30 : knd 30 = 6 := by decide +kernel
theorem rf_31_0 : rf 31 0 = 32 := by decide +kernel
theorem rf_31_1 : rf 31 1 = 33 := by decide +kernel
theorem rf_31_2 : rf 31 2 = 34 := by decide +kernel
theorem rf_31_3 : rf 31 3 = 35 := by decide +kernel
theorem rf_31_4 : rf 31 4 = 36 := by decide +kernel
theorem rf_31_5 : rf 31 5 = 37 := by decide +kernel
theorem kd_31 : knd 31 = 4 := by decide +kernel
theorem al_32 : aln 32 = 16 := by decide +kernel
theorem kd_32 : knd 32 = 10 := by decide +kernel
theorem al_33 : aln 33 = 16 := by decide +kernel
theorem kd_33 : knd 33 = 10 := by decide +kernel
theorem al_34 : aln 34 = 4 := by decide +kernel
theorem kd_34 : knd 34 = 10 := by decide +kernel
theorem al_35 : aln 35 = 4 := by decide +kernel
theorem kd_35 : knd 35 = 10 := by decide +kernel
theorem al_36 : aln 36 = 15 := by decide +kernel
theorem kd_36 : knd 36 = 10 := by decide +kernel
theorem al_37 : aln 37 = 2 := by decide +kernel
theorem kd_37 : knd 37 = 10 := by decide +kernel
theorem rf_38_0 : rf 38 0 = 31 := by decide +kernel
theorem rf_38_1 : rf 38 1 = 39 := by decide +kernel
theorem rf_38_2 : rf 38 2 = 43 := by decide +kernel
theorem rf_38_3 : rf 38 3 = 44 := by decide +kernel
theorem rf_38_5 : rf 38 5 = 45 := by decide +kernel
theorem rf_38_6 : rf 38 6 = 46 := by decide +kernel
theorem kd_38 : knd 38 = 0 := by decide +kernel
theorem rf_39_0 : rf 39 0 = 31 := by decide +kernel
theorem rf_39_1 : rf 39 1 = 40 := by decide +kernel
theorem rf_39_2 : rf 39 2 = 41 := by decide +kernel
theorem rf_39_3 : rf 39 3 = 42 := by decide +kernel
theorem kd_39 : knd 39 = 2 := by decide +kernel
theorem al_40 : aln 40 = 128 := by decide +kernel
theorem kd_40 : knd 40 = 10 := by decide +kernel
theorem al_41 : aln 41 = 128 := by decide +kernel
theorem kd_41 : knd 41 = 10 := by decide +kernel
theorem al_42 : aln 42 = 128 := by decide +kernel
theorem kd_42 : knd 42 = 10 := by decide +kernel
theorem al_43 : aln 43 = 72 := by decide +kernel
theorem kd_43 : knd 43 = 10 := by decide +kernel
theorem al_44 : aln 44 = 72 := by decide +kernel
theorem kd_44 : knd 44 = 10 := by decide +kernel
theorem al_45 : aln 45 = 72 := by decide +kernel
theorem kd_45 : knd 45 = 10 := by decide +kernel
theorem al_46 : aln 46 = 72 := by decide +kernel
theorem kd_46 : knd 46 = 10 := by decide +kernel
theorem al_47 : aln 47 = 288 := by decide +kernel
theorem kd_47 : knd 47 = 10 := by decide +kernel
theorem rf_48_0 : rf 48 0 = 49 := by decide +kernel
theorem rf_48_2 : rf 48 2 = 50 := by decide +kernel
theorem rf_48_3 : rf 48 3 = 51 := by decide +kernel
theorem kd_48 : knd 48 = 5 := by decide +kernel
theorem al_49 : aln 49 = 100 := by decide +kernel
theorem kd_49 : knd 49 = 10 := by decide +kernel
theorem al_50 : aln 50 = 12 := by decide +kernel
theorem kd_50 : knd 50 = 10 := by decide +kernel
theorem al_51 : aln 51 = 72 := by decide +kernel
theorem kd_51 : knd 51 = 10 := by decide +kernel
theorem al_52 : aln 52 = 6 := by decide +kernel
theorem kd_52 : knd 52 = 12 := by decide +kernel
theorem rf_53_0 : rf 53 0 = 54 := by decide +kernel
theorem kd_53 : knd 53 = 7 := by decide +kernel
theorem al_54 : aln 54 = 60 := by decide +kernel
theorem kd_54 : knd 54 = 11 := by decide +kernel
theorem rf_55_0 : rf 55 0 = 56 := by decide +kernel
theorem kd_55 : knd 55 = 7 := by decide +kernel
theorem al_56 : aln 56 = 60 := by decide +kernel
theorem kd_56 : knd 56 = 11 := by decide +kernel
theorem rf_57_0 : rf 57 0 = 58 := by decide +kernel
theorem kd_57 : knd 57 = 7 := by decide +kernel
theorem al_58 : aln 58 = 60 := by decide +kernel
theorem kd_58 : knd 58 = 11 := by decide +kernel
theorem rf_59_0 : rf 59 0 = 60 := by decide +kernel
theorem kd_59 : knd 59 = 7 := by decide +kernel
theorem al_60 : aln 60 = 60 := by decide +kernel
theorem kd_60 : knd 60 = 11 := by decide +kernel
theorem rf_61_0 : rf 61 0 = 62 := by decide +kernel
theorem kd_61 : knd 61 = 7 := by decide +kernel
theorem al_62 : aln 62 = 60 := by decide +kernel
theorem kd_62 : knd 62 = 11 := by decide +kernel
theorem rf_63_0 : rf 63 0 = 64 := by decide +kernel
theorem kd_63 : knd 63 = 7 := by decide +kernel
theorem al_64 : aln 64 = 60 := by decide +kernel
theorem kd_64 : knd 64 = 11 := by decide +kernel
theorem rf_65_0 : rf 65 0 = 66 := by decide +kernel
theorem rf_65_1 : rf 65 1 = 67 := by decide +kernel
theorem rf_65_2 : rf 65 2 = 68 := by decide +kernel
theorem rf_65_3 : rf 65 3 = 69 := by decide +kernel
theorem rf_65_4 : rf 65 4 = 70 := by decide +kernel
theorem rf_65_5 : rf 65 5 = 71 := by decide +kernel
theorem kd_65 : knd 65 = 4 := by decide +kernel
theorem al_66 : aln 66 = 16 := by decide +kernel
theorem kd_66 : knd 66 = 10 := by decide +kernel
theorem al_67 : aln 67 = 16 := by decide +kernel
theorem kd_67 : knd 67 = 10 := by decide +kernel
theorem al_68 : aln 68 = 4 := by decide +kernel
theorem kd_68 : knd 68 = 10 := by decide +kernel
theorem al_69 : aln 69 = 4 := by decide +kernel
theorem kd_69 : knd 69 = 10 := by decide +kernel
theorem al_70 : aln 70 = 15 := by decide +kernel
theorem kd_70 : knd 70 = 10 := by decide +kernel
theorem al_71 : aln 71 = 2 := by decide +kernel
theorem kd_71 : knd 71 = 10 := by decide +kernel
theorem rf_72_0 : rf 72 0 = 73 := by decide +kernel
theorem rf_72_1 : rf 72 1 = 76 := by decide +kernel
theorem rf_72_2 : rf 72 2 = 79 := by decide +kernel
theorem rf_72_3 : rf 72 3 = 82 := by decide +kernel
theorem kd_72 : knd 72 = 1 := by decide +kernel
theorem rf_73_0 : rf 73 0 = 74 := by decide +kernel
theorem rf_73_1 : rf 73 1 = 75 := by decide +kernel
theorem kd_73 : knd 73 = 3 := by decide +kernel
theorem al_74 : aln 74 = 8 := by decide +kernel
theorem kd_74 : knd 74 = 10 := by decide +kernel
theorem al_75 : aln 75 = 8 := by decide +kernel
theorem kd_75 : knd 75 = 10 := by decide +kernel
theorem rf_76_0 : rf 76 0 = 77 := by decide +kernel
theorem rf_76_1 : rf 76 1 = 78 := by decide +kernel
theorem kd_76 : knd 76 = 3 := by decide +kernel
theorem al_77 : aln 77 = 5 := by decide +kernel
theorem kd_77 : knd 77 = 10 := by decide +kernel
theorem al_78 : aln 78 = 5 := by decide +kernel
theorem kd_78 : knd 78 = 10 := by decide +kernel
theorem rf_79_0 : rf 79 0 = 80 := by decide +kernel
theorem rf_79_1 : rf 79 1 = 81 := by decide +kernel
theorem kd_79 : knd 79 = 3 := by decide +kernel
theorem al_80 : aln 80 = 8 := by decide +kernel
theorem kd_80 : knd 80 = 10 := by decide +kernel
theorem al_81 : aln 81 = 8 := by decide +kernel
theorem kd_81 : knd 81 = 10 := by decide +kernel
theorem rf_82_0 : rf 82 0 = 83 := by decide +kernel
theorem rf_82_1 : rf 82 1 = 84 := by decide +kernel
theorem kd_82 : knd 82 = 3 := by decide +kernel
theorem al_83 : aln 83 = 8 := by decide +kernel
theorem kd_83 : knd 83 = 10 := by decide +kernel
theorem al_84 : aln 84 = 8 := by decide +kernel
theorem kd_84 : knd 84 = 10 := by decide +kernel
theorem rf_85_0 : rf 85 0 = 86 := by decide +kernel
theorem rf_85_1 : rf 85 1 = 87 := by decide +kernel
theorem rf_85_2 : rf 85 2 = 88 := by decide +kernel
theorem rf_85_3 : rf 85 3 = 89 := by decide +kernel
theorem rf_85_4 : rf 85 4 = 90 := by decide +kernel
theorem rf_85_5 : rf 85 5 = 91 := by decide +kernel
theorem rf_85_6 : rf 85 6 = 92 := by decide +kernel
theorem rf_85_11 : rf 85 11 = 93 := by decide +kernel
theorem rf_85_13 : rf 85 13 = 94 := by decide +kernel
theorem rf_85_14 : rf 85 14 = 95 := by decide +kernel
theorem rf_85_16 : rf 85 16 = 96 := by decide +kernel
theorem rf_85_17 : rf 85 17 = 97 := by decide +kernel
theorem rf_85_19 : rf 85 19 = 98 := by decide +kernel
theorem rf_85_20 : rf 85 20 = 99 := by decide +kernel
theorem rf_85_21 : rf 85 21 = 100 := by decide +kernel
theorem rf_85_22 : rf 85 22 = 101 := by decide +kernel
theorem rf_85_24 : rf 85 24 = 102 := by decide +kernel
theorem rf_85_27 : rf 85 27 = 103 := by decide +kernel
theorem rf_85_33 : rf 85 33 = 104 := by decide +kernel
theorem rf_85_34 : rf 85 34 = 105 := by decide +kernel
theorem rf_85_36 : rf 85 36 = 106 := by decide +kernel
theorem rf_85_37 : rf 85 37 = 107 := by decide +kernel
theorem rf_85_38 : rf 85 38 = 108 := by decide +kernel
theorem rf_85_39 : rf 85 39 = 109 := by decide +kernel
theorem kd_85 : knd 85 = 9 := by decide +kernel
theorem al_86 : aln 86 = 36 := by decide +kernel
theorem kd_86 : knd 86 = 10 := by decide +kernel
theorem al_87 : aln 87 = 16 := by decide +kernel
theorem kd_87 : knd 87 = 10 := by decide +kernel
theorem al_88 : aln 88 = 16 := by decide +kernel
theorem kd_88 : knd 88 = 10 := by decide +kernel
theorem al_89 : aln 89 = 20 := by decide +kernel
theorem kd_89 : knd 89 = 10 := by decide +kernel
theorem al_90 : aln 90 = 4 := by decide +kernel
theorem kd_90 : knd 90 = 10 := by decide +kernel
theorem al_91 : aln 91 = 4 := by decide +kernel
theorem kd_91 : knd 91 = 10 := by decide +kernel
theorem al_92 : aln 92 = 2 := by decide +kernel
theorem kd_92 : knd 92 = 10 := by decide +kernel
theorem al_93 : aln 93 = 8 := by decide +kernel
theorem kd_93 : knd 93 = 10 := by decide +kernel
theorem al_94 : aln 94 = 5 := by decide +kernel
theorem kd_94 : knd 94 = 10 := by decide +kernel
theorem al_95 : aln 95 = 5 := by decide +kernel
theorem kd_95 : knd 95 = 10 := by decide +kernel
theorem al_96 : aln 96 = 8 := by decide +kernel
theorem kd_96 : knd 96 = 10 := by decide +kernel
theorem al_97 : aln 97 = 8 := by decide +kernel
theorem kd_97 : knd 97 = 10 := by decide +kernel
theorem al_98 : aln 98 = 8 := by decide +kernel
theorem kd_98 : knd 98 = 10 := by decide +kernel
theorem al_99 : aln 99 = 8 := by decide +kernel
theorem kd_99 : knd 99 = 10 := by decide +kernel
theorem al_100 : aln 100 = 170 := by decide +kernel
theorem kd_100 : knd 100 = 10 := by decide +kernel
theorem al_101 : aln 101 = 170 := by decide +kernel
theorem kd_101 : knd 101 = 10 := by decide +kernel
theorem al_102 : aln 102 = 100 := by decide +kernel
theorem kd_102 : knd 102 = 10 := by decide +kernel
theorem al_103 : aln 103 = 5 := by decide +kernel
theorem kd_103 : knd 103 = 10 := by decide +kernel
theorem al_104 : aln 104 = 72 := by decide +kernel
theorem kd_104 : knd 104 = 10 := by decide +kernel
theorem al_105 : aln 105 = 72 := by decide +kernel
theorem kd_105 : knd 105 = 10 := by decide +kernel
theorem al_106 : aln 106 = 6 := by decide +kernel
theorem kd_106 : knd 106 = 10 := by decide +kernel
theorem al_107 : aln 107 = 6 := by decide +kernel
theorem kd_107 : knd 107 = 10 := by decide +kernel
theorem al_108 : aln 108 = 360 := by decide +kernel
theorem kd_108 : knd 108 = 11 := by decide +kernel
theorem al_109 : aln 109 = 60 := by decide +kernel
theorem kd_109 : knd 109 = 11 := by decide +kernel
