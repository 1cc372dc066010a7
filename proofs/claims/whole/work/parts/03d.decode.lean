theorem dX7_bestDay_22 : decode cX7_bestDay 22 = .ok (.istore_n 3, 1) := by decide +kernel
theorem dX7_bestDay_23 : decode cX7_bestDay 23 = .ok (.iconst 1, 1) := by decide +kernel
theorem dX7_bestDay_24 : decode cX7_bestDay 24 = .ok (.istore 4, 2) := by decide +kernel
theorem dX7_bestDay_26 : decode cX7_bestDay 26 = .ok (.iload 4, 2) := by decide +kernel
theorem dX7_bestDay_28 : decode cX7_bestDay 28 = .ok (.bipush 7, 2) := by decide +kernel
theorem dX7_bestDay_30 : decode cX7_bestDay 30 = .ok (.if_icmp .ge 55, 3) := by decide +kernel
theorem dX7_bestDay_33 : decode cX7_bestDay 33 = .ok (.aload_n 0, 1) := by decide +kernel
theorem dX7_bestDay_34 : decode cX7_bestDay 34 = .ok (.invokevirtual 86, 3) := by decide +kernel
theorem dX7_bestDay_37 : decode cX7_bestDay 37 = .ok (.iload 4, 2) := by decide +kernel
theorem dX7_bestDay_39 : decode cX7_bestDay 39 = .ok (.iadd, 1) := by decide +kernel
theorem dX7_bestDay_40 : decode cX7_bestDay 40 = .ok (.bipush 7, 2) := by decide +kernel
theorem dX7_bestDay_42 : decode cX7_bestDay 42 = .ok (.irem, 1) := by decide +kernel
theorem dX7_bestDay_43 : decode cX7_bestDay 43 = .ok (.istore 5, 2) := by decide +kernel
theorem dX7_bestDay_45 : decode cX7_bestDay 45 = .ok (.aload_n 0, 1) := by decide +kernel
theorem dX7_bestDay_46 : decode cX7_bestDay 46 = .ok (.iload 5, 2) := by decide +kernel
theorem dX7_bestDay_48 : decode cX7_bestDay 48 = .ok (.invokevirtual 185, 3) := by decide +kernel
theorem dX7_bestDay_51 : decode cX7_bestDay 51 = .ok (.istore 6, 2) := by decide +kernel
theorem dX7_bestDay_53 : decode cX7_bestDay 53 = .ok (.iload 6, 2) := by decide +kernel
theorem dX7_bestDay_55 : decode cX7_bestDay 55 = .ok (.iload_n 3, 1) := by decide +kernel
theorem dX7_bestDay_56 : decode cX7_bestDay 56 = .ok (.if_icmp .ge 8, 3) := by decide +kernel
theorem dX7_bestDay_59 : decode cX7_bestDay 59 = .ok (.iload 5, 2) := by decide +kernel
theorem dX7_bestDay_61 : decode cX7_bestDay 61 = .ok (.goto 4, 3) := by decide +kernel
theorem dX7_bestDay_64 : decode cX7_bestDay 64 = .ok (.iload_n 2, 1) := by decide +kernel
theorem dX7_bestDay_65 : decode cX7_bestDay 65 = .ok (.istore_n 2, 1) := by decide +kernel
theorem dX7_bestDay_66 : decode cX7_bestDay 66 = .ok (.iload 6, 2) := by decide +kernel
theorem dX7_bestDay_68 : decode cX7_bestDay 68 = .ok (.iload_n 3, 1) := by decide +kernel
theorem dX7_bestDay_69 : decode cX7_bestDay 69 = .ok (.if_icmp .ge 8, 3) := by decide +kernel
theorem dX7_bestDay_72 : decode cX7_bestDay 72 = .ok (.iload 6, 2) := by decide +kernel
theorem dX7_bestDay_74 : decode cX7_bestDay 74 = .ok (.goto 4, 3) := by decide +kernel
theorem dX7_bestDay_77 : decode cX7_bestDay 77 = .ok (.iload_n 3, 1) := by decide +kernel
theorem dX7_bestDay_78 : decode cX7_bestDay 78 = .ok (.istore_n 3, 1) := by decide +kernel
theorem dX7_bestDay_79 : decode cX7_bestDay 79 = .ok (.iinc 4 1, 3) := by decide +kernel
theorem dX7_bestDay_82 : decode cX7_bestDay 82 = .ok (.goto (-56), 3) := by decide +kernel
theorem dX7_bestDay_85 : decode cX7_bestDay 85 = .ok (.iload_n 1, 1) := by decide +kernel
theorem dX7_bestDay_86 : decode cX7_bestDay 86 = .ok (.ifCond .ne 7, 3) := by decide +kernel
theorem dX7_bestDay_89 : decode cX7_bestDay 89 = .ok (.iload_n 2, 1) := by decide +kernel
theorem dX7_bestDay_90 : decode cX7_bestDay 90 = .ok (.goto 4, 3) := by decide +kernel
theorem dX7_bestDay_93 : decode cX7_bestDay 93 = .ok (.iload_n 3, 1) := by decide +kernel
theorem dX7_bestDay_94 : decode cX7_bestDay 94 = .ok (.ireturn, 1) := by decide +kernel
theorem dX7_inDrawer_0 : decode cX7_inDrawer 0 = .ok (.iconst 0, 1) := by decide +kernel
theorem dX7_inDrawer_1 : decode cX7_inDrawer 1 = .ok (.istore_n 2, 1) := by decide +kernel
theorem dX7_inDrawer_2 : decode cX7_inDrawer 2 = .ok (.iconst 0, 1) := by decide +kernel
theorem dX7_inDrawer_3 : decode cX7_inDrawer 3 = .ok (.istore_n 3, 1) := by decide +kernel
theorem dX7_inDrawer_4 : decode cX7_inDrawer 4 = .ok (.iload_n 3, 1) := by decide +kernel
theorem dX7_inDrawer_5 : decode cX7_inDrawer 5 = .ok (.aload_n 0, 1) := by decide +kernel
theorem dX7_inDrawer_6 : decode cX7_inDrawer 6 = .ok (.getfield 7, 3) := by decide +kernel
theorem dX7_inDrawer_9 : decode cX7_inDrawer 9 = .ok (.iconst 2, 1) := by decide +kernel
theorem dX7_inDrawer_10 : decode cX7_inDrawer 10 = .ok (.iaload, 1) := by decide +kernel
theorem dX7_inDrawer_11 : decode cX7_inDrawer 11 = .ok (.if_icmp .ge 30, 3) := by decide +kernel
theorem dX7_inDrawer_14 : decode cX7_inDrawer 14 = .ok (.iload_n 2, 1) := by decide +kernel
theorem dX7_inDrawer_15 : decode cX7_inDrawer 15 = .ok (.aload_n 0, 1) := by decide +kernel
theorem dX7_inDrawer_16 : decode cX7_inDrawer 16 = .ok (.getfield 7, 3) := by decide +kernel
theorem dX7_inDrawer_19 : decode cX7_inDrawer 19 = .ok (.bipush 62, 2) := by decide +kernel
theorem dX7_inDrawer_21 : decode cX7_inDrawer 21 = .ok (.iload_n 3, 1) := by decide +kernel
theorem dX7_inDrawer_22 : decode cX7_inDrawer 22 = .ok (.iadd, 1) := by decide +kernel
theorem dX7_inDrawer_23 : decode cX7_inDrawer 23 = .ok (.iaload, 1) := by decide +kernel
theorem dX7_inDrawer_24 : decode cX7_inDrawer 24 = .ok (.iload_n 1, 1) := by decide +kernel
theorem dX7_inDrawer_25 : decode cX7_inDrawer 25 = .ok (.if_icmp .ne 7, 3) := by decide +kernel
theorem dX7_inDrawer_28 : decode cX7_inDrawer 28 = .ok (.iconst 1, 1) := by decide +kernel
theorem dX7_inDrawer_29 : decode cX7_inDrawer 29 = .ok (.goto 4, 3) := by decide +kernel
theorem dX7_inDrawer_32 : decode cX7_inDrawer 32 = .ok (.iconst 0, 1) := by decide +kernel
theorem dX7_inDrawer_33 : decode cX7_inDrawer 33 = .ok (.iadd, 1) := by decide +kernel
theorem dX7_inDrawer_34 : decode cX7_inDrawer 34 = .ok (.istore_n 2, 1) := by decide +kernel
theorem dX7_inDrawer_35 : decode cX7_inDrawer 35 = .ok (.iinc 3 1, 3) := by decide +kernel
theorem dX7_inDrawer_38 : decode cX7_inDrawer 38 = .ok (.goto (-34), 3) := by decide +kernel
theorem dX7_inDrawer_41 : decode cX7_inDrawer 41 = .ok (.iload_n 2, 1) := by decide +kernel
theorem dX7_inDrawer_42 : decode cX7_inDrawer 42 = .ok (.ireturn, 1) := by decide +kernel
theorem dX7_file_0 : decode cX7_file 0 = .ok (.aload_n 0, 1) := by decide +kernel
theorem dX7_file_1 : decode cX7_file 1 = .ok (.iload_n 1, 1) := by decide +kernel
theorem dX7_file_2 : decode cX7_file 2 = .ok (.invokevirtual 100, 3) := by decide +kernel
theorem dX7_file_5 : decode cX7_file 5 = .ok (.ifCond .eq 12, 3) := by decide +kernel
theorem dX7_file_8 : decode cX7_file 8 = .ok (.iload_n 2, 1) := by decide +kernel
theorem dX7_file_9 : decode cX7_file 9 = .ok (.iconst 0, 1) := by decide +kernel
theorem dX7_file_10 : decode cX7_file 10 = .ok (.iconst 4, 1) := by decide +kernel
theorem dX7_file_11 : decode cX7_file 11 = .ok (.invokestatic 45, 3) := by decide +kernel
theorem dX7_file_14 : decode cX7_file 14 = .ok (.ifCond .ne 6, 3) := by decide +kernel
theorem dX7_file_17 : decode cX7_file 17 = .ok (.ldc 53, 2) := by decide +kernel
theorem dX7_file_19 : decode cX7_file 19 = .ok (.ireturn, 1) := by decide +kernel
theorem dX7_file_20 : decode cX7_file 20 = .ok (.aload_n 0, 1) := by decide +kernel
theorem dX7_file_21 : decode cX7_file 21 = .ok (.getfield 7, 3) := by decide +kernel
theorem dX7_file_24 : decode cX7_file 24 = .ok (.bipush 62, 2) := by decide +kernel
theorem dX7_file_26 : decode cX7_file 26 = .ok (.iload_n 1, 1) := by decide +kernel
theorem dX7_file_27 : decode cX7_file 27 = .ok (.iadd, 1) := by decide +kernel
theorem dX7_file_28 : decode cX7_file 28 = .ok (.iaload, 1) := by decide +kernel
theorem dX7_file_29 : decode cX7_file 29 = .ok (.iconst (-1), 1) := by decide +kernel
theorem dX7_file_30 : decode cX7_file 30 = .ok (.if_icmp .ne 16, 3) := by decide +kernel
theorem dX7_file_33 : decode cX7_file 33 = .ok (.aload_n 0, 1) := by decide +kernel
theorem dX7_file_34 : decode cX7_file 34 = .ok (.getfield 7, 3) := by decide +kernel
theorem dX7_file_37 : decode cX7_file 37 = .ok (.bipush 32, 2) := by decide +kernel
theorem dX7_file_39 : decode cX7_file 39 = .ok (.iload_n 1, 1) := by decide +kernel
theorem dX7_file_40 : decode cX7_file 40 = .ok (.iadd, 1) := by decide +kernel
theorem dX7_file_41 : decode cX7_file 41 = .ok (.iaload, 1) := by decide +kernel
theorem dX7_file_42 : decode cX7_file 42 = .ok (.iload_n 2, 1) := by decide +kernel
theorem dX7_file_43 : decode cX7_file 43 = .ok (.if_icmp .eq 6, 3) := by decide +kernel
theorem dX7_file_46 : decode cX7_file 46 = .ok (.ldc 35, 2) := by decide +kernel
theorem dX7_file_48 : decode cX7_file 48 = .ok (.ireturn, 1) := by decide +kernel
theorem dX7_file_49 : decode cX7_file 49 = .ok (.aload_n 0, 1) := by decide +kernel
theorem dX7_file_50 : decode cX7_file 50 = .ok (.iload_n 2, 1) := by decide +kernel
theorem dX7_file_51 : decode cX7_file 51 = .ok (.invokevirtual 188, 3) := by decide +kernel
theorem dX7_file_54 : decode cX7_file 54 = .ok (.iconst 3, 1) := by decide +kernel
theorem dX7_file_55 : decode cX7_file 55 = .ok (.if_icmp .ne 6, 3) := by decide +kernel
theorem dX7_file_58 : decode cX7_file 58 = .ok (.ldc 57, 2) := by decide +kernel
theorem dX7_file_60 : decode cX7_file 60 = .ok (.ireturn, 1) := by decide +kernel
theorem dX7_file_61 : decode cX7_file 61 = .ok (.aload_n 0, 1) := by decide +kernel
theorem dX7_file_62 : decode cX7_file 62 = .ok (.invokevirtual 61, 3) := by decide +kernel
theorem dX7_file_65 : decode cX7_file 65 = .ok (.aload_n 0, 1) := by decide +kernel
theorem dX7_file_66 : decode cX7_file 66 = .ok (.getfield 7, 3) := by decide +kernel
theorem dX7_file_69 : decode cX7_file 69 = .ok (.bipush 62, 2) := by decide +kernel
theorem dX7_file_71 : decode cX7_file 71 = .ok (.iload_n 1, 1) := by decide +kernel
theorem dX7_file_72 : decode cX7_file 72 = .ok (.iadd, 1) := by decide +kernel
theorem dX7_file_73 : decode cX7_file 73 = .ok (.iload_n 2, 1) := by decide +kernel
theorem dX7_file_74 : decode cX7_file 74 = .ok (.iastore, 1) := by decide +kernel
theorem dX7_file_75 : decode cX7_file 75 = .ok (.aload_n 0, 1) := by decide +kernel
theorem dX7_file_76 : decode cX7_file 76 = .ok (.iload_n 2, 1) := by decide +kernel
theorem dX7_file_77 : decode cX7_file 77 = .ok (.invokevirtual 188, 3) := by decide +kernel
theorem dX7_file_80 : decode cX7_file 80 = .ok (.ireturn, 1) := by decide +kernel
theorem dX7_count_0 : decode cX7_count 0 = .ok (.iload_n 1, 1) := by decide +kernel
theorem dX7_count_1 : decode cX7_count 1 = .ok (.tableswitch 138 0 10 #[59, 66, 73, 80, 87, 92, 99, 107, 120, 128, 133], 59) := by decide +kernel
theorem dX7_count_60 : decode cX7_count 60 = .ok (.aload_n 0, 1) := by decide +kernel
theorem dX7_count_61 : decode cX7_count 61 = .ok (.getfield 7, 3) := by decide +kernel
theorem dX7_count_64 : decode cX7_count 64 = .ok (.iconst 0, 1) := by decide +kernel
theorem dX7_count_65 : decode cX7_count 65 = .ok (.iaload, 1) := by decide +kernel
theorem dX7_count_66 : decode cX7_count 66 = .ok (.ireturn, 1) := by decide +kernel
theorem dX7_count_67 : decode cX7_count 67 = .ok (.aload_n 0, 1) := by decide +kernel
theorem dX7_count_68 : decode cX7_count 68 = .ok (.getfield 7, 3) := by decide +kernel
theorem dX7_count_71 : decode cX7_count 71 = .ok (.iconst 1, 1) := by decide +kernel
theorem dX7_count_72 : decode cX7_count 72 = .ok (.iaload, 1) := by decide +kernel
theorem dX7_count_73 : decode cX7_count 73 = .ok (.ireturn, 1) := by decide +kernel
theorem dX7_count_74 : decode cX7_count 74 = .ok (.aload_n 0, 1) := by decide +kernel
theorem dX7_count_75 : decode cX7_count 75 = .ok (.getfield 7, 3) := by decide +kernel
theorem dX7_count_78 : decode cX7_count 78 = .ok (.iconst 2, 1) := by decide +kernel
theorem dX7_count_79 : decode cX7_count 79 = .ok (.iaload, 1) := by decide +kernel
theorem dX7_count_80 : decode cX7_count 80 = .ok (.ireturn, 1) := by decide +kernel
theorem dX7_count_81 : decode cX7_count 81 = .ok (.aload_n 0, 1) := by decide +kernel
theorem dX7_count_82 : decode cX7_count 82 = .ok (.getfield 7, 3) := by decide +kernel
theorem dX7_count_85 : decode cX7_count 85 = .ok (.iconst 3, 1) := by decide +kernel
theorem dX7_count_86 : decode cX7_count 86 = .ok (.iaload, 1) := by decide +kernel
theorem dX7_count_87 : decode cX7_count 87 = .ok (.ireturn, 1) := by decide +kernel
theorem dX7_count_88 : decode cX7_count 88 = .ok (.aload_n 0, 1) := by decide +kernel
theorem dX7_count_89 : decode cX7_count 89 = .ok (.invokevirtual 86, 3) := by decide +kernel
theorem dX7_count_92 : decode cX7_count 92 = .ok (.ireturn, 1) := by decide +kernel
theorem dX7_count_93 : decode cX7_count 93 = .ok (.aload_n 0, 1) := by decide +kernel
theorem dX7_count_94 : decode cX7_count 94 = .ok (.getfield 7, 3) := by decide +kernel
theorem dX7_count_97 : decode cX7_count 97 = .ok (.iconst 4, 1) := by decide +kernel
theorem dX7_count_98 : decode cX7_count 98 = .ok (.iaload, 1) := by decide +kernel
theorem dX7_count_99 : decode cX7_count 99 = .ok (.ireturn, 1) := by decide +kernel
theorem dX7_count_100 : decode cX7_count 100 = .ok (.aload_n 0, 1) := by decide +kernel
theorem dX7_count_101 : decode cX7_count 101 = .ok (.invokevirtual 97, 3) := by decide +kernel
theorem dX7_count_104 : decode cX7_count 104 = .ok (.invokestatic 49, 3) := by decide +kernel
theorem dX7_count_107 : decode cX7_count 107 = .ok (.ireturn, 1) := by decide +kernel
theorem dX7_count_108 : decode cX7_count 108 = .ok (.aload_n 0, 1) := by decide +kernel
theorem dX7_count_109 : decode cX7_count 109 = .ok (.iconst (-1), 1) := by decide +kernel
theorem dX7_count_110 : decode cX7_count 110 = .ok (.aload_n 0, 1) := by decide +kernel
theorem dX7_count_111 : decode cX7_count 111 = .ok (.invokevirtual 97, 3) := by decide +kernel
theorem dX7_count_114 : decode cX7_count 114 = .ok (.invokevirtual 128, 3) := by decide +kernel
theorem dX7_count_117 : decode cX7_count 117 = .ok (.invokestatic 49, 3) := by decide +kernel
theorem dX7_count_120 : decode cX7_count 120 = .ok (.ireturn, 1) := by decide +kernel
theorem dX7_count_121 : decode cX7_count 121 = .ok (.aload_n 0, 1) := by decide +kernel
theorem dX7_count_122 : decode cX7_count 122 = .ok (.getfield 7, 3) := by decide +kernel
theorem dX7_count_125 : decode cX7_count 125 = .ok (.bipush 8, 2) := by decide +kernel
theorem dX7_count_127 : decode cX7_count 127 = .ok (.iaload, 1) := by decide +kernel
theorem dX7_count_128 : decode cX7_count 128 = .ok (.ireturn, 1) := by decide +kernel
theorem dX7_count_129 : decode cX7_count 129 = .ok (.aload_n 0, 1) := by decide +kernel
theorem dX7_count_130 : decode cX7_count 130 = .ok (.getfield 31, 3) := by decide +kernel
theorem dX7_count_133 : decode cX7_count 133 = .ok (.ireturn, 1) := by decide +kernel
theorem dX7_count_134 : decode cX7_count 134 = .ok (.aload_n 0, 1) := by decide +kernel
theorem dX7_count_135 : decode cX7_count 135 = .ok (.getfield 191, 3) := by decide +kernel
theorem dX7_count_138 : decode cX7_count 138 = .ok (.ireturn, 1) := by decide +kernel
theorem dX7_count_139 : decode cX7_count 139 = .ok (.iload_n 1, 1) := by decide +kernel
theorem dX7_count_140 : decode cX7_count 140 = .ok (.bipush 11, 2) := by decide +kernel
theorem dX7_count_142 : decode cX7_count 142 = .ok (.bipush 15, 2) := by decide +kernel
theorem dX7_count_144 : decode cX7_count 144 = .ok (.invokestatic 45, 3) := by decide +kernel
theorem dX7_count_147 : decode cX7_count 147 = .ok (.ifCond .eq 14, 3) := by decide +kernel
theorem dX7_count_150 : decode cX7_count 150 = .ok (.aload_n 0, 1) := by decide +kernel
theorem dX7_count_151 : decode cX7_count 151 = .ok (.iload_n 1, 1) := by decide +kernel
theorem dX7_count_152 : decode cX7_count 152 = .ok (.bipush 11, 2) := by decide +kernel
theorem dX7_count_154 : decode cX7_count 154 = .ok (.isub, 1) := by decide +kernel
theorem dX7_count_155 : decode cX7_count 155 = .ok (.invokevirtual 188, 3) := by decide +kernel
theorem dX7_count_158 : decode cX7_count 158 = .ok (.goto 5, 3) := by decide +kernel
theorem dX7_count_161 : decode cX7_count 161 = .ok (.ldc 53, 2) := by decide +kernel
theorem dX7_count_163 : decode cX7_count 163 = .ok (.ireturn, 1) := by decide +kernel
theorem dX7_type_0 : decode cX7_type 0 = .ok (.iload_n 1, 1) := by decide +kernel
theorem dX7_type_1 : decode cX7_type 1 = .ok (.bipush 32, 2) := by decide +kernel
theorem dX7_type_3 : decode cX7_type 3 = .ok (.bipush 126, 2) := by decide +kernel
theorem dX7_type_5 : decode cX7_type 5 = .ok (.invokestatic 45, 3) := by decide +kernel
theorem dX7_type_8 : decode cX7_type 8 = .ok (.ifCond .ne 6, 3) := by decide +kernel
theorem dX7_type_11 : decode cX7_type 11 = .ok (.ldc 53, 2) := by decide +kernel
theorem dX7_type_13 : decode cX7_type 13 = .ok (.ireturn, 1) := by decide +kernel
theorem dX7_type_14 : decode cX7_type 14 = .ok (.aload_n 0, 1) := by decide +kernel
theorem dX7_type_15 : decode cX7_type 15 = .ok (.getfield 191, 3) := by decide +kernel
theorem dX7_type_18 : decode cX7_type 18 = .ok (.bipush 100, 2) := by decide +kernel
theorem dX7_type_20 : decode cX7_type 20 = .ok (.if_icmp .ne 6, 3) := by decide +kernel
theorem dX7_type_23 : decode cX7_type 23 = .ok (.ldc 57, 2) := by decide +kernel
theorem dX7_type_25 : decode cX7_type 25 = .ok (.ireturn, 1) := by decide +kernel
theorem dX7_type_26 : decode cX7_type 26 = .ok (.aload_n 0, 1) := by decide +kernel
theorem dX7_type_27 : decode cX7_type 27 = .ok (.getfield 25, 3) := by decide +kernel
theorem dX7_type_30 : decode cX7_type 30 = .ok (.aload_n 0, 1) := by decide +kernel
theorem dX7_type_31 : decode cX7_type 31 = .ok (.getfield 191, 3) := by decide +kernel
theorem dX7_type_34 : decode cX7_type 34 = .ok (.iload_n 1, 1) := by decide +kernel
theorem dX7_type_35 : decode cX7_type 35 = .ok (.iastore, 1) := by decide +kernel
theorem dX7_type_36 : decode cX7_type 36 = .ok (.aload_n 0, 1) := by decide +kernel
theorem dX7_type_37 : decode cX7_type 37 = .ok (.dup, 1) := by decide +kernel
theorem dX7_type_38 : decode cX7_type 38 = .ok (.getfield 191, 3) := by decide +kernel
theorem dX7_type_41 : decode cX7_type 41 = .ok (.iconst 1, 1) := by decide +kernel
theorem dX7_type_42 : decode cX7_type 42 = .ok (.iadd, 1) := by decide +kernel
theorem dX7_type_43 : decode cX7_type 43 = .ok (.putfield 191, 3) := by decide +kernel
theorem dX7_type_46 : decode cX7_type 46 = .ok (.aload_n 0, 1) := by decide +kernel
theorem dX7_type_47 : decode cX7_type 47 = .ok (.getfield 191, 3) := by decide +kernel
theorem dX7_type_50 : decode cX7_type 50 = .ok (.ireturn, 1) := by decide +kernel
theorem dX7_clearText_0 : decode cX7_clearText 0 = .ok (.aload_n 0, 1) := by decide +kernel
theorem dX7_clearText_1 : decode cX7_clearText 1 = .ok (.getfield 191, 3) := by decide +kernel
theorem dX7_clearText_4 : decode cX7_clearText 4 = .ok (.istore_n 1, 1) := by decide +kernel
theorem dX7_clearText_5 : decode cX7_clearText 5 = .ok (.aload_n 0, 1) := by decide +kernel
theorem dX7_clearText_6 : decode cX7_clearText 6 = .ok (.iconst 0, 1) := by decide +kernel
theorem dX7_clearText_7 : decode cX7_clearText 7 = .ok (.putfield 191, 3) := by decide +kernel
theorem dX7_clearText_10 : decode cX7_clearText 10 = .ok (.iload_n 1, 1) := by decide +kernel
theorem dX7_clearText_11 : decode cX7_clearText 11 = .ok (.ireturn, 1) := by decide +kernel
theorem dX7_isHere_0 : decode cX7_isHere 0 = .ok (.aload_n 0, 1) := by decide +kernel
theorem dX7_isHere_1 : decode cX7_isHere 1 = .ok (.getfield 194, 3) := by decide +kernel
theorem dX7_isHere_4 : decode cX7_isHere 4 = .ok (.aload_n 0, 1) := by decide +kernel
theorem dX7_isHere_5 : decode cX7_isHere 5 = .ok (.getfield 191, 3) := by decide +kernel
theorem dX7_isHere_8 : decode cX7_isHere 8 = .ok (.if_icmp .ge 24, 3) := by decide +kernel
theorem dX7_isHere_11 : decode cX7_isHere 11 = .ok (.aload_n 0, 1) := by decide +kernel
theorem dX7_isHere_12 : decode cX7_isHere 12 = .ok (.getfield 25, 3) := by decide +kernel
theorem dX7_isHere_15 : decode cX7_isHere 15 = .ok (.aload_n 0, 1) := by decide +kernel
theorem dX7_isHere_16 : decode cX7_isHere 16 = .ok (.getfield 194, 3) := by decide +kernel
theorem dX7_isHere_19 : decode cX7_isHere 19 = .ok (.iaload, 1) := by decide +kernel
theorem dX7_isHere_20 : decode cX7_isHere 20 = .ok (.iload_n 1, 1) := by decide +kernel
theorem dX7_isHere_21 : decode cX7_isHere 21 = .ok (.iload_n 2, 1) := by decide +kernel
theorem dX7_isHere_22 : decode cX7_isHere 22 = .ok (.invokestatic 45, 3) := by decide +kernel
theorem dX7_isHere_25 : decode cX7_isHere 25 = .ok (.ifCond .eq 7, 3) := by decide +kernel
theorem dX7_isHere_28 : decode cX7_isHere 28 = .ok (.iconst 1, 1) := by decide +kernel
theorem dX7_isHere_29 : decode cX7_isHere 29 = .ok (.goto 4, 3) := by decide +kernel
theorem dX7_isHere_32 : decode cX7_isHere 32 = .ok (.iconst 0, 1) := by decide +kernel
theorem dX7_isHere_33 : decode cX7_isHere 33 = .ok (.ireturn, 1) := by decide +kernel
theorem dX7_passesSpaces_0 : decode cX7_passesSpaces 0 = .ok (.aload_n 0, 1) := by decide +kernel
theorem dX7_passesSpaces_1 : decode cX7_passesSpaces 1 = .ok (.bipush 32, 2) := by decide +kernel
theorem dX7_passesSpaces_3 : decode cX7_passesSpaces 3 = .ok (.bipush 32, 2) := by decide +kernel
theorem dX7_passesSpaces_5 : decode cX7_passesSpaces 5 = .ok (.invokevirtual 197, 3) := by decide +kernel
theorem dX7_passesSpaces_8 : decode cX7_passesSpaces 8 = .ok (.ifCond .eq 16, 3) := by decide +kernel
theorem dX7_passesSpaces_11 : decode cX7_passesSpaces 11 = .ok (.aload_n 0, 1) := by decide +kernel
theorem dX7_passesSpaces_12 : decode cX7_passesSpaces 12 = .ok (.dup, 1) := by decide +kernel
theorem dX7_passesSpaces_13 : decode cX7_passesSpaces 13 = .ok (.getfield 194, 3) := by decide +kernel
theorem dX7_passesSpaces_16 : decode cX7_passesSpaces 16 = .ok (.iconst 1, 1) := by decide +kernel
theorem dX7_passesSpaces_17 : decode cX7_passesSpaces 17 = .ok (.iadd, 1) := by decide +kernel
theorem dX7_passesSpaces_18 : decode cX7_passesSpaces 18 = .ok (.putfield 194, 3) := by decide +kernel
theorem dX7_passesSpaces_21 : decode cX7_passesSpaces 21 = .ok (.goto (-21), 3) := by decide +kernel
theorem dX7_passesSpaces_24 : decode cX7_passesSpaces 24 = .ok (.return_, 1) := by decide +kernel
theorem dX7_isEnded_0 : decode cX7_isEnded 0 = .ok (.aload_n 0, 1) := by decide +kernel
theorem dX7_isEnded_1 : decode cX7_isEnded 1 = .ok (.bipush 32, 2) := by decide +kernel
theorem dX7_isEnded_3 : decode cX7_isEnded 3 = .ok (.bipush 32, 2) := by decide +kernel
theorem dX7_isEnded_5 : decode cX7_isEnded 5 = .ok (.invokevirtual 197, 3) := by decide +kernel
theorem dX7_isEnded_8 : decode cX7_isEnded 8 = .ok (.ifCond .ne 14, 3) := by decide +kernel
theorem dX7_isEnded_11 : decode cX7_isEnded 11 = .ok (.aload_n 0, 1) := by decide +kernel
theorem dX7_isEnded_12 : decode cX7_isEnded 12 = .ok (.bipush 59, 2) := by decide +kernel
theorem dX7_isEnded_14 : decode cX7_isEnded 14 = .ok (.bipush 59, 2) := by decide +kernel
theorem dX7_isEnded_16 : decode cX7_isEnded 16 = .ok (.invokevirtual 197, 3) := by decide +kernel
theorem dX7_isEnded_19 : decode cX7_isEnded 19 = .ok (.ifCond .eq 7, 3) := by decide +kernel
theorem dX7_isEnded_22 : decode cX7_isEnded 22 = .ok (.iconst 1, 1) := by decide +kernel
theorem dX7_isEnded_23 : decode cX7_isEnded 23 = .ok (.goto 4, 3) := by decide +kernel
theorem dX7_isEnded_26 : decode cX7_isEnded 26 = .ok (.iconst 0, 1) := by decide +kernel
theorem dX7_isEnded_27 : decode cX7_isEnded 27 = .ok (.ireturn, 1) := by decide +kernel
theorem dX7_readsWord_0 : decode cX7_readsWord 0 = .ok (.iconst 0, 1) := by decide +kernel
theorem dX7_readsWord_1 : decode cX7_readsWord 1 = .ok (.istore_n 1, 1) := by decide +kernel
theorem dX7_readsWord_2 : decode cX7_readsWord 2 = .ok (.iconst 0, 1) := by decide +kernel
theorem dX7_readsWord_3 : decode cX7_readsWord 3 = .ok (.istore_n 2, 1) := by decide +kernel
theorem dX7_readsWord_4 : decode cX7_readsWord 4 = .ok (.aload_n 0, 1) := by decide +kernel
theorem dX7_readsWord_5 : decode cX7_readsWord 5 = .ok (.bipush 97, 2) := by decide +kernel
theorem dX7_readsWord_7 : decode cX7_readsWord 7 = .ok (.bipush 122, 2) := by decide +kernel
theorem dX7_readsWord_9 : decode cX7_readsWord 9 = .ok (.invokevirtual 197, 3) := by decide +kernel
theorem dX7_readsWord_12 : decode cX7_readsWord 12 = .ok (.ifCond .eq 48, 3) := by decide +kernel
theorem dX7_readsWord_15 : decode cX7_readsWord 15 = .ok (.iload_n 2, 1) := by decide +kernel
theorem dX7_readsWord_16 : decode cX7_readsWord 16 = .ok (.iconst 5, 1) := by decide +kernel
theorem dX7_readsWord_17 : decode cX7_readsWord 17 = .ok (.if_icmp .ge 25, 3) := by decide +kernel
theorem dX7_readsWord_20 : decode cX7_readsWord 20 = .ok (.bipush 27, 2) := by decide +kernel
theorem dX7_readsWord_22 : decode cX7_readsWord 22 = .ok (.iload_n 1, 1) := by decide +kernel
theorem dX7_readsWord_23 : decode cX7_readsWord 23 = .ok (.imul, 1) := by decide +kernel
theorem dX7_readsWord_24 : decode cX7_readsWord 24 = .ok (.aload_n 0, 1) := by decide +kernel
theorem dX7_readsWord_25 : decode cX7_readsWord 25 = .ok (.getfield 25, 3) := by decide +kernel
theorem dX7_readsWord_28 : decode cX7_readsWord 28 = .ok (.aload_n 0, 1) := by decide +kernel
theorem dX7_readsWord_29 : decode cX7_readsWord 29 = .ok (.getfield 194, 3) := by decide +kernel
theorem dX7_readsWord_32 : decode cX7_readsWord 32 = .ok (.iaload, 1) := by decide +kernel
theorem dX7_readsWord_33 : decode cX7_readsWord 33 = .ok (.iadd, 1) := by decide +kernel
theorem dX7_readsWord_34 : decode cX7_readsWord 34 = .ok (.bipush 97, 2) := by decide +kernel
theorem dX7_readsWord_36 : decode cX7_readsWord 36 = .ok (.isub, 1) := by decide +kernel
theorem dX7_readsWord_37 : decode cX7_readsWord 37 = .ok (.iconst 1, 1) := by decide +kernel
theorem dX7_readsWord_38 : decode cX7_readsWord 38 = .ok (.iadd, 1) := by decide +kernel
theorem dX7_readsWord_39 : decode cX7_readsWord 39 = .ok (.goto 4, 3) := by decide +kernel
theorem dX7_readsWord_42 : decode cX7_readsWord 42 = .ok (.iconst 0, 1) := by decide +kernel
theorem dX7_readsWord_43 : decode cX7_readsWord 43 = .ok (.istore_n 1, 1) := by decide +kernel
theorem dX7_readsWord_44 : decode cX7_readsWord 44 = .ok (.iinc 2 1, 3) := by decide +kernel
theorem dX7_readsWord_47 : decode cX7_readsWord 47 = .ok (.aload_n 0, 1) := by decide +kernel
theorem dX7_readsWord_48 : decode cX7_readsWord 48 = .ok (.dup, 1) := by decide +kernel
theorem dX7_readsWord_49 : decode cX7_readsWord 49 = .ok (.getfield 194, 3) := by decide +kernel
theorem dX7_readsWord_52 : decode cX7_readsWord 52 = .ok (.iconst 1, 1) := by decide +kernel
theorem dX7_readsWord_53 : decode cX7_readsWord 53 = .ok (.iadd, 1) := by decide +kernel
theorem dX7_readsWord_54 : decode cX7_readsWord 54 = .ok (.putfield 194, 3) := by decide +kernel
theorem dX7_readsWord_57 : decode cX7_readsWord 57 = .ok (.goto (-53), 3) := by decide +kernel
theorem dX7_readsWord_60 : decode cX7_readsWord 60 = .ok (.iload_n 2, 1) := by decide +kernel
theorem dX7_readsWord_61 : decode cX7_readsWord 61 = .ok (.iconst 5, 1) := by decide +kernel
theorem dX7_readsWord_62 : decode cX7_readsWord 62 = .ok (.if_icmp .le 7, 3) := by decide +kernel
theorem dX7_readsWord_65 : decode cX7_readsWord 65 = .ok (.iconst 0, 1) := by decide +kernel
theorem dX7_readsWord_66 : decode cX7_readsWord 66 = .ok (.goto 4, 3) := by decide +kernel
theorem dX7_readsWord_69 : decode cX7_readsWord 69 = .ok (.iload_n 1, 1) := by decide +kernel
theorem dX7_readsWord_70 : decode cX7_readsWord 70 = .ok (.ireturn, 1) := by decide +kernel
theorem dX7_readsNumber_0 : decode cX7_readsNumber 0 = .ok (.iconst (-1), 1) := by decide +kernel
theorem dX7_readsNumber_1 : decode cX7_readsNumber 1 = .ok (.istore_n 1, 1) := by decide +kernel
theorem dX7_readsNumber_2 : decode cX7_readsNumber 2 = .ok (.iconst 0, 1) := by decide +kernel
theorem dX7_readsNumber_3 : decode cX7_readsNumber 3 = .ok (.istore_n 2, 1) := by decide +kernel
theorem dX7_readsNumber_4 : decode cX7_readsNumber 4 = .ok (.iload_n 2, 1) := by decide +kernel
theorem dX7_readsNumber_5 : decode cX7_readsNumber 5 = .ok (.iconst 2, 1) := by decide +kernel
theorem dX7_readsNumber_6 : decode cX7_readsNumber 6 = .ok (.if_icmp .ge 57, 3) := by decide +kernel
theorem dX7_readsNumber_9 : decode cX7_readsNumber 9 = .ok (.aload_n 0, 1) := by decide +kernel
theorem dX7_readsNumber_10 : decode cX7_readsNumber 10 = .ok (.bipush 48, 2) := by decide +kernel
theorem dX7_readsNumber_12 : decode cX7_readsNumber 12 = .ok (.bipush 57, 2) := by decide +kernel
theorem dX7_readsNumber_14 : decode cX7_readsNumber 14 = .ok (.invokevirtual 197, 3) := by decide +kernel
theorem dX7_readsNumber_17 : decode cX7_readsNumber 17 = .ok (.ifCond .eq 46, 3) := by decide +kernel
theorem dX7_readsNumber_20 : decode cX7_readsNumber 20 = .ok (.iload_n 1, 1) := by decide +kernel
theorem dX7_readsNumber_21 : decode cX7_readsNumber 21 = .ok (.iconst (-1), 1) := by decide +kernel
theorem dX7_readsNumber_22 : decode cX7_readsNumber 22 = .ok (.if_icmp .ne 7, 3) := by decide +kernel
theorem dX7_readsNumber_25 : decode cX7_readsNumber 25 = .ok (.iconst 0, 1) := by decide +kernel
theorem dX7_readsNumber_26 : decode cX7_readsNumber 26 = .ok (.goto 7, 3) := by decide +kernel
theorem dX7_readsNumber_29 : decode cX7_readsNumber 29 = .ok (.bipush 10, 2) := by decide +kernel
theorem dX7_readsNumber_31 : decode cX7_readsNumber 31 = .ok (.iload_n 1, 1) := by decide +kernel
theorem dX7_readsNumber_32 : decode cX7_readsNumber 32 = .ok (.imul, 1) := by decide +kernel
theorem dX7_readsNumber_33 : decode cX7_readsNumber 33 = .ok (.aload_n 0, 1) := by decide +kernel
theorem dX7_readsNumber_34 : decode cX7_readsNumber 34 = .ok (.getfield 25, 3) := by decide +kernel
theorem dX7_readsNumber_37 : decode cX7_readsNumber 37 = .ok (.aload_n 0, 1) := by decide +kernel
theorem dX7_readsNumber_38 : decode cX7_readsNumber 38 = .ok (.getfield 194, 3) := by decide +kernel
theorem dX7_readsNumber_41 : decode cX7_readsNumber 41 = .ok (.iaload, 1) := by decide +kernel
theorem dX7_readsNumber_42 : decode cX7_readsNumber 42 = .ok (.iadd, 1) := by decide +kernel
theorem dX7_readsNumber_43 : decode cX7_readsNumber 43 = .ok (.bipush 48, 2) := by decide +kernel
theorem dX7_readsNumber_45 : decode cX7_readsNumber 45 = .ok (.isub, 1) := by decide +kernel
theorem dX7_readsNumber_46 : decode cX7_readsNumber 46 = .ok (.istore_n 1, 1) := by decide +kernel
theorem dX7_readsNumber_47 : decode cX7_readsNumber 47 = .ok (.aload_n 0, 1) := by decide +kernel
theorem dX7_readsNumber_48 : decode cX7_readsNumber 48 = .ok (.dup, 1) := by decide +kernel
theorem dX7_readsNumber_49 : decode cX7_readsNumber 49 = .ok (.getfield 194, 3) := by decide +kernel
theorem dX7_readsNumber_52 : decode cX7_readsNumber 52 = .ok (.iconst 1, 1) := by decide +kernel
theorem dX7_readsNumber_53 : decode cX7_readsNumber 53 = .ok (.iadd, 1) := by decide +kernel
theorem dX7_readsNumber_54 : decode cX7_readsNumber 54 = .ok (.putfield 194, 3) := by decide +kernel
theorem dX7_readsNumber_57 : decode cX7_readsNumber 57 = .ok (.iinc 2 1, 3) := by decide +kernel
theorem dX7_readsNumber_60 : decode cX7_readsNumber 60 = .ok (.goto (-56), 3) := by decide +kernel
theorem dX7_readsNumber_63 : decode cX7_readsNumber 63 = .ok (.aload_n 0, 1) := by decide +kernel
theorem dX7_readsNumber_64 : decode cX7_readsNumber 64 = .ok (.invokevirtual 200, 3) := by decide +kernel
theorem dX7_readsNumber_67 : decode cX7_readsNumber 67 = .ok (.ifCond .eq 7, 3) := by decide +kernel
theorem dX7_readsNumber_70 : decode cX7_readsNumber 70 = .ok (.iload_n 1, 1) := by decide +kernel
theorem dX7_readsNumber_71 : decode cX7_readsNumber 71 = .ok (.goto 4, 3) := by decide +kernel
theorem dX7_readsNumber_74 : decode cX7_readsNumber 74 = .ok (.iconst (-1), 1) := by decide +kernel
theorem dX7_readsNumber_75 : decode cX7_readsNumber 75 = .ok (.ireturn, 1) := by decide +kernel
theorem dX7_readsCommand_0 : decode cX7_readsCommand 0 = .ok (.aload_n 0, 1) := by decide +kernel
theorem dX7_readsCommand_1 : decode cX7_readsCommand 1 = .ok (.iconst 0, 1) := by decide +kernel
theorem dX7_readsCommand_2 : decode cX7_readsCommand 2 = .ok (.putfield 204, 3) := by decide +kernel
theorem dX7_readsCommand_5 : decode cX7_readsCommand 5 = .ok (.aload_n 0, 1) := by decide +kernel
theorem dX7_readsCommand_6 : decode cX7_readsCommand 6 = .ok (.aload_n 0, 1) := by decide +kernel
theorem dX7_readsCommand_7 : decode cX7_readsCommand 7 = .ok (.invokevirtual 207, 3) := by decide +kernel
theorem dX7_readsCommand_10 : decode cX7_readsCommand 10 = .ok (.putfield 210, 3) := by decide +kernel
theorem dX7_readsCommand_13 : decode cX7_readsCommand 13 = .ok (.aload_n 0, 1) := by decide +kernel
theorem dX7_readsCommand_14 : decode cX7_readsCommand 14 = .ok (.getfield 210, 3) := by decide +kernel
theorem dX7_readsCommand_17 : decode cX7_readsCommand 17 = .ok (.ifCond .eq 10, 3) := by decide +kernel
theorem dX7_readsCommand_20 : decode cX7_readsCommand 20 = .ok (.aload_n 0, 1) := by decide +kernel
theorem dX7_readsCommand_21 : decode cX7_readsCommand 21 = .ok (.invokevirtual 200, 3) := by decide +kernel
theorem dX7_readsCommand_24 : decode cX7_readsCommand 24 = .ok (.ifCond .ne 5, 3) := by decide +kernel
theorem dX7_readsCommand_27 : decode cX7_readsCommand 27 = .ok (.iconst 0, 1) := by decide +kernel
theorem dX7_readsCommand_28 : decode cX7_readsCommand 28 = .ok (.ireturn, 1) := by decide +kernel
theorem dX7_readsCommand_29 : decode cX7_readsCommand 29 = .ok (.aload_n 0, 1) := by decide +kernel
theorem dX7_readsCommand_30 : decode cX7_readsCommand 30 = .ok (.invokevirtual 213, 3) := by decide +kernel
theorem dX7_readsCommand_33 : decode cX7_readsCommand 33 = .ok (.aload_n 0, 1) := by decide +kernel
theorem dX7_readsCommand_34 : decode cX7_readsCommand 34 = .ok (.bipush 59, 2) := by decide +kernel
theorem dX7_readsCommand_36 : decode cX7_readsCommand 36 = .ok (.bipush 59, 2) := by decide +kernel
theorem dX7_readsCommand_38 : decode cX7_readsCommand 38 = .ok (.invokevirtual 197, 3) := by decide +kernel
theorem dX7_readsCommand_41 : decode cX7_readsCommand 41 = .ok (.ifCond .ne 51, 3) := by decide +kernel
theorem dX7_readsCommand_44 : decode cX7_readsCommand 44 = .ok (.aload_n 0, 1) := by decide +kernel
theorem dX7_readsCommand_45 : decode cX7_readsCommand 45 = .ok (.invokevirtual 216, 3) := by decide +kernel
theorem dX7_readsCommand_48 : decode cX7_readsCommand 48 = .ok (.istore_n 1, 1) := by decide +kernel
theorem dX7_readsCommand_49 : decode cX7_readsCommand 49 = .ok (.iload_n 1, 1) := by decide +kernel
theorem dX7_readsCommand_50 : decode cX7_readsCommand 50 = .ok (.iconst (-1), 1) := by decide +kernel
theorem dX7_readsCommand_51 : decode cX7_readsCommand 51 = .ok (.if_icmp .eq 12, 3) := by decide +kernel
theorem dX7_readsCommand_54 : decode cX7_readsCommand 54 = .ok (.aload_n 0, 1) := by decide +kernel
theorem dX7_readsCommand_55 : decode cX7_readsCommand 55 = .ok (.getfield 204, 3) := by decide +kernel
theorem dX7_readsCommand_58 : decode cX7_readsCommand 58 = .ok (.bipush 9, 2) := by decide +kernel
theorem dX7_readsCommand_60 : decode cX7_readsCommand 60 = .ok (.if_icmp .ne 5, 3) := by decide +kernel
theorem dX7_readsCommand_63 : decode cX7_readsCommand 63 = .ok (.iconst 0, 1) := by decide +kernel
theorem dX7_readsCommand_64 : decode cX7_readsCommand 64 = .ok (.ireturn, 1) := by decide +kernel
theorem dX7_readsCommand_65 : decode cX7_readsCommand 65 = .ok (.aload_n 0, 1) := by decide +kernel
theorem dX7_readsCommand_66 : decode cX7_readsCommand 66 = .ok (.getfield 28, 3) := by decide +kernel
theorem dX7_readsCommand_69 : decode cX7_readsCommand 69 = .ok (.aload_n 0, 1) := by decide +kernel
theorem dX7_readsCommand_70 : decode cX7_readsCommand 70 = .ok (.getfield 204, 3) := by decide +kernel
theorem dX7_readsCommand_73 : decode cX7_readsCommand 73 = .ok (.iload_n 1, 1) := by decide +kernel
theorem dX7_readsCommand_74 : decode cX7_readsCommand 74 = .ok (.iastore, 1) := by decide +kernel
theorem dX7_readsCommand_75 : decode cX7_readsCommand 75 = .ok (.aload_n 0, 1) := by decide +kernel
theorem dX7_readsCommand_76 : decode cX7_readsCommand 76 = .ok (.dup, 1) := by decide +kernel
theorem dX7_readsCommand_77 : decode cX7_readsCommand 77 = .ok (.getfield 204, 3) := by decide +kernel
theorem dX7_readsCommand_80 : decode cX7_readsCommand 80 = .ok (.iconst 1, 1) := by decide +kernel
theorem dX7_readsCommand_81 : decode cX7_readsCommand 81 = .ok (.iadd, 1) := by decide +kernel
theorem dX7_readsCommand_82 : decode cX7_readsCommand 82 = .ok (.putfield 204, 3) := by decide +kernel
theorem dX7_readsCommand_85 : decode cX7_readsCommand 85 = .ok (.aload_n 0, 1) := by decide +kernel
theorem dX7_readsCommand_86 : decode cX7_readsCommand 86 = .ok (.invokevirtual 213, 3) := by decide +kernel
theorem dX7_readsCommand_89 : decode cX7_readsCommand 89 = .ok (.goto (-56), 3) := by decide +kernel
theorem dX7_readsCommand_92 : decode cX7_readsCommand 92 = .ok (.aload_n 0, 1) := by decide +kernel
theorem dX7_readsCommand_93 : decode cX7_readsCommand 93 = .ok (.dup, 1) := by decide +kernel
theorem dX7_readsCommand_94 : decode cX7_readsCommand 94 = .ok (.getfield 194, 3) := by decide +kernel
theorem dX7_readsCommand_97 : decode cX7_readsCommand 97 = .ok (.iconst 1, 1) := by decide +kernel
theorem dX7_readsCommand_98 : decode cX7_readsCommand 98 = .ok (.iadd, 1) := by decide +kernel
theorem dX7_readsCommand_99 : decode cX7_readsCommand 99 = .ok (.putfield 194, 3) := by decide +kernel
theorem dX7_readsCommand_102 : decode cX7_readsCommand 102 = .ok (.iconst 1, 1) := by decide +kernel
theorem dX7_readsCommand_103 : decode cX7_readsCommand 103 = .ok (.ireturn, 1) := by decide +kernel
theorem dX7_codeOf_0 : decode cX7_codeOf 0 = .ok (.bipush 27, 2) := by decide +kernel
theorem dX7_codeOf_2 : decode cX7_codeOf 2 = .ok (.bipush 27, 2) := by decide +kernel
theorem dX7_codeOf_4 : decode cX7_codeOf 4 = .ok (.iload_n 0, 1) := by decide +kernel
theorem dX7_codeOf_5 : decode cX7_codeOf 5 = .ok (.bipush 97, 2) := by decide +kernel
theorem dX7_codeOf_7 : decode cX7_codeOf 7 = .ok (.isub, 1) := by decide +kernel
theorem dX7_codeOf_8 : decode cX7_codeOf 8 = .ok (.iconst 1, 1) := by decide +kernel
theorem dX7_codeOf_9 : decode cX7_codeOf 9 = .ok (.iadd, 1) := by decide +kernel
theorem dX7_codeOf_10 : decode cX7_codeOf 10 = .ok (.imul, 1) := by decide +kernel
theorem dX7_codeOf_11 : decode cX7_codeOf 11 = .ok (.iload_n 1, 1) := by decide +kernel
theorem dX7_codeOf_12 : decode cX7_codeOf 12 = .ok (.iadd, 1) := by decide +kernel
theorem dX7_codeOf_13 : decode cX7_codeOf 13 = .ok (.bipush 97, 2) := by decide +kernel
theorem dX7_codeOf_15 : decode cX7_codeOf 15 = .ok (.isub, 1) := by decide +kernel
theorem dX7_codeOf_16 : decode cX7_codeOf 16 = .ok (.iconst 1, 1) := by decide +kernel
theorem dX7_codeOf_17 : decode cX7_codeOf 17 = .ok (.iadd, 1) := by decide +kernel
theorem dX7_codeOf_18 : decode cX7_codeOf 18 = .ok (.imul, 1) := by decide +kernel
theorem dX7_codeOf_19 : decode cX7_codeOf 19 = .ok (.iload_n 2, 1) := by decide +kernel
theorem dX7_codeOf_20 : decode cX7_codeOf 20 = .ok (.iadd, 1) := by decide +kernel
theorem dX7_codeOf_21 : decode cX7_codeOf 21 = .ok (.bipush 97, 2) := by decide +kernel
theorem dX7_codeOf_23 : decode cX7_codeOf 23 = .ok (.isub, 1) := by decide +kernel
theorem dX7_codeOf_24 : decode cX7_codeOf 24 = .ok (.iconst 1, 1) := by decide +kernel
theorem dX7_codeOf_25 : decode cX7_codeOf 25 = .ok (.iadd, 1) := by decide +kernel
theorem dX7_codeOf_26 : decode cX7_codeOf 26 = .ok (.istore 5, 2) := by decide +kernel
theorem dX7_codeOf_28 : decode cX7_codeOf 28 = .ok (.iload_n 3, 1) := by decide +kernel
theorem dX7_codeOf_29 : decode cX7_codeOf 29 = .ok (.bipush 32, 2) := by decide +kernel
theorem dX7_codeOf_31 : decode cX7_codeOf 31 = .ok (.if_icmp .ne 8, 3) := by decide +kernel
theorem dX7_codeOf_34 : decode cX7_codeOf 34 = .ok (.iload 5, 2) := by decide +kernel
theorem dX7_codeOf_36 : decode cX7_codeOf 36 = .ok (.goto 15, 3) := by decide +kernel
theorem dX7_codeOf_39 : decode cX7_codeOf 39 = .ok (.bipush 27, 2) := by decide +kernel
theorem dX7_codeOf_41 : decode cX7_codeOf 41 = .ok (.iload 5, 2) := by decide +kernel
theorem dX7_codeOf_43 : decode cX7_codeOf 43 = .ok (.imul, 1) := by decide +kernel
theorem dX7_codeOf_44 : decode cX7_codeOf 44 = .ok (.iload_n 3, 1) := by decide +kernel
theorem dX7_codeOf_45 : decode cX7_codeOf 45 = .ok (.iadd, 1) := by decide +kernel
theorem dX7_codeOf_46 : decode cX7_codeOf 46 = .ok (.bipush 97, 2) := by decide +kernel
theorem dX7_codeOf_48 : decode cX7_codeOf 48 = .ok (.isub, 1) := by decide +kernel
theorem dX7_codeOf_49 : decode cX7_codeOf 49 = .ok (.iconst 1, 1) := by decide +kernel
theorem dX7_codeOf_50 : decode cX7_codeOf 50 = .ok (.iadd, 1) := by decide +kernel
theorem dX7_codeOf_51 : decode cX7_codeOf 51 = .ok (.istore 5, 2) := by decide +kernel
theorem dX7_codeOf_53 : decode cX7_codeOf 53 = .ok (.iload 4, 2) := by decide +kernel
theorem dX7_codeOf_55 : decode cX7_codeOf 55 = .ok (.bipush 32, 2) := by decide +kernel
theorem dX7_codeOf_57 : decode cX7_codeOf 57 = .ok (.if_icmp .ne 8, 3) := by decide +kernel
theorem dX7_codeOf_60 : decode cX7_codeOf 60 = .ok (.iload 5, 2) := by decide +kernel
theorem dX7_codeOf_62 : decode cX7_codeOf 62 = .ok (.goto 16, 3) := by decide +kernel
theorem dX7_codeOf_65 : decode cX7_codeOf 65 = .ok (.bipush 27, 2) := by decide +kernel
theorem dX7_codeOf_67 : decode cX7_codeOf 67 = .ok (.iload 5, 2) := by decide +kernel
theorem dX7_codeOf_69 : decode cX7_codeOf 69 = .ok (.imul, 1) := by decide +kernel
theorem dX7_codeOf_70 : decode cX7_codeOf 70 = .ok (.iload 4, 2) := by decide +kernel
theorem dX7_codeOf_72 : decode cX7_codeOf 72 = .ok (.iadd, 1) := by decide +kernel
theorem dX7_codeOf_73 : decode cX7_codeOf 73 = .ok (.bipush 97, 2) := by decide +kernel
theorem dX7_codeOf_75 : decode cX7_codeOf 75 = .ok (.isub, 1) := by decide +kernel
theorem dX7_codeOf_76 : decode cX7_codeOf 76 = .ok (.iconst 1, 1) := by decide +kernel
theorem dX7_codeOf_77 : decode cX7_codeOf 77 = .ok (.iadd, 1) := by decide +kernel
theorem dX7_codeOf_78 : decode cX7_codeOf 78 = .ok (.ireturn, 1) := by decide +kernel
theorem dX7_commandKind_0 : decode cX7_commandKind 0 = .ok (.aload_n 0, 1) := by decide +kernel
theorem dX7_commandKind_1 : decode cX7_commandKind 1 = .ok (.getfield 210, 3) := by decide +kernel
theorem dX7_commandKind_4 : decode cX7_commandKind 4 = .ok (.bipush 111, 2) := by decide +kernel
theorem dX7_commandKind_6 : decode cX7_commandKind 6 = .ok (.bipush 112, 2) := by decide +kernel
theorem dX7_commandKind_8 : decode cX7_commandKind 8 = .ok (.bipush 101, 2) := by decide +kernel
theorem dX7_commandKind_10 : decode cX7_commandKind 10 = .ok (.bipush 110, 2) := by decide +kernel
theorem dX7_commandKind_12 : decode cX7_commandKind 12 = .ok (.bipush 32, 2) := by decide +kernel
theorem dX7_commandKind_14 : decode cX7_commandKind 14 = .ok (.invokestatic 219, 3) := by decide +kernel
theorem dX7_commandKind_17 : decode cX7_commandKind 17 = .ok (.if_icmp .ne 5, 3) := by decide +kernel
theorem dX7_commandKind_20 : decode cX7_commandKind 20 = .ok (.iconst 0, 1) := by decide +kernel
theorem dX7_commandKind_21 : decode cX7_commandKind 21 = .ok (.ireturn, 1) := by decide +kernel
theorem dX7_commandKind_22 : decode cX7_commandKind 22 = .ok (.aload_n 0, 1) := by decide +kernel
theorem dX7_commandKind_23 : decode cX7_commandKind 23 = .ok (.getfield 210, 3) := by decide +kernel
theorem dX7_commandKind_26 : decode cX7_commandKind 26 = .ok (.bipush 115, 2) := by decide +kernel
theorem dX7_commandKind_28 : decode cX7_commandKind 28 = .ok (.bipush 104, 2) := by decide +kernel
theorem dX7_commandKind_30 : decode cX7_commandKind 30 = .ok (.bipush 111, 2) := by decide +kernel
theorem dX7_commandKind_32 : decode cX7_commandKind 32 = .ok (.bipush 114, 2) := by decide +kernel
theorem dX7_commandKind_34 : decode cX7_commandKind 34 = .ok (.bipush 116, 2) := by decide +kernel
theorem dX7_commandKind_36 : decode cX7_commandKind 36 = .ok (.invokestatic 219, 3) := by decide +kernel
theorem dX7_commandKind_39 : decode cX7_commandKind 39 = .ok (.if_icmp .ne 5, 3) := by decide +kernel
theorem dX7_commandKind_42 : decode cX7_commandKind 42 = .ok (.iconst 1, 1) := by decide +kernel
theorem dX7_commandKind_43 : decode cX7_commandKind 43 = .ok (.ireturn, 1) := by decide +kernel
theorem dX7_commandKind_44 : decode cX7_commandKind 44 = .ok (.aload_n 0, 1) := by decide +kernel
theorem dX7_commandKind_45 : decode cX7_commandKind 45 = .ok (.getfield 210, 3) := by decide +kernel
theorem dX7_commandKind_48 : decode cX7_commandKind 48 = .ok (.bipush 108, 2) := by decide +kernel
theorem dX7_commandKind_50 : decode cX7_commandKind 50 = .ok (.bipush 111, 2) := by decide +kernel
theorem dX7_commandKind_52 : decode cX7_commandKind 52 = .ok (.bipush 119, 2) := by decide +kernel
theorem dX7_commandKind_54 : decode cX7_commandKind 54 = .ok (.bipush 32, 2) := by decide +kernel
theorem dX7_commandKind_56 : decode cX7_commandKind 56 = .ok (.bipush 32, 2) := by decide +kernel
theorem dX7_commandKind_58 : decode cX7_commandKind 58 = .ok (.invokestatic 219, 3) := by decide +kernel
theorem dX7_commandKind_61 : decode cX7_commandKind 61 = .ok (.if_icmp .ne 5, 3) := by decide +kernel
theorem dX7_commandKind_64 : decode cX7_commandKind 64 = .ok (.iconst 2, 1) := by decide +kernel
theorem dX7_commandKind_65 : decode cX7_commandKind 65 = .ok (.ireturn, 1) := by decide +kernel
theorem dX7_commandKind_66 : decode cX7_commandKind 66 = .ok (.aload_n 0, 1) := by decide +kernel
theorem dX7_commandKind_67 : decode cX7_commandKind 67 = .ok (.getfield 210, 3) := by decide +kernel
theorem dX7_commandKind_70 : decode cX7_commandKind 70 = .ok (.bipush 104, 2) := by decide +kernel
theorem dX7_commandKind_72 : decode cX7_commandKind 72 = .ok (.bipush 105, 2) := by decide +kernel
theorem dX7_commandKind_74 : decode cX7_commandKind 74 = .ok (.bipush 103, 2) := by decide +kernel
theorem dX7_commandKind_76 : decode cX7_commandKind 76 = .ok (.bipush 104, 2) := by decide +kernel
theorem dX7_commandKind_78 : decode cX7_commandKind 78 = .ok (.bipush 32, 2) := by decide +kernel
theorem dX7_commandKind_80 : decode cX7_commandKind 80 = .ok (.invokestatic 219, 3) := by decide +kernel
theorem dX7_commandKind_83 : decode cX7_commandKind 83 = .ok (.if_icmp .ne 5, 3) := by decide +kernel
theorem dX7_commandKind_86 : decode cX7_commandKind 86 = .ok (.iconst 3, 1) := by decide +kernel
theorem dX7_commandKind_87 : decode cX7_commandKind 87 = .ok (.ireturn, 1) := by decide +kernel
theorem dX7_commandKind_88 : decode cX7_commandKind 88 = .ok (.aload_n 0, 1) := by decide +kernel
theorem dX7_commandKind_89 : decode cX7_commandKind 89 = .ok (.getfield 210, 3) := by decide +kernel
theorem dX7_commandKind_92 : decode cX7_commandKind 92 = .ok (.bipush 100, 2) := by decide +kernel
theorem dX7_commandKind_94 : decode cX7_commandKind 94 = .ok (.bipush 101, 2) := by decide +kernel
theorem dX7_commandKind_96 : decode cX7_commandKind 96 = .ok (.bipush 97, 2) := by decide +kernel
theorem dX7_commandKind_98 : decode cX7_commandKind 98 = .ok (.bipush 100, 2) := by decide +kernel
theorem dX7_commandKind_100 : decode cX7_commandKind 100 = .ok (.bipush 32, 2) := by decide +kernel
theorem dX7_commandKind_102 : decode cX7_commandKind 102 = .ok (.invokestatic 219, 3) := by decide +kernel
theorem dX7_commandKind_105 : decode cX7_commandKind 105 = .ok (.if_icmp .ne 5, 3) := by decide +kernel
theorem dX7_commandKind_108 : decode cX7_commandKind 108 = .ok (.iconst 4, 1) := by decide +kernel
theorem dX7_commandKind_109 : decode cX7_commandKind 109 = .ok (.ireturn, 1) := by decide +kernel
theorem dX7_commandKind_110 : decode cX7_commandKind 110 = .ok (.aload_n 0, 1) := by decide +kernel
theorem dX7_commandKind_111 : decode cX7_commandKind 111 = .ok (.getfield 210, 3) := by decide +kernel
theorem dX7_commandKind_114 : decode cX7_commandKind 114 = .ok (.bipush 110, 2) := by decide +kernel
theorem dX7_commandKind_116 : decode cX7_commandKind 116 = .ok (.bipush 101, 2) := by decide +kernel
theorem dX7_commandKind_118 : decode cX7_commandKind 118 = .ok (.bipush 116, 2) := by decide +kernel
theorem dX7_commandKind_120 : decode cX7_commandKind 120 = .ok (.bipush 32, 2) := by decide +kernel
theorem dX7_commandKind_122 : decode cX7_commandKind 122 = .ok (.bipush 32, 2) := by decide +kernel
theorem dX7_commandKind_124 : decode cX7_commandKind 124 = .ok (.invokestatic 219, 3) := by decide +kernel
theorem dX7_commandKind_127 : decode cX7_commandKind 127 = .ok (.if_icmp .ne 5, 3) := by decide +kernel
theorem dX7_commandKind_130 : decode cX7_commandKind 130 = .ok (.iconst 5, 1) := by decide +kernel
theorem dX7_commandKind_131 : decode cX7_commandKind 131 = .ok (.ireturn, 1) := by decide +kernel
theorem dX7_commandKind_132 : decode cX7_commandKind 132 = .ok (.aload_n 0, 1) := by decide +kernel
theorem dX7_commandKind_133 : decode cX7_commandKind 133 = .ok (.getfield 210, 3) := by decide +kernel
theorem dX7_commandKind_136 : decode cX7_commandKind 136 = .ok (.bipush 99, 2) := by decide +kernel
theorem dX7_commandKind_138 : decode cX7_commandKind 138 = .ok (.bipush 104, 2) := by decide +kernel
theorem dX7_commandKind_140 : decode cX7_commandKind 140 = .ok (.bipush 105, 2) := by decide +kernel
theorem dX7_commandKind_142 : decode cX7_commandKind 142 = .ok (.bipush 112, 2) := by decide +kernel
theorem dX7_commandKind_144 : decode cX7_commandKind 144 = .ok (.bipush 32, 2) := by decide +kernel
theorem dX7_commandKind_146 : decode cX7_commandKind 146 = .ok (.invokestatic 219, 3) := by decide +kernel
theorem dX7_commandKind_149 : decode cX7_commandKind 149 = .ok (.if_icmp .ne 6, 3) := by decide +kernel
theorem dX7_commandKind_152 : decode cX7_commandKind 152 = .ok (.bipush 6, 2) := by decide +kernel
theorem dX7_commandKind_154 : decode cX7_commandKind 154 = .ok (.ireturn, 1) := by decide +kernel
theorem dX7_commandKind_155 : decode cX7_commandKind 155 = .ok (.aload_n 0, 1) := by decide +kernel
theorem dX7_commandKind_156 : decode cX7_commandKind 156 = .ok (.getfield 210, 3) := by decide +kernel
theorem dX7_commandKind_159 : decode cX7_commandKind 159 = .ok (.bipush 98, 2) := by decide +kernel
theorem dX7_commandKind_161 : decode cX7_commandKind 161 = .ok (.bipush 108, 2) := by decide +kernel
theorem dX7_commandKind_163 : decode cX7_commandKind 163 = .ok (.bipush 101, 2) := by decide +kernel
theorem dX7_commandKind_165 : decode cX7_commandKind 165 = .ok (.bipush 115, 2) := by decide +kernel
theorem dX7_commandKind_167 : decode cX7_commandKind 167 = .ok (.bipush 115, 2) := by decide +kernel
theorem dX7_commandKind_169 : decode cX7_commandKind 169 = .ok (.invokestatic 219, 3) := by decide +kernel
theorem dX7_commandKind_172 : decode cX7_commandKind 172 = .ok (.if_icmp .ne 8, 3) := by decide +kernel
theorem dX7_commandKind_175 : decode cX7_commandKind 175 = .ok (.bipush 7, 2) := by decide +kernel
theorem dX7_commandKind_177 : decode cX7_commandKind 177 = .ok (.goto 4, 3) := by decide +kernel
theorem dX7_commandKind_180 : decode cX7_commandKind 180 = .ok (.iconst (-1), 1) := by decide +kernel
theorem dX7_commandKind_181 : decode cX7_commandKind 181 = .ok (.ireturn, 1) := by decide +kernel
theorem dX7_areUnlike_0 : decode cX7_areUnlike 0 = .ok (.iload_n 1, 1) := by decide +kernel
theorem dX7_areUnlike_1 : decode cX7_areUnlike 1 = .ok (.istore_n 2, 1) := by decide +kernel
theorem dX7_areUnlike_2 : decode cX7_areUnlike 2 = .ok (.iload_n 2, 1) := by decide +kernel
theorem dX7_areUnlike_3 : decode cX7_areUnlike 3 = .ok (.aload_n 0, 1) := by decide +kernel
theorem dX7_areUnlike_4 : decode cX7_areUnlike 4 = .ok (.getfield 204, 3) := by decide +kernel
theorem dX7_areUnlike_7 : decode cX7_areUnlike 7 = .ok (.if_icmp .ge 44, 3) := by decide +kernel
theorem dX7_areUnlike_10 : decode cX7_areUnlike 10 = .ok (.iload_n 2, 1) := by decide +kernel
theorem dX7_areUnlike_11 : decode cX7_areUnlike 11 = .ok (.iconst 1, 1) := by decide +kernel
theorem dX7_areUnlike_12 : decode cX7_areUnlike 12 = .ok (.iadd, 1) := by decide +kernel
theorem dX7_areUnlike_13 : decode cX7_areUnlike 13 = .ok (.istore_n 3, 1) := by decide +kernel
theorem dX7_areUnlike_14 : decode cX7_areUnlike 14 = .ok (.iload_n 3, 1) := by decide +kernel
theorem dX7_areUnlike_15 : decode cX7_areUnlike 15 = .ok (.aload_n 0, 1) := by decide +kernel
theorem dX7_areUnlike_16 : decode cX7_areUnlike 16 = .ok (.getfield 204, 3) := by decide +kernel
theorem dX7_areUnlike_19 : decode cX7_areUnlike 19 = .ok (.if_icmp .ge 26, 3) := by decide +kernel
theorem dX7_areUnlike_22 : decode cX7_areUnlike 22 = .ok (.aload_n 0, 1) := by decide +kernel
theorem dX7_areUnlike_23 : decode cX7_areUnlike 23 = .ok (.getfield 28, 3) := by decide +kernel
theorem dX7_areUnlike_26 : decode cX7_areUnlike 26 = .ok (.iload_n 2, 1) := by decide +kernel
theorem dX7_areUnlike_27 : decode cX7_areUnlike 27 = .ok (.iaload, 1) := by decide +kernel
theorem dX7_areUnlike_28 : decode cX7_areUnlike 28 = .ok (.aload_n 0, 1) := by decide +kernel
theorem dX7_areUnlike_29 : decode cX7_areUnlike 29 = .ok (.getfield 28, 3) := by decide +kernel
theorem dX7_areUnlike_32 : decode cX7_areUnlike 32 = .ok (.iload_n 3, 1) := by decide +kernel
theorem dX7_areUnlike_33 : decode cX7_areUnlike 33 = .ok (.iaload, 1) := by decide +kernel
theorem dX7_areUnlike_34 : decode cX7_areUnlike 34 = .ok (.if_icmp .ne 5, 3) := by decide +kernel
theorem dX7_areUnlike_37 : decode cX7_areUnlike 37 = .ok (.iconst 0, 1) := by decide +kernel
theorem dX7_areUnlike_38 : decode cX7_areUnlike 38 = .ok (.ireturn, 1) := by decide +kernel
theorem dX7_areUnlike_39 : decode cX7_areUnlike 39 = .ok (.iinc 3 1, 3) := by decide +kernel
theorem dX7_areUnlike_42 : decode cX7_areUnlike 42 = .ok (.goto (-28), 3) := by decide +kernel
theorem dX7_areUnlike_45 : decode cX7_areUnlike 45 = .ok (.iinc 2 1, 3) := by decide +kernel
theorem dX7_areUnlike_48 : decode cX7_areUnlike 48 = .ok (.goto (-46), 3) := by decide +kernel
theorem dX7_areUnlike_51 : decode cX7_areUnlike 51 = .ok (.iconst 1, 1) := by decide +kernel
theorem dX7_areUnlike_52 : decode cX7_areUnlike 52 = .ok (.ireturn, 1) := by decide +kernel
theorem dX7_isOfForm_0 : decode cX7_isOfForm 0 = .ok (.iload_n 1, 1) := by decide +kernel
theorem dX7_isOfForm_1 : decode cX7_isOfForm 1 = .ok (.tableswitch 145 1 7 #[43, 145, 145, 145, 65, 91, 118], 43) := by decide +kernel
theorem dX7_isOfForm_44 : decode cX7_isOfForm 44 = .ok (.aload_n 0, 1) := by decide +kernel
theorem dX7_isOfForm_45 : decode cX7_isOfForm 45 = .ok (.getfield 204, 3) := by decide +kernel
theorem dX7_isOfForm_48 : decode cX7_isOfForm 48 = .ok (.iconst 2, 1) := by decide +kernel
theorem dX7_isOfForm_49 : decode cX7_isOfForm 49 = .ok (.if_icmp .ne 15, 3) := by decide +kernel
theorem dX7_isOfForm_52 : decode cX7_isOfForm 52 = .ok (.aload_n 0, 1) := by decide +kernel
theorem dX7_isOfForm_53 : decode cX7_isOfForm 53 = .ok (.iconst 0, 1) := by decide +kernel
theorem dX7_isOfForm_54 : decode cX7_isOfForm 54 = .ok (.invokevirtual 223, 3) := by decide +kernel
theorem dX7_isOfForm_57 : decode cX7_isOfForm 57 = .ok (.ifCond .eq 7, 3) := by decide +kernel
theorem dX7_isOfForm_60 : decode cX7_isOfForm 60 = .ok (.iconst 1, 1) := by decide +kernel
theorem dX7_isOfForm_61 : decode cX7_isOfForm 61 = .ok (.goto 4, 3) := by decide +kernel
theorem dX7_isOfForm_64 : decode cX7_isOfForm 64 = .ok (.iconst 0, 1) := by decide +kernel
theorem dX7_isOfForm_65 : decode cX7_isOfForm 65 = .ok (.ireturn, 1) := by decide +kernel
theorem dX7_isOfForm_66 : decode cX7_isOfForm 66 = .ok (.aload_n 0, 1) := by decide +kernel
theorem dX7_isOfForm_67 : decode cX7_isOfForm 67 = .ok (.getfield 204, 3) := by decide +kernel
theorem dX7_isOfForm_70 : decode cX7_isOfForm 70 = .ok (.iconst 2, 1) := by decide +kernel
theorem dX7_isOfForm_71 : decode cX7_isOfForm 71 = .ok (.iconst 5, 1) := by decide +kernel
theorem dX7_isOfForm_72 : decode cX7_isOfForm 72 = .ok (.invokestatic 45, 3) := by decide +kernel
theorem dX7_isOfForm_75 : decode cX7_isOfForm 75 = .ok (.ifCond .eq 15, 3) := by decide +kernel
theorem dX7_isOfForm_78 : decode cX7_isOfForm 78 = .ok (.aload_n 0, 1) := by decide +kernel
theorem dX7_isOfForm_79 : decode cX7_isOfForm 79 = .ok (.iconst 0, 1) := by decide +kernel
theorem dX7_isOfForm_80 : decode cX7_isOfForm 80 = .ok (.invokevirtual 223, 3) := by decide +kernel
theorem dX7_isOfForm_83 : decode cX7_isOfForm 83 = .ok (.ifCond .eq 7, 3) := by decide +kernel
theorem dX7_isOfForm_86 : decode cX7_isOfForm 86 = .ok (.iconst 1, 1) := by decide +kernel
theorem dX7_isOfForm_87 : decode cX7_isOfForm 87 = .ok (.goto 4, 3) := by decide +kernel
theorem dX7_isOfForm_90 : decode cX7_isOfForm 90 = .ok (.iconst 0, 1) := by decide +kernel
theorem dX7_isOfForm_91 : decode cX7_isOfForm 91 = .ok (.ireturn, 1) := by decide +kernel
theorem dX7_isOfForm_92 : decode cX7_isOfForm 92 = .ok (.aload_n 0, 1) := by decide +kernel
theorem dX7_isOfForm_93 : decode cX7_isOfForm 93 = .ok (.getfield 204, 3) := by decide +kernel
theorem dX7_isOfForm_96 : decode cX7_isOfForm 96 = .ok (.iconst 2, 1) := by decide +kernel
theorem dX7_isOfForm_97 : decode cX7_isOfForm 97 = .ok (.bipush 7, 2) := by decide +kernel
theorem dX7_isOfForm_99 : decode cX7_isOfForm 99 = .ok (.invokestatic 45, 3) := by decide +kernel
theorem dX7_isOfForm_102 : decode cX7_isOfForm 102 = .ok (.ifCond .eq 15, 3) := by decide +kernel
theorem dX7_isOfForm_105 : decode cX7_isOfForm 105 = .ok (.aload_n 0, 1) := by decide +kernel
theorem dX7_isOfForm_106 : decode cX7_isOfForm 106 = .ok (.iconst 0, 1) := by decide +kernel
theorem dX7_isOfForm_107 : decode cX7_isOfForm 107 = .ok (.invokevirtual 223, 3) := by decide +kernel
theorem dX7_isOfForm_110 : decode cX7_isOfForm 110 = .ok (.ifCond .eq 7, 3) := by decide +kernel
theorem dX7_isOfForm_113 : decode cX7_isOfForm 113 = .ok (.iconst 1, 1) := by decide +kernel
theorem dX7_isOfForm_114 : decode cX7_isOfForm 114 = .ok (.goto 4, 3) := by decide +kernel
theorem dX7_isOfForm_117 : decode cX7_isOfForm 117 = .ok (.iconst 0, 1) := by decide +kernel
theorem dX7_isOfForm_118 : decode cX7_isOfForm 118 = .ok (.ireturn, 1) := by decide +kernel
theorem dX7_isOfForm_119 : decode cX7_isOfForm 119 = .ok (.aload_n 0, 1) := by decide +kernel
theorem dX7_isOfForm_120 : decode cX7_isOfForm 120 = .ok (.getfield 204, 3) := by decide +kernel
theorem dX7_isOfForm_123 : decode cX7_isOfForm 123 = .ok (.iconst 1, 1) := by decide +kernel
theorem dX7_isOfForm_124 : decode cX7_isOfForm 124 = .ok (.bipush 8, 2) := by decide +kernel
theorem dX7_isOfForm_126 : decode cX7_isOfForm 126 = .ok (.invokestatic 45, 3) := by decide +kernel
theorem dX7_isOfForm_129 : decode cX7_isOfForm 129 = .ok (.ifCond .eq 15, 3) := by decide +kernel
theorem dX7_isOfForm_132 : decode cX7_isOfForm 132 = .ok (.aload_n 0, 1) := by decide +kernel
theorem dX7_isOfForm_133 : decode cX7_isOfForm 133 = .ok (.iconst 1, 1) := by decide +kernel
theorem dX7_isOfForm_134 : decode cX7_isOfForm 134 = .ok (.invokevirtual 223, 3) := by decide +kernel
theorem dX7_isOfForm_137 : decode cX7_isOfForm 137 = .ok (.ifCond .eq 7, 3) := by decide +kernel
theorem dX7_isOfForm_140 : decode cX7_isOfForm 140 = .ok (.iconst 1, 1) := by decide +kernel
theorem dX7_isOfForm_141 : decode cX7_isOfForm 141 = .ok (.goto 4, 3) := by decide +kernel
theorem dX7_isOfForm_144 : decode cX7_isOfForm 144 = .ok (.iconst 0, 1) := by decide +kernel
theorem dX7_isOfForm_145 : decode cX7_isOfForm 145 = .ok (.ireturn, 1) := by decide +kernel
theorem dX7_isOfForm_146 : decode cX7_isOfForm 146 = .ok (.iload_n 1, 1) := by decide +kernel
theorem dX7_isOfForm_147 : decode cX7_isOfForm 147 = .ok (.iconst (-1), 1) := by decide +kernel
theorem dX7_isOfForm_148 : decode cX7_isOfForm 148 = .ok (.if_icmp .eq 15, 3) := by decide +kernel
theorem dX7_isOfForm_151 : decode cX7_isOfForm 151 = .ok (.aload_n 0, 1) := by decide +kernel
theorem dX7_isOfForm_152 : decode cX7_isOfForm 152 = .ok (.getfield 204, 3) := by decide +kernel
theorem dX7_isOfForm_155 : decode cX7_isOfForm 155 = .ok (.iconst 1, 1) := by decide +kernel
theorem dX7_isOfForm_156 : decode cX7_isOfForm 156 = .ok (.if_icmp .ne 7, 3) := by decide +kernel
theorem dX7_isOfForm_159 : decode cX7_isOfForm 159 = .ok (.iconst 1, 1) := by decide +kernel
theorem dX7_isOfForm_160 : decode cX7_isOfForm 160 = .ok (.goto 4, 3) := by decide +kernel
theorem dX7_isOfForm_163 : decode cX7_isOfForm 163 = .ok (.iconst 0, 1) := by decide +kernel
theorem dX7_isOfForm_164 : decode cX7_isOfForm 164 = .ok (.ireturn, 1) := by decide +kernel
theorem dX7_areThere_0 : decode cX7_areThere 0 = .ok (.iload_n 1, 1) := by decide +kernel
theorem dX7_areThere_1 : decode cX7_areThere 1 = .ok (.iconst 5, 1) := by decide +kernel
theorem dX7_areThere_2 : decode cX7_areThere 2 = .ok (.if_icmp .ge 11, 3) := by decide +kernel
theorem dX7_areThere_5 : decode cX7_areThere 5 = .ok (.aload_n 0, 1) := by decide +kernel
theorem dX7_areThere_6 : decode cX7_areThere 6 = .ok (.iload_n 1, 1) := by decide +kernel
theorem dX7_areThere_7 : decode cX7_areThere 7 = .ok (.invokevirtual 77, 3) := by decide +kernel
theorem dX7_areThere_10 : decode cX7_areThere 10 = .ok (.goto 5, 3) := by decide +kernel
theorem dX7_areThere_13 : decode cX7_areThere 13 = .ok (.bipush 16, 2) := by decide +kernel
theorem dX7_areThere_15 : decode cX7_areThere 15 = .ok (.istore_n 2, 1) := by decide +kernel
theorem dX7_areThere_16 : decode cX7_areThere 16 = .ok (.iconst 1, 1) := by decide +kernel
theorem dX7_areThere_17 : decode cX7_areThere 17 = .ok (.istore_n 3, 1) := by decide +kernel
theorem dX7_areThere_18 : decode cX7_areThere 18 = .ok (.iconst 0, 1) := by decide +kernel
theorem dX7_areThere_19 : decode cX7_areThere 19 = .ok (.istore 4, 2) := by decide +kernel
theorem dX7_areThere_21 : decode cX7_areThere 21 = .ok (.iload 4, 2) := by decide +kernel
theorem dX7_areThere_23 : decode cX7_areThere 23 = .ok (.aload_n 0, 1) := by decide +kernel
theorem dX7_areThere_24 : decode cX7_areThere 24 = .ok (.getfield 204, 3) := by decide +kernel
theorem dX7_areThere_27 : decode cX7_areThere 27 = .ok (.if_icmp .ge 46, 3) := by decide +kernel
theorem dX7_areThere_30 : decode cX7_areThere 30 = .ok (.iload_n 3, 1) := by decide +kernel
theorem dX7_areThere_31 : decode cX7_areThere 31 = .ok (.ifCond .eq 34, 3) := by decide +kernel
theorem dX7_areThere_34 : decode cX7_areThere 34 = .ok (.aload_n 0, 1) := by decide +kernel
theorem dX7_areThere_35 : decode cX7_areThere 35 = .ok (.getfield 28, 3) := by decide +kernel
theorem dX7_areThere_38 : decode cX7_areThere 38 = .ok (.iload 4, 2) := by decide +kernel
theorem dX7_areThere_40 : decode cX7_areThere 40 = .ok (.iaload, 1) := by decide +kernel
theorem dX7_areThere_41 : decode cX7_areThere 41 = .ok (.iload_n 1, 1) := by decide +kernel
theorem dX7_areThere_42 : decode cX7_areThere 42 = .ok (.bipush 7, 2) := by decide +kernel
theorem dX7_areThere_44 : decode cX7_areThere 44 = .ok (.if_icmp .ne 13, 3) := by decide +kernel
theorem dX7_areThere_47 : decode cX7_areThere 47 = .ok (.iload 4, 2) := by decide +kernel
theorem dX7_areThere_49 : decode cX7_areThere 49 = .ok (.ifCond .le 8, 3) := by decide +kernel
theorem dX7_areThere_52 : decode cX7_areThere 52 = .ok (.bipush 7, 2) := by decide +kernel
theorem dX7_areThere_54 : decode cX7_areThere 54 = .ok (.goto 4, 3) := by decide +kernel
theorem dX7_areThere_57 : decode cX7_areThere 57 = .ok (.iload_n 2, 1) := by decide +kernel
theorem dX7_areThere_58 : decode cX7_areThere 58 = .ok (.if_icmp .ge 7, 3) := by decide +kernel
theorem dX7_areThere_61 : decode cX7_areThere 61 = .ok (.iconst 1, 1) := by decide +kernel
theorem dX7_areThere_62 : decode cX7_areThere 62 = .ok (.goto 4, 3) := by decide +kernel
theorem dX7_areThere_65 : decode cX7_areThere 65 = .ok (.iconst 0, 1) := by decide +kernel
theorem dX7_areThere_66 : decode cX7_areThere 66 = .ok (.istore_n 3, 1) := by decide +kernel
theorem dX7_areThere_67 : decode cX7_areThere 67 = .ok (.iinc 4 1, 3) := by decide +kernel
theorem dX7_areThere_70 : decode cX7_areThere 70 = .ok (.goto (-49), 3) := by decide +kernel
theorem dX7_areThere_73 : decode cX7_areThere 73 = .ok (.iload_n 3, 1) := by decide +kernel
theorem dX7_areThere_74 : decode cX7_areThere 74 = .ok (.ireturn, 1) := by decide +kernel
theorem dX7_numberSet_0 : decode cX7_numberSet 0 = .ok (.iconst 0, 1) := by decide +kernel
theorem dX7_numberSet_1 : decode cX7_numberSet 1 = .ok (.istore_n 2, 1) := by decide +kernel
theorem dX7_numberSet_2 : decode cX7_numberSet 2 = .ok (.iload_n 1, 1) := by decide +kernel
theorem dX7_numberSet_3 : decode cX7_numberSet 3 = .ok (.istore_n 3, 1) := by decide +kernel
theorem dX7_numberSet_4 : decode cX7_numberSet 4 = .ok (.iload_n 3, 1) := by decide +kernel
theorem dX7_numberSet_5 : decode cX7_numberSet 5 = .ok (.aload_n 0, 1) := by decide +kernel
theorem dX7_numberSet_6 : decode cX7_numberSet 6 = .ok (.getfield 204, 3) := by decide +kernel
theorem dX7_numberSet_9 : decode cX7_numberSet 9 = .ok (.if_icmp .ge 20, 3) := by decide +kernel
theorem dX7_numberSet_12 : decode cX7_numberSet 12 = .ok (.iload_n 2, 1) := by decide +kernel
theorem dX7_numberSet_13 : decode cX7_numberSet 13 = .ok (.iconst 1, 1) := by decide +kernel
theorem dX7_numberSet_14 : decode cX7_numberSet 14 = .ok (.aload_n 0, 1) := by decide +kernel
theorem dX7_numberSet_15 : decode cX7_numberSet 15 = .ok (.getfield 28, 3) := by decide +kernel
theorem dX7_numberSet_18 : decode cX7_numberSet 18 = .ok (.iload_n 3, 1) := by decide +kernel
theorem dX7_numberSet_19 : decode cX7_numberSet 19 = .ok (.iaload, 1) := by decide +kernel
theorem dX7_numberSet_20 : decode cX7_numberSet 20 = .ok (.ishl, 1) := by decide +kernel
theorem dX7_numberSet_21 : decode cX7_numberSet 21 = .ok (.ior, 1) := by decide +kernel
theorem dX7_numberSet_22 : decode cX7_numberSet 22 = .ok (.istore_n 2, 1) := by decide +kernel
theorem dX7_numberSet_23 : decode cX7_numberSet 23 = .ok (.iinc 3 1, 3) := by decide +kernel
theorem dX7_numberSet_26 : decode cX7_numberSet 26 = .ok (.goto (-22), 3) := by decide +kernel
theorem dX7_numberSet_29 : decode cX7_numberSet 29 = .ok (.iload_n 2, 1) := by decide +kernel
theorem dX7_numberSet_30 : decode cX7_numberSet 30 = .ok (.ireturn, 1) := by decide +kernel
theorem dX7_does_0 : decode cX7_does 0 = .ok (.iload_n 1, 1) := by decide +kernel
theorem dX7_does_1 : decode cX7_does 1 = .ok (.bipush 7, 2) := by decide +kernel
theorem dX7_does_3 : decode cX7_does 3 = .ok (.if_icmp .ne 24, 3) := by decide +kernel
theorem dX7_does_6 : decode cX7_does 6 = .ok (.aload_n 0, 1) := by decide +kernel
theorem dX7_does_7 : decode cX7_does 7 = .ok (.getfield 7, 3) := by decide +kernel
theorem dX7_does_10 : decode cX7_does 10 = .ok (.bipush 72, 2) := by decide +kernel
theorem dX7_does_12 : decode cX7_does 12 = .ok (.aload_n 0, 1) := by decide +kernel
theorem dX7_does_13 : decode cX7_does 13 = .ok (.getfield 28, 3) := by decide +kernel
theorem dX7_does_16 : decode cX7_does 16 = .ok (.iconst 0, 1) := by decide +kernel
theorem dX7_does_17 : decode cX7_does 17 = .ok (.iaload, 1) := by decide +kernel
theorem dX7_does_18 : decode cX7_does 18 = .ok (.iadd, 1) := by decide +kernel
theorem dX7_does_19 : decode cX7_does 19 = .ok (.aload_n 0, 1) := by decide +kernel
theorem dX7_does_20 : decode cX7_does 20 = .ok (.iconst 1, 1) := by decide +kernel
theorem dX7_does_21 : decode cX7_does 21 = .ok (.invokevirtual 226, 3) := by decide +kernel
theorem dX7_does_24 : decode cX7_does 24 = .ok (.iastore, 1) := by decide +kernel
theorem dX7_does_25 : decode cX7_does 25 = .ok (.iconst 0, 1) := by decide +kernel
theorem dX7_does_26 : decode cX7_does 26 = .ok (.ireturn, 1) := by decide +kernel
theorem dX7_does_27 : decode cX7_does 27 = .ok (.iload_n 1, 1) := by decide +kernel
theorem dX7_does_28 : decode cX7_does 28 = .ok (.iconst 5, 1) := by decide +kernel
theorem dX7_does_29 : decode cX7_does 29 = .ok (.if_icmp .ne 31, 3) := by decide +kernel
theorem dX7_does_32 : decode cX7_does 32 = .ok (.aload_n 0, 1) := by decide +kernel
theorem dX7_does_33 : decode cX7_does 33 = .ok (.aload_n 0, 1) := by decide +kernel
theorem dX7_does_34 : decode cX7_does 34 = .ok (.iconst 0, 1) := by decide +kernel
theorem dX7_does_35 : decode cX7_does 35 = .ok (.invokevirtual 226, 3) := by decide +kernel
theorem dX7_does_38 : decode cX7_does 38 = .ok (.invokevirtual 58, 3) := by decide +kernel
theorem dX7_does_41 : decode cX7_does 41 = .ok (.istore_n 2, 1) := by decide +kernel
theorem dX7_does_42 : decode cX7_does 42 = .ok (.iload_n 2, 1) := by decide +kernel
theorem dX7_does_43 : decode cX7_does 43 = .ok (.ifCond .eq 7, 3) := by decide +kernel
theorem dX7_does_46 : decode cX7_does 46 = .ok (.iload_n 2, 1) := by decide +kernel
theorem dX7_does_47 : decode cX7_does 47 = .ok (.goto 12, 3) := by decide +kernel
theorem dX7_does_50 : decode cX7_does 50 = .ok (.aload_n 0, 1) := by decide +kernel
theorem dX7_does_51 : decode cX7_does 51 = .ok (.aload_n 0, 1) := by decide +kernel
theorem dX7_does_52 : decode cX7_does 52 = .ok (.iconst 0, 1) := by decide +kernel
theorem dX7_does_53 : decode cX7_does 53 = .ok (.invokevirtual 226, 3) := by decide +kernel
theorem dX7_does_56 : decode cX7_does 56 = .ok (.invokevirtual 64, 3) := by decide +kernel
theorem dX7_does_59 : decode cX7_does 59 = .ok (.ireturn, 1) := by decide +kernel
theorem dX7_does_60 : decode cX7_does 60 = .ok (.iload_n 1, 1) := by decide +kernel
theorem dX7_does_61 : decode cX7_does 61 = .ok (.bipush 6, 2) := by decide +kernel
theorem dX7_does_63 : decode cX7_does 63 = .ok (.if_icmp .ne 55, 3) := by decide +kernel
theorem dX7_does_66 : decode cX7_does 66 = .ok (.aload_n 0, 1) := by decide +kernel
theorem dX7_does_67 : decode cX7_does 67 = .ok (.aload_n 0, 1) := by decide +kernel
theorem dX7_does_68 : decode cX7_does 68 = .ok (.getfield 28, 3) := by decide +kernel
theorem dX7_does_71 : decode cX7_does 71 = .ok (.iconst 0, 1) := by decide +kernel
theorem dX7_does_72 : decode cX7_does 72 = .ok (.iaload, 1) := by decide +kernel
theorem dX7_does_73 : decode cX7_does 73 = .ok (.aload_n 0, 1) := by decide +kernel
theorem dX7_does_74 : decode cX7_does 74 = .ok (.getfield 28, 3) := by decide +kernel
theorem dX7_does_77 : decode cX7_does 77 = .ok (.iconst 1, 1) := by decide +kernel
theorem dX7_does_78 : decode cX7_does 78 = .ok (.iaload, 1) := by decide +kernel
theorem dX7_does_79 : decode cX7_does 79 = .ok (.aload_n 0, 1) := by decide +kernel
theorem dX7_does_80 : decode cX7_does 80 = .ok (.iconst 2, 1) := by decide +kernel
theorem dX7_does_81 : decode cX7_does 81 = .ok (.invokevirtual 226, 3) := by decide +kernel
theorem dX7_does_84 : decode cX7_does 84 = .ok (.invokevirtual 70, 3) := by decide +kernel
theorem dX7_does_87 : decode cX7_does 87 = .ok (.istore_n 2, 1) := by decide +kernel
theorem dX7_does_88 : decode cX7_does 88 = .ok (.iload_n 2, 1) := by decide +kernel
theorem dX7_does_89 : decode cX7_does 89 = .ok (.ifCond .eq 7, 3) := by decide +kernel
theorem dX7_does_92 : decode cX7_does 92 = .ok (.iload_n 2, 1) := by decide +kernel
theorem dX7_does_93 : decode cX7_does 93 = .ok (.goto 24, 3) := by decide +kernel
theorem dX7_does_96 : decode cX7_does 96 = .ok (.aload_n 0, 1) := by decide +kernel
theorem dX7_does_97 : decode cX7_does 97 = .ok (.aload_n 0, 1) := by decide +kernel
theorem dX7_does_98 : decode cX7_does 98 = .ok (.getfield 28, 3) := by decide +kernel
theorem dX7_does_101 : decode cX7_does 101 = .ok (.iconst 0, 1) := by decide +kernel
theorem dX7_does_102 : decode cX7_does 102 = .ok (.iaload, 1) := by decide +kernel
theorem dX7_does_103 : decode cX7_does 103 = .ok (.aload_n 0, 1) := by decide +kernel
theorem dX7_does_104 : decode cX7_does 104 = .ok (.getfield 28, 3) := by decide +kernel
theorem dX7_does_107 : decode cX7_does 107 = .ok (.iconst 1, 1) := by decide +kernel
theorem dX7_does_108 : decode cX7_does 108 = .ok (.iaload, 1) := by decide +kernel
theorem dX7_does_109 : decode cX7_does 109 = .ok (.aload_n 0, 1) := by decide +kernel
theorem dX7_does_110 : decode cX7_does 110 = .ok (.iconst 2, 1) := by decide +kernel
theorem dX7_does_111 : decode cX7_does 111 = .ok (.invokevirtual 226, 3) := by decide +kernel
theorem dX7_does_114 : decode cX7_does 114 = .ok (.invokevirtual 74, 3) := by decide +kernel
theorem dX7_does_117 : decode cX7_does 117 = .ok (.ireturn, 1) := by decide +kernel
theorem dX7_does_118 : decode cX7_does 118 = .ok (.aload_n 0, 1) := by decide +kernel
theorem dX7_does_119 : decode cX7_does 119 = .ok (.getfield 28, 3) := by decide +kernel
theorem dX7_does_122 : decode cX7_does 122 = .ok (.iconst 0, 1) := by decide +kernel
theorem dX7_does_123 : decode cX7_does 123 = .ok (.iaload, 1) := by decide +kernel
theorem dX7_does_124 : decode cX7_does 124 = .ok (.istore_n 3, 1) := by decide +kernel
theorem dX7_does_125 : decode cX7_does 125 = .ok (.iconst 0, 1) := by decide +kernel
theorem dX7_does_126 : decode cX7_does 126 = .ok (.istore 4, 2) := by decide +kernel
theorem dX7_does_128 : decode cX7_does 128 = .ok (.iload_n 1, 1) := by decide +kernel
theorem dX7_does_129 : decode cX7_does 129 = .ok (.iconst 1, 1) := by decide +kernel
theorem dX7_does_130 : decode cX7_does 130 = .ok (.if_icmp .ne 66, 3) := by decide +kernel
theorem dX7_does_133 : decode cX7_does 133 = .ok (.aload_n 0, 1) := by decide +kernel
theorem dX7_does_134 : decode cX7_does 134 = .ok (.getfield 28, 3) := by decide +kernel
theorem dX7_does_137 : decode cX7_does 137 = .ok (.iconst 0, 1) := by decide +kernel
theorem dX7_does_138 : decode cX7_does 138 = .ok (.iaload, 1) := by decide +kernel
theorem dX7_does_139 : decode cX7_does 139 = .ok (.aload_n 0, 1) := by decide +kernel
theorem dX7_does_140 : decode cX7_does 140 = .ok (.getfield 28, 3) := by decide +kernel
theorem dX7_does_143 : decode cX7_does 143 = .ok (.iconst 1, 1) := by decide +kernel
theorem dX7_does_144 : decode cX7_does 144 = .ok (.iaload, 1) := by decide +kernel
theorem dX7_does_145 : decode cX7_does 145 = .ok (.if_icmp .ge 12, 3) := by decide +kernel
theorem dX7_does_148 : decode cX7_does 148 = .ok (.aload_n 0, 1) := by decide +kernel
theorem dX7_does_149 : decode cX7_does 149 = .ok (.getfield 28, 3) := by decide +kernel
theorem dX7_does_152 : decode cX7_does 152 = .ok (.iconst 1, 1) := by decide +kernel
theorem dX7_does_153 : decode cX7_does 153 = .ok (.iaload, 1) := by decide +kernel
theorem dX7_does_154 : decode cX7_does 154 = .ok (.goto 9, 3) := by decide +kernel
theorem dX7_does_157 : decode cX7_does 157 = .ok (.aload_n 0, 1) := by decide +kernel
theorem dX7_does_158 : decode cX7_does 158 = .ok (.getfield 28, 3) := by decide +kernel
theorem dX7_does_161 : decode cX7_does 161 = .ok (.iconst 0, 1) := by decide +kernel
theorem dX7_does_162 : decode cX7_does 162 = .ok (.iaload, 1) := by decide +kernel
theorem dX7_does_163 : decode cX7_does 163 = .ok (.istore 4, 2) := by decide +kernel
theorem dX7_does_165 : decode cX7_does 165 = .ok (.aload_n 0, 1) := by decide +kernel
theorem dX7_does_166 : decode cX7_does 166 = .ok (.getfield 28, 3) := by decide +kernel
theorem dX7_does_169 : decode cX7_does 169 = .ok (.iconst 0, 1) := by decide +kernel
theorem dX7_does_170 : decode cX7_does 170 = .ok (.iaload, 1) := by decide +kernel
theorem dX7_does_171 : decode cX7_does 171 = .ok (.aload_n 0, 1) := by decide +kernel
theorem dX7_does_172 : decode cX7_does 172 = .ok (.getfield 28, 3) := by decide +kernel
theorem dX7_does_175 : decode cX7_does 175 = .ok (.iconst 1, 1) := by decide +kernel
theorem dX7_does_176 : decode cX7_does 176 = .ok (.iaload, 1) := by decide +kernel
theorem dX7_does_177 : decode cX7_does 177 = .ok (.if_icmp .ge 12, 3) := by decide +kernel
theorem dX7_does_180 : decode cX7_does 180 = .ok (.aload_n 0, 1) := by decide +kernel
theorem dX7_does_181 : decode cX7_does 181 = .ok (.getfield 28, 3) := by decide +kernel
theorem dX7_does_184 : decode cX7_does 184 = .ok (.iconst 0, 1) := by decide +kernel
theorem dX7_does_185 : decode cX7_does 185 = .ok (.iaload, 1) := by decide +kernel
theorem dX7_does_186 : decode cX7_does 186 = .ok (.goto 9, 3) := by decide +kernel
theorem dX7_does_189 : decode cX7_does 189 = .ok (.aload_n 0, 1) := by decide +kernel
theorem dX7_does_190 : decode cX7_does 190 = .ok (.getfield 28, 3) := by decide +kernel
theorem dX7_does_193 : decode cX7_does 193 = .ok (.iconst 1, 1) := by decide +kernel
theorem dX7_does_194 : decode cX7_does 194 = .ok (.iaload, 1) := by decide +kernel
theorem dX7_does_195 : decode cX7_does 195 = .ok (.istore_n 3, 1) := by decide +kernel
theorem dX7_does_196 : decode cX7_does 196 = .ok (.aload_n 0, 1) := by decide +kernel
theorem dX7_does_197 : decode cX7_does 197 = .ok (.iload_n 1, 1) := by decide +kernel
theorem dX7_does_198 : decode cX7_does 198 = .ok (.iload_n 3, 1) := by decide +kernel
theorem dX7_does_199 : decode cX7_does 199 = .ok (.iload 4, 2) := by decide +kernel
theorem dX7_does_201 : decode cX7_does 201 = .ok (.invokevirtual 80, 3) := by decide +kernel
theorem dX7_does_204 : decode cX7_does 204 = .ok (.istore_n 2, 1) := by decide +kernel
theorem dX7_does_205 : decode cX7_does 205 = .ok (.iload_n 2, 1) := by decide +kernel
theorem dX7_does_206 : decode cX7_does 206 = .ok (.ifCond .eq 7, 3) := by decide +kernel
theorem dX7_does_209 : decode cX7_does 209 = .ok (.iload_n 2, 1) := by decide +kernel
theorem dX7_does_210 : decode cX7_does 210 = .ok (.goto 11, 3) := by decide +kernel
theorem dX7_does_213 : decode cX7_does 213 = .ok (.aload_n 0, 1) := by decide +kernel
theorem dX7_does_214 : decode cX7_does 214 = .ok (.iload_n 1, 1) := by decide +kernel
theorem dX7_does_215 : decode cX7_does 215 = .ok (.iload_n 3, 1) := by decide +kernel
theorem dX7_does_216 : decode cX7_does 216 = .ok (.iload 4, 2) := by decide +kernel
theorem dX7_does_218 : decode cX7_does 218 = .ok (.invokevirtual 83, 3) := by decide +kernel
theorem dX7_does_221 : decode cX7_does 221 = .ok (.ireturn, 1) := by decide +kernel
theorem dX7_reasonOf_0 : decode cX7_reasonOf 0 = .ok (.aload_n 0, 1) := by decide +kernel
theorem dX7_reasonOf_1 : decode cX7_reasonOf 1 = .ok (.invokevirtual 229, 3) := by decide +kernel
theorem dX7_reasonOf_4 : decode cX7_reasonOf 4 = .ok (.ifCond .ne 5, 3) := by decide +kernel
theorem dX7_reasonOf_7 : decode cX7_reasonOf 7 = .ok (.iconst 1, 1) := by decide +kernel
theorem dX7_reasonOf_8 : decode cX7_reasonOf 8 = .ok (.ireturn, 1) := by decide +kernel
theorem dX7_reasonOf_9 : decode cX7_reasonOf 9 = .ok (.aload_n 0, 1) := by decide +kernel
theorem dX7_reasonOf_10 : decode cX7_reasonOf 10 = .ok (.invokevirtual 232, 3) := by decide +kernel
theorem dX7_reasonOf_13 : decode cX7_reasonOf 13 = .ok (.istore_n 1, 1) := by decide +kernel
theorem dX7_reasonOf_14 : decode cX7_reasonOf 14 = .ok (.aload_n 0, 1) := by decide +kernel
theorem dX7_reasonOf_15 : decode cX7_reasonOf 15 = .ok (.iload_n 1, 1) := by decide +kernel
theorem dX7_reasonOf_16 : decode cX7_reasonOf 16 = .ok (.invokevirtual 235, 3) := by decide +kernel
theorem dX7_reasonOf_19 : decode cX7_reasonOf 19 = .ok (.ifCond .ne 5, 3) := by decide +kernel
theorem dX7_reasonOf_22 : decode cX7_reasonOf 22 = .ok (.iconst 1, 1) := by decide +kernel
theorem dX7_reasonOf_23 : decode cX7_reasonOf 23 = .ok (.ireturn, 1) := by decide +kernel
theorem dX7_reasonOf_24 : decode cX7_reasonOf 24 = .ok (.aload_n 0, 1) := by decide +kernel
theorem dX7_reasonOf_25 : decode cX7_reasonOf 25 = .ok (.iload_n 1, 1) := by decide +kernel
theorem dX7_reasonOf_26 : decode cX7_reasonOf 26 = .ok (.invokevirtual 238, 3) := by decide +kernel
theorem dX7_reasonOf_29 : decode cX7_reasonOf 29 = .ok (.ifCond .ne 5, 3) := by decide +kernel
theorem dX7_reasonOf_32 : decode cX7_reasonOf 32 = .ok (.iconst 2, 1) := by decide +kernel
theorem dX7_reasonOf_33 : decode cX7_reasonOf 33 = .ok (.ireturn, 1) := by decide +kernel
theorem dX7_reasonOf_34 : decode cX7_reasonOf 34 = .ok (.aload_n 0, 1) := by decide +kernel
theorem dX7_reasonOf_35 : decode cX7_reasonOf 35 = .ok (.iload_n 1, 1) := by decide +kernel
theorem dX7_reasonOf_36 : decode cX7_reasonOf 36 = .ok (.invokevirtual 241, 3) := by decide +kernel
theorem dX7_reasonOf_39 : decode cX7_reasonOf 39 = .ok (.ifCond .ge 7, 3) := by decide +kernel
theorem dX7_reasonOf_42 : decode cX7_reasonOf 42 = .ok (.iconst 3, 1) := by decide +kernel
theorem dX7_reasonOf_43 : decode cX7_reasonOf 43 = .ok (.goto 4, 3) := by decide +kernel
theorem dX7_reasonOf_46 : decode cX7_reasonOf 46 = .ok (.iconst 0, 1) := by decide +kernel
theorem dX7_reasonOf_47 : decode cX7_reasonOf 47 = .ok (.ireturn, 1) := by decide +kernel
theorem dX7_goesThrough_0 : decode cX7_goesThrough 0 = .ok (.aload_n 0, 1) := by decide +kernel
theorem dX7_goesThrough_1 : decode cX7_goesThrough 1 = .ok (.iconst 0, 1) := by decide +kernel
theorem dX7_goesThrough_2 : decode cX7_goesThrough 2 = .ok (.putfield 244, 3) := by decide +kernel
theorem dX7_goesThrough_5 : decode cX7_goesThrough 5 = .ok (.aload_n 0, 1) := by decide +kernel
theorem dX7_goesThrough_6 : decode cX7_goesThrough 6 = .ok (.iconst (-1), 1) := by decide +kernel
theorem dX7_goesThrough_7 : decode cX7_goesThrough 7 = .ok (.putfield 247, 3) := by decide +kernel
theorem dX7_goesThrough_10 : decode cX7_goesThrough 10 = .ok (.aload_n 0, 1) := by decide +kernel
theorem dX7_goesThrough_11 : decode cX7_goesThrough 11 = .ok (.iconst 0, 1) := by decide +kernel
theorem dX7_goesThrough_12 : decode cX7_goesThrough 12 = .ok (.putfield 250, 3) := by decide +kernel
theorem dX7_goesThrough_15 : decode cX7_goesThrough 15 = .ok (.aload_n 0, 1) := by decide +kernel
theorem dX7_goesThrough_16 : decode cX7_goesThrough 16 = .ok (.iconst 0, 1) := by decide +kernel
theorem dX7_goesThrough_17 : decode cX7_goesThrough 17 = .ok (.putfield 194, 3) := by decide +kernel
theorem dX7_goesThrough_20 : decode cX7_goesThrough 20 = .ok (.aload_n 0, 1) := by decide +kernel
theorem dX7_goesThrough_21 : decode cX7_goesThrough 21 = .ok (.invokevirtual 213, 3) := by decide +kernel
theorem dX7_goesThrough_24 : decode cX7_goesThrough 24 = .ok (.aload_n 0, 1) := by decide +kernel
theorem dX7_goesThrough_25 : decode cX7_goesThrough 25 = .ok (.getfield 194, 3) := by decide +kernel
theorem dX7_goesThrough_28 : decode cX7_goesThrough 28 = .ok (.aload_n 0, 1) := by decide +kernel
theorem dX7_goesThrough_29 : decode cX7_goesThrough 29 = .ok (.getfield 191, 3) := by decide +kernel
theorem dX7_goesThrough_32 : decode cX7_goesThrough 32 = .ok (.if_icmp .ge 67, 3) := by decide +kernel
theorem dX7_goesThrough_35 : decode cX7_goesThrough 35 = .ok (.aload_n 0, 1) := by decide +kernel
theorem dX7_goesThrough_36 : decode cX7_goesThrough 36 = .ok (.getfield 250, 3) := by decide +kernel
theorem dX7_goesThrough_39 : decode cX7_goesThrough 39 = .ok (.ifCond .ne 60, 3) := by decide +kernel
theorem dX7_goesThrough_42 : decode cX7_goesThrough 42 = .ok (.aload_n 0, 1) := by decide +kernel
theorem dX7_goesThrough_43 : decode cX7_goesThrough 43 = .ok (.getfield 194, 3) := by decide +kernel
theorem dX7_goesThrough_46 : decode cX7_goesThrough 46 = .ok (.istore_n 1, 1) := by decide +kernel
theorem dX7_goesThrough_47 : decode cX7_goesThrough 47 = .ok (.aload_n 0, 1) := by decide +kernel
theorem dX7_goesThrough_48 : decode cX7_goesThrough 48 = .ok (.aload_n 0, 1) := by decide +kernel
theorem dX7_goesThrough_49 : decode cX7_goesThrough 49 = .ok (.invokevirtual 253, 3) := by decide +kernel
theorem dX7_goesThrough_52 : decode cX7_goesThrough 52 = .ok (.putfield 250, 3) := by decide +kernel
theorem dX7_goesThrough_55 : decode cX7_goesThrough 55 = .ok (.aload_n 0, 1) := by decide +kernel
theorem dX7_goesThrough_56 : decode cX7_goesThrough 56 = .ok (.aload_n 0, 1) := by decide +kernel
theorem dX7_goesThrough_57 : decode cX7_goesThrough 57 = .ok (.getfield 250, 3) := by decide +kernel
theorem dX7_goesThrough_60 : decode cX7_goesThrough 60 = .ok (.ifCond .ne 7, 3) := by decide +kernel
theorem dX7_goesThrough_63 : decode cX7_goesThrough 63 = .ok (.iconst (-1), 1) := by decide +kernel
theorem dX7_goesThrough_64 : decode cX7_goesThrough 64 = .ok (.goto 4, 3) := by decide +kernel
theorem dX7_goesThrough_67 : decode cX7_goesThrough 67 = .ok (.iload_n 1, 1) := by decide +kernel
theorem dX7_goesThrough_68 : decode cX7_goesThrough 68 = .ok (.putfield 247, 3) := by decide +kernel
theorem dX7_goesThrough_71 : decode cX7_goesThrough 71 = .ok (.aload_n 0, 1) := by decide +kernel
theorem dX7_goesThrough_72 : decode cX7_goesThrough 72 = .ok (.dup, 1) := by decide +kernel
theorem dX7_goesThrough_73 : decode cX7_goesThrough 73 = .ok (.getfield 244, 3) := by decide +kernel
theorem dX7_goesThrough_76 : decode cX7_goesThrough 76 = .ok (.aload_n 0, 1) := by decide +kernel
theorem dX7_goesThrough_77 : decode cX7_goesThrough 77 = .ok (.getfield 250, 3) := by decide +kernel
theorem dX7_goesThrough_80 : decode cX7_goesThrough 80 = .ok (.ifCond .ne 7, 3) := by decide +kernel
theorem dX7_goesThrough_83 : decode cX7_goesThrough 83 = .ok (.iconst 1, 1) := by decide +kernel
theorem dX7_goesThrough_84 : decode cX7_goesThrough 84 = .ok (.goto 4, 3) := by decide +kernel
theorem dX7_goesThrough_87 : decode cX7_goesThrough 87 = .ok (.iconst 0, 1) := by decide +kernel
theorem dX7_goesThrough_88 : decode cX7_goesThrough 88 = .ok (.iadd, 1) := by decide +kernel
theorem dX7_goesThrough_89 : decode cX7_goesThrough 89 = .ok (.putfield 244, 3) := by decide +kernel
theorem dX7_goesThrough_92 : decode cX7_goesThrough 92 = .ok (.aload_n 0, 1) := by decide +kernel
theorem dX7_goesThrough_93 : decode cX7_goesThrough 93 = .ok (.invokevirtual 213, 3) := by decide +kernel
theorem dX7_goesThrough_96 : decode cX7_goesThrough 96 = .ok (.goto (-72), 3) := by decide +kernel
theorem dX7_goesThrough_99 : decode cX7_goesThrough 99 = .ok (.return_, 1) := by decide +kernel
theorem dX7_triesAll_0 : decode cX7_triesAll 0 = .ok (.iconst 0, 1) := by decide +kernel
theorem dX7_triesAll_1 : decode cX7_triesAll 1 = .ok (.istore_n 1, 1) := by decide +kernel
theorem dX7_triesAll_2 : decode cX7_triesAll 2 = .ok (.iload_n 1, 1) := by decide +kernel
theorem dX7_triesAll_3 : decode cX7_triesAll 3 = .ok (.bipush 88, 2) := by decide +kernel
theorem dX7_triesAll_5 : decode cX7_triesAll 5 = .ok (.if_icmp .ge 21, 3) := by decide +kernel
theorem dX7_triesAll_8 : decode cX7_triesAll 8 = .ok (.aload_n 0, 1) := by decide +kernel
theorem dX7_triesAll_9 : decode cX7_triesAll 9 = .ok (.getfield 16, 3) := by decide +kernel
theorem dX7_triesAll_12 : decode cX7_triesAll 12 = .ok (.iload_n 1, 1) := by decide +kernel
theorem dX7_triesAll_13 : decode cX7_triesAll 13 = .ok (.aload_n 0, 1) := by decide +kernel
theorem dX7_triesAll_14 : decode cX7_triesAll 14 = .ok (.getfield 7, 3) := by decide +kernel
theorem dX7_triesAll_17 : decode cX7_triesAll 17 = .ok (.iload_n 1, 1) := by decide +kernel
theorem dX7_triesAll_18 : decode cX7_triesAll 18 = .ok (.iaload, 1) := by decide +kernel
theorem dX7_triesAll_19 : decode cX7_triesAll 19 = .ok (.iastore, 1) := by decide +kernel
theorem dX7_triesAll_20 : decode cX7_triesAll 20 = .ok (.iinc 1 1, 3) := by decide +kernel
theorem dX7_triesAll_23 : decode cX7_triesAll 23 = .ok (.goto (-21), 3) := by decide +kernel
theorem dX7_triesAll_26 : decode cX7_triesAll 26 = .ok (.aload_n 0, 1) := by decide +kernel
theorem dX7_triesAll_27 : decode cX7_triesAll 27 = .ok (.invokevirtual 256, 3) := by decide +kernel
theorem dX7_triesAll_30 : decode cX7_triesAll 30 = .ok (.iconst 0, 1) := by decide +kernel
theorem dX7_triesAll_31 : decode cX7_triesAll 31 = .ok (.istore_n 1, 1) := by decide +kernel
theorem dX7_triesAll_32 : decode cX7_triesAll 32 = .ok (.iload_n 1, 1) := by decide +kernel
theorem dX7_triesAll_33 : decode cX7_triesAll 33 = .ok (.bipush 88, 2) := by decide +kernel
theorem dX7_triesAll_35 : decode cX7_triesAll 35 = .ok (.if_icmp .ge 21, 3) := by decide +kernel
theorem dX7_triesAll_38 : decode cX7_triesAll 38 = .ok (.aload_n 0, 1) := by decide +kernel
theorem dX7_triesAll_39 : decode cX7_triesAll 39 = .ok (.getfield 7, 3) := by decide +kernel
theorem dX7_triesAll_42 : decode cX7_triesAll 42 = .ok (.iload_n 1, 1) := by decide +kernel
theorem dX7_triesAll_43 : decode cX7_triesAll 43 = .ok (.aload_n 0, 1) := by decide +kernel
theorem dX7_triesAll_44 : decode cX7_triesAll 44 = .ok (.getfield 16, 3) := by decide +kernel
theorem dX7_triesAll_47 : decode cX7_triesAll 47 = .ok (.iload_n 1, 1) := by decide +kernel
theorem dX7_triesAll_48 : decode cX7_triesAll 48 = .ok (.iaload, 1) := by decide +kernel
theorem dX7_triesAll_49 : decode cX7_triesAll 49 = .ok (.iastore, 1) := by decide +kernel
theorem dX7_triesAll_50 : decode cX7_triesAll 50 = .ok (.iinc 1 1, 3) := by decide +kernel
theorem dX7_triesAll_53 : decode cX7_triesAll 53 = .ok (.goto (-21), 3) := by decide +kernel
theorem dX7_triesAll_56 : decode cX7_triesAll 56 = .ok (.return_, 1) := by decide +kernel
theorem dX7_place_0 : decode cX7_place 0 = .ok (.iload_n 1, 1) := by decide +kernel
theorem dX7_place_1 : decode cX7_place 1 = .ok (.iconst 0, 1) := by decide +kernel
theorem dX7_place_2 : decode cX7_place 2 = .ok (.iconst 1, 1) := by decide +kernel
theorem dX7_place_3 : decode cX7_place 3 = .ok (.invokestatic 45, 3) := by decide +kernel
theorem dX7_place_6 : decode cX7_place 6 = .ok (.ifCond .ne 6, 3) := by decide +kernel
theorem dX7_place_9 : decode cX7_place 9 = .ok (.ldc 53, 2) := by decide +kernel
theorem dX7_place_11 : decode cX7_place 11 = .ok (.ireturn, 1) := by decide +kernel
theorem dX7_place_12 : decode cX7_place 12 = .ok (.aload_n 0, 1) := by decide +kernel
theorem dX7_place_13 : decode cX7_place 13 = .ok (.invokevirtual 259, 3) := by decide +kernel
theorem dX7_place_16 : decode cX7_place 16 = .ok (.aload_n 0, 1) := by decide +kernel
theorem dX7_place_17 : decode cX7_place 17 = .ok (.getfield 250, 3) := by decide +kernel
theorem dX7_place_20 : decode cX7_place 20 = .ok (.ifCond .ne 6, 3) := by decide +kernel
theorem dX7_place_23 : decode cX7_place 23 = .ok (.ldc 93, 2) := by decide +kernel
theorem dX7_place_25 : decode cX7_place 25 = .ok (.ireturn, 1) := by decide +kernel
theorem dX7_place_26 : decode cX7_place 26 = .ok (.iload_n 1, 1) := by decide +kernel
theorem dX7_place_27 : decode cX7_place 27 = .ok (.ifCond .ne 10, 3) := by decide +kernel
theorem dX7_place_30 : decode cX7_place 30 = .ok (.aload_n 0, 1) := by decide +kernel
theorem dX7_place_31 : decode cX7_place 31 = .ok (.getfield 247, 3) := by decide +kernel
theorem dX7_place_34 : decode cX7_place 34 = .ok (.goto 7, 3) := by decide +kernel
theorem dX7_place_37 : decode cX7_place 37 = .ok (.aload_n 0, 1) := by decide +kernel
theorem dX7_place_38 : decode cX7_place 38 = .ok (.getfield 250, 3) := by decide +kernel
theorem dX7_place_41 : decode cX7_place 41 = .ok (.ireturn, 1) := by decide +kernel
theorem dX7_run_0 : decode cX7_run 0 = .ok (.aload_n 0, 1) := by decide +kernel
theorem dX7_run_1 : decode cX7_run 1 = .ok (.invokevirtual 259, 3) := by decide +kernel
theorem dX7_run_4 : decode cX7_run 4 = .ok (.aload_n 0, 1) := by decide +kernel
theorem dX7_run_5 : decode cX7_run 5 = .ok (.getfield 250, 3) := by decide +kernel
theorem dX7_run_8 : decode cX7_run 8 = .ok (.ifCond .eq 6, 3) := by decide +kernel
theorem dX7_run_11 : decode cX7_run 11 = .ok (.ldc 35, 2) := by decide +kernel
theorem dX7_run_13 : decode cX7_run 13 = .ok (.ireturn, 1) := by decide +kernel
theorem dX7_run_14 : decode cX7_run 14 = .ok (.aload_n 0, 1) := by decide +kernel
theorem dX7_run_15 : decode cX7_run 15 = .ok (.invokevirtual 61, 3) := by decide +kernel
theorem dX7_run_18 : decode cX7_run 18 = .ok (.aload_n 0, 1) := by decide +kernel
theorem dX7_run_19 : decode cX7_run 19 = .ok (.invokevirtual 256, 3) := by decide +kernel
theorem dX7_run_22 : decode cX7_run 22 = .ok (.aload_n 0, 1) := by decide +kernel
theorem dX7_run_23 : decode cX7_run 23 = .ok (.getfield 244, 3) := by decide +kernel
theorem dX7_run_26 : decode cX7_run 26 = .ok (.ireturn, 1) := by decide +kernel
theorem dJ6_bitCount_0f7a4_0 : decode cJ6_bitCount_0f7a4 0 = .ok (.iload_n 0, 1) := by decide +kernel
theorem dJ6_bitCount_0f7a4_1 : decode cJ6_bitCount_0f7a4 1 = .ok (.iload_n 0, 1) := by decide +kernel
theorem dJ6_bitCount_0f7a4_2 : decode cJ6_bitCount_0f7a4 2 = .ok (.iconst 1, 1) := by decide +kernel
theorem dJ6_bitCount_0f7a4_3 : decode cJ6_bitCount_0f7a4 3 = .ok (.iushr, 1) := by decide +kernel
theorem dJ6_bitCount_0f7a4_4 : decode cJ6_bitCount_0f7a4 4 = .ok (.ldc_w 265, 3) := by decide +kernel
theorem dJ6_bitCount_0f7a4_7 : decode cJ6_bitCount_0f7a4 7 = .ok (.iand, 1) := by decide +kernel
theorem dJ6_bitCount_0f7a4_8 : decode cJ6_bitCount_0f7a4 8 = .ok (.isub, 1) := by decide +kernel
theorem dJ6_bitCount_0f7a4_9 : decode cJ6_bitCount_0f7a4 9 = .ok (.istore_n 0, 1) := by decide +kernel
theorem dJ6_bitCount_0f7a4_10 : decode cJ6_bitCount_0f7a4 10 = .ok (.iload_n 0, 1) := by decide +kernel
theorem dJ6_bitCount_0f7a4_11 : decode cJ6_bitCount_0f7a4 11 = .ok (.ldc_w 266, 3) := by decide +kernel
theorem dJ6_bitCount_0f7a4_14 : decode cJ6_bitCount_0f7a4 14 = .ok (.iand, 1) := by decide +kernel
theorem dJ6_bitCount_0f7a4_15 : decode cJ6_bitCount_0f7a4 15 = .ok (.iload_n 0, 1) := by decide +kernel
theorem dJ6_bitCount_0f7a4_16 : decode cJ6_bitCount_0f7a4 16 = .ok (.iconst 2, 1) := by decide +kernel
theorem dJ6_bitCount_0f7a4_17 : decode cJ6_bitCount_0f7a4 17 = .ok (.iushr, 1) := by decide +kernel
theorem dJ6_bitCount_0f7a4_18 : decode cJ6_bitCount_0f7a4 18 = .ok (.ldc_w 266, 3) := by decide +kernel
theorem dJ6_bitCount_0f7a4_21 : decode cJ6_bitCount_0f7a4 21 = .ok (.iand, 1) := by decide +kernel
theorem dJ6_bitCount_0f7a4_22 : decode cJ6_bitCount_0f7a4 22 = .ok (.iadd, 1) := by decide +kernel
theorem dJ6_bitCount_0f7a4_23 : decode cJ6_bitCount_0f7a4 23 = .ok (.istore_n 0, 1) := by decide +kernel
theorem dJ6_bitCount_0f7a4_24 : decode cJ6_bitCount_0f7a4 24 = .ok (.iload_n 0, 1) := by decide +kernel
theorem dJ6_bitCount_0f7a4_25 : decode cJ6_bitCount_0f7a4 25 = .ok (.iload_n 0, 1) := by decide +kernel
theorem dJ6_bitCount_0f7a4_26 : decode cJ6_bitCount_0f7a4 26 = .ok (.iconst 4, 1) := by decide +kernel
theorem dJ6_bitCount_0f7a4_27 : decode cJ6_bitCount_0f7a4 27 = .ok (.iushr, 1) := by decide +kernel
theorem dJ6_bitCount_0f7a4_28 : decode cJ6_bitCount_0f7a4 28 = .ok (.iadd, 1) := by decide +kernel
theorem dJ6_bitCount_0f7a4_29 : decode cJ6_bitCount_0f7a4 29 = .ok (.ldc_w 267, 3) := by decide +kernel
theorem dJ6_bitCount_0f7a4_32 : decode cJ6_bitCount_0f7a4 32 = .ok (.iand, 1) := by decide +kernel
theorem dJ6_bitCount_0f7a4_33 : decode cJ6_bitCount_0f7a4 33 = .ok (.istore_n 0, 1) := by decide +kernel
theorem dJ6_bitCount_0f7a4_34 : decode cJ6_bitCount_0f7a4 34 = .ok (.iload_n 0, 1) := by decide +kernel
theorem dJ6_bitCount_0f7a4_35 : decode cJ6_bitCount_0f7a4 35 = .ok (.iload_n 0, 1) := by decide +kernel
theorem dJ6_bitCount_0f7a4_36 : decode cJ6_bitCount_0f7a4 36 = .ok (.bipush 8, 2) := by decide +kernel
theorem dJ6_bitCount_0f7a4_38 : decode cJ6_bitCount_0f7a4 38 = .ok (.iushr, 1) := by decide +kernel
theorem dJ6_bitCount_0f7a4_39 : decode cJ6_bitCount_0f7a4 39 = .ok (.iadd, 1) := by decide +kernel
theorem dJ6_bitCount_0f7a4_40 : decode cJ6_bitCount_0f7a4 40 = .ok (.istore_n 0, 1) := by decide +kernel
theorem dJ6_bitCount_0f7a4_41 : decode cJ6_bitCount_0f7a4 41 = .ok (.iload_n 0, 1) := by decide +kernel
theorem dJ6_bitCount_0f7a4_42 : decode cJ6_bitCount_0f7a4 42 = .ok (.iload_n 0, 1) := by decide +kernel
theorem dJ6_bitCount_0f7a4_43 : decode cJ6_bitCount_0f7a4 43 = .ok (.bipush 16, 2) := by decide +kernel
theorem dJ6_bitCount_0f7a4_45 : decode cJ6_bitCount_0f7a4 45 = .ok (.iushr, 1) := by decide +kernel
theorem dJ6_bitCount_0f7a4_46 : decode cJ6_bitCount_0f7a4 46 = .ok (.iadd, 1) := by decide +kernel
theorem dJ6_bitCount_0f7a4_47 : decode cJ6_bitCount_0f7a4 47 = .ok (.istore_n 0, 1) := by decide +kernel
theorem dJ6_bitCount_0f7a4_48 : decode cJ6_bitCount_0f7a4 48 = .ok (.iload_n 0, 1) := by decide +kernel
theorem dJ6_bitCount_0f7a4_49 : decode cJ6_bitCount_0f7a4 49 = .ok (.bipush 63, 2) := by decide +kernel
theorem dJ6_bitCount_0f7a4_51 : decode cJ6_bitCount_0f7a4 51 = .ok (.iand, 1) := by decide +kernel
theorem dJ6_bitCount_0f7a4_52 : decode cJ6_bitCount_0f7a4 52 = .ok (.ireturn, 1) := by decide +kernel
theorem dJ9_max_7cf53_0 : decode cJ9_max_7cf53 0 = .ok (.iload_n 0, 1) := by decide +kernel
theorem dJ9_max_7cf53_1 : decode cJ9_max_7cf53 1 = .ok (.iload_n 1, 1) := by decide +kernel
theorem dJ9_max_7cf53_2 : decode cJ9_max_7cf53 2 = .ok (.if_icmp .lt 7, 3) := by decide +kernel
theorem dJ9_max_7cf53_5 : decode cJ9_max_7cf53 5 = .ok (.iload_n 0, 1) := by decide +kernel
theorem dJ9_max_7cf53_6 : decode cJ9_max_7cf53 6 = .ok (.goto 4, 3) := by decide +kernel
theorem dJ9_max_7cf53_9 : decode cJ9_max_7cf53 9 = .ok (.iload_n 1, 1) := by decide +kernel
theorem dJ9_max_7cf53_10 : decode cJ9_max_7cf53 10 = .ok (.ireturn, 1) := by decide +kernel
theorem dJ9_min_7cf53_0 : decode cJ9_min_7cf53 0 = .ok (.iload_n 0, 1) := by decide +kernel
theorem dJ9_min_7cf53_1 : decode cJ9_min_7cf53 1 = .ok (.iload_n 1, 1) := by decide +kernel
theorem dJ9_min_7cf53_2 : decode cJ9_min_7cf53 2 = .ok (.if_icmp .gt 7, 3) := by decide +kernel
theorem dJ9_min_7cf53_5 : decode cJ9_min_7cf53 5 = .ok (.iload_n 0, 1) := by decide +kernel
theorem dJ9_min_7cf53_6 : decode cJ9_min_7cf53 6 = .ok (.goto 4, 3) := by decide +kernel
theorem dJ9_min_7cf53_9 : decode cJ9_min_7cf53 9 = .ok (.iload_n 1, 1) := by decide +kernel
theorem dJ9_min_7cf53_10 : decode cJ9_min_7cf53 10 = .ok (.ireturn, 1) := by decide +kernel
theorem dJ0_length_8abf5_0 : decode cJ0_length_8abf5 0 = .ok (.aload_n 0, 1) := by decide +kernel
theorem dJ0_length_8abf5_1 : decode cJ0_length_8abf5 1 = .ok (.getfield 9, 3) := by decide +kernel
theorem dJ0_length_8abf5_4 : decode cJ0_length_8abf5 4 = .ok (.arraylength, 1) := by decide +kernel
theorem dJ0_length_8abf5_5 : decode cJ0_length_8abf5 5 = .ok (.aload_n 0, 1) := by decide +kernel
theorem dJ0_length_8abf5_6 : decode cJ0_length_8abf5 6 = .ok (.invokevirtual 335, 3) := by decide +kernel
theorem dJ0_length_8abf5_9 : decode cJ0_length_8abf5 9 = .ok (.ishr, 1) := by decide +kernel
theorem dJ0_length_8abf5_10 : decode cJ0_length_8abf5 10 = .ok (.ireturn, 1) := by decide +kernel
theorem dJ0_charAt_5068e_0 : decode cJ0_charAt_5068e 0 = .ok (.aload_n 0, 1) := by decide +kernel
theorem dJ0_charAt_5068e_1 : decode cJ0_charAt_5068e 1 = .ok (.invokevirtual 492, 3) := by decide +kernel
theorem dJ0_charAt_5068e_4 : decode cJ0_charAt_5068e 4 = .ok (.ifCond .eq 12, 3) := by decide +kernel
theorem dJ0_charAt_5068e_7 : decode cJ0_charAt_5068e 7 = .ok (.aload_n 0, 1) := by decide +kernel
theorem dJ0_charAt_5068e_8 : decode cJ0_charAt_5068e 8 = .ok (.getfield 9, 3) := by decide +kernel
theorem dJ0_charAt_5068e_11 : decode cJ0_charAt_5068e 11 = .ok (.iload_n 1, 1) := by decide +kernel
theorem dJ0_charAt_5068e_12 : decode cJ0_charAt_5068e 12 = .ok (.invokestatic 495, 3) := by decide +kernel
theorem dJ0_charAt_5068e_15 : decode cJ0_charAt_5068e 15 = .ok (.ireturn, 1) := by decide +kernel
theorem dJ0_charAt_5068e_16 : decode cJ0_charAt_5068e 16 = .ok (.aload_n 0, 1) := by decide +kernel
theorem dJ0_charAt_5068e_17 : decode cJ0_charAt_5068e 17 = .ok (.getfield 9, 3) := by decide +kernel
theorem dJ0_charAt_5068e_20 : decode cJ0_charAt_5068e 20 = .ok (.iload_n 1, 1) := by decide +kernel
theorem dJ0_charAt_5068e_21 : decode cJ0_charAt_5068e 21 = .ok (.invokestatic 498, 3) := by decide +kernel
theorem dJ0_charAt_5068e_24 : decode cJ0_charAt_5068e 24 = .ok (.ireturn, 1) := by decide +kernel
theorem dJ0_coder_7d493_0 : decode cJ0_coder_7d493 0 = .ok (.getstatic 38, 3) := by decide +kernel
theorem dJ0_coder_7d493_3 : decode cJ0_coder_7d493 3 = .ok (.ifCond .eq 10, 3) := by decide +kernel
theorem dJ0_coder_7d493_6 : decode cJ0_coder_7d493 6 = .ok (.aload_n 0, 1) := by decide +kernel
theorem dJ0_coder_7d493_7 : decode cJ0_coder_7d493 7 = .ok (.getfield 15, 3) := by decide +kernel
theorem dJ0_coder_7d493_10 : decode cJ0_coder_7d493 10 = .ok (.goto 4, 3) := by decide +kernel
theorem dJ0_coder_7d493_13 : decode cJ0_coder_7d493 13 = .ok (.iconst 1, 1) := by decide +kernel
theorem dJ0_coder_7d493_14 : decode cJ0_coder_7d493 14 = .ok (.ireturn, 1) := by decide +kernel
theorem dJ0_isLatin1_aae02_0 : decode cJ0_isLatin1_aae02 0 = .ok (.getstatic 38, 3) := by decide +kernel
theorem dJ0_isLatin1_aae02_3 : decode cJ0_isLatin1_aae02 3 = .ok (.ifCond .eq 14, 3) := by decide +kernel
theorem dJ0_isLatin1_aae02_6 : decode cJ0_isLatin1_aae02 6 = .ok (.aload_n 0, 1) := by decide +kernel
theorem dJ0_isLatin1_aae02_7 : decode cJ0_isLatin1_aae02 7 = .ok (.getfield 15, 3) := by decide +kernel
theorem dJ0_isLatin1_aae02_10 : decode cJ0_isLatin1_aae02 10 = .ok (.ifCond .ne 7, 3) := by decide +kernel
theorem dJ0_isLatin1_aae02_13 : decode cJ0_isLatin1_aae02 13 = .ok (.iconst 1, 1) := by decide +kernel
theorem dJ0_isLatin1_aae02_14 : decode cJ0_isLatin1_aae02 14 = .ok (.goto 4, 3) := by decide +kernel
theorem dJ0_isLatin1_aae02_17 : decode cJ0_isLatin1_aae02 17 = .ok (.iconst 0, 1) := by decide +kernel
theorem dJ0_isLatin1_aae02_18 : decode cJ0_isLatin1_aae02 18 = .ok (.ireturn, 1) := by decide +kernel
theorem dJ0_checkIndex_df160_0 : decode cJ0_checkIndex_df160 0 = .ok (.iload_n 0, 1) := by decide +kernel
theorem dJ0_checkIndex_df160_1 : decode cJ0_checkIndex_df160 1 = .ok (.iload_n 1, 1) := by decide +kernel
theorem dJ0_checkIndex_df160_2 : decode cJ0_checkIndex_df160 2 = .ok (.getstatic 1053, 3) := by decide +kernel
theorem dJ0_checkIndex_df160_5 : decode cJ0_checkIndex_df160 5 = .ok (.invokestatic 1059, 3) := by decide +kernel
theorem dJ0_checkIndex_df160_8 : decode cJ0_checkIndex_df160 8 = .ok (.pop, 1) := by decide +kernel
theorem dJ0_checkIndex_df160_9 : decode cJ0_checkIndex_df160 9 = .ok (.return_, 1) := by decide +kernel
theorem dJ1_charAt_3b067_0 : decode cJ1_charAt_3b067 0 = .ok (.iload_n 1, 1) := by decide +kernel
theorem dJ1_charAt_3b067_1 : decode cJ1_charAt_3b067 1 = .ok (.aload_n 0, 1) := by decide +kernel
theorem dJ1_charAt_3b067_2 : decode cJ1_charAt_3b067 2 = .ok (.arraylength, 1) := by decide +kernel
theorem dJ1_charAt_3b067_3 : decode cJ1_charAt_3b067 3 = .ok (.invokestatic 9, 3) := by decide +kernel
theorem dJ1_charAt_3b067_6 : decode cJ1_charAt_3b067 6 = .ok (.aload_n 0, 1) := by decide +kernel
theorem dJ1_charAt_3b067_7 : decode cJ1_charAt_3b067 7 = .ok (.iload_n 1, 1) := by decide +kernel
theorem dJ1_charAt_3b067_8 : decode cJ1_charAt_3b067 8 = .ok (.baload, 1) := by decide +kernel
theorem dJ1_charAt_3b067_9 : decode cJ1_charAt_3b067 9 = .ok (.sipush 255, 3) := by decide +kernel
theorem dJ1_charAt_3b067_12 : decode cJ1_charAt_3b067 12 = .ok (.iand, 1) := by decide +kernel
theorem dJ1_charAt_3b067_13 : decode cJ1_charAt_3b067 13 = .ok (.i2c, 1) := by decide +kernel
theorem dJ1_charAt_3b067_14 : decode cJ1_charAt_3b067 14 = .ok (.ireturn, 1) := by decide +kernel
theorem dJ2_getChar_3b067_0 : decode cJ2_getChar_3b067 0 = .ok (.getstatic 44, 3) := by decide +kernel
theorem dJ2_getChar_3b067_3 : decode cJ2_getChar_3b067 3 = .ok (.ifCond .ne 25, 3) := by decide +kernel
theorem dJ2_getChar_3b067_6 : decode cJ2_getChar_3b067 6 = .ok (.iload_n 1, 1) := by decide +kernel
theorem dJ2_getChar_3b067_7 : decode cJ2_getChar_3b067 7 = .ok (.ifCond .lt 11, 3) := by decide +kernel
theorem dJ2_getChar_3b067_10 : decode cJ2_getChar_3b067 10 = .ok (.iload_n 1, 1) := by decide +kernel
theorem dJ2_getChar_3b067_11 : decode cJ2_getChar_3b067 11 = .ok (.aload_n 0, 1) := by decide +kernel
theorem dJ2_getChar_3b067_12 : decode cJ2_getChar_3b067 12 = .ok (.invokestatic 48, 3) := by decide +kernel
theorem dJ2_getChar_3b067_15 : decode cJ2_getChar_3b067 15 = .ok (.if_icmp .lt 13, 3) := by decide +kernel
theorem dJ2_getChar_3b067_18 : decode cJ2_getChar_3b067 18 = .ok (.new 52, 3) := by decide +kernel
theorem dJ2_getChar_3b067_21 : decode cJ2_getChar_3b067 21 = .ok (.dup, 1) := by decide +kernel
theorem dJ2_getChar_3b067_22 : decode cJ2_getChar_3b067 22 = .ok (.ldc 54, 2) := by decide +kernel
theorem dJ2_getChar_3b067_24 : decode cJ2_getChar_3b067 24 = .ok (.invokespecial 56, 3) := by decide +kernel
theorem dJ2_getChar_3b067_27 : decode cJ2_getChar_3b067 27 = .ok (.athrow, 1) := by decide +kernel
theorem dJ2_getChar_3b067_28 : decode cJ2_getChar_3b067 28 = .ok (.iload_n 1, 1) := by decide +kernel
theorem dJ2_getChar_3b067_29 : decode cJ2_getChar_3b067 29 = .ok (.iconst 1, 1) := by decide +kernel
theorem dJ2_getChar_3b067_30 : decode cJ2_getChar_3b067 30 = .ok (.ishl, 1) := by decide +kernel
theorem dJ2_getChar_3b067_31 : decode cJ2_getChar_3b067 31 = .ok (.istore_n 1, 1) := by decide +kernel
theorem dJ2_getChar_3b067_32 : decode cJ2_getChar_3b067 32 = .ok (.aload_n 0, 1) := by decide +kernel
theorem dJ2_getChar_3b067_33 : decode cJ2_getChar_3b067 33 = .ok (.iload_n 1, 1) := by decide +kernel
theorem dJ2_getChar_3b067_34 : decode cJ2_getChar_3b067 34 = .ok (.iinc 1 1, 3) := by decide +kernel
theorem dJ2_getChar_3b067_37 : decode cJ2_getChar_3b067 37 = .ok (.baload, 1) := by decide +kernel
theorem dJ2_getChar_3b067_38 : decode cJ2_getChar_3b067 38 = .ok (.sipush 255, 3) := by decide +kernel
theorem dJ2_getChar_3b067_41 : decode cJ2_getChar_3b067 41 = .ok (.iand, 1) := by decide +kernel
theorem dJ2_getChar_3b067_42 : decode cJ2_getChar_3b067 42 = .ok (.getstatic 59, 3) := by decide +kernel
theorem dJ2_getChar_3b067_45 : decode cJ2_getChar_3b067 45 = .ok (.ishl, 1) := by decide +kernel
theorem dJ2_getChar_3b067_46 : decode cJ2_getChar_3b067 46 = .ok (.aload_n 0, 1) := by decide +kernel
theorem dJ2_getChar_3b067_47 : decode cJ2_getChar_3b067 47 = .ok (.iload_n 1, 1) := by decide +kernel
theorem dJ2_getChar_3b067_48 : decode cJ2_getChar_3b067 48 = .ok (.baload, 1) := by decide +kernel
theorem dJ2_getChar_3b067_49 : decode cJ2_getChar_3b067 49 = .ok (.sipush 255, 3) := by decide +kernel
theorem dJ2_getChar_3b067_52 : decode cJ2_getChar_3b067 52 = .ok (.iand, 1) := by decide +kernel
theorem dJ2_getChar_3b067_53 : decode cJ2_getChar_3b067 53 = .ok (.getstatic 63, 3) := by decide +kernel
theorem dJ2_getChar_3b067_56 : decode cJ2_getChar_3b067 56 = .ok (.ishl, 1) := by decide +kernel
theorem dJ2_getChar_3b067_57 : decode cJ2_getChar_3b067 57 = .ok (.ior, 1) := by decide +kernel
theorem dJ2_getChar_3b067_58 : decode cJ2_getChar_3b067 58 = .ok (.i2c, 1) := by decide +kernel
theorem dJ2_getChar_3b067_59 : decode cJ2_getChar_3b067 59 = .ok (.ireturn, 1) := by decide +kernel
theorem dJ2_length_9d52b_0 : decode cJ2_length_9d52b 0 = .ok (.aload_n 0, 1) := by decide +kernel
theorem dJ2_length_9d52b_1 : decode cJ2_length_9d52b 1 = .ok (.arraylength, 1) := by decide +kernel
theorem dJ2_length_9d52b_2 : decode cJ2_length_9d52b 2 = .ok (.iconst 1, 1) := by decide +kernel
theorem dJ2_length_9d52b_3 : decode cJ2_length_9d52b 3 = .ok (.ishr, 1) := by decide +kernel
theorem dJ2_length_9d52b_4 : decode cJ2_length_9d52b 4 = .ok (.ireturn, 1) := by decide +kernel
theorem dJ2_charAt_3b067_0 : decode cJ2_charAt_3b067 0 = .ok (.iload_n 1, 1) := by decide +kernel
theorem dJ2_charAt_3b067_1 : decode cJ2_charAt_3b067 1 = .ok (.aload_n 0, 1) := by decide +kernel
theorem dJ2_charAt_3b067_2 : decode cJ2_charAt_3b067 2 = .ok (.invokestatic 67, 3) := by decide +kernel
theorem dJ2_charAt_3b067_5 : decode cJ2_charAt_3b067 5 = .ok (.aload_n 0, 1) := by decide +kernel
theorem dJ2_charAt_3b067_6 : decode cJ2_charAt_3b067 6 = .ok (.iload_n 1, 1) := by decide +kernel
theorem dJ2_charAt_3b067_7 : decode cJ2_charAt_3b067 7 = .ok (.invokestatic 71, 3) := by decide +kernel
theorem dJ2_charAt_3b067_10 : decode cJ2_charAt_3b067 10 = .ok (.ireturn, 1) := by decide +kernel
theorem dJ2_checkIndex_2214a_0 : decode cJ2_checkIndex_2214a 0 = .ok (.iload_n 0, 1) := by decide +kernel
theorem dJ2_checkIndex_2214a_1 : decode cJ2_checkIndex_2214a 1 = .ok (.aload_n 1, 1) := by decide +kernel
theorem dJ2_checkIndex_2214a_2 : decode cJ2_checkIndex_2214a 2 = .ok (.invokestatic 48, 3) := by decide +kernel
theorem dJ2_checkIndex_2214a_5 : decode cJ2_checkIndex_2214a 5 = .ok (.invokestatic 414, 3) := by decide +kernel
theorem dJ2_checkIndex_2214a_8 : decode cJ2_checkIndex_2214a 8 = .ok (.return_, 1) := by decide +kernel
theorem dJ7_fill_53178_0 : decode cJ7_fill_53178 0 = .ok (.iconst 0, 1) := by decide +kernel
theorem dJ7_fill_53178_1 : decode cJ7_fill_53178 1 = .ok (.istore_n 2, 1) := by decide +kernel
theorem dJ7_fill_53178_2 : decode cJ7_fill_53178 2 = .ok (.aload_n 0, 1) := by decide +kernel
theorem dJ7_fill_53178_3 : decode cJ7_fill_53178 3 = .ok (.arraylength, 1) := by decide +kernel
theorem dJ7_fill_53178_4 : decode cJ7_fill_53178 4 = .ok (.istore_n 3, 1) := by decide +kernel
theorem dJ7_fill_53178_5 : decode cJ7_fill_53178 5 = .ok (.iload_n 2, 1) := by decide +kernel
theorem dJ7_fill_53178_6 : decode cJ7_fill_53178 6 = .ok (.iload_n 3, 1) := by decide +kernel
theorem dJ7_fill_53178_7 : decode cJ7_fill_53178 7 = .ok (.if_icmp .ge 13, 3) := by decide +kernel
theorem dJ7_fill_53178_10 : decode cJ7_fill_53178 10 = .ok (.aload_n 0, 1) := by decide +kernel
theorem dJ7_fill_53178_11 : decode cJ7_fill_53178 11 = .ok (.iload_n 2, 1) := by decide +kernel
theorem dJ7_fill_53178_12 : decode cJ7_fill_53178 12 = .ok (.iload_n 1, 1) := by decide +kernel
theorem dJ7_fill_53178_13 : decode cJ7_fill_53178 13 = .ok (.iastore, 1) := by decide +kernel
theorem dJ7_fill_53178_14 : decode cJ7_fill_53178 14 = .ok (.iinc 2 1, 3) := by decide +kernel
theorem dJ7_fill_53178_17 : decode cJ7_fill_53178 17 = .ok (.goto (-12), 3) := by decide +kernel
theorem dJ7_fill_53178_20 : decode cJ7_fill_53178 20 = .ok (.return_, 1) := by decide +kernel
theorem dJ3_checkIndex_8e157_0 : decode cJ3_checkIndex_8e157 0 = .ok (.iload_n 0, 1) := by decide +kernel
theorem dJ3_checkIndex_8e157_1 : decode cJ3_checkIndex_8e157 1 = .ok (.ifCond .lt 8, 3) := by decide +kernel
theorem dJ3_checkIndex_8e157_4 : decode cJ3_checkIndex_8e157 4 = .ok (.iload_n 0, 1) := by decide +kernel
theorem dJ3_checkIndex_8e157_5 : decode cJ3_checkIndex_8e157 5 = .ok (.iload_n 1, 1) := by decide +kernel
theorem dJ3_checkIndex_8e157_6 : decode cJ3_checkIndex_8e157 6 = .ok (.if_icmp .lt 10, 3) := by decide +kernel
theorem dJ3_checkIndex_8e157_9 : decode cJ3_checkIndex_8e157 9 = .ok (.aload_n 2, 1) := by decide +kernel
theorem dJ3_checkIndex_8e157_10 : decode cJ3_checkIndex_8e157 10 = .ok (.iload_n 0, 1) := by decide +kernel
theorem dJ3_checkIndex_8e157_11 : decode cJ3_checkIndex_8e157 11 = .ok (.iload_n 1, 1) := by decide +kernel
theorem dJ3_checkIndex_8e157_12 : decode cJ3_checkIndex_8e157 12 = .ok (.invokestatic 95, 3) := by decide +kernel
theorem dJ3_checkIndex_8e157_15 : decode cJ3_checkIndex_8e157 15 = .ok (.athrow, 1) := by decide +kernel
theorem dJ3_checkIndex_8e157_16 : decode cJ3_checkIndex_8e157 16 = .ok (.iload_n 0, 1) := by decide +kernel
theorem dJ3_checkIndex_8e157_17 : decode cJ3_checkIndex_8e157 17 = .ok (.ireturn, 1) := by decide +kernel
theorem dL_law_0 : decode cL_law 0 = .ok (.new 7, 3) := by decide +kernel
theorem dL_law_3 : decode cL_law 3 = .ok (.dup, 1) := by decide +kernel
theorem dL_law_4 : decode cL_law 4 = .ok (.invokespecial 9, 3) := by decide +kernel
theorem dL_law_7 : decode cL_law 7 = .ok (.astore_n 1, 1) := by decide +kernel
theorem dL_law_8 : decode cL_law 8 = .ok (.new 10, 3) := by decide +kernel
theorem dL_law_11 : decode cL_law 11 = .ok (.dup, 1) := by decide +kernel
theorem dL_law_12 : decode cL_law 12 = .ok (.invokespecial 12, 3) := by decide +kernel
theorem dL_law_15 : decode cL_law 15 = .ok (.astore_n 2, 1) := by decide +kernel
theorem dL_law_16 : decode cL_law 16 = .ok (.iconst 0, 1) := by decide +kernel
theorem dL_law_17 : decode cL_law 17 = .ok (.istore_n 3, 1) := by decide +kernel
theorem dL_law_18 : decode cL_law 18 = .ok (.iload_n 3, 1) := by decide +kernel
theorem dL_law_19 : decode cL_law 19 = .ok (.aload_n 0, 1) := by decide +kernel
theorem dL_law_20 : decode cL_law 20 = .ok (.arraylength, 1) := by decide +kernel
theorem dL_law_21 : decode cL_law 21 = .ok (.iconst 5, 1) := by decide +kernel
theorem dL_law_22 : decode cL_law 22 = .ok (.isub, 1) := by decide +kernel
theorem dL_law_23 : decode cL_law 23 = .ok (.if_icmp .gt 998, 3) := by decide +kernel
theorem dL_law_26 : decode cL_law 26 = .ok (.aload_n 0, 1) := by decide +kernel
theorem dL_law_27 : decode cL_law 27 = .ok (.iload_n 3, 1) := by decide +kernel
theorem dL_law_28 : decode cL_law 28 = .ok (.iaload, 1) := by decide +kernel
theorem dL_law_29 : decode cL_law 29 = .ok (.bipush 31, 2) := by decide +kernel
theorem dL_law_31 : decode cL_law 31 = .ok (.iand, 1) := by decide +kernel
theorem dL_law_32 : decode cL_law 32 = .ok (.tableswitch 983 0 30 #[140, 163, 206, 249, 282, 315, 348, 381, 414, 467, 490, 523, 546, 569, 602, 635, 678, 701, 724, 737, 760, 783, 806, 819, 842, 875, 898, 911, 934, 947, 970], 140) := by decide +kernel
theorem dL_law_172 : decode cL_law 172 = .ok (.aload_n 1, 1) := by decide +kernel
theorem dL_law_173 : decode cL_law 173 = .ok (.aload_n 0, 1) := by decide +kernel
theorem dL_law_174 : decode cL_law 174 = .ok (.iload_n 3, 1) := by decide +kernel
theorem dL_law_175 : decode cL_law 175 = .ok (.iconst 1, 1) := by decide +kernel
theorem dL_law_176 : decode cL_law 176 = .ok (.iadd, 1) := by decide +kernel
theorem dL_law_177 : decode cL_law 177 = .ok (.iaload, 1) := by decide +kernel
theorem dL_law_178 : decode cL_law 178 = .ok (.invokevirtual 13, 3) := by decide +kernel
theorem dL_law_181 : decode cL_law 181 = .ok (.aload_n 2, 1) := by decide +kernel
theorem dL_law_182 : decode cL_law 182 = .ok (.aload_n 0, 1) := by decide +kernel
theorem dL_law_183 : decode cL_law 183 = .ok (.iload_n 3, 1) := by decide +kernel
theorem dL_law_184 : decode cL_law 184 = .ok (.iconst 1, 1) := by decide +kernel
theorem dL_law_185 : decode cL_law 185 = .ok (.iadd, 1) := by decide +kernel
theorem dL_law_186 : decode cL_law 186 = .ok (.iaload, 1) := by decide +kernel
theorem dL_law_187 : decode cL_law 187 = .ok (.invokevirtual 17, 3) := by decide +kernel
theorem dL_law_190 : decode cL_law 190 = .ok (.if_icmp .eq 825, 3) := by decide +kernel
theorem dL_law_193 : decode cL_law 193 = .ok (.iconst 0, 1) := by decide +kernel
theorem dL_law_194 : decode cL_law 194 = .ok (.ireturn, 1) := by decide +kernel
theorem dL_law_195 : decode cL_law 195 = .ok (.aload_n 1, 1) := by decide +kernel
theorem dL_law_196 : decode cL_law 196 = .ok (.aload_n 0, 1) := by decide +kernel
theorem dL_law_197 : decode cL_law 197 = .ok (.iload_n 3, 1) := by decide +kernel
theorem dL_law_198 : decode cL_law 198 = .ok (.iconst 1, 1) := by decide +kernel
theorem dL_law_199 : decode cL_law 199 = .ok (.iadd, 1) := by decide +kernel
theorem dL_law_200 : decode cL_law 200 = .ok (.iaload, 1) := by decide +kernel
theorem dL_law_201 : decode cL_law 201 = .ok (.aload_n 0, 1) := by decide +kernel
theorem dL_law_202 : decode cL_law 202 = .ok (.iload_n 3, 1) := by decide +kernel
theorem dL_law_203 : decode cL_law 203 = .ok (.iconst 2, 1) := by decide +kernel
theorem dL_law_204 : decode cL_law 204 = .ok (.iadd, 1) := by decide +kernel
theorem dL_law_205 : decode cL_law 205 = .ok (.iaload, 1) := by decide +kernel
theorem dL_law_206 : decode cL_law 206 = .ok (.aload_n 0, 1) := by decide +kernel
theorem dL_law_207 : decode cL_law 207 = .ok (.iload_n 3, 1) := by decide +kernel
theorem dL_law_208 : decode cL_law 208 = .ok (.iconst 3, 1) := by decide +kernel
theorem dL_law_209 : decode cL_law 209 = .ok (.iadd, 1) := by decide +kernel
theorem dL_law_210 : decode cL_law 210 = .ok (.iaload, 1) := by decide +kernel
theorem dL_law_211 : decode cL_law 211 = .ok (.invokevirtual 18, 3) := by decide +kernel
theorem dL_law_214 : decode cL_law 214 = .ok (.aload_n 2, 1) := by decide +kernel
theorem dL_law_215 : decode cL_law 215 = .ok (.aload_n 0, 1) := by decide +kernel
theorem dL_law_216 : decode cL_law 216 = .ok (.iload_n 3, 1) := by decide +kernel
theorem dL_law_217 : decode cL_law 217 = .ok (.iconst 1, 1) := by decide +kernel
theorem dL_law_218 : decode cL_law 218 = .ok (.iadd, 1) := by decide +kernel
theorem dL_law_219 : decode cL_law 219 = .ok (.iaload, 1) := by decide +kernel
theorem dL_law_220 : decode cL_law 220 = .ok (.aload_n 0, 1) := by decide +kernel
theorem dL_law_221 : decode cL_law 221 = .ok (.iload_n 3, 1) := by decide +kernel
theorem dL_law_222 : decode cL_law 222 = .ok (.iconst 2, 1) := by decide +kernel
theorem dL_law_223 : decode cL_law 223 = .ok (.iadd, 1) := by decide +kernel
theorem dL_law_224 : decode cL_law 224 = .ok (.iaload, 1) := by decide +kernel
theorem dL_law_225 : decode cL_law 225 = .ok (.aload_n 0, 1) := by decide +kernel
theorem dL_law_226 : decode cL_law 226 = .ok (.iload_n 3, 1) := by decide +kernel
theorem dL_law_227 : decode cL_law 227 = .ok (.iconst 3, 1) := by decide +kernel
theorem dL_law_228 : decode cL_law 228 = .ok (.iadd, 1) := by decide +kernel
theorem dL_law_229 : decode cL_law 229 = .ok (.iaload, 1) := by decide +kernel
theorem dL_law_230 : decode cL_law 230 = .ok (.invokevirtual 22, 3) := by decide +kernel
theorem dL_law_233 : decode cL_law 233 = .ok (.if_icmp .eq 782, 3) := by decide +kernel
theorem dL_law_236 : decode cL_law 236 = .ok (.iconst 0, 1) := by decide +kernel
theorem dL_law_237 : decode cL_law 237 = .ok (.ireturn, 1) := by decide +kernel
theorem dL_law_238 : decode cL_law 238 = .ok (.aload_n 1, 1) := by decide +kernel
theorem dL_law_239 : decode cL_law 239 = .ok (.aload_n 0, 1) := by decide +kernel
theorem dL_law_240 : decode cL_law 240 = .ok (.iload_n 3, 1) := by decide +kernel
theorem dL_law_241 : decode cL_law 241 = .ok (.iconst 1, 1) := by decide +kernel
theorem dL_law_242 : decode cL_law 242 = .ok (.iadd, 1) := by decide +kernel
theorem dL_law_243 : decode cL_law 243 = .ok (.iaload, 1) := by decide +kernel
theorem dL_law_244 : decode cL_law 244 = .ok (.aload_n 0, 1) := by decide +kernel
theorem dL_law_245 : decode cL_law 245 = .ok (.iload_n 3, 1) := by decide +kernel
theorem dL_law_246 : decode cL_law 246 = .ok (.iconst 2, 1) := by decide +kernel
theorem dL_law_247 : decode cL_law 247 = .ok (.iadd, 1) := by decide +kernel
theorem dL_law_248 : decode cL_law 248 = .ok (.iaload, 1) := by decide +kernel
theorem dL_law_249 : decode cL_law 249 = .ok (.aload_n 0, 1) := by decide +kernel
theorem dL_law_250 : decode cL_law 250 = .ok (.iload_n 3, 1) := by decide +kernel
theorem dL_law_251 : decode cL_law 251 = .ok (.iconst 3, 1) := by decide +kernel
theorem dL_law_252 : decode cL_law 252 = .ok (.iadd, 1) := by decide +kernel
theorem dL_law_253 : decode cL_law 253 = .ok (.iaload, 1) := by decide +kernel
theorem dL_law_254 : decode cL_law 254 = .ok (.invokevirtual 23, 3) := by decide +kernel
theorem dL_law_257 : decode cL_law 257 = .ok (.aload_n 2, 1) := by decide +kernel
theorem dL_law_258 : decode cL_law 258 = .ok (.aload_n 0, 1) := by decide +kernel
theorem dL_law_259 : decode cL_law 259 = .ok (.iload_n 3, 1) := by decide +kernel
theorem dL_law_260 : decode cL_law 260 = .ok (.iconst 1, 1) := by decide +kernel
theorem dL_law_261 : decode cL_law 261 = .ok (.iadd, 1) := by decide +kernel
theorem dL_law_262 : decode cL_law 262 = .ok (.iaload, 1) := by decide +kernel
theorem dL_law_263 : decode cL_law 263 = .ok (.aload_n 0, 1) := by decide +kernel
theorem dL_law_264 : decode cL_law 264 = .ok (.iload_n 3, 1) := by decide +kernel
theorem dL_law_265 : decode cL_law 265 = .ok (.iconst 2, 1) := by decide +kernel
theorem dL_law_266 : decode cL_law 266 = .ok (.iadd, 1) := by decide +kernel
theorem dL_law_267 : decode cL_law 267 = .ok (.iaload, 1) := by decide +kernel
theorem dL_law_268 : decode cL_law 268 = .ok (.aload_n 0, 1) := by decide +kernel
theorem dL_law_269 : decode cL_law 269 = .ok (.iload_n 3, 1) := by decide +kernel
theorem dL_law_270 : decode cL_law 270 = .ok (.iconst 3, 1) := by decide +kernel
theorem dL_law_271 : decode cL_law 271 = .ok (.iadd, 1) := by decide +kernel
theorem dL_law_272 : decode cL_law 272 = .ok (.iaload, 1) := by decide +kernel
theorem dL_law_273 : decode cL_law 273 = .ok (.invokevirtual 26, 3) := by decide +kernel
theorem dL_law_276 : decode cL_law 276 = .ok (.if_icmp .eq 739, 3) := by decide +kernel
theorem dL_law_279 : decode cL_law 279 = .ok (.iconst 0, 1) := by decide +kernel
theorem dL_law_280 : decode cL_law 280 = .ok (.ireturn, 1) := by decide +kernel
theorem dL_law_281 : decode cL_law 281 = .ok (.aload_n 1, 1) := by decide +kernel
theorem dL_law_282 : decode cL_law 282 = .ok (.aload_n 0, 1) := by decide +kernel
theorem dL_law_283 : decode cL_law 283 = .ok (.iload_n 3, 1) := by decide +kernel
theorem dL_law_284 : decode cL_law 284 = .ok (.iconst 1, 1) := by decide +kernel
theorem dL_law_285 : decode cL_law 285 = .ok (.iadd, 1) := by decide +kernel
theorem dL_law_286 : decode cL_law 286 = .ok (.iaload, 1) := by decide +kernel
theorem dL_law_287 : decode cL_law 287 = .ok (.aload_n 0, 1) := by decide +kernel
theorem dL_law_288 : decode cL_law 288 = .ok (.iload_n 3, 1) := by decide +kernel
theorem dL_law_289 : decode cL_law 289 = .ok (.iconst 2, 1) := by decide +kernel
theorem dL_law_290 : decode cL_law 290 = .ok (.iadd, 1) := by decide +kernel
theorem dL_law_291 : decode cL_law 291 = .ok (.iaload, 1) := by decide +kernel
theorem dL_law_292 : decode cL_law 292 = .ok (.invokevirtual 27, 3) := by decide +kernel
theorem dL_law_295 : decode cL_law 295 = .ok (.aload_n 2, 1) := by decide +kernel
theorem dL_law_296 : decode cL_law 296 = .ok (.aload_n 0, 1) := by decide +kernel
theorem dL_law_297 : decode cL_law 297 = .ok (.iload_n 3, 1) := by decide +kernel
theorem dL_law_298 : decode cL_law 298 = .ok (.iconst 1, 1) := by decide +kernel
theorem dL_law_299 : decode cL_law 299 = .ok (.iadd, 1) := by decide +kernel
theorem dL_law_300 : decode cL_law 300 = .ok (.iaload, 1) := by decide +kernel
theorem dL_law_301 : decode cL_law 301 = .ok (.aload_n 0, 1) := by decide +kernel
theorem dL_law_302 : decode cL_law 302 = .ok (.iload_n 3, 1) := by decide +kernel
theorem dL_law_303 : decode cL_law 303 = .ok (.iconst 2, 1) := by decide +kernel
theorem dL_law_304 : decode cL_law 304 = .ok (.iadd, 1) := by decide +kernel
theorem dL_law_305 : decode cL_law 305 = .ok (.iaload, 1) := by decide +kernel
theorem dL_law_306 : decode cL_law 306 = .ok (.invokevirtual 31, 3) := by decide +kernel
theorem dL_law_309 : decode cL_law 309 = .ok (.if_icmp .eq 706, 3) := by decide +kernel
theorem dL_law_312 : decode cL_law 312 = .ok (.iconst 0, 1) := by decide +kernel
theorem dL_law_313 : decode cL_law 313 = .ok (.ireturn, 1) := by decide +kernel
theorem dL_law_314 : decode cL_law 314 = .ok (.aload_n 1, 1) := by decide +kernel
theorem dL_law_315 : decode cL_law 315 = .ok (.aload_n 0, 1) := by decide +kernel
theorem dL_law_316 : decode cL_law 316 = .ok (.iload_n 3, 1) := by decide +kernel
theorem dL_law_317 : decode cL_law 317 = .ok (.iconst 1, 1) := by decide +kernel
theorem dL_law_318 : decode cL_law 318 = .ok (.iadd, 1) := by decide +kernel
theorem dL_law_319 : decode cL_law 319 = .ok (.iaload, 1) := by decide +kernel
theorem dL_law_320 : decode cL_law 320 = .ok (.aload_n 0, 1) := by decide +kernel
theorem dL_law_321 : decode cL_law 321 = .ok (.iload_n 3, 1) := by decide +kernel
theorem dL_law_322 : decode cL_law 322 = .ok (.iconst 2, 1) := by decide +kernel
theorem dL_law_323 : decode cL_law 323 = .ok (.iadd, 1) := by decide +kernel
theorem dL_law_324 : decode cL_law 324 = .ok (.iaload, 1) := by decide +kernel
theorem dL_law_325 : decode cL_law 325 = .ok (.invokevirtual 32, 3) := by decide +kernel
theorem dL_law_328 : decode cL_law 328 = .ok (.aload_n 2, 1) := by decide +kernel
theorem dL_law_329 : decode cL_law 329 = .ok (.aload_n 0, 1) := by decide +kernel
theorem dL_law_330 : decode cL_law 330 = .ok (.iload_n 3, 1) := by decide +kernel
theorem dL_law_331 : decode cL_law 331 = .ok (.iconst 1, 1) := by decide +kernel
theorem dL_law_332 : decode cL_law 332 = .ok (.iadd, 1) := by decide +kernel
theorem dL_law_333 : decode cL_law 333 = .ok (.iaload, 1) := by decide +kernel
theorem dL_law_334 : decode cL_law 334 = .ok (.aload_n 0, 1) := by decide +kernel
theorem dL_law_335 : decode cL_law 335 = .ok (.iload_n 3, 1) := by decide +kernel
theorem dL_law_336 : decode cL_law 336 = .ok (.iconst 2, 1) := by decide +kernel
theorem dL_law_337 : decode cL_law 337 = .ok (.iadd, 1) := by decide +kernel
theorem dL_law_338 : decode cL_law 338 = .ok (.iaload, 1) := by decide +kernel
theorem dL_law_339 : decode cL_law 339 = .ok (.invokevirtual 35, 3) := by decide +kernel
theorem dL_law_342 : decode cL_law 342 = .ok (.if_icmp .eq 673, 3) := by decide +kernel
theorem dL_law_345 : decode cL_law 345 = .ok (.iconst 0, 1) := by decide +kernel
theorem dL_law_346 : decode cL_law 346 = .ok (.ireturn, 1) := by decide +kernel
theorem dL_law_347 : decode cL_law 347 = .ok (.aload_n 1, 1) := by decide +kernel
theorem dL_law_348 : decode cL_law 348 = .ok (.aload_n 0, 1) := by decide +kernel
theorem dL_law_349 : decode cL_law 349 = .ok (.iload_n 3, 1) := by decide +kernel
theorem dL_law_350 : decode cL_law 350 = .ok (.iconst 1, 1) := by decide +kernel
theorem dL_law_351 : decode cL_law 351 = .ok (.iadd, 1) := by decide +kernel
theorem dL_law_352 : decode cL_law 352 = .ok (.iaload, 1) := by decide +kernel
theorem dL_law_353 : decode cL_law 353 = .ok (.aload_n 0, 1) := by decide +kernel
theorem dL_law_354 : decode cL_law 354 = .ok (.iload_n 3, 1) := by decide +kernel
theorem dL_law_355 : decode cL_law 355 = .ok (.iconst 2, 1) := by decide +kernel
theorem dL_law_356 : decode cL_law 356 = .ok (.iadd, 1) := by decide +kernel
theorem dL_law_357 : decode cL_law 357 = .ok (.iaload, 1) := by decide +kernel
theorem dL_law_358 : decode cL_law 358 = .ok (.invokevirtual 36, 3) := by decide +kernel
theorem dL_law_361 : decode cL_law 361 = .ok (.aload_n 2, 1) := by decide +kernel
theorem dL_law_362 : decode cL_law 362 = .ok (.aload_n 0, 1) := by decide +kernel
theorem dL_law_363 : decode cL_law 363 = .ok (.iload_n 3, 1) := by decide +kernel
theorem dL_law_364 : decode cL_law 364 = .ok (.iconst 1, 1) := by decide +kernel
theorem dL_law_365 : decode cL_law 365 = .ok (.iadd, 1) := by decide +kernel
theorem dL_law_366 : decode cL_law 366 = .ok (.iaload, 1) := by decide +kernel
theorem dL_law_367 : decode cL_law 367 = .ok (.aload_n 0, 1) := by decide +kernel
theorem dL_law_368 : decode cL_law 368 = .ok (.iload_n 3, 1) := by decide +kernel
theorem dL_law_369 : decode cL_law 369 = .ok (.iconst 2, 1) := by decide +kernel
theorem dL_law_370 : decode cL_law 370 = .ok (.iadd, 1) := by decide +kernel
theorem dL_law_371 : decode cL_law 371 = .ok (.iaload, 1) := by decide +kernel
theorem dL_law_372 : decode cL_law 372 = .ok (.invokevirtual 39, 3) := by decide +kernel
theorem dL_law_375 : decode cL_law 375 = .ok (.if_icmp .eq 640, 3) := by decide +kernel
theorem dL_law_378 : decode cL_law 378 = .ok (.iconst 0, 1) := by decide +kernel
theorem dL_law_379 : decode cL_law 379 = .ok (.ireturn, 1) := by decide +kernel
theorem dL_law_380 : decode cL_law 380 = .ok (.aload_n 1, 1) := by decide +kernel
theorem dL_law_381 : decode cL_law 381 = .ok (.aload_n 0, 1) := by decide +kernel
theorem dL_law_382 : decode cL_law 382 = .ok (.iload_n 3, 1) := by decide +kernel
theorem dL_law_383 : decode cL_law 383 = .ok (.iconst 1, 1) := by decide +kernel
theorem dL_law_384 : decode cL_law 384 = .ok (.iadd, 1) := by decide +kernel
theorem dL_law_385 : decode cL_law 385 = .ok (.iaload, 1) := by decide +kernel
theorem dL_law_386 : decode cL_law 386 = .ok (.aload_n 0, 1) := by decide +kernel
theorem dL_law_387 : decode cL_law 387 = .ok (.iload_n 3, 1) := by decide +kernel
theorem dL_law_388 : decode cL_law 388 = .ok (.iconst 2, 1) := by decide +kernel
theorem dL_law_389 : decode cL_law 389 = .ok (.iadd, 1) := by decide +kernel
theorem dL_law_390 : decode cL_law 390 = .ok (.iaload, 1) := by decide +kernel
theorem dL_law_391 : decode cL_law 391 = .ok (.invokevirtual 40, 3) := by decide +kernel
theorem dL_law_394 : decode cL_law 394 = .ok (.aload_n 2, 1) := by decide +kernel
theorem dL_law_395 : decode cL_law 395 = .ok (.aload_n 0, 1) := by decide +kernel
theorem dL_law_396 : decode cL_law 396 = .ok (.iload_n 3, 1) := by decide +kernel
theorem dL_law_397 : decode cL_law 397 = .ok (.iconst 1, 1) := by decide +kernel
theorem dL_law_398 : decode cL_law 398 = .ok (.iadd, 1) := by decide +kernel
theorem dL_law_399 : decode cL_law 399 = .ok (.iaload, 1) := by decide +kernel
theorem dL_law_400 : decode cL_law 400 = .ok (.aload_n 0, 1) := by decide +kernel
theorem dL_law_401 : decode cL_law 401 = .ok (.iload_n 3, 1) := by decide +kernel
theorem dL_law_402 : decode cL_law 402 = .ok (.iconst 2, 1) := by decide +kernel
theorem dL_law_403 : decode cL_law 403 = .ok (.iadd, 1) := by decide +kernel
theorem dL_law_404 : decode cL_law 404 = .ok (.iaload, 1) := by decide +kernel
theorem dL_law_405 : decode cL_law 405 = .ok (.invokevirtual 43, 3) := by decide +kernel
theorem dL_law_408 : decode cL_law 408 = .ok (.if_icmp .eq 607, 3) := by decide +kernel
theorem dL_law_411 : decode cL_law 411 = .ok (.iconst 0, 1) := by decide +kernel
theorem dL_law_412 : decode cL_law 412 = .ok (.ireturn, 1) := by decide +kernel
theorem dL_law_413 : decode cL_law 413 = .ok (.aload_n 1, 1) := by decide +kernel
theorem dL_law_414 : decode cL_law 414 = .ok (.aload_n 0, 1) := by decide +kernel
theorem dL_law_415 : decode cL_law 415 = .ok (.iload_n 3, 1) := by decide +kernel
theorem dL_law_416 : decode cL_law 416 = .ok (.iconst 1, 1) := by decide +kernel
theorem dL_law_417 : decode cL_law 417 = .ok (.iadd, 1) := by decide +kernel
theorem dL_law_418 : decode cL_law 418 = .ok (.iaload, 1) := by decide +kernel
theorem dL_law_419 : decode cL_law 419 = .ok (.aload_n 0, 1) := by decide +kernel
theorem dL_law_420 : decode cL_law 420 = .ok (.iload_n 3, 1) := by decide +kernel
theorem dL_law_421 : decode cL_law 421 = .ok (.iconst 2, 1) := by decide +kernel
theorem dL_law_422 : decode cL_law 422 = .ok (.iadd, 1) := by decide +kernel
theorem dL_law_423 : decode cL_law 423 = .ok (.iaload, 1) := by decide +kernel
theorem dL_law_424 : decode cL_law 424 = .ok (.invokevirtual 44, 3) := by decide +kernel
theorem dL_law_427 : decode cL_law 427 = .ok (.aload_n 2, 1) := by decide +kernel
theorem dL_law_428 : decode cL_law 428 = .ok (.aload_n 0, 1) := by decide +kernel
theorem dL_law_429 : decode cL_law 429 = .ok (.iload_n 3, 1) := by decide +kernel
theorem dL_law_430 : decode cL_law 430 = .ok (.iconst 1, 1) := by decide +kernel
theorem dL_law_431 : decode cL_law 431 = .ok (.iadd, 1) := by decide +kernel
theorem dL_law_432 : decode cL_law 432 = .ok (.iaload, 1) := by decide +kernel
theorem dL_law_433 : decode cL_law 433 = .ok (.aload_n 0, 1) := by decide +kernel
theorem dL_law_434 : decode cL_law 434 = .ok (.iload_n 3, 1) := by decide +kernel
theorem dL_law_435 : decode cL_law 435 = .ok (.iconst 2, 1) := by decide +kernel
theorem dL_law_436 : decode cL_law 436 = .ok (.iadd, 1) := by decide +kernel
theorem dL_law_437 : decode cL_law 437 = .ok (.iaload, 1) := by decide +kernel
theorem dL_law_438 : decode cL_law 438 = .ok (.invokevirtual 47, 3) := by decide +kernel
theorem dL_law_441 : decode cL_law 441 = .ok (.if_icmp .eq 574, 3) := by decide +kernel
theorem dL_law_444 : decode cL_law 444 = .ok (.iconst 0, 1) := by decide +kernel
theorem dL_law_445 : decode cL_law 445 = .ok (.ireturn, 1) := by decide +kernel
theorem dL_law_446 : decode cL_law 446 = .ok (.aload_n 1, 1) := by decide +kernel
theorem dL_law_447 : decode cL_law 447 = .ok (.aload_n 0, 1) := by decide +kernel
theorem dL_law_448 : decode cL_law 448 = .ok (.iload_n 3, 1) := by decide +kernel
theorem dL_law_449 : decode cL_law 449 = .ok (.iconst 1, 1) := by decide +kernel
theorem dL_law_450 : decode cL_law 450 = .ok (.iadd, 1) := by decide +kernel
theorem dL_law_451 : decode cL_law 451 = .ok (.iaload, 1) := by decide +kernel
theorem dL_law_452 : decode cL_law 452 = .ok (.aload_n 0, 1) := by decide +kernel
theorem dL_law_453 : decode cL_law 453 = .ok (.iload_n 3, 1) := by decide +kernel
theorem dL_law_454 : decode cL_law 454 = .ok (.iconst 2, 1) := by decide +kernel
theorem dL_law_455 : decode cL_law 455 = .ok (.iadd, 1) := by decide +kernel
theorem dL_law_456 : decode cL_law 456 = .ok (.iaload, 1) := by decide +kernel
theorem dL_law_457 : decode cL_law 457 = .ok (.aload_n 0, 1) := by decide +kernel
theorem dL_law_458 : decode cL_law 458 = .ok (.iload_n 3, 1) := by decide +kernel
theorem dL_law_459 : decode cL_law 459 = .ok (.iconst 3, 1) := by decide +kernel
theorem dL_law_460 : decode cL_law 460 = .ok (.iadd, 1) := by decide +kernel
theorem dL_law_461 : decode cL_law 461 = .ok (.iaload, 1) := by decide +kernel
theorem dL_law_462 : decode cL_law 462 = .ok (.aload_n 0, 1) := by decide +kernel
theorem dL_law_463 : decode cL_law 463 = .ok (.iload_n 3, 1) := by decide +kernel
theorem dL_law_464 : decode cL_law 464 = .ok (.iconst 4, 1) := by decide +kernel
theorem dL_law_465 : decode cL_law 465 = .ok (.iadd, 1) := by decide +kernel
theorem dL_law_466 : decode cL_law 466 = .ok (.iaload, 1) := by decide +kernel
theorem dL_law_467 : decode cL_law 467 = .ok (.invokevirtual 48, 3) := by decide +kernel
theorem dL_law_470 : decode cL_law 470 = .ok (.aload_n 2, 1) := by decide +kernel
theorem dL_law_471 : decode cL_law 471 = .ok (.aload_n 0, 1) := by decide +kernel
theorem dL_law_472 : decode cL_law 472 = .ok (.iload_n 3, 1) := by decide +kernel
theorem dL_law_473 : decode cL_law 473 = .ok (.iconst 1, 1) := by decide +kernel
theorem dL_law_474 : decode cL_law 474 = .ok (.iadd, 1) := by decide +kernel
theorem dL_law_475 : decode cL_law 475 = .ok (.iaload, 1) := by decide +kernel
theorem dL_law_476 : decode cL_law 476 = .ok (.aload_n 0, 1) := by decide +kernel
theorem dL_law_477 : decode cL_law 477 = .ok (.iload_n 3, 1) := by decide +kernel
theorem dL_law_478 : decode cL_law 478 = .ok (.iconst 2, 1) := by decide +kernel
theorem dL_law_479 : decode cL_law 479 = .ok (.iadd, 1) := by decide +kernel
theorem dL_law_480 : decode cL_law 480 = .ok (.iaload, 1) := by decide +kernel
theorem dL_law_481 : decode cL_law 481 = .ok (.aload_n 0, 1) := by decide +kernel
theorem dL_law_482 : decode cL_law 482 = .ok (.iload_n 3, 1) := by decide +kernel
theorem dL_law_483 : decode cL_law 483 = .ok (.iconst 3, 1) := by decide +kernel
theorem dL_law_484 : decode cL_law 484 = .ok (.iadd, 1) := by decide +kernel
theorem dL_law_485 : decode cL_law 485 = .ok (.iaload, 1) := by decide +kernel
theorem dL_law_486 : decode cL_law 486 = .ok (.aload_n 0, 1) := by decide +kernel
theorem dL_law_487 : decode cL_law 487 = .ok (.iload_n 3, 1) := by decide +kernel
theorem dL_law_488 : decode cL_law 488 = .ok (.iconst 4, 1) := by decide +kernel
theorem dL_law_489 : decode cL_law 489 = .ok (.iadd, 1) := by decide +kernel
theorem dL_law_490 : decode cL_law 490 = .ok (.iaload, 1) := by decide +kernel
theorem dL_law_491 : decode cL_law 491 = .ok (.invokevirtual 52, 3) := by decide +kernel
theorem dL_law_494 : decode cL_law 494 = .ok (.if_icmp .eq 521, 3) := by decide +kernel
theorem dL_law_497 : decode cL_law 497 = .ok (.iconst 0, 1) := by decide +kernel
theorem dL_law_498 : decode cL_law 498 = .ok (.ireturn, 1) := by decide +kernel
theorem dL_law_499 : decode cL_law 499 = .ok (.aload_n 1, 1) := by decide +kernel
theorem dL_law_500 : decode cL_law 500 = .ok (.aload_n 0, 1) := by decide +kernel
theorem dL_law_501 : decode cL_law 501 = .ok (.iload_n 3, 1) := by decide +kernel
theorem dL_law_502 : decode cL_law 502 = .ok (.iconst 1, 1) := by decide +kernel
theorem dL_law_503 : decode cL_law 503 = .ok (.iadd, 1) := by decide +kernel
theorem dL_law_504 : decode cL_law 504 = .ok (.iaload, 1) := by decide +kernel
theorem dL_law_505 : decode cL_law 505 = .ok (.invokevirtual 53, 3) := by decide +kernel
theorem dL_law_508 : decode cL_law 508 = .ok (.aload_n 2, 1) := by decide +kernel
theorem dL_law_509 : decode cL_law 509 = .ok (.aload_n 0, 1) := by decide +kernel
theorem dL_law_510 : decode cL_law 510 = .ok (.iload_n 3, 1) := by decide +kernel
theorem dL_law_511 : decode cL_law 511 = .ok (.iconst 1, 1) := by decide +kernel
theorem dL_law_512 : decode cL_law 512 = .ok (.iadd, 1) := by decide +kernel
theorem dL_law_513 : decode cL_law 513 = .ok (.iaload, 1) := by decide +kernel
theorem dL_law_514 : decode cL_law 514 = .ok (.invokevirtual 56, 3) := by decide +kernel
theorem dL_law_517 : decode cL_law 517 = .ok (.if_icmp .eq 498, 3) := by decide +kernel
theorem dL_law_520 : decode cL_law 520 = .ok (.iconst 0, 1) := by decide +kernel
theorem dL_law_521 : decode cL_law 521 = .ok (.ireturn, 1) := by decide +kernel
theorem dL_law_522 : decode cL_law 522 = .ok (.aload_n 1, 1) := by decide +kernel
theorem dL_law_523 : decode cL_law 523 = .ok (.aload_n 0, 1) := by decide +kernel
theorem dL_law_524 : decode cL_law 524 = .ok (.iload_n 3, 1) := by decide +kernel
theorem dL_law_525 : decode cL_law 525 = .ok (.iconst 1, 1) := by decide +kernel
theorem dL_law_526 : decode cL_law 526 = .ok (.iadd, 1) := by decide +kernel
theorem dL_law_527 : decode cL_law 527 = .ok (.iaload, 1) := by decide +kernel
theorem dL_law_528 : decode cL_law 528 = .ok (.aload_n 0, 1) := by decide +kernel
theorem dL_law_529 : decode cL_law 529 = .ok (.iload_n 3, 1) := by decide +kernel
theorem dL_law_530 : decode cL_law 530 = .ok (.iconst 2, 1) := by decide +kernel
theorem dL_law_531 : decode cL_law 531 = .ok (.iadd, 1) := by decide +kernel
theorem dL_law_532 : decode cL_law 532 = .ok (.iaload, 1) := by decide +kernel
theorem dL_law_533 : decode cL_law 533 = .ok (.invokevirtual 57, 3) := by decide +kernel
theorem dL_law_536 : decode cL_law 536 = .ok (.aload_n 2, 1) := by decide +kernel
theorem dL_law_537 : decode cL_law 537 = .ok (.aload_n 0, 1) := by decide +kernel
theorem dL_law_538 : decode cL_law 538 = .ok (.iload_n 3, 1) := by decide +kernel
theorem dL_law_539 : decode cL_law 539 = .ok (.iconst 1, 1) := by decide +kernel
theorem dL_law_540 : decode cL_law 540 = .ok (.iadd, 1) := by decide +kernel
theorem dL_law_541 : decode cL_law 541 = .ok (.iaload, 1) := by decide +kernel
theorem dL_law_542 : decode cL_law 542 = .ok (.aload_n 0, 1) := by decide +kernel
theorem dL_law_543 : decode cL_law 543 = .ok (.iload_n 3, 1) := by decide +kernel
theorem dL_law_544 : decode cL_law 544 = .ok (.iconst 2, 1) := by decide +kernel
theorem dL_law_545 : decode cL_law 545 = .ok (.iadd, 1) := by decide +kernel
theorem dL_law_546 : decode cL_law 546 = .ok (.iaload, 1) := by decide +kernel
theorem dL_law_547 : decode cL_law 547 = .ok (.invokevirtual 60, 3) := by decide +kernel
theorem dL_law_550 : decode cL_law 550 = .ok (.if_icmp .eq 465, 3) := by decide +kernel
theorem dL_law_553 : decode cL_law 553 = .ok (.iconst 0, 1) := by decide +kernel
theorem dL_law_554 : decode cL_law 554 = .ok (.ireturn, 1) := by decide +kernel
theorem dL_law_555 : decode cL_law 555 = .ok (.aload_n 1, 1) := by decide +kernel
theorem dL_law_556 : decode cL_law 556 = .ok (.aload_n 0, 1) := by decide +kernel
theorem dL_law_557 : decode cL_law 557 = .ok (.iload_n 3, 1) := by decide +kernel
theorem dL_law_558 : decode cL_law 558 = .ok (.iconst 1, 1) := by decide +kernel
theorem dL_law_559 : decode cL_law 559 = .ok (.iadd, 1) := by decide +kernel
theorem dL_law_560 : decode cL_law 560 = .ok (.iaload, 1) := by decide +kernel
theorem dL_law_561 : decode cL_law 561 = .ok (.invokevirtual 61, 3) := by decide +kernel
theorem dL_law_564 : decode cL_law 564 = .ok (.aload_n 2, 1) := by decide +kernel
theorem dL_law_565 : decode cL_law 565 = .ok (.aload_n 0, 1) := by decide +kernel
theorem dL_law_566 : decode cL_law 566 = .ok (.iload_n 3, 1) := by decide +kernel
theorem dL_law_567 : decode cL_law 567 = .ok (.iconst 1, 1) := by decide +kernel
theorem dL_law_568 : decode cL_law 568 = .ok (.iadd, 1) := by decide +kernel
theorem dL_law_569 : decode cL_law 569 = .ok (.iaload, 1) := by decide +kernel
theorem dL_law_570 : decode cL_law 570 = .ok (.invokevirtual 64, 3) := by decide +kernel
theorem dL_law_573 : decode cL_law 573 = .ok (.if_icmp .eq 442, 3) := by decide +kernel
theorem dL_law_576 : decode cL_law 576 = .ok (.iconst 0, 1) := by decide +kernel
theorem dL_law_577 : decode cL_law 577 = .ok (.ireturn, 1) := by decide +kernel
theorem dL_law_578 : decode cL_law 578 = .ok (.aload_n 1, 1) := by decide +kernel
theorem dL_law_579 : decode cL_law 579 = .ok (.aload_n 0, 1) := by decide +kernel
theorem dL_law_580 : decode cL_law 580 = .ok (.iload_n 3, 1) := by decide +kernel
theorem dL_law_581 : decode cL_law 581 = .ok (.iconst 1, 1) := by decide +kernel
theorem dL_law_582 : decode cL_law 582 = .ok (.iadd, 1) := by decide +kernel
theorem dL_law_583 : decode cL_law 583 = .ok (.iaload, 1) := by decide +kernel
theorem dL_law_584 : decode cL_law 584 = .ok (.invokevirtual 65, 3) := by decide +kernel
theorem dL_law_587 : decode cL_law 587 = .ok (.aload_n 2, 1) := by decide +kernel
theorem dL_law_588 : decode cL_law 588 = .ok (.aload_n 0, 1) := by decide +kernel
theorem dL_law_589 : decode cL_law 589 = .ok (.iload_n 3, 1) := by decide +kernel
theorem dL_law_590 : decode cL_law 590 = .ok (.iconst 1, 1) := by decide +kernel
theorem dL_law_591 : decode cL_law 591 = .ok (.iadd, 1) := by decide +kernel
theorem dL_law_592 : decode cL_law 592 = .ok (.iaload, 1) := by decide +kernel
theorem dL_law_593 : decode cL_law 593 = .ok (.invokevirtual 68, 3) := by decide +kernel
theorem dL_law_596 : decode cL_law 596 = .ok (.if_icmp .eq 419, 3) := by decide +kernel
theorem dL_law_599 : decode cL_law 599 = .ok (.iconst 0, 1) := by decide +kernel
theorem dL_law_600 : decode cL_law 600 = .ok (.ireturn, 1) := by decide +kernel
theorem dL_law_601 : decode cL_law 601 = .ok (.aload_n 1, 1) := by decide +kernel
theorem dL_law_602 : decode cL_law 602 = .ok (.aload_n 0, 1) := by decide +kernel
theorem dL_law_603 : decode cL_law 603 = .ok (.iload_n 3, 1) := by decide +kernel
theorem dL_law_604 : decode cL_law 604 = .ok (.iconst 1, 1) := by decide +kernel
theorem dL_law_605 : decode cL_law 605 = .ok (.iadd, 1) := by decide +kernel
theorem dL_law_606 : decode cL_law 606 = .ok (.iaload, 1) := by decide +kernel
theorem dL_law_607 : decode cL_law 607 = .ok (.aload_n 0, 1) := by decide +kernel
theorem dL_law_608 : decode cL_law 608 = .ok (.iload_n 3, 1) := by decide +kernel
theorem dL_law_609 : decode cL_law 609 = .ok (.iconst 2, 1) := by decide +kernel
theorem dL_law_610 : decode cL_law 610 = .ok (.iadd, 1) := by decide +kernel
theorem dL_law_611 : decode cL_law 611 = .ok (.iaload, 1) := by decide +kernel
theorem dL_law_612 : decode cL_law 612 = .ok (.invokevirtual 69, 3) := by decide +kernel
theorem dL_law_615 : decode cL_law 615 = .ok (.aload_n 2, 1) := by decide +kernel
theorem dL_law_616 : decode cL_law 616 = .ok (.aload_n 0, 1) := by decide +kernel
theorem dL_law_617 : decode cL_law 617 = .ok (.iload_n 3, 1) := by decide +kernel
theorem dL_law_618 : decode cL_law 618 = .ok (.iconst 1, 1) := by decide +kernel
theorem dL_law_619 : decode cL_law 619 = .ok (.iadd, 1) := by decide +kernel
theorem dL_law_620 : decode cL_law 620 = .ok (.iaload, 1) := by decide +kernel
theorem dL_law_621 : decode cL_law 621 = .ok (.aload_n 0, 1) := by decide +kernel
theorem dL_law_622 : decode cL_law 622 = .ok (.iload_n 3, 1) := by decide +kernel
theorem dL_law_623 : decode cL_law 623 = .ok (.iconst 2, 1) := by decide +kernel
theorem dL_law_624 : decode cL_law 624 = .ok (.iadd, 1) := by decide +kernel
theorem dL_law_625 : decode cL_law 625 = .ok (.iaload, 1) := by decide +kernel
theorem dL_law_626 : decode cL_law 626 = .ok (.invokevirtual 72, 3) := by decide +kernel
theorem dL_law_629 : decode cL_law 629 = .ok (.if_icmp .eq 386, 3) := by decide +kernel
theorem dL_law_632 : decode cL_law 632 = .ok (.iconst 0, 1) := by decide +kernel
theorem dL_law_633 : decode cL_law 633 = .ok (.ireturn, 1) := by decide +kernel
theorem dL_law_634 : decode cL_law 634 = .ok (.aload_n 1, 1) := by decide +kernel
theorem dL_law_635 : decode cL_law 635 = .ok (.aload_n 0, 1) := by decide +kernel
theorem dL_law_636 : decode cL_law 636 = .ok (.iload_n 3, 1) := by decide +kernel
theorem dL_law_637 : decode cL_law 637 = .ok (.iconst 1, 1) := by decide +kernel
theorem dL_law_638 : decode cL_law 638 = .ok (.iadd, 1) := by decide +kernel
theorem dL_law_639 : decode cL_law 639 = .ok (.iaload, 1) := by decide +kernel
theorem dL_law_640 : decode cL_law 640 = .ok (.aload_n 0, 1) := by decide +kernel
theorem dL_law_641 : decode cL_law 641 = .ok (.iload_n 3, 1) := by decide +kernel
theorem dL_law_642 : decode cL_law 642 = .ok (.iconst 2, 1) := by decide +kernel
theorem dL_law_643 : decode cL_law 643 = .ok (.iadd, 1) := by decide +kernel
theorem dL_law_644 : decode cL_law 644 = .ok (.iaload, 1) := by decide +kernel
theorem dL_law_645 : decode cL_law 645 = .ok (.invokevirtual 73, 3) := by decide +kernel
theorem dL_law_648 : decode cL_law 648 = .ok (.aload_n 2, 1) := by decide +kernel
theorem dL_law_649 : decode cL_law 649 = .ok (.aload_n 0, 1) := by decide +kernel
theorem dL_law_650 : decode cL_law 650 = .ok (.iload_n 3, 1) := by decide +kernel
theorem dL_law_651 : decode cL_law 651 = .ok (.iconst 1, 1) := by decide +kernel
theorem dL_law_652 : decode cL_law 652 = .ok (.iadd, 1) := by decide +kernel
theorem dL_law_653 : decode cL_law 653 = .ok (.iaload, 1) := by decide +kernel
theorem dL_law_654 : decode cL_law 654 = .ok (.aload_n 0, 1) := by decide +kernel
theorem dL_law_655 : decode cL_law 655 = .ok (.iload_n 3, 1) := by decide +kernel
theorem dL_law_656 : decode cL_law 656 = .ok (.iconst 2, 1) := by decide +kernel
theorem dL_law_657 : decode cL_law 657 = .ok (.iadd, 1) := by decide +kernel
theorem dL_law_658 : decode cL_law 658 = .ok (.iaload, 1) := by decide +kernel
theorem dL_law_659 : decode cL_law 659 = .ok (.invokevirtual 76, 3) := by decide +kernel
theorem dL_law_662 : decode cL_law 662 = .ok (.if_icmp .eq 353, 3) := by decide +kernel
theorem dL_law_665 : decode cL_law 665 = .ok (.iconst 0, 1) := by decide +kernel
theorem dL_law_666 : decode cL_law 666 = .ok (.ireturn, 1) := by decide +kernel
theorem dL_law_667 : decode cL_law 667 = .ok (.aload_n 1, 1) := by decide +kernel
theorem dL_law_668 : decode cL_law 668 = .ok (.aload_n 0, 1) := by decide +kernel
theorem dL_law_669 : decode cL_law 669 = .ok (.iload_n 3, 1) := by decide +kernel
theorem dL_law_670 : decode cL_law 670 = .ok (.iconst 1, 1) := by decide +kernel
theorem dL_law_671 : decode cL_law 671 = .ok (.iadd, 1) := by decide +kernel
theorem dL_law_672 : decode cL_law 672 = .ok (.iaload, 1) := by decide +kernel
theorem dL_law_673 : decode cL_law 673 = .ok (.aload_n 0, 1) := by decide +kernel
theorem dL_law_674 : decode cL_law 674 = .ok (.iload_n 3, 1) := by decide +kernel
theorem dL_law_675 : decode cL_law 675 = .ok (.iconst 2, 1) := by decide +kernel
theorem dL_law_676 : decode cL_law 676 = .ok (.iadd, 1) := by decide +kernel
theorem dL_law_677 : decode cL_law 677 = .ok (.iaload, 1) := by decide +kernel
theorem dL_law_678 : decode cL_law 678 = .ok (.aload_n 0, 1) := by decide +kernel
theorem dL_law_679 : decode cL_law 679 = .ok (.iload_n 3, 1) := by decide +kernel
theorem dL_law_680 : decode cL_law 680 = .ok (.iconst 3, 1) := by decide +kernel
theorem dL_law_681 : decode cL_law 681 = .ok (.iadd, 1) := by decide +kernel
theorem dL_law_682 : decode cL_law 682 = .ok (.iaload, 1) := by decide +kernel
theorem dL_law_683 : decode cL_law 683 = .ok (.invokevirtual 77, 3) := by decide +kernel
theorem dL_law_686 : decode cL_law 686 = .ok (.aload_n 2, 1) := by decide +kernel
theorem dL_law_687 : decode cL_law 687 = .ok (.aload_n 0, 1) := by decide +kernel
theorem dL_law_688 : decode cL_law 688 = .ok (.iload_n 3, 1) := by decide +kernel
theorem dL_law_689 : decode cL_law 689 = .ok (.iconst 1, 1) := by decide +kernel
theorem dL_law_690 : decode cL_law 690 = .ok (.iadd, 1) := by decide +kernel
theorem dL_law_691 : decode cL_law 691 = .ok (.iaload, 1) := by decide +kernel
theorem dL_law_692 : decode cL_law 692 = .ok (.aload_n 0, 1) := by decide +kernel
theorem dL_law_693 : decode cL_law 693 = .ok (.iload_n 3, 1) := by decide +kernel
theorem dL_law_694 : decode cL_law 694 = .ok (.iconst 2, 1) := by decide +kernel
theorem dL_law_695 : decode cL_law 695 = .ok (.iadd, 1) := by decide +kernel
theorem dL_law_696 : decode cL_law 696 = .ok (.iaload, 1) := by decide +kernel
theorem dL_law_697 : decode cL_law 697 = .ok (.aload_n 0, 1) := by decide +kernel
theorem dL_law_698 : decode cL_law 698 = .ok (.iload_n 3, 1) := by decide +kernel
theorem dL_law_699 : decode cL_law 699 = .ok (.iconst 3, 1) := by decide +kernel
theorem dL_law_700 : decode cL_law 700 = .ok (.iadd, 1) := by decide +kernel
theorem dL_law_701 : decode cL_law 701 = .ok (.iaload, 1) := by decide +kernel
theorem dL_law_702 : decode cL_law 702 = .ok (.invokevirtual 80, 3) := by decide +kernel
theorem dL_law_705 : decode cL_law 705 = .ok (.if_icmp .eq 310, 3) := by decide +kernel
theorem dL_law_708 : decode cL_law 708 = .ok (.iconst 0, 1) := by decide +kernel
theorem dL_law_709 : decode cL_law 709 = .ok (.ireturn, 1) := by decide +kernel
theorem dL_law_710 : decode cL_law 710 = .ok (.aload_n 1, 1) := by decide +kernel
theorem dL_law_711 : decode cL_law 711 = .ok (.aload_n 0, 1) := by decide +kernel
theorem dL_law_712 : decode cL_law 712 = .ok (.iload_n 3, 1) := by decide +kernel
theorem dL_law_713 : decode cL_law 713 = .ok (.iconst 1, 1) := by decide +kernel
theorem dL_law_714 : decode cL_law 714 = .ok (.iadd, 1) := by decide +kernel
theorem dL_law_715 : decode cL_law 715 = .ok (.iaload, 1) := by decide +kernel
theorem dL_law_716 : decode cL_law 716 = .ok (.invokevirtual 81, 3) := by decide +kernel
theorem dL_law_719 : decode cL_law 719 = .ok (.aload_n 2, 1) := by decide +kernel
theorem dL_law_720 : decode cL_law 720 = .ok (.aload_n 0, 1) := by decide +kernel
theorem dL_law_721 : decode cL_law 721 = .ok (.iload_n 3, 1) := by decide +kernel
theorem dL_law_722 : decode cL_law 722 = .ok (.iconst 1, 1) := by decide +kernel
theorem dL_law_723 : decode cL_law 723 = .ok (.iadd, 1) := by decide +kernel
theorem dL_law_724 : decode cL_law 724 = .ok (.iaload, 1) := by decide +kernel
theorem dL_law_725 : decode cL_law 725 = .ok (.invokevirtual 84, 3) := by decide +kernel
theorem dL_law_728 : decode cL_law 728 = .ok (.if_icmp .eq 287, 3) := by decide +kernel
theorem dL_law_731 : decode cL_law 731 = .ok (.iconst 0, 1) := by decide +kernel
theorem dL_law_732 : decode cL_law 732 = .ok (.ireturn, 1) := by decide +kernel
theorem dL_law_733 : decode cL_law 733 = .ok (.aload_n 1, 1) := by decide +kernel
theorem dL_law_734 : decode cL_law 734 = .ok (.aload_n 0, 1) := by decide +kernel
theorem dL_law_735 : decode cL_law 735 = .ok (.iload_n 3, 1) := by decide +kernel
theorem dL_law_736 : decode cL_law 736 = .ok (.iconst 1, 1) := by decide +kernel
theorem dL_law_737 : decode cL_law 737 = .ok (.iadd, 1) := by decide +kernel
theorem dL_law_738 : decode cL_law 738 = .ok (.iaload, 1) := by decide +kernel
theorem dL_law_739 : decode cL_law 739 = .ok (.invokevirtual 85, 3) := by decide +kernel
theorem dL_law_742 : decode cL_law 742 = .ok (.aload_n 2, 1) := by decide +kernel
theorem dL_law_743 : decode cL_law 743 = .ok (.aload_n 0, 1) := by decide +kernel
theorem dL_law_744 : decode cL_law 744 = .ok (.iload_n 3, 1) := by decide +kernel
theorem dL_law_745 : decode cL_law 745 = .ok (.iconst 1, 1) := by decide +kernel
theorem dL_law_746 : decode cL_law 746 = .ok (.iadd, 1) := by decide +kernel
theorem dL_law_747 : decode cL_law 747 = .ok (.iaload, 1) := by decide +kernel
theorem dL_law_748 : decode cL_law 748 = .ok (.invokevirtual 88, 3) := by decide +kernel
theorem dL_law_751 : decode cL_law 751 = .ok (.if_icmp .eq 264, 3) := by decide +kernel
theorem dL_law_754 : decode cL_law 754 = .ok (.iconst 0, 1) := by decide +kernel
theorem dL_law_755 : decode cL_law 755 = .ok (.ireturn, 1) := by decide +kernel
theorem dL_law_756 : decode cL_law 756 = .ok (.aload_n 1, 1) := by decide +kernel
theorem dL_law_757 : decode cL_law 757 = .ok (.invokevirtual 89, 3) := by decide +kernel
theorem dL_law_760 : decode cL_law 760 = .ok (.aload_n 2, 1) := by decide +kernel
theorem dL_law_761 : decode cL_law 761 = .ok (.invokevirtual 93, 3) := by decide +kernel
theorem dL_law_764 : decode cL_law 764 = .ok (.if_icmp .eq 251, 3) := by decide +kernel
theorem dL_law_767 : decode cL_law 767 = .ok (.iconst 0, 1) := by decide +kernel
theorem dL_law_768 : decode cL_law 768 = .ok (.ireturn, 1) := by decide +kernel
theorem dL_law_769 : decode cL_law 769 = .ok (.aload_n 1, 1) := by decide +kernel
theorem dL_law_770 : decode cL_law 770 = .ok (.aload_n 0, 1) := by decide +kernel
theorem dL_law_771 : decode cL_law 771 = .ok (.iload_n 3, 1) := by decide +kernel
theorem dL_law_772 : decode cL_law 772 = .ok (.iconst 1, 1) := by decide +kernel
theorem dL_law_773 : decode cL_law 773 = .ok (.iadd, 1) := by decide +kernel
theorem dL_law_774 : decode cL_law 774 = .ok (.iaload, 1) := by decide +kernel
theorem dL_law_775 : decode cL_law 775 = .ok (.invokevirtual 94, 3) := by decide +kernel
theorem dL_law_778 : decode cL_law 778 = .ok (.aload_n 2, 1) := by decide +kernel
theorem dL_law_779 : decode cL_law 779 = .ok (.aload_n 0, 1) := by decide +kernel
theorem dL_law_780 : decode cL_law 780 = .ok (.iload_n 3, 1) := by decide +kernel
theorem dL_law_781 : decode cL_law 781 = .ok (.iconst 1, 1) := by decide +kernel
theorem dL_law_782 : decode cL_law 782 = .ok (.iadd, 1) := by decide +kernel
theorem dL_law_783 : decode cL_law 783 = .ok (.iaload, 1) := by decide +kernel
theorem dL_law_784 : decode cL_law 784 = .ok (.invokevirtual 97, 3) := by decide +kernel
theorem dL_law_787 : decode cL_law 787 = .ok (.if_icmp .eq 228, 3) := by decide +kernel
theorem dL_law_790 : decode cL_law 790 = .ok (.iconst 0, 1) := by decide +kernel
theorem dL_law_791 : decode cL_law 791 = .ok (.ireturn, 1) := by decide +kernel
theorem dL_law_792 : decode cL_law 792 = .ok (.aload_n 1, 1) := by decide +kernel
theorem dL_law_793 : decode cL_law 793 = .ok (.aload_n 0, 1) := by decide +kernel
theorem dL_law_794 : decode cL_law 794 = .ok (.iload_n 3, 1) := by decide +kernel
theorem dL_law_795 : decode cL_law 795 = .ok (.iconst 1, 1) := by decide +kernel
theorem dL_law_796 : decode cL_law 796 = .ok (.iadd, 1) := by decide +kernel
theorem dL_law_797 : decode cL_law 797 = .ok (.iaload, 1) := by decide +kernel
theorem dL_law_798 : decode cL_law 798 = .ok (.invokevirtual 98, 3) := by decide +kernel
theorem dL_law_801 : decode cL_law 801 = .ok (.aload_n 2, 1) := by decide +kernel
theorem dL_law_802 : decode cL_law 802 = .ok (.aload_n 0, 1) := by decide +kernel
theorem dL_law_803 : decode cL_law 803 = .ok (.iload_n 3, 1) := by decide +kernel
theorem dL_law_804 : decode cL_law 804 = .ok (.iconst 1, 1) := by decide +kernel
theorem dL_law_805 : decode cL_law 805 = .ok (.iadd, 1) := by decide +kernel
theorem dL_law_806 : decode cL_law 806 = .ok (.iaload, 1) := by decide +kernel
theorem dL_law_807 : decode cL_law 807 = .ok (.invokevirtual 101, 3) := by decide +kernel
theorem dL_law_810 : decode cL_law 810 = .ok (.if_icmp .eq 205, 3) := by decide +kernel
theorem dL_law_813 : decode cL_law 813 = .ok (.iconst 0, 1) := by decide +kernel
theorem dL_law_814 : decode cL_law 814 = .ok (.ireturn, 1) := by decide +kernel
theorem dL_law_815 : decode cL_law 815 = .ok (.aload_n 1, 1) := by decide +kernel
theorem dL_law_816 : decode cL_law 816 = .ok (.aload_n 0, 1) := by decide +kernel
theorem dL_law_817 : decode cL_law 817 = .ok (.iload_n 3, 1) := by decide +kernel
theorem dL_law_818 : decode cL_law 818 = .ok (.iconst 1, 1) := by decide +kernel
theorem dL_law_819 : decode cL_law 819 = .ok (.iadd, 1) := by decide +kernel
theorem dL_law_820 : decode cL_law 820 = .ok (.iaload, 1) := by decide +kernel
theorem dL_law_821 : decode cL_law 821 = .ok (.invokevirtual 102, 3) := by decide +kernel
theorem dL_law_824 : decode cL_law 824 = .ok (.aload_n 2, 1) := by decide +kernel
theorem dL_law_825 : decode cL_law 825 = .ok (.aload_n 0, 1) := by decide +kernel
theorem dL_law_826 : decode cL_law 826 = .ok (.iload_n 3, 1) := by decide +kernel
theorem dL_law_827 : decode cL_law 827 = .ok (.iconst 1, 1) := by decide +kernel
theorem dL_law_828 : decode cL_law 828 = .ok (.iadd, 1) := by decide +kernel
theorem dL_law_829 : decode cL_law 829 = .ok (.iaload, 1) := by decide +kernel
theorem dL_law_830 : decode cL_law 830 = .ok (.invokevirtual 105, 3) := by decide +kernel
theorem dL_law_833 : decode cL_law 833 = .ok (.if_icmp .eq 182, 3) := by decide +kernel
theorem dL_law_836 : decode cL_law 836 = .ok (.iconst 0, 1) := by decide +kernel
theorem dL_law_837 : decode cL_law 837 = .ok (.ireturn, 1) := by decide +kernel
theorem dL_law_838 : decode cL_law 838 = .ok (.aload_n 1, 1) := by decide +kernel
theorem dL_law_839 : decode cL_law 839 = .ok (.invokevirtual 106, 3) := by decide +kernel
theorem dL_law_842 : decode cL_law 842 = .ok (.aload_n 2, 1) := by decide +kernel
theorem dL_law_843 : decode cL_law 843 = .ok (.invokevirtual 109, 3) := by decide +kernel
theorem dL_law_846 : decode cL_law 846 = .ok (.if_icmp .eq 169, 3) := by decide +kernel
theorem dL_law_849 : decode cL_law 849 = .ok (.iconst 0, 1) := by decide +kernel
theorem dL_law_850 : decode cL_law 850 = .ok (.ireturn, 1) := by decide +kernel
theorem dL_law_851 : decode cL_law 851 = .ok (.aload_n 1, 1) := by decide +kernel
theorem dL_law_852 : decode cL_law 852 = .ok (.aload_n 0, 1) := by decide +kernel
theorem dL_law_853 : decode cL_law 853 = .ok (.iload_n 3, 1) := by decide +kernel
theorem dL_law_854 : decode cL_law 854 = .ok (.iconst 1, 1) := by decide +kernel
theorem dL_law_855 : decode cL_law 855 = .ok (.iadd, 1) := by decide +kernel
theorem dL_law_856 : decode cL_law 856 = .ok (.iaload, 1) := by decide +kernel
theorem dL_law_857 : decode cL_law 857 = .ok (.invokevirtual 110, 3) := by decide +kernel
theorem dL_law_860 : decode cL_law 860 = .ok (.aload_n 2, 1) := by decide +kernel
theorem dL_law_861 : decode cL_law 861 = .ok (.aload_n 0, 1) := by decide +kernel
theorem dL_law_862 : decode cL_law 862 = .ok (.iload_n 3, 1) := by decide +kernel
theorem dL_law_863 : decode cL_law 863 = .ok (.iconst 1, 1) := by decide +kernel
theorem dL_law_864 : decode cL_law 864 = .ok (.iadd, 1) := by decide +kernel
theorem dL_law_865 : decode cL_law 865 = .ok (.iaload, 1) := by decide +kernel
theorem dL_law_866 : decode cL_law 866 = .ok (.invokevirtual 113, 3) := by decide +kernel
theorem dL_law_869 : decode cL_law 869 = .ok (.if_icmp .eq 146, 3) := by decide +kernel
theorem dL_law_872 : decode cL_law 872 = .ok (.iconst 0, 1) := by decide +kernel
theorem dL_law_873 : decode cL_law 873 = .ok (.ireturn, 1) := by decide +kernel
theorem dL_law_874 : decode cL_law 874 = .ok (.aload_n 1, 1) := by decide +kernel
theorem dL_law_875 : decode cL_law 875 = .ok (.aload_n 0, 1) := by decide +kernel
theorem dL_law_876 : decode cL_law 876 = .ok (.iload_n 3, 1) := by decide +kernel
theorem dL_law_877 : decode cL_law 877 = .ok (.iconst 1, 1) := by decide +kernel
theorem dL_law_878 : decode cL_law 878 = .ok (.iadd, 1) := by decide +kernel
theorem dL_law_879 : decode cL_law 879 = .ok (.iaload, 1) := by decide +kernel
theorem dL_law_880 : decode cL_law 880 = .ok (.aload_n 0, 1) := by decide +kernel
theorem dL_law_881 : decode cL_law 881 = .ok (.iload_n 3, 1) := by decide +kernel
theorem dL_law_882 : decode cL_law 882 = .ok (.iconst 2, 1) := by decide +kernel
theorem dL_law_883 : decode cL_law 883 = .ok (.iadd, 1) := by decide +kernel
theorem dL_law_884 : decode cL_law 884 = .ok (.iaload, 1) := by decide +kernel
theorem dL_law_885 : decode cL_law 885 = .ok (.invokevirtual 114, 3) := by decide +kernel
theorem dL_law_888 : decode cL_law 888 = .ok (.aload_n 2, 1) := by decide +kernel
theorem dL_law_889 : decode cL_law 889 = .ok (.aload_n 0, 1) := by decide +kernel
theorem dL_law_890 : decode cL_law 890 = .ok (.iload_n 3, 1) := by decide +kernel
theorem dL_law_891 : decode cL_law 891 = .ok (.iconst 1, 1) := by decide +kernel
theorem dL_law_892 : decode cL_law 892 = .ok (.iadd, 1) := by decide +kernel
theorem dL_law_893 : decode cL_law 893 = .ok (.iaload, 1) := by decide +kernel
theorem dL_law_894 : decode cL_law 894 = .ok (.aload_n 0, 1) := by decide +kernel
theorem dL_law_895 : decode cL_law 895 = .ok (.iload_n 3, 1) := by decide +kernel
theorem dL_law_896 : decode cL_law 896 = .ok (.iconst 2, 1) := by decide +kernel
theorem dL_law_897 : decode cL_law 897 = .ok (.iadd, 1) := by decide +kernel
theorem dL_law_898 : decode cL_law 898 = .ok (.iaload, 1) := by decide +kernel
theorem dL_law_899 : decode cL_law 899 = .ok (.invokevirtual 117, 3) := by decide +kernel
theorem dL_law_902 : decode cL_law 902 = .ok (.if_icmp .eq 113, 3) := by decide +kernel
theorem dL_law_905 : decode cL_law 905 = .ok (.iconst 0, 1) := by decide +kernel
theorem dL_law_906 : decode cL_law 906 = .ok (.ireturn, 1) := by decide +kernel
theorem dL_law_907 : decode cL_law 907 = .ok (.aload_n 1, 1) := by decide +kernel
theorem dL_law_908 : decode cL_law 908 = .ok (.aload_n 0, 1) := by decide +kernel
theorem dL_law_909 : decode cL_law 909 = .ok (.iload_n 3, 1) := by decide +kernel
theorem dL_law_910 : decode cL_law 910 = .ok (.iconst 1, 1) := by decide +kernel
theorem dL_law_911 : decode cL_law 911 = .ok (.iadd, 1) := by decide +kernel
theorem dL_law_912 : decode cL_law 912 = .ok (.iaload, 1) := by decide +kernel
theorem dL_law_913 : decode cL_law 913 = .ok (.invokevirtual 118, 3) := by decide +kernel
theorem dL_law_916 : decode cL_law 916 = .ok (.aload_n 2, 1) := by decide +kernel
theorem dL_law_917 : decode cL_law 917 = .ok (.aload_n 0, 1) := by decide +kernel
theorem dL_law_918 : decode cL_law 918 = .ok (.iload_n 3, 1) := by decide +kernel
theorem dL_law_919 : decode cL_law 919 = .ok (.iconst 1, 1) := by decide +kernel
theorem dL_law_920 : decode cL_law 920 = .ok (.iadd, 1) := by decide +kernel
theorem dL_law_921 : decode cL_law 921 = .ok (.iaload, 1) := by decide +kernel
theorem dL_law_922 : decode cL_law 922 = .ok (.invokevirtual 121, 3) := by decide +kernel
theorem dL_law_925 : decode cL_law 925 = .ok (.if_icmp .eq 90, 3) := by decide +kernel
theorem dL_law_928 : decode cL_law 928 = .ok (.iconst 0, 1) := by decide +kernel
theorem dL_law_929 : decode cL_law 929 = .ok (.ireturn, 1) := by decide +kernel
theorem dL_law_930 : decode cL_law 930 = .ok (.aload_n 1, 1) := by decide +kernel
theorem dL_law_931 : decode cL_law 931 = .ok (.invokevirtual 122, 3) := by decide +kernel
theorem dL_law_934 : decode cL_law 934 = .ok (.aload_n 2, 1) := by decide +kernel
theorem dL_law_935 : decode cL_law 935 = .ok (.invokevirtual 125, 3) := by decide +kernel
theorem dL_law_938 : decode cL_law 938 = .ok (.if_icmp .eq 77, 3) := by decide +kernel
theorem dL_law_941 : decode cL_law 941 = .ok (.iconst 0, 1) := by decide +kernel
theorem dL_law_942 : decode cL_law 942 = .ok (.ireturn, 1) := by decide +kernel
theorem dL_law_943 : decode cL_law 943 = .ok (.aload_n 1, 1) := by decide +kernel
theorem dL_law_944 : decode cL_law 944 = .ok (.aload_n 0, 1) := by decide +kernel
theorem dL_law_945 : decode cL_law 945 = .ok (.iload_n 3, 1) := by decide +kernel
theorem dL_law_946 : decode cL_law 946 = .ok (.iconst 1, 1) := by decide +kernel
theorem dL_law_947 : decode cL_law 947 = .ok (.iadd, 1) := by decide +kernel
theorem dL_law_948 : decode cL_law 948 = .ok (.iaload, 1) := by decide +kernel
theorem dL_law_949 : decode cL_law 949 = .ok (.invokevirtual 126, 3) := by decide +kernel
theorem dL_law_952 : decode cL_law 952 = .ok (.aload_n 2, 1) := by decide +kernel
theorem dL_law_953 : decode cL_law 953 = .ok (.aload_n 0, 1) := by decide +kernel
theorem dL_law_954 : decode cL_law 954 = .ok (.iload_n 3, 1) := by decide +kernel
theorem dL_law_955 : decode cL_law 955 = .ok (.iconst 1, 1) := by decide +kernel
theorem dL_law_956 : decode cL_law 956 = .ok (.iadd, 1) := by decide +kernel
theorem dL_law_957 : decode cL_law 957 = .ok (.iaload, 1) := by decide +kernel
theorem dL_law_958 : decode cL_law 958 = .ok (.invokevirtual 129, 3) := by decide +kernel
theorem dL_law_961 : decode cL_law 961 = .ok (.if_icmp .eq 54, 3) := by decide +kernel
theorem dL_law_964 : decode cL_law 964 = .ok (.iconst 0, 1) := by decide +kernel
theorem dL_law_965 : decode cL_law 965 = .ok (.ireturn, 1) := by decide +kernel
theorem dL_law_966 : decode cL_law 966 = .ok (.aload_n 1, 1) := by decide +kernel
theorem dL_law_967 : decode cL_law 967 = .ok (.invokevirtual 130, 3) := by decide +kernel
theorem dL_law_970 : decode cL_law 970 = .ok (.aload_n 2, 1) := by decide +kernel
theorem dL_law_971 : decode cL_law 971 = .ok (.invokevirtual 133, 3) := by decide +kernel
theorem dL_law_974 : decode cL_law 974 = .ok (.if_icmp .eq 41, 3) := by decide +kernel
theorem dL_law_977 : decode cL_law 977 = .ok (.iconst 0, 1) := by decide +kernel
theorem dL_law_978 : decode cL_law 978 = .ok (.ireturn, 1) := by decide +kernel
theorem dL_law_979 : decode cL_law 979 = .ok (.aload_n 1, 1) := by decide +kernel
theorem dL_law_980 : decode cL_law 980 = .ok (.aload_n 0, 1) := by decide +kernel
theorem dL_law_981 : decode cL_law 981 = .ok (.iload_n 3, 1) := by decide +kernel
theorem dL_law_982 : decode cL_law 982 = .ok (.iconst 1, 1) := by decide +kernel
theorem dL_law_983 : decode cL_law 983 = .ok (.iadd, 1) := by decide +kernel
theorem dL_law_984 : decode cL_law 984 = .ok (.iaload, 1) := by decide +kernel
theorem dL_law_985 : decode cL_law 985 = .ok (.invokevirtual 134, 3) := by decide +kernel
theorem dL_law_988 : decode cL_law 988 = .ok (.aload_n 2, 1) := by decide +kernel
theorem dL_law_989 : decode cL_law 989 = .ok (.aload_n 0, 1) := by decide +kernel
theorem dL_law_990 : decode cL_law 990 = .ok (.iload_n 3, 1) := by decide +kernel
theorem dL_law_991 : decode cL_law 991 = .ok (.iconst 1, 1) := by decide +kernel
theorem dL_law_992 : decode cL_law 992 = .ok (.iadd, 1) := by decide +kernel
theorem dL_law_993 : decode cL_law 993 = .ok (.iaload, 1) := by decide +kernel
theorem dL_law_994 : decode cL_law 994 = .ok (.invokevirtual 137, 3) := by decide +kernel
theorem dL_law_997 : decode cL_law 997 = .ok (.if_icmp .eq 18, 3) := by decide +kernel
theorem dL_law_1000 : decode cL_law 1000 = .ok (.iconst 0, 1) := by decide +kernel
theorem dL_law_1001 : decode cL_law 1001 = .ok (.ireturn, 1) := by decide +kernel
theorem dL_law_1002 : decode cL_law 1002 = .ok (.aload_n 1, 1) := by decide +kernel
theorem dL_law_1003 : decode cL_law 1003 = .ok (.invokevirtual 138, 3) := by decide +kernel
theorem dL_law_1006 : decode cL_law 1006 = .ok (.aload_n 2, 1) := by decide +kernel
theorem dL_law_1007 : decode cL_law 1007 = .ok (.invokevirtual 141, 3) := by decide +kernel
theorem dL_law_1010 : decode cL_law 1010 = .ok (.if_icmp .eq 5, 3) := by decide +kernel
theorem dL_law_1013 : decode cL_law 1013 = .ok (.iconst 0, 1) := by decide +kernel
theorem dL_law_1014 : decode cL_law 1014 = .ok (.ireturn, 1) := by decide +kernel
theorem dL_law_1015 : decode cL_law 1015 = .ok (.iinc 3 5, 3) := by decide +kernel
theorem dL_law_1018 : decode cL_law 1018 = .ok (.goto (-1000), 3) := by decide +kernel
theorem dL_law_1021 : decode cL_law 1021 = .ok (.iconst 1, 1) := by decide +kernel
theorem dL_law_1022 : decode cL_law 1022 = .ok (.ireturn, 1) := by decide +kernel
