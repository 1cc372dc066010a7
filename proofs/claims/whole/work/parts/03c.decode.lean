theorem dX7_checksChip_30 : decode cX7_checksChip 30 = .ok (.ldc 44, 2) := by decide +kernel
theorem dX7_checksChip_32 : decode cX7_checksChip 32 = .ok (.invokestatic 45, 3) := by decide +kernel
theorem dX7_checksChip_35 : decode cX7_checksChip 35 = .ok (.ifCond .eq 27, 3) := by decide +kernel
theorem dX7_checksChip_38 : decode cX7_checksChip 38 = .ok (.iload_n 3, 1) := by decide +kernel
theorem dX7_checksChip_39 : decode cX7_checksChip 39 = .ok (.invokestatic 49, 3) := by decide +kernel
theorem dX7_checksChip_42 : decode cX7_checksChip 42 = .ok (.iconst 5, 1) := by decide +kernel
theorem dX7_checksChip_43 : decode cX7_checksChip 43 = .ok (.if_icmp .gt 19, 3) := by decide +kernel
theorem dX7_checksChip_46 : decode cX7_checksChip 46 = .ok (.iload_n 3, 1) := by decide +kernel
theorem dX7_checksChip_47 : decode cX7_checksChip 47 = .ok (.iload_n 1, 1) := by decide +kernel
theorem dX7_checksChip_48 : decode cX7_checksChip 48 = .ok (.invokestatic 36, 3) := by decide +kernel
theorem dX7_checksChip_51 : decode cX7_checksChip 51 = .ok (.ifCond .ne 11, 3) := by decide +kernel
theorem dX7_checksChip_54 : decode cX7_checksChip 54 = .ok (.iload_n 3, 1) := by decide +kernel
theorem dX7_checksChip_55 : decode cX7_checksChip 55 = .ok (.iload_n 2, 1) := by decide +kernel
theorem dX7_checksChip_56 : decode cX7_checksChip 56 = .ok (.invokestatic 36, 3) := by decide +kernel
theorem dX7_checksChip_59 : decode cX7_checksChip 59 = .ok (.ifCond .eq 6, 3) := by decide +kernel
theorem dX7_checksChip_62 : decode cX7_checksChip 62 = .ok (.ldc 53, 2) := by decide +kernel
theorem dX7_checksChip_64 : decode cX7_checksChip 64 = .ok (.ireturn, 1) := by decide +kernel
theorem dX7_checksChip_65 : decode cX7_checksChip 65 = .ok (.iload_n 3, 1) := by decide +kernel
theorem dX7_checksChip_66 : decode cX7_checksChip 66 = .ok (.iconst 1, 1) := by decide +kernel
theorem dX7_checksChip_67 : decode cX7_checksChip 67 = .ok (.iload_n 1, 1) := by decide +kernel
theorem dX7_checksChip_68 : decode cX7_checksChip 68 = .ok (.ishl, 1) := by decide +kernel
theorem dX7_checksChip_69 : decode cX7_checksChip 69 = .ok (.ior, 1) := by decide +kernel
theorem dX7_checksChip_70 : decode cX7_checksChip 70 = .ok (.iconst 1, 1) := by decide +kernel
theorem dX7_checksChip_71 : decode cX7_checksChip 71 = .ok (.iload_n 2, 1) := by decide +kernel
theorem dX7_checksChip_72 : decode cX7_checksChip 72 = .ok (.ishl, 1) := by decide +kernel
theorem dX7_checksChip_73 : decode cX7_checksChip 73 = .ok (.ior, 1) := by decide +kernel
theorem dX7_checksChip_74 : decode cX7_checksChip 74 = .ok (.istore 4, 2) := by decide +kernel
theorem dX7_checksChip_76 : decode cX7_checksChip 76 = .ok (.iconst 0, 1) := by decide +kernel
theorem dX7_checksChip_77 : decode cX7_checksChip 77 = .ok (.istore 5, 2) := by decide +kernel
theorem dX7_checksChip_79 : decode cX7_checksChip 79 = .ok (.iload 5, 2) := by decide +kernel
theorem dX7_checksChip_81 : decode cX7_checksChip 81 = .ok (.bipush 16, 2) := by decide +kernel
theorem dX7_checksChip_83 : decode cX7_checksChip 83 = .ok (.if_icmp .ge 32, 3) := by decide +kernel
theorem dX7_checksChip_86 : decode cX7_checksChip 86 = .ok (.iload 4, 2) := by decide +kernel
theorem dX7_checksChip_88 : decode cX7_checksChip 88 = .ok (.iload 5, 2) := by decide +kernel
theorem dX7_checksChip_90 : decode cX7_checksChip 90 = .ok (.invokestatic 36, 3) := by decide +kernel
theorem dX7_checksChip_93 : decode cX7_checksChip 93 = .ok (.ifCond .eq 16, 3) := by decide +kernel
theorem dX7_checksChip_96 : decode cX7_checksChip 96 = .ok (.aload_n 0, 1) := by decide +kernel
theorem dX7_checksChip_97 : decode cX7_checksChip 97 = .ok (.iload 5, 2) := by decide +kernel
theorem dX7_checksChip_99 : decode cX7_checksChip 99 = .ok (.invokevirtual 67, 3) := by decide +kernel
theorem dX7_checksChip_102 : decode cX7_checksChip 102 = .ok (.iconst (-1), 1) := by decide +kernel
theorem dX7_checksChip_103 : decode cX7_checksChip 103 = .ok (.if_icmp .eq 6, 3) := by decide +kernel
theorem dX7_checksChip_106 : decode cX7_checksChip 106 = .ok (.ldc 35, 2) := by decide +kernel
theorem dX7_checksChip_108 : decode cX7_checksChip 108 = .ok (.ireturn, 1) := by decide +kernel
theorem dX7_checksChip_109 : decode cX7_checksChip 109 = .ok (.iinc 5 1, 3) := by decide +kernel
theorem dX7_checksChip_112 : decode cX7_checksChip 112 = .ok (.goto (-33), 3) := by decide +kernel
theorem dX7_checksChip_115 : decode cX7_checksChip 115 = .ok (.aload_n 0, 1) := by decide +kernel
theorem dX7_checksChip_116 : decode cX7_checksChip 116 = .ok (.getfield 7, 3) := by decide +kernel
theorem dX7_checksChip_119 : decode cX7_checksChip 119 = .ok (.iconst 1, 1) := by decide +kernel
theorem dX7_checksChip_120 : decode cX7_checksChip 120 = .ok (.iaload, 1) := by decide +kernel
theorem dX7_checksChip_121 : decode cX7_checksChip 121 = .ok (.iconst 5, 1) := by decide +kernel
theorem dX7_checksChip_122 : decode cX7_checksChip 122 = .ok (.if_icmp .ne 8, 3) := by decide +kernel
theorem dX7_checksChip_125 : decode cX7_checksChip 125 = .ok (.ldc 57, 2) := by decide +kernel
theorem dX7_checksChip_127 : decode cX7_checksChip 127 = .ok (.goto 4, 3) := by decide +kernel
theorem dX7_checksChip_130 : decode cX7_checksChip 130 = .ok (.iconst 0, 1) := by decide +kernel
theorem dX7_checksChip_131 : decode cX7_checksChip 131 = .ok (.ireturn, 1) := by decide +kernel
theorem dX7_addsChip_0 : decode cX7_addsChip 0 = .ok (.aload_n 0, 1) := by decide +kernel
theorem dX7_addsChip_1 : decode cX7_addsChip 1 = .ok (.getfield 7, 3) := by decide +kernel
theorem dX7_addsChip_4 : decode cX7_addsChip 4 = .ok (.iconst 1, 1) := by decide +kernel
theorem dX7_addsChip_5 : decode cX7_addsChip 5 = .ok (.iaload, 1) := by decide +kernel
theorem dX7_addsChip_6 : decode cX7_addsChip 6 = .ok (.istore 4, 2) := by decide +kernel
theorem dX7_addsChip_8 : decode cX7_addsChip 8 = .ok (.aload_n 0, 1) := by decide +kernel
theorem dX7_addsChip_9 : decode cX7_addsChip 9 = .ok (.getfield 7, 3) := by decide +kernel
theorem dX7_addsChip_12 : decode cX7_addsChip 12 = .ok (.bipush 17, 2) := by decide +kernel
theorem dX7_addsChip_14 : decode cX7_addsChip 14 = .ok (.iload 4, 2) := by decide +kernel
theorem dX7_addsChip_16 : decode cX7_addsChip 16 = .ok (.iadd, 1) := by decide +kernel
theorem dX7_addsChip_17 : decode cX7_addsChip 17 = .ok (.iload_n 1, 1) := by decide +kernel
theorem dX7_addsChip_18 : decode cX7_addsChip 18 = .ok (.iastore, 1) := by decide +kernel
theorem dX7_addsChip_19 : decode cX7_addsChip 19 = .ok (.aload_n 0, 1) := by decide +kernel
theorem dX7_addsChip_20 : decode cX7_addsChip 20 = .ok (.getfield 7, 3) := by decide +kernel
theorem dX7_addsChip_23 : decode cX7_addsChip 23 = .ok (.bipush 22, 2) := by decide +kernel
theorem dX7_addsChip_25 : decode cX7_addsChip 25 = .ok (.iload 4, 2) := by decide +kernel
theorem dX7_addsChip_27 : decode cX7_addsChip 27 = .ok (.iadd, 1) := by decide +kernel
theorem dX7_addsChip_28 : decode cX7_addsChip 28 = .ok (.iload_n 2, 1) := by decide +kernel
theorem dX7_addsChip_29 : decode cX7_addsChip 29 = .ok (.iastore, 1) := by decide +kernel
theorem dX7_addsChip_30 : decode cX7_addsChip 30 = .ok (.aload_n 0, 1) := by decide +kernel
theorem dX7_addsChip_31 : decode cX7_addsChip 31 = .ok (.getfield 7, 3) := by decide +kernel
theorem dX7_addsChip_34 : decode cX7_addsChip 34 = .ok (.bipush 27, 2) := by decide +kernel
theorem dX7_addsChip_36 : decode cX7_addsChip 36 = .ok (.iload 4, 2) := by decide +kernel
theorem dX7_addsChip_38 : decode cX7_addsChip 38 = .ok (.iadd, 1) := by decide +kernel
theorem dX7_addsChip_39 : decode cX7_addsChip 39 = .ok (.iload_n 3, 1) := by decide +kernel
theorem dX7_addsChip_40 : decode cX7_addsChip 40 = .ok (.iastore, 1) := by decide +kernel
theorem dX7_addsChip_41 : decode cX7_addsChip 41 = .ok (.aload_n 0, 1) := by decide +kernel
theorem dX7_addsChip_42 : decode cX7_addsChip 42 = .ok (.getfield 7, 3) := by decide +kernel
theorem dX7_addsChip_45 : decode cX7_addsChip 45 = .ok (.iconst 1, 1) := by decide +kernel
theorem dX7_addsChip_46 : decode cX7_addsChip 46 = .ok (.dup2, 1) := by decide +kernel
theorem dX7_addsChip_47 : decode cX7_addsChip 47 = .ok (.iaload, 1) := by decide +kernel
theorem dX7_addsChip_48 : decode cX7_addsChip 48 = .ok (.iconst 1, 1) := by decide +kernel
theorem dX7_addsChip_49 : decode cX7_addsChip 49 = .ok (.iadd, 1) := by decide +kernel
theorem dX7_addsChip_50 : decode cX7_addsChip 50 = .ok (.iastore, 1) := by decide +kernel
theorem dX7_addsChip_51 : decode cX7_addsChip 51 = .ok (.iload 4, 2) := by decide +kernel
theorem dX7_addsChip_53 : decode cX7_addsChip 53 = .ok (.ireturn, 1) := by decide +kernel
theorem dX7_chip_0 : decode cX7_chip 0 = .ok (.aload_n 0, 1) := by decide +kernel
theorem dX7_chip_1 : decode cX7_chip 1 = .ok (.iload_n 1, 1) := by decide +kernel
theorem dX7_chip_2 : decode cX7_chip 2 = .ok (.iload_n 2, 1) := by decide +kernel
theorem dX7_chip_3 : decode cX7_chip 3 = .ok (.iload_n 3, 1) := by decide +kernel
theorem dX7_chip_4 : decode cX7_chip 4 = .ok (.invokevirtual 70, 3) := by decide +kernel
theorem dX7_chip_7 : decode cX7_chip 7 = .ok (.istore 4, 2) := by decide +kernel
theorem dX7_chip_9 : decode cX7_chip 9 = .ok (.iload 4, 2) := by decide +kernel
theorem dX7_chip_11 : decode cX7_chip 11 = .ok (.ifCond .eq 6, 3) := by decide +kernel
theorem dX7_chip_14 : decode cX7_chip 14 = .ok (.iload 4, 2) := by decide +kernel
theorem dX7_chip_16 : decode cX7_chip 16 = .ok (.ireturn, 1) := by decide +kernel
theorem dX7_chip_17 : decode cX7_chip 17 = .ok (.aload_n 0, 1) := by decide +kernel
theorem dX7_chip_18 : decode cX7_chip 18 = .ok (.invokevirtual 61, 3) := by decide +kernel
theorem dX7_chip_21 : decode cX7_chip 21 = .ok (.aload_n 0, 1) := by decide +kernel
theorem dX7_chip_22 : decode cX7_chip 22 = .ok (.iload_n 1, 1) := by decide +kernel
theorem dX7_chip_23 : decode cX7_chip 23 = .ok (.iload_n 2, 1) := by decide +kernel
theorem dX7_chip_24 : decode cX7_chip 24 = .ok (.iload_n 3, 1) := by decide +kernel
theorem dX7_chip_25 : decode cX7_chip 25 = .ok (.invokevirtual 74, 3) := by decide +kernel
theorem dX7_chip_28 : decode cX7_chip 28 = .ok (.ireturn, 1) := by decide +kernel
theorem dX7_manyOf_0 : decode cX7_manyOf 0 = .ok (.iload_n 1, 1) := by decide +kernel
theorem dX7_manyOf_1 : decode cX7_manyOf 1 = .ok (.ifCond .ne 6, 3) := by decide +kernel
theorem dX7_manyOf_4 : decode cX7_manyOf 4 = .ok (.bipush 16, 2) := by decide +kernel
theorem dX7_manyOf_6 : decode cX7_manyOf 6 = .ok (.ireturn, 1) := by decide +kernel
theorem dX7_manyOf_7 : decode cX7_manyOf 7 = .ok (.iload_n 1, 1) := by decide +kernel
theorem dX7_manyOf_8 : decode cX7_manyOf 8 = .ok (.iconst 4, 1) := by decide +kernel
theorem dX7_manyOf_9 : decode cX7_manyOf 9 = .ok (.if_icmp .ne 12, 3) := by decide +kernel
theorem dX7_manyOf_12 : decode cX7_manyOf 12 = .ok (.aload_n 0, 1) := by decide +kernel
theorem dX7_manyOf_13 : decode cX7_manyOf 13 = .ok (.getfield 7, 3) := by decide +kernel
theorem dX7_manyOf_16 : decode cX7_manyOf 16 = .ok (.iconst 1, 1) := by decide +kernel
theorem dX7_manyOf_17 : decode cX7_manyOf 17 = .ok (.iaload, 1) := by decide +kernel
theorem dX7_manyOf_18 : decode cX7_manyOf 18 = .ok (.goto 9, 3) := by decide +kernel
theorem dX7_manyOf_21 : decode cX7_manyOf 21 = .ok (.aload_n 0, 1) := by decide +kernel
theorem dX7_manyOf_22 : decode cX7_manyOf 22 = .ok (.getfield 7, 3) := by decide +kernel
theorem dX7_manyOf_25 : decode cX7_manyOf 25 = .ok (.iconst 0, 1) := by decide +kernel
theorem dX7_manyOf_26 : decode cX7_manyOf 26 = .ok (.iaload, 1) := by decide +kernel
theorem dX7_manyOf_27 : decode cX7_manyOf 27 = .ok (.ireturn, 1) := by decide +kernel
theorem dX7_checksFault_0 : decode cX7_checksFault 0 = .ok (.iload_n 1, 1) := by decide +kernel
theorem dX7_checksFault_1 : decode cX7_checksFault 1 = .ok (.iconst 0, 1) := by decide +kernel
theorem dX7_checksFault_2 : decode cX7_checksFault 2 = .ok (.iconst 4, 1) := by decide +kernel
theorem dX7_checksFault_3 : decode cX7_checksFault 3 = .ok (.invokestatic 45, 3) := by decide +kernel
theorem dX7_checksFault_6 : decode cX7_checksFault 6 = .ok (.ifCond .eq 18, 3) := by decide +kernel
theorem dX7_checksFault_9 : decode cX7_checksFault 9 = .ok (.iload_n 2, 1) := by decide +kernel
theorem dX7_checksFault_10 : decode cX7_checksFault 10 = .ok (.iconst 0, 1) := by decide +kernel
theorem dX7_checksFault_11 : decode cX7_checksFault 11 = .ok (.aload_n 0, 1) := by decide +kernel
theorem dX7_checksFault_12 : decode cX7_checksFault 12 = .ok (.iload_n 1, 1) := by decide +kernel
theorem dX7_checksFault_13 : decode cX7_checksFault 13 = .ok (.invokevirtual 77, 3) := by decide +kernel
theorem dX7_checksFault_16 : decode cX7_checksFault 16 = .ok (.iconst 1, 1) := by decide +kernel
theorem dX7_checksFault_17 : decode cX7_checksFault 17 = .ok (.isub, 1) := by decide +kernel
theorem dX7_checksFault_18 : decode cX7_checksFault 18 = .ok (.invokestatic 45, 3) := by decide +kernel
theorem dX7_checksFault_21 : decode cX7_checksFault 21 = .ok (.ifCond .ne 6, 3) := by decide +kernel
theorem dX7_checksFault_24 : decode cX7_checksFault 24 = .ok (.ldc 53, 2) := by decide +kernel
theorem dX7_checksFault_26 : decode cX7_checksFault 26 = .ok (.ireturn, 1) := by decide +kernel
theorem dX7_checksFault_27 : decode cX7_checksFault 27 = .ok (.iload_n 1, 1) := by decide +kernel
theorem dX7_checksFault_28 : decode cX7_checksFault 28 = .ok (.iconst 1, 1) := by decide +kernel
theorem dX7_checksFault_29 : decode cX7_checksFault 29 = .ok (.if_icmp .ne 24, 3) := by decide +kernel
theorem dX7_checksFault_32 : decode cX7_checksFault 32 = .ok (.iload_n 3, 1) := by decide +kernel
theorem dX7_checksFault_33 : decode cX7_checksFault 33 = .ok (.iload_n 2, 1) := by decide +kernel
theorem dX7_checksFault_34 : decode cX7_checksFault 34 = .ok (.iconst 1, 1) := by decide +kernel
theorem dX7_checksFault_35 : decode cX7_checksFault 35 = .ok (.iadd, 1) := by decide +kernel
theorem dX7_checksFault_36 : decode cX7_checksFault 36 = .ok (.aload_n 0, 1) := by decide +kernel
theorem dX7_checksFault_37 : decode cX7_checksFault 37 = .ok (.getfield 7, 3) := by decide +kernel
theorem dX7_checksFault_40 : decode cX7_checksFault 40 = .ok (.iconst 0, 1) := by decide +kernel
theorem dX7_checksFault_41 : decode cX7_checksFault 41 = .ok (.iaload, 1) := by decide +kernel
theorem dX7_checksFault_42 : decode cX7_checksFault 42 = .ok (.iconst 1, 1) := by decide +kernel
theorem dX7_checksFault_43 : decode cX7_checksFault 43 = .ok (.isub, 1) := by decide +kernel
theorem dX7_checksFault_44 : decode cX7_checksFault 44 = .ok (.invokestatic 45, 3) := by decide +kernel
theorem dX7_checksFault_47 : decode cX7_checksFault 47 = .ok (.ifCond .ne 13, 3) := by decide +kernel
theorem dX7_checksFault_50 : decode cX7_checksFault 50 = .ok (.goto 7, 3) := by decide +kernel
theorem dX7_checksFault_53 : decode cX7_checksFault 53 = .ok (.iload_n 3, 1) := by decide +kernel
theorem dX7_checksFault_54 : decode cX7_checksFault 54 = .ok (.ifCond .eq 6, 3) := by decide +kernel
theorem dX7_checksFault_57 : decode cX7_checksFault 57 = .ok (.ldc 53, 2) := by decide +kernel
theorem dX7_checksFault_59 : decode cX7_checksFault 59 = .ok (.ireturn, 1) := by decide +kernel
theorem dX7_checksFault_60 : decode cX7_checksFault 60 = .ok (.iconst 0, 1) := by decide +kernel
theorem dX7_checksFault_61 : decode cX7_checksFault 61 = .ok (.istore 4, 2) := by decide +kernel
theorem dX7_checksFault_63 : decode cX7_checksFault 63 = .ok (.iload 4, 2) := by decide +kernel
theorem dX7_checksFault_65 : decode cX7_checksFault 65 = .ok (.aload_n 0, 1) := by decide +kernel
theorem dX7_checksFault_66 : decode cX7_checksFault 66 = .ok (.getfield 7, 3) := by decide +kernel
theorem dX7_checksFault_69 : decode cX7_checksFault 69 = .ok (.iconst 2, 1) := by decide +kernel
theorem dX7_checksFault_70 : decode cX7_checksFault 70 = .ok (.iaload, 1) := by decide +kernel
theorem dX7_checksFault_71 : decode cX7_checksFault 71 = .ok (.if_icmp .ge 54, 3) := by decide +kernel
theorem dX7_checksFault_74 : decode cX7_checksFault 74 = .ok (.aload_n 0, 1) := by decide +kernel
theorem dX7_checksFault_75 : decode cX7_checksFault 75 = .ok (.getfield 7, 3) := by decide +kernel
theorem dX7_checksFault_78 : decode cX7_checksFault 78 = .ok (.bipush 32, 2) := by decide +kernel
theorem dX7_checksFault_80 : decode cX7_checksFault 80 = .ok (.iload 4, 2) := by decide +kernel
theorem dX7_checksFault_82 : decode cX7_checksFault 82 = .ok (.iadd, 1) := by decide +kernel
theorem dX7_checksFault_83 : decode cX7_checksFault 83 = .ok (.iaload, 1) := by decide +kernel
theorem dX7_checksFault_84 : decode cX7_checksFault 84 = .ok (.iload_n 1, 1) := by decide +kernel
theorem dX7_checksFault_85 : decode cX7_checksFault 85 = .ok (.if_icmp .ne 34, 3) := by decide +kernel
theorem dX7_checksFault_88 : decode cX7_checksFault 88 = .ok (.aload_n 0, 1) := by decide +kernel
theorem dX7_checksFault_89 : decode cX7_checksFault 89 = .ok (.getfield 7, 3) := by decide +kernel
theorem dX7_checksFault_92 : decode cX7_checksFault 92 = .ok (.bipush 42, 2) := by decide +kernel
theorem dX7_checksFault_94 : decode cX7_checksFault 94 = .ok (.iload 4, 2) := by decide +kernel
theorem dX7_checksFault_96 : decode cX7_checksFault 96 = .ok (.iadd, 1) := by decide +kernel
theorem dX7_checksFault_97 : decode cX7_checksFault 97 = .ok (.iaload, 1) := by decide +kernel
theorem dX7_checksFault_98 : decode cX7_checksFault 98 = .ok (.iload_n 2, 1) := by decide +kernel
theorem dX7_checksFault_99 : decode cX7_checksFault 99 = .ok (.if_icmp .ne 20, 3) := by decide +kernel
theorem dX7_checksFault_102 : decode cX7_checksFault 102 = .ok (.aload_n 0, 1) := by decide +kernel
theorem dX7_checksFault_103 : decode cX7_checksFault 103 = .ok (.getfield 7, 3) := by decide +kernel
theorem dX7_checksFault_106 : decode cX7_checksFault 106 = .ok (.bipush 52, 2) := by decide +kernel
theorem dX7_checksFault_108 : decode cX7_checksFault 108 = .ok (.iload 4, 2) := by decide +kernel
theorem dX7_checksFault_110 : decode cX7_checksFault 110 = .ok (.iadd, 1) := by decide +kernel
theorem dX7_checksFault_111 : decode cX7_checksFault 111 = .ok (.iaload, 1) := by decide +kernel
theorem dX7_checksFault_112 : decode cX7_checksFault 112 = .ok (.iload_n 3, 1) := by decide +kernel
theorem dX7_checksFault_113 : decode cX7_checksFault 113 = .ok (.if_icmp .ne 6, 3) := by decide +kernel
theorem dX7_checksFault_116 : decode cX7_checksFault 116 = .ok (.ldc 35, 2) := by decide +kernel
theorem dX7_checksFault_118 : decode cX7_checksFault 118 = .ok (.ireturn, 1) := by decide +kernel
theorem dX7_checksFault_119 : decode cX7_checksFault 119 = .ok (.iinc 4 1, 3) := by decide +kernel
theorem dX7_checksFault_122 : decode cX7_checksFault 122 = .ok (.goto (-59), 3) := by decide +kernel
theorem dX7_checksFault_125 : decode cX7_checksFault 125 = .ok (.aload_n 0, 1) := by decide +kernel
theorem dX7_checksFault_126 : decode cX7_checksFault 126 = .ok (.getfield 7, 3) := by decide +kernel
theorem dX7_checksFault_129 : decode cX7_checksFault 129 = .ok (.iconst 2, 1) := by decide +kernel
theorem dX7_checksFault_130 : decode cX7_checksFault 130 = .ok (.iaload, 1) := by decide +kernel
theorem dX7_checksFault_131 : decode cX7_checksFault 131 = .ok (.bipush 10, 2) := by decide +kernel
theorem dX7_checksFault_133 : decode cX7_checksFault 133 = .ok (.if_icmp .ne 8, 3) := by decide +kernel
theorem dX7_checksFault_136 : decode cX7_checksFault 136 = .ok (.ldc 57, 2) := by decide +kernel
theorem dX7_checksFault_138 : decode cX7_checksFault 138 = .ok (.goto 4, 3) := by decide +kernel
theorem dX7_checksFault_141 : decode cX7_checksFault 141 = .ok (.iconst 0, 1) := by decide +kernel
theorem dX7_checksFault_142 : decode cX7_checksFault 142 = .ok (.ireturn, 1) := by decide +kernel
theorem dX7_addsFault_0 : decode cX7_addsFault 0 = .ok (.aload_n 0, 1) := by decide +kernel
theorem dX7_addsFault_1 : decode cX7_addsFault 1 = .ok (.getfield 7, 3) := by decide +kernel
theorem dX7_addsFault_4 : decode cX7_addsFault 4 = .ok (.iconst 2, 1) := by decide +kernel
theorem dX7_addsFault_5 : decode cX7_addsFault 5 = .ok (.iaload, 1) := by decide +kernel
theorem dX7_addsFault_6 : decode cX7_addsFault 6 = .ok (.istore 4, 2) := by decide +kernel
theorem dX7_addsFault_8 : decode cX7_addsFault 8 = .ok (.aload_n 0, 1) := by decide +kernel
theorem dX7_addsFault_9 : decode cX7_addsFault 9 = .ok (.getfield 7, 3) := by decide +kernel
theorem dX7_addsFault_12 : decode cX7_addsFault 12 = .ok (.bipush 32, 2) := by decide +kernel
theorem dX7_addsFault_14 : decode cX7_addsFault 14 = .ok (.iload 4, 2) := by decide +kernel
theorem dX7_addsFault_16 : decode cX7_addsFault 16 = .ok (.iadd, 1) := by decide +kernel
theorem dX7_addsFault_17 : decode cX7_addsFault 17 = .ok (.iload_n 1, 1) := by decide +kernel
theorem dX7_addsFault_18 : decode cX7_addsFault 18 = .ok (.iastore, 1) := by decide +kernel
theorem dX7_addsFault_19 : decode cX7_addsFault 19 = .ok (.aload_n 0, 1) := by decide +kernel
theorem dX7_addsFault_20 : decode cX7_addsFault 20 = .ok (.getfield 7, 3) := by decide +kernel
theorem dX7_addsFault_23 : decode cX7_addsFault 23 = .ok (.bipush 42, 2) := by decide +kernel
theorem dX7_addsFault_25 : decode cX7_addsFault 25 = .ok (.iload 4, 2) := by decide +kernel
theorem dX7_addsFault_27 : decode cX7_addsFault 27 = .ok (.iadd, 1) := by decide +kernel
theorem dX7_addsFault_28 : decode cX7_addsFault 28 = .ok (.iload_n 2, 1) := by decide +kernel
theorem dX7_addsFault_29 : decode cX7_addsFault 29 = .ok (.iastore, 1) := by decide +kernel
theorem dX7_addsFault_30 : decode cX7_addsFault 30 = .ok (.aload_n 0, 1) := by decide +kernel
theorem dX7_addsFault_31 : decode cX7_addsFault 31 = .ok (.getfield 7, 3) := by decide +kernel
theorem dX7_addsFault_34 : decode cX7_addsFault 34 = .ok (.bipush 52, 2) := by decide +kernel
theorem dX7_addsFault_36 : decode cX7_addsFault 36 = .ok (.iload 4, 2) := by decide +kernel
theorem dX7_addsFault_38 : decode cX7_addsFault 38 = .ok (.iadd, 1) := by decide +kernel
theorem dX7_addsFault_39 : decode cX7_addsFault 39 = .ok (.iload_n 3, 1) := by decide +kernel
theorem dX7_addsFault_40 : decode cX7_addsFault 40 = .ok (.iastore, 1) := by decide +kernel
theorem dX7_addsFault_41 : decode cX7_addsFault 41 = .ok (.aload_n 0, 1) := by decide +kernel
theorem dX7_addsFault_42 : decode cX7_addsFault 42 = .ok (.getfield 7, 3) := by decide +kernel
theorem dX7_addsFault_45 : decode cX7_addsFault 45 = .ok (.bipush 62, 2) := by decide +kernel
theorem dX7_addsFault_47 : decode cX7_addsFault 47 = .ok (.iload 4, 2) := by decide +kernel
theorem dX7_addsFault_49 : decode cX7_addsFault 49 = .ok (.iadd, 1) := by decide +kernel
theorem dX7_addsFault_50 : decode cX7_addsFault 50 = .ok (.iconst (-1), 1) := by decide +kernel
theorem dX7_addsFault_51 : decode cX7_addsFault 51 = .ok (.iastore, 1) := by decide +kernel
theorem dX7_addsFault_52 : decode cX7_addsFault 52 = .ok (.aload_n 0, 1) := by decide +kernel
theorem dX7_addsFault_53 : decode cX7_addsFault 53 = .ok (.getfield 7, 3) := by decide +kernel
theorem dX7_addsFault_56 : decode cX7_addsFault 56 = .ok (.iconst 2, 1) := by decide +kernel
theorem dX7_addsFault_57 : decode cX7_addsFault 57 = .ok (.dup2, 1) := by decide +kernel
theorem dX7_addsFault_58 : decode cX7_addsFault 58 = .ok (.iaload, 1) := by decide +kernel
theorem dX7_addsFault_59 : decode cX7_addsFault 59 = .ok (.iconst 1, 1) := by decide +kernel
theorem dX7_addsFault_60 : decode cX7_addsFault 60 = .ok (.iadd, 1) := by decide +kernel
theorem dX7_addsFault_61 : decode cX7_addsFault 61 = .ok (.iastore, 1) := by decide +kernel
theorem dX7_addsFault_62 : decode cX7_addsFault 62 = .ok (.iload 4, 2) := by decide +kernel
theorem dX7_addsFault_64 : decode cX7_addsFault 64 = .ok (.ireturn, 1) := by decide +kernel
theorem dX7_fault_0 : decode cX7_fault 0 = .ok (.aload_n 0, 1) := by decide +kernel
theorem dX7_fault_1 : decode cX7_fault 1 = .ok (.iload_n 1, 1) := by decide +kernel
theorem dX7_fault_2 : decode cX7_fault 2 = .ok (.iload_n 2, 1) := by decide +kernel
theorem dX7_fault_3 : decode cX7_fault 3 = .ok (.iload_n 3, 1) := by decide +kernel
theorem dX7_fault_4 : decode cX7_fault 4 = .ok (.invokevirtual 80, 3) := by decide +kernel
theorem dX7_fault_7 : decode cX7_fault 7 = .ok (.istore 4, 2) := by decide +kernel
theorem dX7_fault_9 : decode cX7_fault 9 = .ok (.iload 4, 2) := by decide +kernel
theorem dX7_fault_11 : decode cX7_fault 11 = .ok (.ifCond .eq 6, 3) := by decide +kernel
theorem dX7_fault_14 : decode cX7_fault 14 = .ok (.iload 4, 2) := by decide +kernel
theorem dX7_fault_16 : decode cX7_fault 16 = .ok (.ireturn, 1) := by decide +kernel
theorem dX7_fault_17 : decode cX7_fault 17 = .ok (.aload_n 0, 1) := by decide +kernel
theorem dX7_fault_18 : decode cX7_fault 18 = .ok (.invokevirtual 61, 3) := by decide +kernel
theorem dX7_fault_21 : decode cX7_fault 21 = .ok (.aload_n 0, 1) := by decide +kernel
theorem dX7_fault_22 : decode cX7_fault 22 = .ok (.iload_n 1, 1) := by decide +kernel
theorem dX7_fault_23 : decode cX7_fault 23 = .ok (.iload_n 2, 1) := by decide +kernel
theorem dX7_fault_24 : decode cX7_fault 24 = .ok (.iload_n 3, 1) := by decide +kernel
theorem dX7_fault_25 : decode cX7_fault 25 = .ok (.invokevirtual 83, 3) := by decide +kernel
theorem dX7_fault_28 : decode cX7_fault 28 = .ok (.ireturn, 1) := by decide +kernel
theorem dX7_bless_0 : decode cX7_bless 0 = .ok (.iload_n 1, 1) := by decide +kernel
theorem dX7_bless_1 : decode cX7_bless 1 = .ok (.iconst 0, 1) := by decide +kernel
theorem dX7_bless_2 : decode cX7_bless 2 = .ok (.bipush 15, 2) := by decide +kernel
theorem dX7_bless_4 : decode cX7_bless 4 = .ok (.invokestatic 45, 3) := by decide +kernel
theorem dX7_bless_7 : decode cX7_bless 7 = .ok (.ifCond .eq 13, 3) := by decide +kernel
theorem dX7_bless_10 : decode cX7_bless 10 = .ok (.iload_n 2, 1) := by decide +kernel
theorem dX7_bless_11 : decode cX7_bless 11 = .ok (.iconst 0, 1) := by decide +kernel
theorem dX7_bless_12 : decode cX7_bless 12 = .ok (.bipush 127, 2) := by decide +kernel
theorem dX7_bless_14 : decode cX7_bless 14 = .ok (.invokestatic 45, 3) := by decide +kernel
theorem dX7_bless_17 : decode cX7_bless 17 = .ok (.ifCond .ne 6, 3) := by decide +kernel
theorem dX7_bless_20 : decode cX7_bless 20 = .ok (.ldc 53, 2) := by decide +kernel
theorem dX7_bless_22 : decode cX7_bless 22 = .ok (.ireturn, 1) := by decide +kernel
theorem dX7_bless_23 : decode cX7_bless 23 = .ok (.aload_n 0, 1) := by decide +kernel
theorem dX7_bless_24 : decode cX7_bless 24 = .ok (.invokevirtual 61, 3) := by decide +kernel
theorem dX7_bless_27 : decode cX7_bless 27 = .ok (.aload_n 0, 1) := by decide +kernel
theorem dX7_bless_28 : decode cX7_bless 28 = .ok (.getfield 7, 3) := by decide +kernel
theorem dX7_bless_31 : decode cX7_bless 31 = .ok (.bipush 72, 2) := by decide +kernel
theorem dX7_bless_33 : decode cX7_bless 33 = .ok (.iload_n 1, 1) := by decide +kernel
theorem dX7_bless_34 : decode cX7_bless 34 = .ok (.iadd, 1) := by decide +kernel
theorem dX7_bless_35 : decode cX7_bless 35 = .ok (.iaload, 1) := by decide +kernel
theorem dX7_bless_36 : decode cX7_bless 36 = .ok (.istore_n 3, 1) := by decide +kernel
theorem dX7_bless_37 : decode cX7_bless 37 = .ok (.aload_n 0, 1) := by decide +kernel
theorem dX7_bless_38 : decode cX7_bless 38 = .ok (.getfield 7, 3) := by decide +kernel
theorem dX7_bless_41 : decode cX7_bless 41 = .ok (.bipush 72, 2) := by decide +kernel
theorem dX7_bless_43 : decode cX7_bless 43 = .ok (.iload_n 1, 1) := by decide +kernel
theorem dX7_bless_44 : decode cX7_bless 44 = .ok (.iadd, 1) := by decide +kernel
theorem dX7_bless_45 : decode cX7_bless 45 = .ok (.iload_n 2, 1) := by decide +kernel
theorem dX7_bless_46 : decode cX7_bless 46 = .ok (.iastore, 1) := by decide +kernel
theorem dX7_bless_47 : decode cX7_bless 47 = .ok (.iload_n 3, 1) := by decide +kernel
theorem dX7_bless_48 : decode cX7_bless 48 = .ok (.ireturn, 1) := by decide +kernel
theorem dX7_weekday_0 : decode cX7_weekday 0 = .ok (.aload_n 0, 1) := by decide +kernel
theorem dX7_weekday_1 : decode cX7_weekday 1 = .ok (.getfield 7, 3) := by decide +kernel
theorem dX7_weekday_4 : decode cX7_weekday 4 = .ok (.iconst 3, 1) := by decide +kernel
theorem dX7_weekday_5 : decode cX7_weekday 5 = .ok (.iaload, 1) := by decide +kernel
theorem dX7_weekday_6 : decode cX7_weekday 6 = .ok (.bipush 7, 2) := by decide +kernel
theorem dX7_weekday_8 : decode cX7_weekday 8 = .ok (.irem, 1) := by decide +kernel
theorem dX7_weekday_9 : decode cX7_weekday 9 = .ok (.ireturn, 1) := by decide +kernel
theorem dX7_touchedOn_0 : decode cX7_touchedOn 0 = .ok (.iconst 0, 1) := by decide +kernel
theorem dX7_touchedOn_1 : decode cX7_touchedOn 1 = .ok (.istore_n 2, 1) := by decide +kernel
theorem dX7_touchedOn_2 : decode cX7_touchedOn 2 = .ok (.iconst 0, 1) := by decide +kernel
theorem dX7_touchedOn_3 : decode cX7_touchedOn 3 = .ok (.istore_n 3, 1) := by decide +kernel
theorem dX7_touchedOn_4 : decode cX7_touchedOn 4 = .ok (.iload_n 3, 1) := by decide +kernel
theorem dX7_touchedOn_5 : decode cX7_touchedOn 5 = .ok (.bipush 16, 2) := by decide +kernel
theorem dX7_touchedOn_7 : decode cX7_touchedOn 7 = .ok (.if_icmp .ge 35, 3) := by decide +kernel
theorem dX7_touchedOn_10 : decode cX7_touchedOn 10 = .ok (.iload_n 2, 1) := by decide +kernel
theorem dX7_touchedOn_11 : decode cX7_touchedOn 11 = .ok (.aload_n 0, 1) := by decide +kernel
theorem dX7_touchedOn_12 : decode cX7_touchedOn 12 = .ok (.getfield 7, 3) := by decide +kernel
theorem dX7_touchedOn_15 : decode cX7_touchedOn 15 = .ok (.bipush 72, 2) := by decide +kernel
theorem dX7_touchedOn_17 : decode cX7_touchedOn 17 = .ok (.iload_n 3, 1) := by decide +kernel
theorem dX7_touchedOn_18 : decode cX7_touchedOn 18 = .ok (.iadd, 1) := by decide +kernel
theorem dX7_touchedOn_19 : decode cX7_touchedOn 19 = .ok (.iaload, 1) := by decide +kernel
theorem dX7_touchedOn_20 : decode cX7_touchedOn 20 = .ok (.iload_n 1, 1) := by decide +kernel
theorem dX7_touchedOn_21 : decode cX7_touchedOn 21 = .ok (.invokestatic 36, 3) := by decide +kernel
theorem dX7_touchedOn_24 : decode cX7_touchedOn 24 = .ok (.ifCond .eq 9, 3) := by decide +kernel
theorem dX7_touchedOn_27 : decode cX7_touchedOn 27 = .ok (.iconst 1, 1) := by decide +kernel
theorem dX7_touchedOn_28 : decode cX7_touchedOn 28 = .ok (.iload_n 3, 1) := by decide +kernel
theorem dX7_touchedOn_29 : decode cX7_touchedOn 29 = .ok (.ishl, 1) := by decide +kernel
theorem dX7_touchedOn_30 : decode cX7_touchedOn 30 = .ok (.goto 4, 3) := by decide +kernel
theorem dX7_touchedOn_33 : decode cX7_touchedOn 33 = .ok (.iconst 0, 1) := by decide +kernel
theorem dX7_touchedOn_34 : decode cX7_touchedOn 34 = .ok (.ior, 1) := by decide +kernel
theorem dX7_touchedOn_35 : decode cX7_touchedOn 35 = .ok (.istore_n 2, 1) := by decide +kernel
theorem dX7_touchedOn_36 : decode cX7_touchedOn 36 = .ok (.iinc 3 1, 3) := by decide +kernel
theorem dX7_touchedOn_39 : decode cX7_touchedOn 39 = .ok (.goto (-35), 3) := by decide +kernel
theorem dX7_touchedOn_42 : decode cX7_touchedOn 42 = .ok (.iload_n 2, 1) := by decide +kernel
theorem dX7_touchedOn_43 : decode cX7_touchedOn 43 = .ok (.ireturn, 1) := by decide +kernel
theorem dX7_touchedNow_0 : decode cX7_touchedNow 0 = .ok (.aload_n 0, 1) := by decide +kernel
theorem dX7_touchedNow_1 : decode cX7_touchedNow 1 = .ok (.aload_n 0, 1) := by decide +kernel
theorem dX7_touchedNow_2 : decode cX7_touchedNow 2 = .ok (.invokevirtual 86, 3) := by decide +kernel
theorem dX7_touchedNow_5 : decode cX7_touchedNow 5 = .ok (.invokevirtual 90, 3) := by decide +kernel
theorem dX7_touchedNow_8 : decode cX7_touchedNow 8 = .ok (.aload_n 0, 1) := by decide +kernel
theorem dX7_touchedNow_9 : decode cX7_touchedNow 9 = .ok (.getfield 7, 3) := by decide +kernel
theorem dX7_touchedNow_12 : decode cX7_touchedNow 12 = .ok (.iconst 5, 1) := by decide +kernel
theorem dX7_touchedNow_13 : decode cX7_touchedNow 13 = .ok (.iaload, 1) := by decide +kernel
theorem dX7_touchedNow_14 : decode cX7_touchedNow 14 = .ok (.ior, 1) := by decide +kernel
theorem dX7_touchedNow_15 : decode cX7_touchedNow 15 = .ok (.ireturn, 1) := by decide +kernel
theorem dX7_orMissing_0 : decode cX7_orMissing 0 = .ok (.iload_n 0, 1) := by decide +kernel
theorem dX7_orMissing_1 : decode cX7_orMissing 1 = .ok (.iconst (-1), 1) := by decide +kernel
theorem dX7_orMissing_2 : decode cX7_orMissing 2 = .ok (.if_icmp .ne 8, 3) := by decide +kernel
theorem dX7_orMissing_5 : decode cX7_orMissing 5 = .ok (.ldc 93, 2) := by decide +kernel
theorem dX7_orMissing_7 : decode cX7_orMissing 7 = .ok (.goto 4, 3) := by decide +kernel
theorem dX7_orMissing_10 : decode cX7_orMissing 10 = .ok (.iload_n 0, 1) := by decide +kernel
theorem dX7_orMissing_11 : decode cX7_orMissing 11 = .ok (.ireturn, 1) := by decide +kernel
theorem dX7_pinOf_0 : decode cX7_pinOf 0 = .ok (.iload_n 1, 1) := by decide +kernel
theorem dX7_pinOf_1 : decode cX7_pinOf 1 = .ok (.iconst 0, 1) := by decide +kernel
theorem dX7_pinOf_2 : decode cX7_pinOf 2 = .ok (.bipush 15, 2) := by decide +kernel
theorem dX7_pinOf_4 : decode cX7_pinOf 4 = .ok (.invokestatic 45, 3) := by decide +kernel
theorem dX7_pinOf_7 : decode cX7_pinOf 7 = .ok (.ifCond .eq 12, 3) := by decide +kernel
theorem dX7_pinOf_10 : decode cX7_pinOf 10 = .ok (.iload_n 2, 1) := by decide +kernel
theorem dX7_pinOf_11 : decode cX7_pinOf 11 = .ok (.iconst 0, 1) := by decide +kernel
theorem dX7_pinOf_12 : decode cX7_pinOf 12 = .ok (.iconst 4, 1) := by decide +kernel
theorem dX7_pinOf_13 : decode cX7_pinOf 13 = .ok (.invokestatic 45, 3) := by decide +kernel
theorem dX7_pinOf_16 : decode cX7_pinOf 16 = .ok (.ifCond .ne 6, 3) := by decide +kernel
theorem dX7_pinOf_19 : decode cX7_pinOf 19 = .ok (.ldc 53, 2) := by decide +kernel
theorem dX7_pinOf_21 : decode cX7_pinOf 21 = .ok (.ireturn, 1) := by decide +kernel
theorem dX7_pinOf_22 : decode cX7_pinOf 22 = .ok (.aload_n 0, 1) := by decide +kernel
theorem dX7_pinOf_23 : decode cX7_pinOf 23 = .ok (.iload_n 1, 1) := by decide +kernel
theorem dX7_pinOf_24 : decode cX7_pinOf 24 = .ok (.invokevirtual 67, 3) := by decide +kernel
theorem dX7_pinOf_27 : decode cX7_pinOf 27 = .ok (.istore_n 3, 1) := by decide +kernel
theorem dX7_pinOf_28 : decode cX7_pinOf 28 = .ok (.iload_n 2, 1) := by decide +kernel
theorem dX7_pinOf_29 : decode cX7_pinOf 29 = .ok (.tableswitch 72 0 3 #[31, 40, 45, 62], 31) := by decide +kernel
theorem dX7_pinOf_60 : decode cX7_pinOf 60 = .ok (.aload_n 0, 1) := by decide +kernel
theorem dX7_pinOf_61 : decode cX7_pinOf 61 = .ok (.iload_n 1, 1) := by decide +kernel
theorem dX7_pinOf_62 : decode cX7_pinOf 62 = .ok (.invokevirtual 54, 3) := by decide +kernel
theorem dX7_pinOf_65 : decode cX7_pinOf 65 = .ok (.invokestatic 94, 3) := by decide +kernel
theorem dX7_pinOf_68 : decode cX7_pinOf 68 = .ok (.ireturn, 1) := by decide +kernel
theorem dX7_pinOf_69 : decode cX7_pinOf 69 = .ok (.iload_n 3, 1) := by decide +kernel
theorem dX7_pinOf_70 : decode cX7_pinOf 70 = .ok (.invokestatic 94, 3) := by decide +kernel
theorem dX7_pinOf_73 : decode cX7_pinOf 73 = .ok (.ireturn, 1) := by decide +kernel
theorem dX7_pinOf_74 : decode cX7_pinOf 74 = .ok (.iload_n 3, 1) := by decide +kernel
theorem dX7_pinOf_75 : decode cX7_pinOf 75 = .ok (.iconst (-1), 1) := by decide +kernel
theorem dX7_pinOf_76 : decode cX7_pinOf 76 = .ok (.if_icmp .ne 8, 3) := by decide +kernel
theorem dX7_pinOf_79 : decode cX7_pinOf 79 = .ok (.ldc 93, 2) := by decide +kernel
theorem dX7_pinOf_81 : decode cX7_pinOf 81 = .ok (.goto 9, 3) := by decide +kernel
theorem dX7_pinOf_84 : decode cX7_pinOf 84 = .ok (.aload_n 0, 1) := by decide +kernel
theorem dX7_pinOf_85 : decode cX7_pinOf 85 = .ok (.iload_n 3, 1) := by decide +kernel
theorem dX7_pinOf_86 : decode cX7_pinOf 86 = .ok (.iload_n 1, 1) := by decide +kernel
theorem dX7_pinOf_87 : decode cX7_pinOf 87 = .ok (.invokevirtual 40, 3) := by decide +kernel
theorem dX7_pinOf_90 : decode cX7_pinOf 90 = .ok (.ireturn, 1) := by decide +kernel
theorem dX7_pinOf_91 : decode cX7_pinOf 91 = .ok (.aload_n 0, 1) := by decide +kernel
theorem dX7_pinOf_92 : decode cX7_pinOf 92 = .ok (.getfield 7, 3) := by decide +kernel
theorem dX7_pinOf_95 : decode cX7_pinOf 95 = .ok (.bipush 72, 2) := by decide +kernel
theorem dX7_pinOf_97 : decode cX7_pinOf 97 = .ok (.iload_n 1, 1) := by decide +kernel
theorem dX7_pinOf_98 : decode cX7_pinOf 98 = .ok (.iadd, 1) := by decide +kernel
theorem dX7_pinOf_99 : decode cX7_pinOf 99 = .ok (.iaload, 1) := by decide +kernel
theorem dX7_pinOf_100 : decode cX7_pinOf 100 = .ok (.ireturn, 1) := by decide +kernel
theorem dX7_pinOf_101 : decode cX7_pinOf 101 = .ok (.aload_n 0, 1) := by decide +kernel
theorem dX7_pinOf_102 : decode cX7_pinOf 102 = .ok (.invokevirtual 97, 3) := by decide +kernel
theorem dX7_pinOf_105 : decode cX7_pinOf 105 = .ok (.iload_n 1, 1) := by decide +kernel
theorem dX7_pinOf_106 : decode cX7_pinOf 106 = .ok (.invokestatic 36, 3) := by decide +kernel
theorem dX7_pinOf_109 : decode cX7_pinOf 109 = .ok (.ifCond .eq 7, 3) := by decide +kernel
theorem dX7_pinOf_112 : decode cX7_pinOf 112 = .ok (.iconst 1, 1) := by decide +kernel
theorem dX7_pinOf_113 : decode cX7_pinOf 113 = .ok (.goto 4, 3) := by decide +kernel
theorem dX7_pinOf_116 : decode cX7_pinOf 116 = .ok (.iconst 0, 1) := by decide +kernel
theorem dX7_pinOf_117 : decode cX7_pinOf 117 = .ok (.ireturn, 1) := by decide +kernel
theorem dX7_isFault_0 : decode cX7_isFault 0 = .ok (.iload_n 1, 1) := by decide +kernel
theorem dX7_isFault_1 : decode cX7_isFault 1 = .ok (.iconst 0, 1) := by decide +kernel
theorem dX7_isFault_2 : decode cX7_isFault 2 = .ok (.aload_n 0, 1) := by decide +kernel
theorem dX7_isFault_3 : decode cX7_isFault 3 = .ok (.getfield 7, 3) := by decide +kernel
theorem dX7_isFault_6 : decode cX7_isFault 6 = .ok (.iconst 2, 1) := by decide +kernel
theorem dX7_isFault_7 : decode cX7_isFault 7 = .ok (.iaload, 1) := by decide +kernel
theorem dX7_isFault_8 : decode cX7_isFault 8 = .ok (.iconst 1, 1) := by decide +kernel
theorem dX7_isFault_9 : decode cX7_isFault 9 = .ok (.isub, 1) := by decide +kernel
theorem dX7_isFault_10 : decode cX7_isFault 10 = .ok (.invokestatic 45, 3) := by decide +kernel
theorem dX7_isFault_13 : decode cX7_isFault 13 = .ok (.ireturn, 1) := by decide +kernel
theorem dX7_isFaultOrNone_0 : decode cX7_isFaultOrNone 0 = .ok (.iload_n 1, 1) := by decide +kernel
theorem dX7_isFaultOrNone_1 : decode cX7_isFaultOrNone 1 = .ok (.iconst (-1), 1) := by decide +kernel
theorem dX7_isFaultOrNone_2 : decode cX7_isFaultOrNone 2 = .ok (.aload_n 0, 1) := by decide +kernel
theorem dX7_isFaultOrNone_3 : decode cX7_isFaultOrNone 3 = .ok (.getfield 7, 3) := by decide +kernel
theorem dX7_isFaultOrNone_6 : decode cX7_isFaultOrNone 6 = .ok (.iconst 2, 1) := by decide +kernel
theorem dX7_isFaultOrNone_7 : decode cX7_isFaultOrNone 7 = .ok (.iaload, 1) := by decide +kernel
theorem dX7_isFaultOrNone_8 : decode cX7_isFaultOrNone 8 = .ok (.iconst 1, 1) := by decide +kernel
theorem dX7_isFaultOrNone_9 : decode cX7_isFaultOrNone 9 = .ok (.isub, 1) := by decide +kernel
theorem dX7_isFaultOrNone_10 : decode cX7_isFaultOrNone 10 = .ok (.invokestatic 45, 3) := by decide +kernel
theorem dX7_isFaultOrNone_13 : decode cX7_isFaultOrNone 13 = .ok (.ireturn, 1) := by decide +kernel
theorem dX7_faultOf_0 : decode cX7_faultOf 0 = .ok (.aload_n 0, 1) := by decide +kernel
theorem dX7_faultOf_1 : decode cX7_faultOf 1 = .ok (.iload_n 1, 1) := by decide +kernel
theorem dX7_faultOf_2 : decode cX7_faultOf 2 = .ok (.invokevirtual 100, 3) := by decide +kernel
theorem dX7_faultOf_5 : decode cX7_faultOf 5 = .ok (.ifCond .eq 12, 3) := by decide +kernel
theorem dX7_faultOf_8 : decode cX7_faultOf 8 = .ok (.iload_n 2, 1) := by decide +kernel
theorem dX7_faultOf_9 : decode cX7_faultOf 9 = .ok (.iconst 0, 1) := by decide +kernel
theorem dX7_faultOf_10 : decode cX7_faultOf 10 = .ok (.iconst 3, 1) := by decide +kernel
theorem dX7_faultOf_11 : decode cX7_faultOf 11 = .ok (.invokestatic 45, 3) := by decide +kernel
theorem dX7_faultOf_14 : decode cX7_faultOf 14 = .ok (.ifCond .ne 6, 3) := by decide +kernel
theorem dX7_faultOf_17 : decode cX7_faultOf 17 = .ok (.ldc 53, 2) := by decide +kernel
theorem dX7_faultOf_19 : decode cX7_faultOf 19 = .ok (.ireturn, 1) := by decide +kernel
theorem dX7_faultOf_20 : decode cX7_faultOf 20 = .ok (.iload_n 2, 1) := by decide +kernel
theorem dX7_faultOf_21 : decode cX7_faultOf 21 = .ok (.tableswitch 75 0 2 #[27, 37, 47], 27) := by decide +kernel
theorem dX7_faultOf_48 : decode cX7_faultOf 48 = .ok (.aload_n 0, 1) := by decide +kernel
theorem dX7_faultOf_49 : decode cX7_faultOf 49 = .ok (.getfield 7, 3) := by decide +kernel
theorem dX7_faultOf_52 : decode cX7_faultOf 52 = .ok (.bipush 32, 2) := by decide +kernel
theorem dX7_faultOf_54 : decode cX7_faultOf 54 = .ok (.iload_n 1, 1) := by decide +kernel
theorem dX7_faultOf_55 : decode cX7_faultOf 55 = .ok (.iadd, 1) := by decide +kernel
theorem dX7_faultOf_56 : decode cX7_faultOf 56 = .ok (.iaload, 1) := by decide +kernel
theorem dX7_faultOf_57 : decode cX7_faultOf 57 = .ok (.ireturn, 1) := by decide +kernel
theorem dX7_faultOf_58 : decode cX7_faultOf 58 = .ok (.aload_n 0, 1) := by decide +kernel
theorem dX7_faultOf_59 : decode cX7_faultOf 59 = .ok (.getfield 7, 3) := by decide +kernel
theorem dX7_faultOf_62 : decode cX7_faultOf 62 = .ok (.bipush 42, 2) := by decide +kernel
theorem dX7_faultOf_64 : decode cX7_faultOf 64 = .ok (.iload_n 1, 1) := by decide +kernel
theorem dX7_faultOf_65 : decode cX7_faultOf 65 = .ok (.iadd, 1) := by decide +kernel
theorem dX7_faultOf_66 : decode cX7_faultOf 66 = .ok (.iaload, 1) := by decide +kernel
theorem dX7_faultOf_67 : decode cX7_faultOf 67 = .ok (.ireturn, 1) := by decide +kernel
theorem dX7_faultOf_68 : decode cX7_faultOf 68 = .ok (.aload_n 0, 1) := by decide +kernel
theorem dX7_faultOf_69 : decode cX7_faultOf 69 = .ok (.getfield 7, 3) := by decide +kernel
theorem dX7_faultOf_72 : decode cX7_faultOf 72 = .ok (.bipush 32, 2) := by decide +kernel
theorem dX7_faultOf_74 : decode cX7_faultOf 74 = .ok (.iload_n 1, 1) := by decide +kernel
theorem dX7_faultOf_75 : decode cX7_faultOf 75 = .ok (.iadd, 1) := by decide +kernel
theorem dX7_faultOf_76 : decode cX7_faultOf 76 = .ok (.iaload, 1) := by decide +kernel
theorem dX7_faultOf_77 : decode cX7_faultOf 77 = .ok (.iconst 1, 1) := by decide +kernel
theorem dX7_faultOf_78 : decode cX7_faultOf 78 = .ok (.if_icmp .ne 15, 3) := by decide +kernel
theorem dX7_faultOf_81 : decode cX7_faultOf 81 = .ok (.aload_n 0, 1) := by decide +kernel
theorem dX7_faultOf_82 : decode cX7_faultOf 82 = .ok (.getfield 7, 3) := by decide +kernel
theorem dX7_faultOf_85 : decode cX7_faultOf 85 = .ok (.bipush 52, 2) := by decide +kernel
theorem dX7_faultOf_87 : decode cX7_faultOf 87 = .ok (.iload_n 1, 1) := by decide +kernel
theorem dX7_faultOf_88 : decode cX7_faultOf 88 = .ok (.iadd, 1) := by decide +kernel
theorem dX7_faultOf_89 : decode cX7_faultOf 89 = .ok (.iaload, 1) := by decide +kernel
theorem dX7_faultOf_90 : decode cX7_faultOf 90 = .ok (.goto 5, 3) := by decide +kernel
theorem dX7_faultOf_93 : decode cX7_faultOf 93 = .ok (.ldc 93, 2) := by decide +kernel
theorem dX7_faultOf_95 : decode cX7_faultOf 95 = .ok (.ireturn, 1) := by decide +kernel
theorem dX7_faultOf_96 : decode cX7_faultOf 96 = .ok (.aload_n 0, 1) := by decide +kernel
theorem dX7_faultOf_97 : decode cX7_faultOf 97 = .ok (.getfield 7, 3) := by decide +kernel
theorem dX7_faultOf_100 : decode cX7_faultOf 100 = .ok (.bipush 62, 2) := by decide +kernel
theorem dX7_faultOf_102 : decode cX7_faultOf 102 = .ok (.iload_n 1, 1) := by decide +kernel
theorem dX7_faultOf_103 : decode cX7_faultOf 103 = .ok (.iadd, 1) := by decide +kernel
theorem dX7_faultOf_104 : decode cX7_faultOf 104 = .ok (.iaload, 1) := by decide +kernel
theorem dX7_faultOf_105 : decode cX7_faultOf 105 = .ok (.invokestatic 94, 3) := by decide +kernel
theorem dX7_faultOf_108 : decode cX7_faultOf 108 = .ok (.ireturn, 1) := by decide +kernel
theorem dX7_hasFault_0 : decode cX7_hasFault 0 = .ok (.iload_n 1, 1) := by decide +kernel
theorem dX7_hasFault_1 : decode cX7_hasFault 1 = .ok (.iconst (-1), 1) := by decide +kernel
theorem dX7_hasFault_2 : decode cX7_hasFault 2 = .ok (.if_icmp .eq 33, 3) := by decide +kernel
theorem dX7_hasFault_5 : decode cX7_hasFault 5 = .ok (.aload_n 0, 1) := by decide +kernel
theorem dX7_hasFault_6 : decode cX7_hasFault 6 = .ok (.getfield 7, 3) := by decide +kernel
theorem dX7_hasFault_9 : decode cX7_hasFault 9 = .ok (.bipush 32, 2) := by decide +kernel
theorem dX7_hasFault_11 : decode cX7_hasFault 11 = .ok (.iload_n 1, 1) := by decide +kernel
theorem dX7_hasFault_12 : decode cX7_hasFault 12 = .ok (.iadd, 1) := by decide +kernel
theorem dX7_hasFault_13 : decode cX7_hasFault 13 = .ok (.iaload, 1) := by decide +kernel
theorem dX7_hasFault_14 : decode cX7_hasFault 14 = .ok (.iload_n 2, 1) := by decide +kernel
theorem dX7_hasFault_15 : decode cX7_hasFault 15 = .ok (.if_icmp .ne 20, 3) := by decide +kernel
theorem dX7_hasFault_18 : decode cX7_hasFault 18 = .ok (.aload_n 0, 1) := by decide +kernel
theorem dX7_hasFault_19 : decode cX7_hasFault 19 = .ok (.getfield 7, 3) := by decide +kernel
theorem dX7_hasFault_22 : decode cX7_hasFault 22 = .ok (.bipush 42, 2) := by decide +kernel
theorem dX7_hasFault_24 : decode cX7_hasFault 24 = .ok (.iload_n 1, 1) := by decide +kernel
theorem dX7_hasFault_25 : decode cX7_hasFault 25 = .ok (.iadd, 1) := by decide +kernel
theorem dX7_hasFault_26 : decode cX7_hasFault 26 = .ok (.iaload, 1) := by decide +kernel
theorem dX7_hasFault_27 : decode cX7_hasFault 27 = .ok (.iload_n 3, 1) := by decide +kernel
theorem dX7_hasFault_28 : decode cX7_hasFault 28 = .ok (.if_icmp .ne 7, 3) := by decide +kernel
theorem dX7_hasFault_31 : decode cX7_hasFault 31 = .ok (.iconst 1, 1) := by decide +kernel
theorem dX7_hasFault_32 : decode cX7_hasFault 32 = .ok (.goto 4, 3) := by decide +kernel
theorem dX7_hasFault_35 : decode cX7_hasFault 35 = .ok (.iconst 0, 1) := by decide +kernel
theorem dX7_hasFault_36 : decode cX7_hasFault 36 = .ok (.ireturn, 1) := by decide +kernel
theorem dX7_areLinked_0 : decode cX7_areLinked 0 = .ok (.aload_n 0, 1) := by decide +kernel
theorem dX7_areLinked_1 : decode cX7_areLinked 1 = .ok (.iload_n 2, 1) := by decide +kernel
theorem dX7_areLinked_2 : decode cX7_areLinked 2 = .ok (.invokevirtual 54, 3) := by decide +kernel
theorem dX7_areLinked_5 : decode cX7_areLinked 5 = .ok (.istore 4, 2) := by decide +kernel
theorem dX7_areLinked_7 : decode cX7_areLinked 7 = .ok (.iload 4, 2) := by decide +kernel
theorem dX7_areLinked_9 : decode cX7_areLinked 9 = .ok (.iconst (-1), 1) := by decide +kernel
theorem dX7_areLinked_10 : decode cX7_areLinked 10 = .ok (.if_icmp .eq 13, 3) := by decide +kernel
theorem dX7_areLinked_13 : decode cX7_areLinked 13 = .ok (.aload_n 0, 1) := by decide +kernel
theorem dX7_areLinked_14 : decode cX7_areLinked 14 = .ok (.iload_n 3, 1) := by decide +kernel
theorem dX7_areLinked_15 : decode cX7_areLinked 15 = .ok (.invokevirtual 54, 3) := by decide +kernel
theorem dX7_areLinked_18 : decode cX7_areLinked 18 = .ok (.iload 4, 2) := by decide +kernel
theorem dX7_areLinked_20 : decode cX7_areLinked 20 = .ok (.if_icmp .eq 5, 3) := by decide +kernel
theorem dX7_areLinked_23 : decode cX7_areLinked 23 = .ok (.iconst 0, 1) := by decide +kernel
theorem dX7_areLinked_24 : decode cX7_areLinked 24 = .ok (.ireturn, 1) := by decide +kernel
theorem dX7_areLinked_25 : decode cX7_areLinked 25 = .ok (.aload_n 0, 1) := by decide +kernel
theorem dX7_areLinked_26 : decode cX7_areLinked 26 = .ok (.iload_n 1, 1) := by decide +kernel
theorem dX7_areLinked_27 : decode cX7_areLinked 27 = .ok (.iconst 0, 1) := by decide +kernel
theorem dX7_areLinked_28 : decode cX7_areLinked 28 = .ok (.iload_n 2, 1) := by decide +kernel
theorem dX7_areLinked_29 : decode cX7_areLinked 29 = .ok (.invokevirtual 104, 3) := by decide +kernel
theorem dX7_areLinked_32 : decode cX7_areLinked 32 = .ok (.ifCond .ne 13, 3) := by decide +kernel
theorem dX7_areLinked_35 : decode cX7_areLinked 35 = .ok (.aload_n 0, 1) := by decide +kernel
theorem dX7_areLinked_36 : decode cX7_areLinked 36 = .ok (.iload_n 1, 1) := by decide +kernel
theorem dX7_areLinked_37 : decode cX7_areLinked 37 = .ok (.iconst 0, 1) := by decide +kernel
theorem dX7_areLinked_38 : decode cX7_areLinked 38 = .ok (.iload_n 3, 1) := by decide +kernel
theorem dX7_areLinked_39 : decode cX7_areLinked 39 = .ok (.invokevirtual 104, 3) := by decide +kernel
theorem dX7_areLinked_42 : decode cX7_areLinked 42 = .ok (.ifCond .eq 7, 3) := by decide +kernel
theorem dX7_areLinked_45 : decode cX7_areLinked 45 = .ok (.iconst 1, 1) := by decide +kernel
theorem dX7_areLinked_46 : decode cX7_areLinked 46 = .ok (.goto 4, 3) := by decide +kernel
theorem dX7_areLinked_49 : decode cX7_areLinked 49 = .ok (.iconst 0, 1) := by decide +kernel
theorem dX7_areLinked_50 : decode cX7_areLinked 50 = .ok (.istore 5, 2) := by decide +kernel
theorem dX7_areLinked_52 : decode cX7_areLinked 52 = .ok (.iload 5, 2) := by decide +kernel
theorem dX7_areLinked_54 : decode cX7_areLinked 54 = .ok (.ifCond .ne 29, 3) := by decide +kernel
theorem dX7_areLinked_57 : decode cX7_areLinked 57 = .ok (.aload_n 0, 1) := by decide +kernel
theorem dX7_areLinked_58 : decode cX7_areLinked 58 = .ok (.iload_n 1, 1) := by decide +kernel
theorem dX7_areLinked_59 : decode cX7_areLinked 59 = .ok (.iconst 2, 1) := by decide +kernel
theorem dX7_areLinked_60 : decode cX7_areLinked 60 = .ok (.iload 4, 2) := by decide +kernel
theorem dX7_areLinked_62 : decode cX7_areLinked 62 = .ok (.invokevirtual 104, 3) := by decide +kernel
theorem dX7_areLinked_65 : decode cX7_areLinked 65 = .ok (.ifCond .ne 18, 3) := by decide +kernel
theorem dX7_areLinked_68 : decode cX7_areLinked 68 = .ok (.aload_n 0, 1) := by decide +kernel
theorem dX7_areLinked_69 : decode cX7_areLinked 69 = .ok (.iload_n 1, 1) := by decide +kernel
theorem dX7_areLinked_70 : decode cX7_areLinked 70 = .ok (.iconst 3, 1) := by decide +kernel
theorem dX7_areLinked_71 : decode cX7_areLinked 71 = .ok (.iload 4, 2) := by decide +kernel
theorem dX7_areLinked_73 : decode cX7_areLinked 73 = .ok (.invokevirtual 104, 3) := by decide +kernel
theorem dX7_areLinked_76 : decode cX7_areLinked 76 = .ok (.ifCond .ne 7, 3) := by decide +kernel
theorem dX7_areLinked_79 : decode cX7_areLinked 79 = .ok (.iconst 1, 1) := by decide +kernel
theorem dX7_areLinked_80 : decode cX7_areLinked 80 = .ok (.goto 4, 3) := by decide +kernel
theorem dX7_areLinked_83 : decode cX7_areLinked 83 = .ok (.iconst 0, 1) := by decide +kernel
theorem dX7_areLinked_84 : decode cX7_areLinked 84 = .ok (.ireturn, 1) := by decide +kernel
theorem dX7_comesTo_0 : decode cX7_comesTo 0 = .ok (.aload_n 0, 1) := by decide +kernel
theorem dX7_comesTo_1 : decode cX7_comesTo 1 = .ok (.iload_n 1, 1) := by decide +kernel
theorem dX7_comesTo_2 : decode cX7_comesTo 2 = .ok (.iconst 4, 1) := by decide +kernel
theorem dX7_comesTo_3 : decode cX7_comesTo 3 = .ok (.iload 4, 2) := by decide +kernel
theorem dX7_comesTo_5 : decode cX7_comesTo 5 = .ok (.invokevirtual 104, 3) := by decide +kernel
theorem dX7_comesTo_8 : decode cX7_comesTo 8 = .ok (.ifCond .eq 5, 3) := by decide +kernel
theorem dX7_comesTo_11 : decode cX7_comesTo 11 = .ok (.iconst 0, 1) := by decide +kernel
theorem dX7_comesTo_12 : decode cX7_comesTo 12 = .ok (.ireturn, 1) := by decide +kernel
theorem dX7_comesTo_13 : decode cX7_comesTo 13 = .ok (.iload_n 2, 1) := by decide +kernel
theorem dX7_comesTo_14 : decode cX7_comesTo 14 = .ok (.aload_n 0, 1) := by decide +kernel
theorem dX7_comesTo_15 : decode cX7_comesTo 15 = .ok (.getfield 7, 3) := by decide +kernel
theorem dX7_comesTo_18 : decode cX7_comesTo 18 = .ok (.iload 5, 2) := by decide +kernel
theorem dX7_comesTo_20 : decode cX7_comesTo 20 = .ok (.ifCond .eq 8, 3) := by decide +kernel
theorem dX7_comesTo_23 : decode cX7_comesTo 23 = .ok (.bipush 17, 2) := by decide +kernel
theorem dX7_comesTo_25 : decode cX7_comesTo 25 = .ok (.goto 5, 3) := by decide +kernel
theorem dX7_comesTo_28 : decode cX7_comesTo 28 = .ok (.bipush 22, 2) := by decide +kernel
theorem dX7_comesTo_30 : decode cX7_comesTo 30 = .ok (.iload 4, 2) := by decide +kernel
theorem dX7_comesTo_32 : decode cX7_comesTo 32 = .ok (.iadd, 1) := by decide +kernel
theorem dX7_comesTo_33 : decode cX7_comesTo 33 = .ok (.iaload, 1) := by decide +kernel
theorem dX7_comesTo_34 : decode cX7_comesTo 34 = .ok (.invokestatic 36, 3) := by decide +kernel
theorem dX7_comesTo_37 : decode cX7_comesTo 37 = .ok (.istore 6, 2) := by decide +kernel
theorem dX7_comesTo_39 : decode cX7_comesTo 39 = .ok (.iconst 0, 1) := by decide +kernel
theorem dX7_comesTo_40 : decode cX7_comesTo 40 = .ok (.istore 7, 2) := by decide +kernel
theorem dX7_comesTo_42 : decode cX7_comesTo 42 = .ok (.iload 7, 2) := by decide +kernel
theorem dX7_comesTo_44 : decode cX7_comesTo 44 = .ok (.aload_n 0, 1) := by decide +kernel
theorem dX7_comesTo_45 : decode cX7_comesTo 45 = .ok (.getfield 7, 3) := by decide +kernel
theorem dX7_comesTo_48 : decode cX7_comesTo 48 = .ok (.iconst 1, 1) := by decide +kernel
theorem dX7_comesTo_49 : decode cX7_comesTo 49 = .ok (.iaload, 1) := by decide +kernel
theorem dX7_comesTo_50 : decode cX7_comesTo 50 = .ok (.if_icmp .ge 94, 3) := by decide +kernel
theorem dX7_comesTo_53 : decode cX7_comesTo 53 = .ok (.iload_n 3, 1) := by decide +kernel
theorem dX7_comesTo_54 : decode cX7_comesTo 54 = .ok (.iload 7, 2) := by decide +kernel
theorem dX7_comesTo_56 : decode cX7_comesTo 56 = .ok (.invokestatic 36, 3) := by decide +kernel
theorem dX7_comesTo_59 : decode cX7_comesTo 59 = .ok (.ifCond .eq 79, 3) := by decide +kernel
theorem dX7_comesTo_62 : decode cX7_comesTo 62 = .ok (.iload 6, 2) := by decide +kernel
theorem dX7_comesTo_64 : decode cX7_comesTo 64 = .ok (.ifCond .ne 67, 3) := by decide +kernel
theorem dX7_comesTo_67 : decode cX7_comesTo 67 = .ok (.iload 5, 2) := by decide +kernel
theorem dX7_comesTo_69 : decode cX7_comesTo 69 = .ok (.ifCond .eq 34, 3) := by decide +kernel
theorem dX7_comesTo_72 : decode cX7_comesTo 72 = .ok (.aload_n 0, 1) := by decide +kernel
theorem dX7_comesTo_73 : decode cX7_comesTo 73 = .ok (.iload_n 1, 1) := by decide +kernel
theorem dX7_comesTo_74 : decode cX7_comesTo 74 = .ok (.aload_n 0, 1) := by decide +kernel
theorem dX7_comesTo_75 : decode cX7_comesTo 75 = .ok (.getfield 7, 3) := by decide +kernel
theorem dX7_comesTo_78 : decode cX7_comesTo 78 = .ok (.bipush 22, 2) := by decide +kernel
theorem dX7_comesTo_80 : decode cX7_comesTo 80 = .ok (.iload 7, 2) := by decide +kernel
theorem dX7_comesTo_82 : decode cX7_comesTo 82 = .ok (.iadd, 1) := by decide +kernel
theorem dX7_comesTo_83 : decode cX7_comesTo 83 = .ok (.iaload, 1) := by decide +kernel
theorem dX7_comesTo_84 : decode cX7_comesTo 84 = .ok (.aload_n 0, 1) := by decide +kernel
theorem dX7_comesTo_85 : decode cX7_comesTo 85 = .ok (.getfield 7, 3) := by decide +kernel
theorem dX7_comesTo_88 : decode cX7_comesTo 88 = .ok (.bipush 17, 2) := by decide +kernel
theorem dX7_comesTo_90 : decode cX7_comesTo 90 = .ok (.iload 4, 2) := by decide +kernel
theorem dX7_comesTo_92 : decode cX7_comesTo 92 = .ok (.iadd, 1) := by decide +kernel
theorem dX7_comesTo_93 : decode cX7_comesTo 93 = .ok (.iaload, 1) := by decide +kernel
theorem dX7_comesTo_94 : decode cX7_comesTo 94 = .ok (.invokevirtual 107, 3) := by decide +kernel
theorem dX7_comesTo_97 : decode cX7_comesTo 97 = .ok (.ifCond .eq 38, 3) := by decide +kernel
theorem dX7_comesTo_100 : decode cX7_comesTo 100 = .ok (.goto 31, 3) := by decide +kernel
theorem dX7_comesTo_103 : decode cX7_comesTo 103 = .ok (.aload_n 0, 1) := by decide +kernel
theorem dX7_comesTo_104 : decode cX7_comesTo 104 = .ok (.iload_n 1, 1) := by decide +kernel
theorem dX7_comesTo_105 : decode cX7_comesTo 105 = .ok (.aload_n 0, 1) := by decide +kernel
theorem dX7_comesTo_106 : decode cX7_comesTo 106 = .ok (.getfield 7, 3) := by decide +kernel
theorem dX7_comesTo_109 : decode cX7_comesTo 109 = .ok (.bipush 22, 2) := by decide +kernel
theorem dX7_comesTo_111 : decode cX7_comesTo 111 = .ok (.iload 4, 2) := by decide +kernel
theorem dX7_comesTo_113 : decode cX7_comesTo 113 = .ok (.iadd, 1) := by decide +kernel
theorem dX7_comesTo_114 : decode cX7_comesTo 114 = .ok (.iaload, 1) := by decide +kernel
theorem dX7_comesTo_115 : decode cX7_comesTo 115 = .ok (.aload_n 0, 1) := by decide +kernel
theorem dX7_comesTo_116 : decode cX7_comesTo 116 = .ok (.getfield 7, 3) := by decide +kernel
theorem dX7_comesTo_119 : decode cX7_comesTo 119 = .ok (.bipush 17, 2) := by decide +kernel
theorem dX7_comesTo_121 : decode cX7_comesTo 121 = .ok (.iload 7, 2) := by decide +kernel
theorem dX7_comesTo_123 : decode cX7_comesTo 123 = .ok (.iadd, 1) := by decide +kernel
theorem dX7_comesTo_124 : decode cX7_comesTo 124 = .ok (.iaload, 1) := by decide +kernel
theorem dX7_comesTo_125 : decode cX7_comesTo 125 = .ok (.invokevirtual 107, 3) := by decide +kernel
theorem dX7_comesTo_128 : decode cX7_comesTo 128 = .ok (.ifCond .eq 7, 3) := by decide +kernel
theorem dX7_comesTo_131 : decode cX7_comesTo 131 = .ok (.iconst 1, 1) := by decide +kernel
theorem dX7_comesTo_132 : decode cX7_comesTo 132 = .ok (.goto 4, 3) := by decide +kernel
theorem dX7_comesTo_135 : decode cX7_comesTo 135 = .ok (.iconst 0, 1) := by decide +kernel
theorem dX7_comesTo_136 : decode cX7_comesTo 136 = .ok (.istore 6, 2) := by decide +kernel
theorem dX7_comesTo_138 : decode cX7_comesTo 138 = .ok (.iinc 7 1, 3) := by decide +kernel
theorem dX7_comesTo_141 : decode cX7_comesTo 141 = .ok (.goto (-99), 3) := by decide +kernel
theorem dX7_comesTo_144 : decode cX7_comesTo 144 = .ok (.iload 6, 2) := by decide +kernel
theorem dX7_comesTo_146 : decode cX7_comesTo 146 = .ok (.ireturn, 1) := by decide +kernel
theorem dX7_along_0 : decode cX7_along 0 = .ok (.iconst 0, 1) := by decide +kernel
theorem dX7_along_1 : decode cX7_along 1 = .ok (.istore 4, 2) := by decide +kernel
theorem dX7_along_3 : decode cX7_along 3 = .ok (.iconst 0, 1) := by decide +kernel
theorem dX7_along_4 : decode cX7_along 4 = .ok (.istore 5, 2) := by decide +kernel
theorem dX7_along_6 : decode cX7_along 6 = .ok (.iload 5, 2) := by decide +kernel
theorem dX7_along_8 : decode cX7_along 8 = .ok (.iconst 5, 1) := by decide +kernel
theorem dX7_along_9 : decode cX7_along 9 = .ok (.if_icmp .ge 62, 3) := by decide +kernel
theorem dX7_along_12 : decode cX7_along 12 = .ok (.iconst 0, 1) := by decide +kernel
theorem dX7_along_13 : decode cX7_along 13 = .ok (.istore 6, 2) := by decide +kernel
theorem dX7_along_15 : decode cX7_along 15 = .ok (.iload 6, 2) := by decide +kernel
theorem dX7_along_17 : decode cX7_along 17 = .ok (.aload_n 0, 1) := by decide +kernel
theorem dX7_along_18 : decode cX7_along 18 = .ok (.getfield 7, 3) := by decide +kernel
theorem dX7_along_21 : decode cX7_along 21 = .ok (.iconst 1, 1) := by decide +kernel
theorem dX7_along_22 : decode cX7_along 22 = .ok (.iaload, 1) := by decide +kernel
theorem dX7_along_23 : decode cX7_along 23 = .ok (.if_icmp .ge 42, 3) := by decide +kernel
theorem dX7_along_26 : decode cX7_along 26 = .ok (.iload 4, 2) := by decide +kernel
theorem dX7_along_28 : decode cX7_along 28 = .ok (.iload 6, 2) := by decide +kernel
theorem dX7_along_30 : decode cX7_along 30 = .ok (.invokestatic 36, 3) := by decide +kernel
theorem dX7_along_33 : decode cX7_along 33 = .ok (.ifCond .ne 26, 3) := by decide +kernel
theorem dX7_along_36 : decode cX7_along 36 = .ok (.aload_n 0, 1) := by decide +kernel
theorem dX7_along_37 : decode cX7_along 37 = .ok (.iload_n 1, 1) := by decide +kernel
theorem dX7_along_38 : decode cX7_along 38 = .ok (.iload_n 2, 1) := by decide +kernel
theorem dX7_along_39 : decode cX7_along 39 = .ok (.iload 4, 2) := by decide +kernel
theorem dX7_along_41 : decode cX7_along 41 = .ok (.iload 6, 2) := by decide +kernel
theorem dX7_along_43 : decode cX7_along 43 = .ok (.iload_n 3, 1) := by decide +kernel
theorem dX7_along_44 : decode cX7_along 44 = .ok (.invokevirtual 110, 3) := by decide +kernel
theorem dX7_along_47 : decode cX7_along 47 = .ok (.ifCond .eq 12, 3) := by decide +kernel
theorem dX7_along_50 : decode cX7_along 50 = .ok (.iload 4, 2) := by decide +kernel
theorem dX7_along_52 : decode cX7_along 52 = .ok (.iconst 1, 1) := by decide +kernel
theorem dX7_along_53 : decode cX7_along 53 = .ok (.iload 6, 2) := by decide +kernel
theorem dX7_along_55 : decode cX7_along 55 = .ok (.ishl, 1) := by decide +kernel
theorem dX7_along_56 : decode cX7_along 56 = .ok (.ior, 1) := by decide +kernel
theorem dX7_along_57 : decode cX7_along 57 = .ok (.istore 4, 2) := by decide +kernel
theorem dX7_along_59 : decode cX7_along 59 = .ok (.iinc 6 1, 3) := by decide +kernel
theorem dX7_along_62 : decode cX7_along 62 = .ok (.goto (-47), 3) := by decide +kernel
theorem dX7_along_65 : decode cX7_along 65 = .ok (.iinc 5 1, 3) := by decide +kernel
theorem dX7_along_68 : decode cX7_along 68 = .ok (.goto (-62), 3) := by decide +kernel
theorem dX7_along_71 : decode cX7_along 71 = .ok (.iload 4, 2) := by decide +kernel
theorem dX7_along_73 : decode cX7_along 73 = .ok (.ireturn, 1) := by decide +kernel
theorem dX7_scannedBy_0 : decode cX7_scannedBy 0 = .ok (.aload_n 0, 1) := by decide +kernel
theorem dX7_scannedBy_1 : decode cX7_scannedBy 1 = .ok (.iload_n 1, 1) := by decide +kernel
theorem dX7_scannedBy_2 : decode cX7_scannedBy 2 = .ok (.iload_n 2, 1) := by decide +kernel
theorem dX7_scannedBy_3 : decode cX7_scannedBy 3 = .ok (.iconst 1, 1) := by decide +kernel
theorem dX7_scannedBy_4 : decode cX7_scannedBy 4 = .ok (.invokevirtual 114, 3) := by decide +kernel
theorem dX7_scannedBy_7 : decode cX7_scannedBy 7 = .ok (.aload_n 0, 1) := by decide +kernel
theorem dX7_scannedBy_8 : decode cX7_scannedBy 8 = .ok (.iload_n 1, 1) := by decide +kernel
theorem dX7_scannedBy_9 : decode cX7_scannedBy 9 = .ok (.iload_n 2, 1) := by decide +kernel
theorem dX7_scannedBy_10 : decode cX7_scannedBy 10 = .ok (.iconst 0, 1) := by decide +kernel
theorem dX7_scannedBy_11 : decode cX7_scannedBy 11 = .ok (.invokevirtual 114, 3) := by decide +kernel
theorem dX7_scannedBy_14 : decode cX7_scannedBy 14 = .ok (.iand, 1) := by decide +kernel
theorem dX7_scannedBy_15 : decode cX7_scannedBy 15 = .ok (.ireturn, 1) := by decide +kernel
theorem dX7_reachedBy_0 : decode cX7_reachedBy 0 = .ok (.aload_n 0, 1) := by decide +kernel
theorem dX7_reachedBy_1 : decode cX7_reachedBy 1 = .ok (.iload_n 1, 1) := by decide +kernel
theorem dX7_reachedBy_2 : decode cX7_reachedBy 2 = .ok (.iload_n 2, 1) := by decide +kernel
theorem dX7_reachedBy_3 : decode cX7_reachedBy 3 = .ok (.invokevirtual 118, 3) := by decide +kernel
theorem dX7_reachedBy_6 : decode cX7_reachedBy 6 = .ok (.istore_n 3, 1) := by decide +kernel
theorem dX7_reachedBy_7 : decode cX7_reachedBy 7 = .ok (.iload_n 2, 1) := by decide +kernel
theorem dX7_reachedBy_8 : decode cX7_reachedBy 8 = .ok (.istore 4, 2) := by decide +kernel
theorem dX7_reachedBy_10 : decode cX7_reachedBy 10 = .ok (.iconst 0, 1) := by decide +kernel
theorem dX7_reachedBy_11 : decode cX7_reachedBy 11 = .ok (.istore 5, 2) := by decide +kernel
theorem dX7_reachedBy_13 : decode cX7_reachedBy 13 = .ok (.iload 5, 2) := by decide +kernel
theorem dX7_reachedBy_15 : decode cX7_reachedBy 15 = .ok (.aload_n 0, 1) := by decide +kernel
theorem dX7_reachedBy_16 : decode cX7_reachedBy 16 = .ok (.getfield 7, 3) := by decide +kernel
theorem dX7_reachedBy_19 : decode cX7_reachedBy 19 = .ok (.iconst 1, 1) := by decide +kernel
theorem dX7_reachedBy_20 : decode cX7_reachedBy 20 = .ok (.iaload, 1) := by decide +kernel
theorem dX7_reachedBy_21 : decode cX7_reachedBy 21 = .ok (.if_icmp .ge 37, 3) := by decide +kernel
theorem dX7_reachedBy_24 : decode cX7_reachedBy 24 = .ok (.iload 4, 2) := by decide +kernel
theorem dX7_reachedBy_26 : decode cX7_reachedBy 26 = .ok (.iload_n 3, 1) := by decide +kernel
theorem dX7_reachedBy_27 : decode cX7_reachedBy 27 = .ok (.iload 5, 2) := by decide +kernel
theorem dX7_reachedBy_29 : decode cX7_reachedBy 29 = .ok (.invokestatic 36, 3) := by decide +kernel
theorem dX7_reachedBy_32 : decode cX7_reachedBy 32 = .ok (.ifCond .eq 16, 3) := by decide +kernel
theorem dX7_reachedBy_35 : decode cX7_reachedBy 35 = .ok (.aload_n 0, 1) := by decide +kernel
theorem dX7_reachedBy_36 : decode cX7_reachedBy 36 = .ok (.getfield 7, 3) := by decide +kernel
theorem dX7_reachedBy_39 : decode cX7_reachedBy 39 = .ok (.bipush 27, 2) := by decide +kernel
theorem dX7_reachedBy_41 : decode cX7_reachedBy 41 = .ok (.iload 5, 2) := by decide +kernel
theorem dX7_reachedBy_43 : decode cX7_reachedBy 43 = .ok (.iadd, 1) := by decide +kernel
theorem dX7_reachedBy_44 : decode cX7_reachedBy 44 = .ok (.iaload, 1) := by decide +kernel
theorem dX7_reachedBy_45 : decode cX7_reachedBy 45 = .ok (.goto 4, 3) := by decide +kernel
theorem dX7_reachedBy_48 : decode cX7_reachedBy 48 = .ok (.iconst 0, 1) := by decide +kernel
theorem dX7_reachedBy_49 : decode cX7_reachedBy 49 = .ok (.ior, 1) := by decide +kernel
theorem dX7_reachedBy_50 : decode cX7_reachedBy 50 = .ok (.istore 4, 2) := by decide +kernel
theorem dX7_reachedBy_52 : decode cX7_reachedBy 52 = .ok (.iinc 5 1, 3) := by decide +kernel
theorem dX7_reachedBy_55 : decode cX7_reachedBy 55 = .ok (.goto (-42), 3) := by decide +kernel
theorem dX7_reachedBy_58 : decode cX7_reachedBy 58 = .ok (.iload 4, 2) := by decide +kernel
theorem dX7_reachedBy_60 : decode cX7_reachedBy 60 = .ok (.ireturn, 1) := by decide +kernel
theorem dX7_areJoined_0 : decode cX7_areJoined 0 = .ok (.iload_n 2, 1) := by decide +kernel
theorem dX7_areJoined_1 : decode cX7_areJoined 1 = .ok (.iload_n 3, 1) := by decide +kernel
theorem dX7_areJoined_2 : decode cX7_areJoined 2 = .ok (.if_icmp .ne 5, 3) := by decide +kernel
theorem dX7_areJoined_5 : decode cX7_areJoined 5 = .ok (.iconst 1, 1) := by decide +kernel
theorem dX7_areJoined_6 : decode cX7_areJoined 6 = .ok (.ireturn, 1) := by decide +kernel
theorem dX7_areJoined_7 : decode cX7_areJoined 7 = .ok (.iload_n 2, 1) := by decide +kernel
theorem dX7_areJoined_8 : decode cX7_areJoined 8 = .ok (.iload_n 3, 1) := by decide +kernel
theorem dX7_areJoined_9 : decode cX7_areJoined 9 = .ok (.if_icmp .ge 7, 3) := by decide +kernel
theorem dX7_areJoined_12 : decode cX7_areJoined 12 = .ok (.iload_n 2, 1) := by decide +kernel
theorem dX7_areJoined_13 : decode cX7_areJoined 13 = .ok (.goto 4, 3) := by decide +kernel
theorem dX7_areJoined_16 : decode cX7_areJoined 16 = .ok (.iload_n 3, 1) := by decide +kernel
theorem dX7_areJoined_17 : decode cX7_areJoined 17 = .ok (.istore 4, 2) := by decide +kernel
theorem dX7_areJoined_19 : decode cX7_areJoined 19 = .ok (.iload_n 2, 1) := by decide +kernel
theorem dX7_areJoined_20 : decode cX7_areJoined 20 = .ok (.iload_n 3, 1) := by decide +kernel
theorem dX7_areJoined_21 : decode cX7_areJoined 21 = .ok (.if_icmp .ge 7, 3) := by decide +kernel
theorem dX7_areJoined_24 : decode cX7_areJoined 24 = .ok (.iload_n 3, 1) := by decide +kernel
theorem dX7_areJoined_25 : decode cX7_areJoined 25 = .ok (.goto 4, 3) := by decide +kernel
theorem dX7_areJoined_28 : decode cX7_areJoined 28 = .ok (.iload_n 2, 1) := by decide +kernel
theorem dX7_areJoined_29 : decode cX7_areJoined 29 = .ok (.istore 5, 2) := by decide +kernel
theorem dX7_areJoined_31 : decode cX7_areJoined 31 = .ok (.aload_n 0, 1) := by decide +kernel
theorem dX7_areJoined_32 : decode cX7_areJoined 32 = .ok (.iload_n 1, 1) := by decide +kernel
theorem dX7_areJoined_33 : decode cX7_areJoined 33 = .ok (.iconst 1, 1) := by decide +kernel
theorem dX7_areJoined_34 : decode cX7_areJoined 34 = .ok (.iload 4, 2) := by decide +kernel
theorem dX7_areJoined_36 : decode cX7_areJoined 36 = .ok (.invokevirtual 104, 3) := by decide +kernel
theorem dX7_areJoined_39 : decode cX7_areJoined 39 = .ok (.ifCond .eq 21, 3) := by decide +kernel
theorem dX7_areJoined_42 : decode cX7_areJoined 42 = .ok (.aload_n 0, 1) := by decide +kernel
theorem dX7_areJoined_43 : decode cX7_areJoined 43 = .ok (.getfield 7, 3) := by decide +kernel
theorem dX7_areJoined_46 : decode cX7_areJoined 46 = .ok (.bipush 52, 2) := by decide +kernel
theorem dX7_areJoined_48 : decode cX7_areJoined 48 = .ok (.iload_n 1, 1) := by decide +kernel
theorem dX7_areJoined_49 : decode cX7_areJoined 49 = .ok (.iadd, 1) := by decide +kernel
theorem dX7_areJoined_50 : decode cX7_areJoined 50 = .ok (.iaload, 1) := by decide +kernel
theorem dX7_areJoined_51 : decode cX7_areJoined 51 = .ok (.iload 5, 2) := by decide +kernel
theorem dX7_areJoined_53 : decode cX7_areJoined 53 = .ok (.if_icmp .ne 7, 3) := by decide +kernel
theorem dX7_areJoined_56 : decode cX7_areJoined 56 = .ok (.iconst 1, 1) := by decide +kernel
theorem dX7_areJoined_57 : decode cX7_areJoined 57 = .ok (.goto 4, 3) := by decide +kernel
theorem dX7_areJoined_60 : decode cX7_areJoined 60 = .ok (.iconst 0, 1) := by decide +kernel
theorem dX7_areJoined_61 : decode cX7_areJoined 61 = .ok (.ireturn, 1) := by decide +kernel
theorem dX7_readsOne_0 : decode cX7_readsOne 0 = .ok (.aload_n 0, 1) := by decide +kernel
theorem dX7_readsOne_1 : decode cX7_readsOne 1 = .ok (.iload_n 2, 1) := by decide +kernel
theorem dX7_readsOne_2 : decode cX7_readsOne 2 = .ok (.invokevirtual 54, 3) := by decide +kernel
theorem dX7_readsOne_5 : decode cX7_readsOne 5 = .ok (.istore 5, 2) := by decide +kernel
theorem dX7_readsOne_7 : decode cX7_readsOne 7 = .ok (.iload 5, 2) := by decide +kernel
theorem dX7_readsOne_9 : decode cX7_readsOne 9 = .ok (.iconst (-1), 1) := by decide +kernel
theorem dX7_readsOne_10 : decode cX7_readsOne 10 = .ok (.if_icmp .eq 13, 3) := by decide +kernel
theorem dX7_readsOne_13 : decode cX7_readsOne 13 = .ok (.aload_n 0, 1) := by decide +kernel
theorem dX7_readsOne_14 : decode cX7_readsOne 14 = .ok (.iload_n 1, 1) := by decide +kernel
theorem dX7_readsOne_15 : decode cX7_readsOne 15 = .ok (.iconst 0, 1) := by decide +kernel
theorem dX7_readsOne_16 : decode cX7_readsOne 16 = .ok (.iload_n 2, 1) := by decide +kernel
theorem dX7_readsOne_17 : decode cX7_readsOne 17 = .ok (.invokevirtual 104, 3) := by decide +kernel
theorem dX7_readsOne_20 : decode cX7_readsOne 20 = .ok (.ifCond .eq 15, 3) := by decide +kernel
theorem dX7_readsOne_23 : decode cX7_readsOne 23 = .ok (.iload_n 2, 1) := by decide +kernel
theorem dX7_readsOne_24 : decode cX7_readsOne 24 = .ok (.iload_n 3, 1) := by decide +kernel
theorem dX7_readsOne_25 : decode cX7_readsOne 25 = .ok (.if_icmp .ne 8, 3) := by decide +kernel
theorem dX7_readsOne_28 : decode cX7_readsOne 28 = .ok (.iload 4, 2) := by decide +kernel
theorem dX7_readsOne_30 : decode cX7_readsOne 30 = .ok (.goto 4, 3) := by decide +kernel
theorem dX7_readsOne_33 : decode cX7_readsOne 33 = .ok (.iconst 0, 1) := by decide +kernel
theorem dX7_readsOne_34 : decode cX7_readsOne 34 = .ok (.ireturn, 1) := by decide +kernel
theorem dX7_readsOne_35 : decode cX7_readsOne 35 = .ok (.aload_n 0, 1) := by decide +kernel
theorem dX7_readsOne_36 : decode cX7_readsOne 36 = .ok (.iload_n 1, 1) := by decide +kernel
theorem dX7_readsOne_37 : decode cX7_readsOne 37 = .ok (.iconst 2, 1) := by decide +kernel
theorem dX7_readsOne_38 : decode cX7_readsOne 38 = .ok (.iload 5, 2) := by decide +kernel
theorem dX7_readsOne_40 : decode cX7_readsOne 40 = .ok (.invokevirtual 104, 3) := by decide +kernel
theorem dX7_readsOne_43 : decode cX7_readsOne 43 = .ok (.ifCond .eq 5, 3) := by decide +kernel
theorem dX7_readsOne_46 : decode cX7_readsOne 46 = .ok (.iconst 0, 1) := by decide +kernel
theorem dX7_readsOne_47 : decode cX7_readsOne 47 = .ok (.ireturn, 1) := by decide +kernel
theorem dX7_readsOne_48 : decode cX7_readsOne 48 = .ok (.aload_n 0, 1) := by decide +kernel
theorem dX7_readsOne_49 : decode cX7_readsOne 49 = .ok (.iload_n 1, 1) := by decide +kernel
theorem dX7_readsOne_50 : decode cX7_readsOne 50 = .ok (.iconst 3, 1) := by decide +kernel
theorem dX7_readsOne_51 : decode cX7_readsOne 51 = .ok (.iload 5, 2) := by decide +kernel
theorem dX7_readsOne_53 : decode cX7_readsOne 53 = .ok (.invokevirtual 104, 3) := by decide +kernel
theorem dX7_readsOne_56 : decode cX7_readsOne 56 = .ok (.ifCond .eq 5, 3) := by decide +kernel
theorem dX7_readsOne_59 : decode cX7_readsOne 59 = .ok (.iconst 1, 1) := by decide +kernel
theorem dX7_readsOne_60 : decode cX7_readsOne 60 = .ok (.ireturn, 1) := by decide +kernel
theorem dX7_readsOne_61 : decode cX7_readsOne 61 = .ok (.aload_n 0, 1) := by decide +kernel
theorem dX7_readsOne_62 : decode cX7_readsOne 62 = .ok (.iload_n 3, 1) := by decide +kernel
theorem dX7_readsOne_63 : decode cX7_readsOne 63 = .ok (.invokevirtual 54, 3) := by decide +kernel
theorem dX7_readsOne_66 : decode cX7_readsOne 66 = .ok (.istore 6, 2) := by decide +kernel
theorem dX7_readsOne_68 : decode cX7_readsOne 68 = .ok (.iload 6, 2) := by decide +kernel
theorem dX7_readsOne_70 : decode cX7_readsOne 70 = .ok (.iconst (-1), 1) := by decide +kernel
theorem dX7_readsOne_71 : decode cX7_readsOne 71 = .ok (.if_icmp .eq 29, 3) := by decide +kernel
theorem dX7_readsOne_74 : decode cX7_readsOne 74 = .ok (.aload_n 0, 1) := by decide +kernel
theorem dX7_readsOne_75 : decode cX7_readsOne 75 = .ok (.iload_n 1, 1) := by decide +kernel
theorem dX7_readsOne_76 : decode cX7_readsOne 76 = .ok (.iconst 0, 1) := by decide +kernel
theorem dX7_readsOne_77 : decode cX7_readsOne 77 = .ok (.iload_n 3, 1) := by decide +kernel
theorem dX7_readsOne_78 : decode cX7_readsOne 78 = .ok (.invokevirtual 104, 3) := by decide +kernel
theorem dX7_readsOne_81 : decode cX7_readsOne 81 = .ok (.ifCond .ne 19, 3) := by decide +kernel
theorem dX7_readsOne_84 : decode cX7_readsOne 84 = .ok (.aload_n 0, 1) := by decide +kernel
theorem dX7_readsOne_85 : decode cX7_readsOne 85 = .ok (.iload_n 1, 1) := by decide +kernel
theorem dX7_readsOne_86 : decode cX7_readsOne 86 = .ok (.iload 5, 2) := by decide +kernel
theorem dX7_readsOne_88 : decode cX7_readsOne 88 = .ok (.iload 6, 2) := by decide +kernel
theorem dX7_readsOne_90 : decode cX7_readsOne 90 = .ok (.invokevirtual 121, 3) := by decide +kernel
theorem dX7_readsOne_93 : decode cX7_readsOne 93 = .ok (.ifCond .eq 7, 3) := by decide +kernel
theorem dX7_readsOne_96 : decode cX7_readsOne 96 = .ok (.iconst 1, 1) := by decide +kernel
theorem dX7_readsOne_97 : decode cX7_readsOne 97 = .ok (.goto 4, 3) := by decide +kernel
theorem dX7_readsOne_100 : decode cX7_readsOne 100 = .ok (.iconst 0, 1) := by decide +kernel
theorem dX7_readsOne_101 : decode cX7_readsOne 101 = .ok (.istore 7, 2) := by decide +kernel
theorem dX7_readsOne_103 : decode cX7_readsOne 103 = .ok (.iload 7, 2) := by decide +kernel
theorem dX7_readsOne_105 : decode cX7_readsOne 105 = .ok (.ifCond .eq 8, 3) := by decide +kernel
theorem dX7_readsOne_108 : decode cX7_readsOne 108 = .ok (.iload 4, 2) := by decide +kernel
theorem dX7_readsOne_110 : decode cX7_readsOne 110 = .ok (.goto 4, 3) := by decide +kernel
theorem dX7_readsOne_113 : decode cX7_readsOne 113 = .ok (.iconst 0, 1) := by decide +kernel
theorem dX7_readsOne_114 : decode cX7_readsOne 114 = .ok (.ireturn, 1) := by decide +kernel
theorem dX7_readsBy_0 : decode cX7_readsBy 0 = .ok (.iconst 0, 1) := by decide +kernel
theorem dX7_readsBy_1 : decode cX7_readsBy 1 = .ok (.istore 5, 2) := by decide +kernel
theorem dX7_readsBy_3 : decode cX7_readsBy 3 = .ok (.iconst 0, 1) := by decide +kernel
theorem dX7_readsBy_4 : decode cX7_readsBy 4 = .ok (.istore 6, 2) := by decide +kernel
theorem dX7_readsBy_6 : decode cX7_readsBy 6 = .ok (.iload 6, 2) := by decide +kernel
theorem dX7_readsBy_8 : decode cX7_readsBy 8 = .ok (.bipush 16, 2) := by decide +kernel
theorem dX7_readsBy_10 : decode cX7_readsBy 10 = .ok (.if_icmp .ge 40, 3) := by decide +kernel
theorem dX7_readsBy_13 : decode cX7_readsBy 13 = .ok (.iload 5, 2) := by decide +kernel
theorem dX7_readsBy_15 : decode cX7_readsBy 15 = .ok (.iload_n 2, 1) := by decide +kernel
theorem dX7_readsBy_16 : decode cX7_readsBy 16 = .ok (.iload 6, 2) := by decide +kernel
theorem dX7_readsBy_18 : decode cX7_readsBy 18 = .ok (.invokestatic 36, 3) := by decide +kernel
theorem dX7_readsBy_21 : decode cX7_readsBy 21 = .ok (.ifCond .eq 19, 3) := by decide +kernel
theorem dX7_readsBy_24 : decode cX7_readsBy 24 = .ok (.aload_n 0, 1) := by decide +kernel
theorem dX7_readsBy_25 : decode cX7_readsBy 25 = .ok (.iload_n 1, 1) := by decide +kernel
theorem dX7_readsBy_26 : decode cX7_readsBy 26 = .ok (.iload 6, 2) := by decide +kernel
theorem dX7_readsBy_28 : decode cX7_readsBy 28 = .ok (.iload_n 3, 1) := by decide +kernel
theorem dX7_readsBy_29 : decode cX7_readsBy 29 = .ok (.iload 4, 2) := by decide +kernel
theorem dX7_readsBy_31 : decode cX7_readsBy 31 = .ok (.invokevirtual 124, 3) := by decide +kernel
theorem dX7_readsBy_34 : decode cX7_readsBy 34 = .ok (.iload 6, 2) := by decide +kernel
theorem dX7_readsBy_36 : decode cX7_readsBy 36 = .ok (.ishl, 1) := by decide +kernel
theorem dX7_readsBy_37 : decode cX7_readsBy 37 = .ok (.goto 4, 3) := by decide +kernel
theorem dX7_readsBy_40 : decode cX7_readsBy 40 = .ok (.iconst 0, 1) := by decide +kernel
theorem dX7_readsBy_41 : decode cX7_readsBy 41 = .ok (.ior, 1) := by decide +kernel
theorem dX7_readsBy_42 : decode cX7_readsBy 42 = .ok (.istore 5, 2) := by decide +kernel
theorem dX7_readsBy_44 : decode cX7_readsBy 44 = .ok (.iinc 6 1, 3) := by decide +kernel
theorem dX7_readsBy_47 : decode cX7_readsBy 47 = .ok (.goto (-41), 3) := by decide +kernel
theorem dX7_readsBy_50 : decode cX7_readsBy 50 = .ok (.iload 5, 2) := by decide +kernel
theorem dX7_readsBy_52 : decode cX7_readsBy 52 = .ok (.ireturn, 1) := by decide +kernel
theorem dX7_measuresOne_0 : decode cX7_measuresOne 0 = .ok (.iload_n 1, 1) := by decide +kernel
theorem dX7_measuresOne_1 : decode cX7_measuresOne 1 = .ok (.bipush 33, 2) := by decide +kernel
theorem dX7_measuresOne_3 : decode cX7_measuresOne 3 = .ok (.imul, 1) := by decide +kernel
theorem dX7_measuresOne_4 : decode cX7_measuresOne 4 = .ok (.istore 4, 2) := by decide +kernel
theorem dX7_measuresOne_6 : decode cX7_measuresOne 6 = .ok (.aload_n 0, 1) := by decide +kernel
theorem dX7_measuresOne_7 : decode cX7_measuresOne 7 = .ok (.iload_n 2, 1) := by decide +kernel
theorem dX7_measuresOne_8 : decode cX7_measuresOne 8 = .ok (.iload_n 3, 1) := by decide +kernel
theorem dX7_measuresOne_9 : decode cX7_measuresOne 9 = .ok (.invokevirtual 128, 3) := by decide +kernel
theorem dX7_measuresOne_12 : decode cX7_measuresOne 12 = .ok (.istore 5, 2) := by decide +kernel
theorem dX7_measuresOne_14 : decode cX7_measuresOne 14 = .ok (.aload_n 0, 1) := by decide +kernel
theorem dX7_measuresOne_15 : decode cX7_measuresOne 15 = .ok (.getfield 19, 3) := by decide +kernel
theorem dX7_measuresOne_18 : decode cX7_measuresOne 18 = .ok (.iload 4, 2) := by decide +kernel
theorem dX7_measuresOne_20 : decode cX7_measuresOne 20 = .ok (.iload 5, 2) := by decide +kernel
theorem dX7_measuresOne_22 : decode cX7_measuresOne 22 = .ok (.iastore, 1) := by decide +kernel
theorem dX7_measuresOne_23 : decode cX7_measuresOne 23 = .ok (.iconst 0, 1) := by decide +kernel
theorem dX7_measuresOne_24 : decode cX7_measuresOne 24 = .ok (.istore 6, 2) := by decide +kernel
theorem dX7_measuresOne_26 : decode cX7_measuresOne 26 = .ok (.iload 6, 2) := by decide +kernel
theorem dX7_measuresOne_28 : decode cX7_measuresOne 28 = .ok (.bipush 16, 2) := by decide +kernel
theorem dX7_measuresOne_30 : decode cX7_measuresOne 30 = .ok (.if_icmp .ge 66, 3) := by decide +kernel
theorem dX7_measuresOne_33 : decode cX7_measuresOne 33 = .ok (.iconst 0, 1) := by decide +kernel
theorem dX7_measuresOne_34 : decode cX7_measuresOne 34 = .ok (.istore 7, 2) := by decide +kernel
theorem dX7_measuresOne_36 : decode cX7_measuresOne 36 = .ok (.iload 7, 2) := by decide +kernel
theorem dX7_measuresOne_38 : decode cX7_measuresOne 38 = .ok (.iconst 2, 1) := by decide +kernel
theorem dX7_measuresOne_39 : decode cX7_measuresOne 39 = .ok (.if_icmp .ge 51, 3) := by decide +kernel
theorem dX7_measuresOne_42 : decode cX7_measuresOne 42 = .ok (.aload_n 0, 1) := by decide +kernel
theorem dX7_measuresOne_43 : decode cX7_measuresOne 43 = .ok (.getfield 19, 3) := by decide +kernel
theorem dX7_measuresOne_46 : decode cX7_measuresOne 46 = .ok (.iload 4, 2) := by decide +kernel
theorem dX7_measuresOne_48 : decode cX7_measuresOne 48 = .ok (.iconst 1, 1) := by decide +kernel
theorem dX7_measuresOne_49 : decode cX7_measuresOne 49 = .ok (.iadd, 1) := by decide +kernel
theorem dX7_measuresOne_50 : decode cX7_measuresOne 50 = .ok (.iconst 2, 1) := by decide +kernel
theorem dX7_measuresOne_51 : decode cX7_measuresOne 51 = .ok (.iload 6, 2) := by decide +kernel
theorem dX7_measuresOne_53 : decode cX7_measuresOne 53 = .ok (.imul, 1) := by decide +kernel
theorem dX7_measuresOne_54 : decode cX7_measuresOne 54 = .ok (.iadd, 1) := by decide +kernel
theorem dX7_measuresOne_55 : decode cX7_measuresOne 55 = .ok (.iload 7, 2) := by decide +kernel
theorem dX7_measuresOne_57 : decode cX7_measuresOne 57 = .ok (.iadd, 1) := by decide +kernel
theorem dX7_measuresOne_58 : decode cX7_measuresOne 58 = .ok (.iload 5, 2) := by decide +kernel
theorem dX7_measuresOne_60 : decode cX7_measuresOne 60 = .ok (.iload 6, 2) := by decide +kernel
theorem dX7_measuresOne_62 : decode cX7_measuresOne 62 = .ok (.invokestatic 36, 3) := by decide +kernel
theorem dX7_measuresOne_65 : decode cX7_measuresOne 65 = .ok (.ifCond .eq 17, 3) := by decide +kernel
theorem dX7_measuresOne_68 : decode cX7_measuresOne 68 = .ok (.aload_n 0, 1) := by decide +kernel
theorem dX7_measuresOne_69 : decode cX7_measuresOne 69 = .ok (.iload_n 2, 1) := by decide +kernel
theorem dX7_measuresOne_70 : decode cX7_measuresOne 70 = .ok (.iload 5, 2) := by decide +kernel
theorem dX7_measuresOne_72 : decode cX7_measuresOne 72 = .ok (.iload 6, 2) := by decide +kernel
theorem dX7_measuresOne_74 : decode cX7_measuresOne 74 = .ok (.iload 7, 2) := by decide +kernel
theorem dX7_measuresOne_76 : decode cX7_measuresOne 76 = .ok (.invokevirtual 131, 3) := by decide +kernel
theorem dX7_measuresOne_79 : decode cX7_measuresOne 79 = .ok (.goto 4, 3) := by decide +kernel
theorem dX7_measuresOne_82 : decode cX7_measuresOne 82 = .ok (.iconst (-1), 1) := by decide +kernel
theorem dX7_measuresOne_83 : decode cX7_measuresOne 83 = .ok (.iastore, 1) := by decide +kernel
theorem dX7_measuresOne_84 : decode cX7_measuresOne 84 = .ok (.iinc 7 1, 3) := by decide +kernel
theorem dX7_measuresOne_87 : decode cX7_measuresOne 87 = .ok (.goto (-51), 3) := by decide +kernel
theorem dX7_measuresOne_90 : decode cX7_measuresOne 90 = .ok (.iinc 6 1, 3) := by decide +kernel
theorem dX7_measuresOne_93 : decode cX7_measuresOne 93 = .ok (.goto (-67), 3) := by decide +kernel
theorem dX7_measuresOne_96 : decode cX7_measuresOne 96 = .ok (.return_, 1) := by decide +kernel
theorem dX7_isBoard_0 : decode cX7_isBoard 0 = .ok (.iload_n 1, 1) := by decide +kernel
theorem dX7_isBoard_1 : decode cX7_isBoard 1 = .ok (.bipush 10, 2) := by decide +kernel
theorem dX7_isBoard_3 : decode cX7_isBoard 3 = .ok (.if_icmp .eq 13, 3) := by decide +kernel
theorem dX7_isBoard_6 : decode cX7_isBoard 6 = .ok (.iload_n 1, 1) := by decide +kernel
theorem dX7_isBoard_7 : decode cX7_isBoard 7 = .ok (.aload_n 0, 1) := by decide +kernel
theorem dX7_isBoard_8 : decode cX7_isBoard 8 = .ok (.getfield 7, 3) := by decide +kernel
theorem dX7_isBoard_11 : decode cX7_isBoard 11 = .ok (.iconst 2, 1) := by decide +kernel
theorem dX7_isBoard_12 : decode cX7_isBoard 12 = .ok (.iaload, 1) := by decide +kernel
theorem dX7_isBoard_13 : decode cX7_isBoard 13 = .ok (.if_icmp .ge 7, 3) := by decide +kernel
theorem dX7_isBoard_16 : decode cX7_isBoard 16 = .ok (.iconst 1, 1) := by decide +kernel
theorem dX7_isBoard_17 : decode cX7_isBoard 17 = .ok (.goto 4, 3) := by decide +kernel
theorem dX7_isBoard_20 : decode cX7_isBoard 20 = .ok (.iconst 0, 1) := by decide +kernel
theorem dX7_isBoard_21 : decode cX7_isBoard 21 = .ok (.ireturn, 1) := by decide +kernel
theorem dX7_slotOf_0 : decode cX7_slotOf 0 = .ok (.iload_n 0, 1) := by decide +kernel
theorem dX7_slotOf_1 : decode cX7_slotOf 1 = .ok (.iconst (-1), 1) := by decide +kernel
theorem dX7_slotOf_2 : decode cX7_slotOf 2 = .ok (.if_icmp .ne 8, 3) := by decide +kernel
theorem dX7_slotOf_5 : decode cX7_slotOf 5 = .ok (.bipush 10, 2) := by decide +kernel
theorem dX7_slotOf_7 : decode cX7_slotOf 7 = .ok (.goto 4, 3) := by decide +kernel
theorem dX7_slotOf_10 : decode cX7_slotOf 10 = .ok (.iload_n 0, 1) := by decide +kernel
theorem dX7_slotOf_11 : decode cX7_slotOf 11 = .ok (.ireturn, 1) := by decide +kernel
theorem dX7_measures_0 : decode cX7_measures 0 = .ok (.iconst 0, 1) := by decide +kernel
theorem dX7_measures_1 : decode cX7_measures 1 = .ok (.istore_n 2, 1) := by decide +kernel
theorem dX7_measures_2 : decode cX7_measures 2 = .ok (.iload_n 2, 1) := by decide +kernel
theorem dX7_measures_3 : decode cX7_measures 3 = .ok (.bipush 10, 2) := by decide +kernel
theorem dX7_measures_5 : decode cX7_measures 5 = .ok (.if_icmp .gt 34, 3) := by decide +kernel
theorem dX7_measures_8 : decode cX7_measures 8 = .ok (.aload_n 0, 1) := by decide +kernel
theorem dX7_measures_9 : decode cX7_measures 9 = .ok (.iload_n 2, 1) := by decide +kernel
theorem dX7_measures_10 : decode cX7_measures 10 = .ok (.invokevirtual 134, 3) := by decide +kernel
theorem dX7_measures_13 : decode cX7_measures 13 = .ok (.ifCond .eq 20, 3) := by decide +kernel
theorem dX7_measures_16 : decode cX7_measures 16 = .ok (.aload_n 0, 1) := by decide +kernel
theorem dX7_measures_17 : decode cX7_measures 17 = .ok (.iload_n 2, 1) := by decide +kernel
theorem dX7_measures_18 : decode cX7_measures 18 = .ok (.iload_n 2, 1) := by decide +kernel
theorem dX7_measures_19 : decode cX7_measures 19 = .ok (.bipush 10, 2) := by decide +kernel
theorem dX7_measures_21 : decode cX7_measures 21 = .ok (.if_icmp .ne 7, 3) := by decide +kernel
theorem dX7_measures_24 : decode cX7_measures 24 = .ok (.iconst (-1), 1) := by decide +kernel
theorem dX7_measures_25 : decode cX7_measures 25 = .ok (.goto 4, 3) := by decide +kernel
theorem dX7_measures_28 : decode cX7_measures 28 = .ok (.iload_n 2, 1) := by decide +kernel
theorem dX7_measures_29 : decode cX7_measures 29 = .ok (.iload_n 1, 1) := by decide +kernel
theorem dX7_measures_30 : decode cX7_measures 30 = .ok (.invokevirtual 137, 3) := by decide +kernel
theorem dX7_measures_33 : decode cX7_measures 33 = .ok (.iinc 2 1, 3) := by decide +kernel
theorem dX7_measures_36 : decode cX7_measures 36 = .ok (.goto (-34), 3) := by decide +kernel
theorem dX7_measures_39 : decode cX7_measures 39 = .ok (.return_, 1) := by decide +kernel
theorem dX7_isLike_0 : decode cX7_isLike 0 = .ok (.iconst 0, 1) := by decide +kernel
theorem dX7_isLike_1 : decode cX7_isLike 1 = .ok (.istore_n 3, 1) := by decide +kernel
theorem dX7_isLike_2 : decode cX7_isLike 2 = .ok (.iload_n 3, 1) := by decide +kernel
theorem dX7_isLike_3 : decode cX7_isLike 3 = .ok (.bipush 33, 2) := by decide +kernel
theorem dX7_isLike_5 : decode cX7_isLike 5 = .ok (.if_icmp .ge 36, 3) := by decide +kernel
theorem dX7_isLike_8 : decode cX7_isLike 8 = .ok (.aload_n 0, 1) := by decide +kernel
theorem dX7_isLike_9 : decode cX7_isLike 9 = .ok (.getfield 19, 3) := by decide +kernel
theorem dX7_isLike_12 : decode cX7_isLike 12 = .ok (.iload_n 1, 1) := by decide +kernel
theorem dX7_isLike_13 : decode cX7_isLike 13 = .ok (.bipush 33, 2) := by decide +kernel
theorem dX7_isLike_15 : decode cX7_isLike 15 = .ok (.imul, 1) := by decide +kernel
theorem dX7_isLike_16 : decode cX7_isLike 16 = .ok (.iload_n 3, 1) := by decide +kernel
theorem dX7_isLike_17 : decode cX7_isLike 17 = .ok (.iadd, 1) := by decide +kernel
theorem dX7_isLike_18 : decode cX7_isLike 18 = .ok (.iaload, 1) := by decide +kernel
theorem dX7_isLike_19 : decode cX7_isLike 19 = .ok (.aload_n 0, 1) := by decide +kernel
theorem dX7_isLike_20 : decode cX7_isLike 20 = .ok (.getfield 19, 3) := by decide +kernel
theorem dX7_isLike_23 : decode cX7_isLike 23 = .ok (.iload_n 2, 1) := by decide +kernel
theorem dX7_isLike_24 : decode cX7_isLike 24 = .ok (.bipush 33, 2) := by decide +kernel
theorem dX7_isLike_26 : decode cX7_isLike 26 = .ok (.imul, 1) := by decide +kernel
theorem dX7_isLike_27 : decode cX7_isLike 27 = .ok (.iload_n 3, 1) := by decide +kernel
theorem dX7_isLike_28 : decode cX7_isLike 28 = .ok (.iadd, 1) := by decide +kernel
theorem dX7_isLike_29 : decode cX7_isLike 29 = .ok (.iaload, 1) := by decide +kernel
theorem dX7_isLike_30 : decode cX7_isLike 30 = .ok (.if_icmp .eq 5, 3) := by decide +kernel
theorem dX7_isLike_33 : decode cX7_isLike 33 = .ok (.iconst 0, 1) := by decide +kernel
theorem dX7_isLike_34 : decode cX7_isLike 34 = .ok (.ireturn, 1) := by decide +kernel
theorem dX7_isLike_35 : decode cX7_isLike 35 = .ok (.iinc 3 1, 3) := by decide +kernel
theorem dX7_isLike_38 : decode cX7_isLike 38 = .ok (.goto (-36), 3) := by decide +kernel
theorem dX7_isLike_41 : decode cX7_isLike 41 = .ok (.iconst 1, 1) := by decide +kernel
theorem dX7_isLike_42 : decode cX7_isLike 42 = .ok (.ireturn, 1) := by decide +kernel
theorem dX7_likeSet_0 : decode cX7_likeSet 0 = .ok (.iconst 0, 1) := by decide +kernel
theorem dX7_likeSet_1 : decode cX7_likeSet 1 = .ok (.istore_n 2, 1) := by decide +kernel
theorem dX7_likeSet_2 : decode cX7_likeSet 2 = .ok (.iconst 0, 1) := by decide +kernel
theorem dX7_likeSet_3 : decode cX7_likeSet 3 = .ok (.istore_n 3, 1) := by decide +kernel
theorem dX7_likeSet_4 : decode cX7_likeSet 4 = .ok (.iload_n 3, 1) := by decide +kernel
theorem dX7_likeSet_5 : decode cX7_likeSet 5 = .ok (.bipush 10, 2) := by decide +kernel
theorem dX7_likeSet_7 : decode cX7_likeSet 7 = .ok (.if_icmp .gt 36, 3) := by decide +kernel
theorem dX7_likeSet_10 : decode cX7_likeSet 10 = .ok (.iload_n 2, 1) := by decide +kernel
theorem dX7_likeSet_11 : decode cX7_likeSet 11 = .ok (.aload_n 0, 1) := by decide +kernel
theorem dX7_likeSet_12 : decode cX7_likeSet 12 = .ok (.iload_n 3, 1) := by decide +kernel
theorem dX7_likeSet_13 : decode cX7_likeSet 13 = .ok (.invokevirtual 134, 3) := by decide +kernel
theorem dX7_likeSet_16 : decode cX7_likeSet 16 = .ok (.ifCond .eq 18, 3) := by decide +kernel
theorem dX7_likeSet_19 : decode cX7_likeSet 19 = .ok (.aload_n 0, 1) := by decide +kernel
theorem dX7_likeSet_20 : decode cX7_likeSet 20 = .ok (.iload_n 1, 1) := by decide +kernel
theorem dX7_likeSet_21 : decode cX7_likeSet 21 = .ok (.iload_n 3, 1) := by decide +kernel
theorem dX7_likeSet_22 : decode cX7_likeSet 22 = .ok (.invokevirtual 141, 3) := by decide +kernel
theorem dX7_likeSet_25 : decode cX7_likeSet 25 = .ok (.ifCond .eq 9, 3) := by decide +kernel
theorem dX7_likeSet_28 : decode cX7_likeSet 28 = .ok (.iconst 1, 1) := by decide +kernel
theorem dX7_likeSet_29 : decode cX7_likeSet 29 = .ok (.iload_n 3, 1) := by decide +kernel
theorem dX7_likeSet_30 : decode cX7_likeSet 30 = .ok (.ishl, 1) := by decide +kernel
theorem dX7_likeSet_31 : decode cX7_likeSet 31 = .ok (.goto 4, 3) := by decide +kernel
theorem dX7_likeSet_34 : decode cX7_likeSet 34 = .ok (.iconst 0, 1) := by decide +kernel
theorem dX7_likeSet_35 : decode cX7_likeSet 35 = .ok (.ior, 1) := by decide +kernel
theorem dX7_likeSet_36 : decode cX7_likeSet 36 = .ok (.istore_n 2, 1) := by decide +kernel
theorem dX7_likeSet_37 : decode cX7_likeSet 37 = .ok (.iinc 3 1, 3) := by decide +kernel
theorem dX7_likeSet_40 : decode cX7_likeSet 40 = .ok (.goto (-36), 3) := by decide +kernel
theorem dX7_likeSet_43 : decode cX7_likeSet 43 = .ok (.iload_n 2, 1) := by decide +kernel
theorem dX7_likeSet_44 : decode cX7_likeSet 44 = .ok (.ireturn, 1) := by decide +kernel
theorem dX7_isDay_0 : decode cX7_isDay 0 = .ok (.iload_n 0, 1) := by decide +kernel
theorem dX7_isDay_1 : decode cX7_isDay 1 = .ok (.iconst 0, 1) := by decide +kernel
theorem dX7_isDay_2 : decode cX7_isDay 2 = .ok (.bipush 6, 2) := by decide +kernel
theorem dX7_isDay_4 : decode cX7_isDay 4 = .ok (.invokestatic 45, 3) := by decide +kernel
theorem dX7_isDay_7 : decode cX7_isDay 7 = .ok (.ireturn, 1) := by decide +kernel
theorem dX7_reached_0 : decode cX7_reached 0 = .ok (.iload_n 1, 1) := by decide +kernel
theorem dX7_reached_1 : decode cX7_reached 1 = .ok (.invokestatic 144, 3) := by decide +kernel
theorem dX7_reached_4 : decode cX7_reached 4 = .ok (.ifCond .eq 24, 3) := by decide +kernel
theorem dX7_reached_7 : decode cX7_reached 7 = .ok (.aload_n 0, 1) := by decide +kernel
theorem dX7_reached_8 : decode cX7_reached 8 = .ok (.iload_n 2, 1) := by decide +kernel
theorem dX7_reached_9 : decode cX7_reached 9 = .ok (.invokevirtual 147, 3) := by decide +kernel
theorem dX7_reached_12 : decode cX7_reached 12 = .ok (.ifCond .eq 16, 3) := by decide +kernel
theorem dX7_reached_15 : decode cX7_reached 15 = .ok (.aload_n 0, 1) := by decide +kernel
theorem dX7_reached_16 : decode cX7_reached 16 = .ok (.iload_n 2, 1) := by decide +kernel
theorem dX7_reached_17 : decode cX7_reached 17 = .ok (.aload_n 0, 1) := by decide +kernel
theorem dX7_reached_18 : decode cX7_reached 18 = .ok (.iload_n 1, 1) := by decide +kernel
theorem dX7_reached_19 : decode cX7_reached 19 = .ok (.invokevirtual 90, 3) := by decide +kernel
theorem dX7_reached_22 : decode cX7_reached 22 = .ok (.invokevirtual 128, 3) := by decide +kernel
theorem dX7_reached_25 : decode cX7_reached 25 = .ok (.goto 5, 3) := by decide +kernel
theorem dX7_reached_28 : decode cX7_reached 28 = .ok (.ldc 53, 2) := by decide +kernel
theorem dX7_reached_30 : decode cX7_reached 30 = .ok (.ireturn, 1) := by decide +kernel
theorem dX7_scanned_0 : decode cX7_scanned 0 = .ok (.iload_n 1, 1) := by decide +kernel
theorem dX7_scanned_1 : decode cX7_scanned 1 = .ok (.invokestatic 144, 3) := by decide +kernel
theorem dX7_scanned_4 : decode cX7_scanned 4 = .ok (.ifCond .eq 24, 3) := by decide +kernel
theorem dX7_scanned_7 : decode cX7_scanned 7 = .ok (.aload_n 0, 1) := by decide +kernel
theorem dX7_scanned_8 : decode cX7_scanned 8 = .ok (.iload_n 2, 1) := by decide +kernel
theorem dX7_scanned_9 : decode cX7_scanned 9 = .ok (.invokevirtual 147, 3) := by decide +kernel
theorem dX7_scanned_12 : decode cX7_scanned 12 = .ok (.ifCond .eq 16, 3) := by decide +kernel
theorem dX7_scanned_15 : decode cX7_scanned 15 = .ok (.aload_n 0, 1) := by decide +kernel
theorem dX7_scanned_16 : decode cX7_scanned 16 = .ok (.iload_n 2, 1) := by decide +kernel
theorem dX7_scanned_17 : decode cX7_scanned 17 = .ok (.aload_n 0, 1) := by decide +kernel
theorem dX7_scanned_18 : decode cX7_scanned 18 = .ok (.iload_n 1, 1) := by decide +kernel
theorem dX7_scanned_19 : decode cX7_scanned 19 = .ok (.invokevirtual 90, 3) := by decide +kernel
theorem dX7_scanned_22 : decode cX7_scanned 22 = .ok (.invokevirtual 118, 3) := by decide +kernel
theorem dX7_scanned_25 : decode cX7_scanned 25 = .ok (.goto 5, 3) := by decide +kernel
theorem dX7_scanned_28 : decode cX7_scanned 28 = .ok (.ldc 53, 2) := by decide +kernel
theorem dX7_scanned_30 : decode cX7_scanned 30 = .ok (.ireturn, 1) := by decide +kernel
theorem dX7_reads_0 : decode cX7_reads 0 = .ok (.iload_n 1, 1) := by decide +kernel
theorem dX7_reads_1 : decode cX7_reads 1 = .ok (.invokestatic 144, 3) := by decide +kernel
theorem dX7_reads_4 : decode cX7_reads 4 = .ok (.ifCond .eq 31, 3) := by decide +kernel
theorem dX7_reads_7 : decode cX7_reads 7 = .ok (.aload_n 0, 1) := by decide +kernel
theorem dX7_reads_8 : decode cX7_reads 8 = .ok (.iload_n 2, 1) := by decide +kernel
theorem dX7_reads_9 : decode cX7_reads 9 = .ok (.invokevirtual 147, 3) := by decide +kernel
theorem dX7_reads_12 : decode cX7_reads 12 = .ok (.ifCond .eq 23, 3) := by decide +kernel
theorem dX7_reads_15 : decode cX7_reads 15 = .ok (.iload_n 3, 1) := by decide +kernel
theorem dX7_reads_16 : decode cX7_reads 16 = .ok (.iconst 0, 1) := by decide +kernel
theorem dX7_reads_17 : decode cX7_reads 17 = .ok (.bipush 15, 2) := by decide +kernel
theorem dX7_reads_19 : decode cX7_reads 19 = .ok (.invokestatic 45, 3) := by decide +kernel
theorem dX7_reads_22 : decode cX7_reads 22 = .ok (.ifCond .eq 13, 3) := by decide +kernel
theorem dX7_reads_25 : decode cX7_reads 25 = .ok (.iload 4, 2) := by decide +kernel
theorem dX7_reads_27 : decode cX7_reads 27 = .ok (.iconst 0, 1) := by decide +kernel
theorem dX7_reads_28 : decode cX7_reads 28 = .ok (.iconst 1, 1) := by decide +kernel
theorem dX7_reads_29 : decode cX7_reads 29 = .ok (.invokestatic 45, 3) := by decide +kernel
theorem dX7_reads_32 : decode cX7_reads 32 = .ok (.ifCond .ne 6, 3) := by decide +kernel
theorem dX7_reads_35 : decode cX7_reads 35 = .ok (.ldc 53, 2) := by decide +kernel
theorem dX7_reads_37 : decode cX7_reads 37 = .ok (.ireturn, 1) := by decide +kernel
theorem dX7_reads_38 : decode cX7_reads 38 = .ok (.aload_n 0, 1) := by decide +kernel
theorem dX7_reads_39 : decode cX7_reads 39 = .ok (.iload_n 2, 1) := by decide +kernel
theorem dX7_reads_40 : decode cX7_reads 40 = .ok (.aload_n 0, 1) := by decide +kernel
theorem dX7_reads_41 : decode cX7_reads 41 = .ok (.iload_n 1, 1) := by decide +kernel
theorem dX7_reads_42 : decode cX7_reads 42 = .ok (.invokevirtual 90, 3) := by decide +kernel
theorem dX7_reads_45 : decode cX7_reads 45 = .ok (.invokevirtual 128, 3) := by decide +kernel
theorem dX7_reads_48 : decode cX7_reads 48 = .ok (.istore 5, 2) := by decide +kernel
theorem dX7_reads_50 : decode cX7_reads 50 = .ok (.iload 5, 2) := by decide +kernel
theorem dX7_reads_52 : decode cX7_reads 52 = .ok (.iload_n 3, 1) := by decide +kernel
theorem dX7_reads_53 : decode cX7_reads 53 = .ok (.invokestatic 36, 3) := by decide +kernel
theorem dX7_reads_56 : decode cX7_reads 56 = .ok (.ifCond .eq 16, 3) := by decide +kernel
theorem dX7_reads_59 : decode cX7_reads 59 = .ok (.aload_n 0, 1) := by decide +kernel
theorem dX7_reads_60 : decode cX7_reads 60 = .ok (.iload_n 2, 1) := by decide +kernel
theorem dX7_reads_61 : decode cX7_reads 61 = .ok (.iload 5, 2) := by decide +kernel
theorem dX7_reads_63 : decode cX7_reads 63 = .ok (.iload_n 3, 1) := by decide +kernel
theorem dX7_reads_64 : decode cX7_reads 64 = .ok (.iload 4, 2) := by decide +kernel
theorem dX7_reads_66 : decode cX7_reads 66 = .ok (.invokevirtual 131, 3) := by decide +kernel
theorem dX7_reads_69 : decode cX7_reads 69 = .ok (.goto 5, 3) := by decide +kernel
theorem dX7_reads_72 : decode cX7_reads 72 = .ok (.ldc 93, 2) := by decide +kernel
theorem dX7_reads_74 : decode cX7_reads 74 = .ok (.ireturn, 1) := by decide +kernel
theorem dX7_alikeDays_0 : decode cX7_alikeDays 0 = .ok (.iconst 0, 1) := by decide +kernel
theorem dX7_alikeDays_1 : decode cX7_alikeDays 1 = .ok (.istore_n 3, 1) := by decide +kernel
theorem dX7_alikeDays_2 : decode cX7_alikeDays 2 = .ok (.iconst 0, 1) := by decide +kernel
theorem dX7_alikeDays_3 : decode cX7_alikeDays 3 = .ok (.istore 4, 2) := by decide +kernel
theorem dX7_alikeDays_5 : decode cX7_alikeDays 5 = .ok (.iload 4, 2) := by decide +kernel
theorem dX7_alikeDays_7 : decode cX7_alikeDays 7 = .ok (.bipush 7, 2) := by decide +kernel
theorem dX7_alikeDays_9 : decode cX7_alikeDays 9 = .ok (.if_icmp .ge 65, 3) := by decide +kernel
theorem dX7_alikeDays_12 : decode cX7_alikeDays 12 = .ok (.aload_n 0, 1) := by decide +kernel
theorem dX7_alikeDays_13 : decode cX7_alikeDays 13 = .ok (.iload 4, 2) := by decide +kernel
theorem dX7_alikeDays_15 : decode cX7_alikeDays 15 = .ok (.invokevirtual 90, 3) := by decide +kernel
theorem dX7_alikeDays_18 : decode cX7_alikeDays 18 = .ok (.istore 5, 2) := by decide +kernel
theorem dX7_alikeDays_20 : decode cX7_alikeDays 20 = .ok (.aload_n 0, 1) := by decide +kernel
theorem dX7_alikeDays_21 : decode cX7_alikeDays 21 = .ok (.iload_n 1, 1) := by decide +kernel
theorem dX7_alikeDays_22 : decode cX7_alikeDays 22 = .ok (.invokestatic 150, 3) := by decide +kernel
theorem dX7_alikeDays_25 : decode cX7_alikeDays 25 = .ok (.iload_n 1, 1) := by decide +kernel
theorem dX7_alikeDays_26 : decode cX7_alikeDays 26 = .ok (.iload 5, 2) := by decide +kernel
theorem dX7_alikeDays_28 : decode cX7_alikeDays 28 = .ok (.invokevirtual 137, 3) := by decide +kernel
theorem dX7_alikeDays_31 : decode cX7_alikeDays 31 = .ok (.aload_n 0, 1) := by decide +kernel
theorem dX7_alikeDays_32 : decode cX7_alikeDays 32 = .ok (.iload_n 2, 1) := by decide +kernel
theorem dX7_alikeDays_33 : decode cX7_alikeDays 33 = .ok (.invokestatic 150, 3) := by decide +kernel
theorem dX7_alikeDays_36 : decode cX7_alikeDays 36 = .ok (.iload_n 2, 1) := by decide +kernel
theorem dX7_alikeDays_37 : decode cX7_alikeDays 37 = .ok (.iload 5, 2) := by decide +kernel
theorem dX7_alikeDays_39 : decode cX7_alikeDays 39 = .ok (.invokevirtual 137, 3) := by decide +kernel
theorem dX7_alikeDays_42 : decode cX7_alikeDays 42 = .ok (.iload_n 3, 1) := by decide +kernel
theorem dX7_alikeDays_43 : decode cX7_alikeDays 43 = .ok (.aload_n 0, 1) := by decide +kernel
theorem dX7_alikeDays_44 : decode cX7_alikeDays 44 = .ok (.iload_n 1, 1) := by decide +kernel
theorem dX7_alikeDays_45 : decode cX7_alikeDays 45 = .ok (.invokestatic 150, 3) := by decide +kernel
theorem dX7_alikeDays_48 : decode cX7_alikeDays 48 = .ok (.iload_n 2, 1) := by decide +kernel
theorem dX7_alikeDays_49 : decode cX7_alikeDays 49 = .ok (.invokestatic 150, 3) := by decide +kernel
theorem dX7_alikeDays_52 : decode cX7_alikeDays 52 = .ok (.invokevirtual 141, 3) := by decide +kernel
theorem dX7_alikeDays_55 : decode cX7_alikeDays 55 = .ok (.ifCond .eq 10, 3) := by decide +kernel
theorem dX7_alikeDays_58 : decode cX7_alikeDays 58 = .ok (.iconst 1, 1) := by decide +kernel
theorem dX7_alikeDays_59 : decode cX7_alikeDays 59 = .ok (.iload 4, 2) := by decide +kernel
theorem dX7_alikeDays_61 : decode cX7_alikeDays 61 = .ok (.ishl, 1) := by decide +kernel
theorem dX7_alikeDays_62 : decode cX7_alikeDays 62 = .ok (.goto 4, 3) := by decide +kernel
theorem dX7_alikeDays_65 : decode cX7_alikeDays 65 = .ok (.iconst 0, 1) := by decide +kernel
theorem dX7_alikeDays_66 : decode cX7_alikeDays 66 = .ok (.ior, 1) := by decide +kernel
theorem dX7_alikeDays_67 : decode cX7_alikeDays 67 = .ok (.istore_n 3, 1) := by decide +kernel
theorem dX7_alikeDays_68 : decode cX7_alikeDays 68 = .ok (.iinc 4 1, 3) := by decide +kernel
theorem dX7_alikeDays_71 : decode cX7_alikeDays 71 = .ok (.goto (-66), 3) := by decide +kernel
theorem dX7_alikeDays_74 : decode cX7_alikeDays 74 = .ok (.iload_n 3, 1) := by decide +kernel
theorem dX7_alikeDays_75 : decode cX7_alikeDays 75 = .ok (.ireturn, 1) := by decide +kernel
theorem dX7_daysOf_0 : decode cX7_daysOf 0 = .ok (.aload_n 0, 1) := by decide +kernel
theorem dX7_daysOf_1 : decode cX7_daysOf 1 = .ok (.iload_n 1, 1) := by decide +kernel
theorem dX7_daysOf_2 : decode cX7_daysOf 2 = .ok (.invokevirtual 100, 3) := by decide +kernel
theorem dX7_daysOf_5 : decode cX7_daysOf 5 = .ok (.ifCond .eq 15, 3) := by decide +kernel
theorem dX7_daysOf_8 : decode cX7_daysOf 8 = .ok (.bipush 127, 2) := by decide +kernel
theorem dX7_daysOf_10 : decode cX7_daysOf 10 = .ok (.aload_n 0, 1) := by decide +kernel
theorem dX7_daysOf_11 : decode cX7_daysOf 11 = .ok (.iload_n 1, 1) := by decide +kernel
theorem dX7_daysOf_12 : decode cX7_daysOf 12 = .ok (.iconst (-1), 1) := by decide +kernel
theorem dX7_daysOf_13 : decode cX7_daysOf 13 = .ok (.invokevirtual 153, 3) := by decide +kernel
theorem dX7_daysOf_16 : decode cX7_daysOf 16 = .ok (.isub, 1) := by decide +kernel
theorem dX7_daysOf_17 : decode cX7_daysOf 17 = .ok (.goto 5, 3) := by decide +kernel
theorem dX7_daysOf_20 : decode cX7_daysOf 20 = .ok (.ldc 53, 2) := by decide +kernel
theorem dX7_daysOf_22 : decode cX7_daysOf 22 = .ok (.ireturn, 1) := by decide +kernel
theorem dX7_alike_0 : decode cX7_alike 0 = .ok (.aload_n 0, 1) := by decide +kernel
theorem dX7_alike_1 : decode cX7_alike 1 = .ok (.iload_n 1, 1) := by decide +kernel
theorem dX7_alike_2 : decode cX7_alike 2 = .ok (.invokevirtual 147, 3) := by decide +kernel
theorem dX7_alike_5 : decode cX7_alike 5 = .ok (.ifCond .eq 20, 3) := by decide +kernel
theorem dX7_alike_8 : decode cX7_alike 8 = .ok (.aload_n 0, 1) := by decide +kernel
theorem dX7_alike_9 : decode cX7_alike 9 = .ok (.iload_n 2, 1) := by decide +kernel
theorem dX7_alike_10 : decode cX7_alike 10 = .ok (.invokevirtual 147, 3) := by decide +kernel
theorem dX7_alike_13 : decode cX7_alike 13 = .ok (.ifCond .eq 12, 3) := by decide +kernel
theorem dX7_alike_16 : decode cX7_alike 16 = .ok (.aload_n 0, 1) := by decide +kernel
theorem dX7_alike_17 : decode cX7_alike 17 = .ok (.iload_n 1, 1) := by decide +kernel
theorem dX7_alike_18 : decode cX7_alike 18 = .ok (.iload_n 2, 1) := by decide +kernel
theorem dX7_alike_19 : decode cX7_alike 19 = .ok (.invokevirtual 153, 3) := by decide +kernel
theorem dX7_alike_22 : decode cX7_alike 22 = .ok (.goto 5, 3) := by decide +kernel
theorem dX7_alike_25 : decode cX7_alike 25 = .ok (.ldc 53, 2) := by decide +kernel
theorem dX7_alike_27 : decode cX7_alike 27 = .ok (.ireturn, 1) := by decide +kernel
theorem dX7_twin_0 : decode cX7_twin 0 = .ok (.aload_n 0, 1) := by decide +kernel
theorem dX7_twin_1 : decode cX7_twin 1 = .ok (.iload_n 1, 1) := by decide +kernel
theorem dX7_twin_2 : decode cX7_twin 2 = .ok (.invokevirtual 100, 3) := by decide +kernel
theorem dX7_twin_5 : decode cX7_twin 5 = .ok (.ifCond .ne 6, 3) := by decide +kernel
theorem dX7_twin_8 : decode cX7_twin 8 = .ok (.ldc 53, 2) := by decide +kernel
theorem dX7_twin_10 : decode cX7_twin 10 = .ok (.ireturn, 1) := by decide +kernel
theorem dX7_twin_11 : decode cX7_twin 11 = .ok (.iconst 0, 1) := by decide +kernel
theorem dX7_twin_12 : decode cX7_twin 12 = .ok (.istore_n 2, 1) := by decide +kernel
theorem dX7_twin_13 : decode cX7_twin 13 = .ok (.iload_n 2, 1) := by decide +kernel
theorem dX7_twin_14 : decode cX7_twin 14 = .ok (.aload_n 0, 1) := by decide +kernel
theorem dX7_twin_15 : decode cX7_twin 15 = .ok (.getfield 7, 3) := by decide +kernel
theorem dX7_twin_18 : decode cX7_twin 18 = .ok (.iconst 2, 1) := by decide +kernel
theorem dX7_twin_19 : decode cX7_twin 19 = .ok (.iaload, 1) := by decide +kernel
theorem dX7_twin_20 : decode cX7_twin 20 = .ok (.if_icmp .ge 27, 3) := by decide +kernel
theorem dX7_twin_23 : decode cX7_twin 23 = .ok (.iload_n 2, 1) := by decide +kernel
theorem dX7_twin_24 : decode cX7_twin 24 = .ok (.iload_n 1, 1) := by decide +kernel
theorem dX7_twin_25 : decode cX7_twin 25 = .ok (.if_icmp .eq 16, 3) := by decide +kernel
theorem dX7_twin_28 : decode cX7_twin 28 = .ok (.aload_n 0, 1) := by decide +kernel
theorem dX7_twin_29 : decode cX7_twin 29 = .ok (.iload_n 1, 1) := by decide +kernel
theorem dX7_twin_30 : decode cX7_twin 30 = .ok (.iload_n 2, 1) := by decide +kernel
theorem dX7_twin_31 : decode cX7_twin 31 = .ok (.invokevirtual 153, 3) := by decide +kernel
theorem dX7_twin_34 : decode cX7_twin 34 = .ok (.bipush 127, 2) := by decide +kernel
theorem dX7_twin_36 : decode cX7_twin 36 = .ok (.if_icmp .ne 5, 3) := by decide +kernel
theorem dX7_twin_39 : decode cX7_twin 39 = .ok (.iload_n 2, 1) := by decide +kernel
theorem dX7_twin_40 : decode cX7_twin 40 = .ok (.ireturn, 1) := by decide +kernel
theorem dX7_twin_41 : decode cX7_twin 41 = .ok (.iinc 2 1, 3) := by decide +kernel
theorem dX7_twin_44 : decode cX7_twin 44 = .ok (.goto (-31), 3) := by decide +kernel
theorem dX7_twin_47 : decode cX7_twin 47 = .ok (.aload_n 0, 1) := by decide +kernel
theorem dX7_twin_48 : decode cX7_twin 48 = .ok (.iload_n 1, 1) := by decide +kernel
theorem dX7_twin_49 : decode cX7_twin 49 = .ok (.iconst (-1), 1) := by decide +kernel
theorem dX7_twin_50 : decode cX7_twin 50 = .ok (.invokevirtual 153, 3) := by decide +kernel
theorem dX7_twin_53 : decode cX7_twin 53 = .ok (.bipush 127, 2) := by decide +kernel
theorem dX7_twin_55 : decode cX7_twin 55 = .ok (.if_icmp .ne 7, 3) := by decide +kernel
theorem dX7_twin_58 : decode cX7_twin 58 = .ok (.iconst (-1), 1) := by decide +kernel
theorem dX7_twin_59 : decode cX7_twin 59 = .ok (.goto 5, 3) := by decide +kernel
theorem dX7_twin_62 : decode cX7_twin 62 = .ok (.ldc 93, 2) := by decide +kernel
theorem dX7_twin_64 : decode cX7_twin 64 = .ok (.ireturn, 1) := by decide +kernel
theorem dX7_outcomes_0 : decode cX7_outcomes 0 = .ok (.iload_n 1, 1) := by decide +kernel
theorem dX7_outcomes_1 : decode cX7_outcomes 1 = .ok (.invokestatic 144, 3) := by decide +kernel
theorem dX7_outcomes_4 : decode cX7_outcomes 4 = .ok (.ifCond .ne 6, 3) := by decide +kernel
theorem dX7_outcomes_7 : decode cX7_outcomes 7 = .ok (.ldc 53, 2) := by decide +kernel
theorem dX7_outcomes_9 : decode cX7_outcomes 9 = .ok (.ireturn, 1) := by decide +kernel
theorem dX7_outcomes_10 : decode cX7_outcomes 10 = .ok (.aload_n 0, 1) := by decide +kernel
theorem dX7_outcomes_11 : decode cX7_outcomes 11 = .ok (.aload_n 0, 1) := by decide +kernel
theorem dX7_outcomes_12 : decode cX7_outcomes 12 = .ok (.iload_n 1, 1) := by decide +kernel
theorem dX7_outcomes_13 : decode cX7_outcomes 13 = .ok (.invokevirtual 90, 3) := by decide +kernel
theorem dX7_outcomes_16 : decode cX7_outcomes 16 = .ok (.invokevirtual 156, 3) := by decide +kernel
theorem dX7_outcomes_19 : decode cX7_outcomes 19 = .ok (.iconst 0, 1) := by decide +kernel
theorem dX7_outcomes_20 : decode cX7_outcomes 20 = .ok (.istore_n 2, 1) := by decide +kernel
theorem dX7_outcomes_21 : decode cX7_outcomes 21 = .ok (.iconst 0, 1) := by decide +kernel
theorem dX7_outcomes_22 : decode cX7_outcomes 22 = .ok (.istore_n 3, 1) := by decide +kernel
theorem dX7_outcomes_23 : decode cX7_outcomes 23 = .ok (.iload_n 3, 1) := by decide +kernel
theorem dX7_outcomes_24 : decode cX7_outcomes 24 = .ok (.bipush 10, 2) := by decide +kernel
theorem dX7_outcomes_26 : decode cX7_outcomes 26 = .ok (.if_icmp .gt 43, 3) := by decide +kernel
theorem dX7_outcomes_29 : decode cX7_outcomes 29 = .ok (.aload_n 0, 1) := by decide +kernel
theorem dX7_outcomes_30 : decode cX7_outcomes 30 = .ok (.iload_n 3, 1) := by decide +kernel
theorem dX7_outcomes_31 : decode cX7_outcomes 31 = .ok (.invokevirtual 134, 3) := by decide +kernel
theorem dX7_outcomes_34 : decode cX7_outcomes 34 = .ok (.ifCond .eq 29, 3) := by decide +kernel
theorem dX7_outcomes_37 : decode cX7_outcomes 37 = .ok (.aload_n 0, 1) := by decide +kernel
theorem dX7_outcomes_38 : decode cX7_outcomes 38 = .ok (.iload_n 3, 1) := by decide +kernel
theorem dX7_outcomes_39 : decode cX7_outcomes 39 = .ok (.invokevirtual 160, 3) := by decide +kernel
theorem dX7_outcomes_42 : decode cX7_outcomes 42 = .ok (.istore 4, 2) := by decide +kernel
theorem dX7_outcomes_44 : decode cX7_outcomes 44 = .ok (.iload_n 2, 1) := by decide +kernel
theorem dX7_outcomes_45 : decode cX7_outcomes 45 = .ok (.iload 4, 2) := by decide +kernel
theorem dX7_outcomes_47 : decode cX7_outcomes 47 = .ok (.iconst 1, 1) := by decide +kernel
theorem dX7_outcomes_48 : decode cX7_outcomes 48 = .ok (.iload_n 3, 1) := by decide +kernel
theorem dX7_outcomes_49 : decode cX7_outcomes 49 = .ok (.ishl, 1) := by decide +kernel
theorem dX7_outcomes_50 : decode cX7_outcomes 50 = .ok (.iconst 1, 1) := by decide +kernel
theorem dX7_outcomes_51 : decode cX7_outcomes 51 = .ok (.isub, 1) := by decide +kernel
theorem dX7_outcomes_52 : decode cX7_outcomes 52 = .ok (.iand, 1) := by decide +kernel
theorem dX7_outcomes_53 : decode cX7_outcomes 53 = .ok (.ifCond .ne 7, 3) := by decide +kernel
theorem dX7_outcomes_56 : decode cX7_outcomes 56 = .ok (.iconst 1, 1) := by decide +kernel
theorem dX7_outcomes_57 : decode cX7_outcomes 57 = .ok (.goto 4, 3) := by decide +kernel
theorem dX7_outcomes_60 : decode cX7_outcomes 60 = .ok (.iconst 0, 1) := by decide +kernel
theorem dX7_outcomes_61 : decode cX7_outcomes 61 = .ok (.iadd, 1) := by decide +kernel
theorem dX7_outcomes_62 : decode cX7_outcomes 62 = .ok (.istore_n 2, 1) := by decide +kernel
theorem dX7_outcomes_63 : decode cX7_outcomes 63 = .ok (.iinc 3 1, 3) := by decide +kernel
theorem dX7_outcomes_66 : decode cX7_outcomes 66 = .ok (.goto (-43), 3) := by decide +kernel
theorem dX7_outcomes_69 : decode cX7_outcomes 69 = .ok (.iload_n 2, 1) := by decide +kernel
theorem dX7_outcomes_70 : decode cX7_outcomes 70 = .ok (.ireturn, 1) := by decide +kernel
theorem dX7_likes_0 : decode cX7_likes 0 = .ok (.iload_n 1, 1) := by decide +kernel
theorem dX7_likes_1 : decode cX7_likes 1 = .ok (.invokestatic 144, 3) := by decide +kernel
theorem dX7_likes_4 : decode cX7_likes 4 = .ok (.ifCond .eq 11, 3) := by decide +kernel
theorem dX7_likes_7 : decode cX7_likes 7 = .ok (.aload_n 0, 1) := by decide +kernel
theorem dX7_likes_8 : decode cX7_likes 8 = .ok (.iload_n 2, 1) := by decide +kernel
theorem dX7_likes_9 : decode cX7_likes 9 = .ok (.invokevirtual 147, 3) := by decide +kernel
theorem dX7_likes_12 : decode cX7_likes 12 = .ok (.ifCond .ne 6, 3) := by decide +kernel
theorem dX7_likes_15 : decode cX7_likes 15 = .ok (.ldc 53, 2) := by decide +kernel
theorem dX7_likes_17 : decode cX7_likes 17 = .ok (.ireturn, 1) := by decide +kernel
theorem dX7_likes_18 : decode cX7_likes 18 = .ok (.aload_n 0, 1) := by decide +kernel
theorem dX7_likes_19 : decode cX7_likes 19 = .ok (.aload_n 0, 1) := by decide +kernel
theorem dX7_likes_20 : decode cX7_likes 20 = .ok (.iload_n 1, 1) := by decide +kernel
theorem dX7_likes_21 : decode cX7_likes 21 = .ok (.invokevirtual 90, 3) := by decide +kernel
theorem dX7_likes_24 : decode cX7_likes 24 = .ok (.invokevirtual 156, 3) := by decide +kernel
theorem dX7_likes_27 : decode cX7_likes 27 = .ok (.aload_n 0, 1) := by decide +kernel
theorem dX7_likes_28 : decode cX7_likes 28 = .ok (.iload_n 2, 1) := by decide +kernel
theorem dX7_likes_29 : decode cX7_likes 29 = .ok (.invokestatic 150, 3) := by decide +kernel
theorem dX7_likes_32 : decode cX7_likes 32 = .ok (.invokevirtual 160, 3) := by decide +kernel
theorem dX7_likes_35 : decode cX7_likes 35 = .ok (.ireturn, 1) := by decide +kernel
theorem dX7_findsLikes_0 : decode cX7_findsLikes 0 = .ok (.iconst 0, 1) := by decide +kernel
theorem dX7_findsLikes_1 : decode cX7_findsLikes 1 = .ok (.istore_n 1, 1) := by decide +kernel
theorem dX7_findsLikes_2 : decode cX7_findsLikes 2 = .ok (.iload_n 1, 1) := by decide +kernel
theorem dX7_findsLikes_3 : decode cX7_findsLikes 3 = .ok (.bipush 7, 2) := by decide +kernel
theorem dX7_findsLikes_5 : decode cX7_findsLikes 5 = .ok (.if_icmp .ge 60, 3) := by decide +kernel
theorem dX7_findsLikes_8 : decode cX7_findsLikes 8 = .ok (.aload_n 0, 1) := by decide +kernel
theorem dX7_findsLikes_9 : decode cX7_findsLikes 9 = .ok (.aload_n 0, 1) := by decide +kernel
theorem dX7_findsLikes_10 : decode cX7_findsLikes 10 = .ok (.iload_n 1, 1) := by decide +kernel
theorem dX7_findsLikes_11 : decode cX7_findsLikes 11 = .ok (.invokevirtual 90, 3) := by decide +kernel
theorem dX7_findsLikes_14 : decode cX7_findsLikes 14 = .ok (.invokevirtual 156, 3) := by decide +kernel
theorem dX7_findsLikes_17 : decode cX7_findsLikes 17 = .ok (.iconst 0, 1) := by decide +kernel
theorem dX7_findsLikes_18 : decode cX7_findsLikes 18 = .ok (.istore_n 2, 1) := by decide +kernel
theorem dX7_findsLikes_19 : decode cX7_findsLikes 19 = .ok (.iload_n 2, 1) := by decide +kernel
theorem dX7_findsLikes_20 : decode cX7_findsLikes 20 = .ok (.bipush 10, 2) := by decide +kernel
theorem dX7_findsLikes_22 : decode cX7_findsLikes 22 = .ok (.if_icmp .gt 37, 3) := by decide +kernel
theorem dX7_findsLikes_25 : decode cX7_findsLikes 25 = .ok (.aload_n 0, 1) := by decide +kernel
theorem dX7_findsLikes_26 : decode cX7_findsLikes 26 = .ok (.getfield 22, 3) := by decide +kernel
theorem dX7_findsLikes_29 : decode cX7_findsLikes 29 = .ok (.iload_n 1, 1) := by decide +kernel
theorem dX7_findsLikes_30 : decode cX7_findsLikes 30 = .ok (.bipush 11, 2) := by decide +kernel
theorem dX7_findsLikes_32 : decode cX7_findsLikes 32 = .ok (.imul, 1) := by decide +kernel
theorem dX7_findsLikes_33 : decode cX7_findsLikes 33 = .ok (.iload_n 2, 1) := by decide +kernel
theorem dX7_findsLikes_34 : decode cX7_findsLikes 34 = .ok (.iadd, 1) := by decide +kernel
theorem dX7_findsLikes_35 : decode cX7_findsLikes 35 = .ok (.aload_n 0, 1) := by decide +kernel
theorem dX7_findsLikes_36 : decode cX7_findsLikes 36 = .ok (.iload_n 2, 1) := by decide +kernel
theorem dX7_findsLikes_37 : decode cX7_findsLikes 37 = .ok (.invokevirtual 134, 3) := by decide +kernel
theorem dX7_findsLikes_40 : decode cX7_findsLikes 40 = .ok (.ifCond .eq 11, 3) := by decide +kernel
theorem dX7_findsLikes_43 : decode cX7_findsLikes 43 = .ok (.aload_n 0, 1) := by decide +kernel
theorem dX7_findsLikes_44 : decode cX7_findsLikes 44 = .ok (.iload_n 2, 1) := by decide +kernel
theorem dX7_findsLikes_45 : decode cX7_findsLikes 45 = .ok (.invokevirtual 160, 3) := by decide +kernel
theorem dX7_findsLikes_48 : decode cX7_findsLikes 48 = .ok (.goto 4, 3) := by decide +kernel
theorem dX7_findsLikes_51 : decode cX7_findsLikes 51 = .ok (.iconst 0, 1) := by decide +kernel
theorem dX7_findsLikes_52 : decode cX7_findsLikes 52 = .ok (.iastore, 1) := by decide +kernel
theorem dX7_findsLikes_53 : decode cX7_findsLikes 53 = .ok (.iinc 2 1, 3) := by decide +kernel
theorem dX7_findsLikes_56 : decode cX7_findsLikes 56 = .ok (.goto (-37), 3) := by decide +kernel
theorem dX7_findsLikes_59 : decode cX7_findsLikes 59 = .ok (.iinc 1 1, 3) := by decide +kernel
theorem dX7_findsLikes_62 : decode cX7_findsLikes 62 = .ok (.goto (-60), 3) := by decide +kernel
theorem dX7_findsLikes_65 : decode cX7_findsLikes 65 = .ok (.return_, 1) := by decide +kernel
theorem dX7_areApart_0 : decode cX7_areApart 0 = .ok (.iconst 0, 1) := by decide +kernel
theorem dX7_areApart_1 : decode cX7_areApart 1 = .ok (.istore 4, 2) := by decide +kernel
theorem dX7_areApart_3 : decode cX7_areApart 3 = .ok (.iconst 0, 1) := by decide +kernel
theorem dX7_areApart_4 : decode cX7_areApart 4 = .ok (.istore 5, 2) := by decide +kernel
theorem dX7_areApart_6 : decode cX7_areApart 6 = .ok (.iload 5, 2) := by decide +kernel
theorem dX7_areApart_8 : decode cX7_areApart 8 = .ok (.bipush 7, 2) := by decide +kernel
theorem dX7_areApart_10 : decode cX7_areApart 10 = .ok (.if_icmp .ge 49, 3) := by decide +kernel
theorem dX7_areApart_13 : decode cX7_areApart 13 = .ok (.iload 4, 2) := by decide +kernel
theorem dX7_areApart_15 : decode cX7_areApart 15 = .ok (.ifCond .ne 31, 3) := by decide +kernel
theorem dX7_areApart_18 : decode cX7_areApart 18 = .ok (.iload_n 3, 1) := by decide +kernel
theorem dX7_areApart_19 : decode cX7_areApart 19 = .ok (.iload 5, 2) := by decide +kernel
theorem dX7_areApart_21 : decode cX7_areApart 21 = .ok (.invokestatic 36, 3) := by decide +kernel
theorem dX7_areApart_24 : decode cX7_areApart 24 = .ok (.ifCond .eq 26, 3) := by decide +kernel
theorem dX7_areApart_27 : decode cX7_areApart 27 = .ok (.aload_n 0, 1) := by decide +kernel
theorem dX7_areApart_28 : decode cX7_areApart 28 = .ok (.getfield 22, 3) := by decide +kernel
theorem dX7_areApart_31 : decode cX7_areApart 31 = .ok (.iload 5, 2) := by decide +kernel
theorem dX7_areApart_33 : decode cX7_areApart 33 = .ok (.bipush 11, 2) := by decide +kernel
theorem dX7_areApart_35 : decode cX7_areApart 35 = .ok (.imul, 1) := by decide +kernel
theorem dX7_areApart_36 : decode cX7_areApart 36 = .ok (.iload_n 1, 1) := by decide +kernel
theorem dX7_areApart_37 : decode cX7_areApart 37 = .ok (.iadd, 1) := by decide +kernel
theorem dX7_areApart_38 : decode cX7_areApart 38 = .ok (.iaload, 1) := by decide +kernel
theorem dX7_areApart_39 : decode cX7_areApart 39 = .ok (.iload_n 2, 1) := by decide +kernel
theorem dX7_areApart_40 : decode cX7_areApart 40 = .ok (.invokestatic 36, 3) := by decide +kernel
theorem dX7_areApart_43 : decode cX7_areApart 43 = .ok (.ifCond .ne 7, 3) := by decide +kernel
theorem dX7_areApart_46 : decode cX7_areApart 46 = .ok (.iconst 1, 1) := by decide +kernel
theorem dX7_areApart_47 : decode cX7_areApart 47 = .ok (.goto 4, 3) := by decide +kernel
theorem dX7_areApart_50 : decode cX7_areApart 50 = .ok (.iconst 0, 1) := by decide +kernel
theorem dX7_areApart_51 : decode cX7_areApart 51 = .ok (.istore 4, 2) := by decide +kernel
theorem dX7_areApart_53 : decode cX7_areApart 53 = .ok (.iinc 5 1, 3) := by decide +kernel
theorem dX7_areApart_56 : decode cX7_areApart 56 = .ok (.goto (-50), 3) := by decide +kernel
theorem dX7_areApart_59 : decode cX7_areApart 59 = .ok (.iload 4, 2) := by decide +kernel
theorem dX7_areApart_61 : decode cX7_areApart 61 = .ok (.ireturn, 1) := by decide +kernel
theorem dX7_doesAll_0 : decode cX7_doesAll 0 = .ok (.iconst 1, 1) := by decide +kernel
theorem dX7_doesAll_1 : decode cX7_doesAll 1 = .ok (.istore_n 3, 1) := by decide +kernel
theorem dX7_doesAll_2 : decode cX7_doesAll 2 = .ok (.iconst 0, 1) := by decide +kernel
theorem dX7_doesAll_3 : decode cX7_doesAll 3 = .ok (.istore 4, 2) := by decide +kernel
theorem dX7_doesAll_5 : decode cX7_doesAll 5 = .ok (.iload 4, 2) := by decide +kernel
theorem dX7_doesAll_7 : decode cX7_doesAll 7 = .ok (.bipush 10, 2) := by decide +kernel
theorem dX7_doesAll_9 : decode cX7_doesAll 9 = .ok (.if_icmp .ge 105, 3) := by decide +kernel
theorem dX7_doesAll_12 : decode cX7_doesAll 12 = .ok (.iload 4, 2) := by decide +kernel
theorem dX7_doesAll_14 : decode cX7_doesAll 14 = .ok (.iconst 1, 1) := by decide +kernel
theorem dX7_doesAll_15 : decode cX7_doesAll 15 = .ok (.iadd, 1) := by decide +kernel
theorem dX7_doesAll_16 : decode cX7_doesAll 16 = .ok (.istore 5, 2) := by decide +kernel
theorem dX7_doesAll_18 : decode cX7_doesAll 18 = .ok (.iload 5, 2) := by decide +kernel
theorem dX7_doesAll_20 : decode cX7_doesAll 20 = .ok (.bipush 10, 2) := by decide +kernel
theorem dX7_doesAll_22 : decode cX7_doesAll 22 = .ok (.if_icmp .gt 86, 3) := by decide +kernel
theorem dX7_doesAll_25 : decode cX7_doesAll 25 = .ok (.aload_n 0, 1) := by decide +kernel
theorem dX7_doesAll_26 : decode cX7_doesAll 26 = .ok (.iload 4, 2) := by decide +kernel
theorem dX7_doesAll_28 : decode cX7_doesAll 28 = .ok (.invokevirtual 134, 3) := by decide +kernel
theorem dX7_doesAll_31 : decode cX7_doesAll 31 = .ok (.ifCond .eq 28, 3) := by decide +kernel
theorem dX7_doesAll_34 : decode cX7_doesAll 34 = .ok (.aload_n 0, 1) := by decide +kernel
theorem dX7_doesAll_35 : decode cX7_doesAll 35 = .ok (.iload 5, 2) := by decide +kernel
theorem dX7_doesAll_37 : decode cX7_doesAll 37 = .ok (.invokevirtual 134, 3) := by decide +kernel
theorem dX7_doesAll_40 : decode cX7_doesAll 40 = .ok (.ifCond .eq 19, 3) := by decide +kernel
theorem dX7_doesAll_43 : decode cX7_doesAll 43 = .ok (.iload_n 1, 1) := by decide +kernel
theorem dX7_doesAll_44 : decode cX7_doesAll 44 = .ok (.iconst 1, 1) := by decide +kernel
theorem dX7_doesAll_45 : decode cX7_doesAll 45 = .ok (.if_icmp .eq 10, 3) := by decide +kernel
theorem dX7_doesAll_48 : decode cX7_doesAll 48 = .ok (.iload 5, 2) := by decide +kernel
theorem dX7_doesAll_50 : decode cX7_doesAll 50 = .ok (.bipush 10, 2) := by decide +kernel
theorem dX7_doesAll_52 : decode cX7_doesAll 52 = .ok (.if_icmp .ne 7, 3) := by decide +kernel
theorem dX7_doesAll_55 : decode cX7_doesAll 55 = .ok (.iconst 1, 1) := by decide +kernel
theorem dX7_doesAll_56 : decode cX7_doesAll 56 = .ok (.goto 4, 3) := by decide +kernel
theorem dX7_doesAll_59 : decode cX7_doesAll 59 = .ok (.iconst 0, 1) := by decide +kernel
theorem dX7_doesAll_60 : decode cX7_doesAll 60 = .ok (.istore 6, 2) := by decide +kernel
theorem dX7_doesAll_62 : decode cX7_doesAll 62 = .ok (.iload_n 3, 1) := by decide +kernel
theorem dX7_doesAll_63 : decode cX7_doesAll 63 = .ok (.ifCond .eq 37, 3) := by decide +kernel
theorem dX7_doesAll_66 : decode cX7_doesAll 66 = .ok (.iload 6, 2) := by decide +kernel
theorem dX7_doesAll_68 : decode cX7_doesAll 68 = .ok (.ifCond .eq 28, 3) := by decide +kernel
theorem dX7_doesAll_71 : decode cX7_doesAll 71 = .ok (.aload_n 0, 1) := by decide +kernel
theorem dX7_doesAll_72 : decode cX7_doesAll 72 = .ok (.iload 4, 2) := by decide +kernel
theorem dX7_doesAll_74 : decode cX7_doesAll 74 = .ok (.iload 5, 2) := by decide +kernel
theorem dX7_doesAll_76 : decode cX7_doesAll 76 = .ok (.iload_n 2, 1) := by decide +kernel
theorem dX7_doesAll_77 : decode cX7_doesAll 77 = .ok (.invokevirtual 163, 3) := by decide +kernel
theorem dX7_doesAll_80 : decode cX7_doesAll 80 = .ok (.ifCond .ne 16, 3) := by decide +kernel
theorem dX7_doesAll_83 : decode cX7_doesAll 83 = .ok (.aload_n 0, 1) := by decide +kernel
theorem dX7_doesAll_84 : decode cX7_doesAll 84 = .ok (.iload 4, 2) := by decide +kernel
theorem dX7_doesAll_86 : decode cX7_doesAll 86 = .ok (.iload 5, 2) := by decide +kernel
theorem dX7_doesAll_88 : decode cX7_doesAll 88 = .ok (.bipush 127, 2) := by decide +kernel
theorem dX7_doesAll_90 : decode cX7_doesAll 90 = .ok (.invokevirtual 163, 3) := by decide +kernel
theorem dX7_doesAll_93 : decode cX7_doesAll 93 = .ok (.ifCond .ne 7, 3) := by decide +kernel
theorem dX7_doesAll_96 : decode cX7_doesAll 96 = .ok (.iconst 1, 1) := by decide +kernel
theorem dX7_doesAll_97 : decode cX7_doesAll 97 = .ok (.goto 4, 3) := by decide +kernel
theorem dX7_doesAll_100 : decode cX7_doesAll 100 = .ok (.iconst 0, 1) := by decide +kernel
theorem dX7_doesAll_101 : decode cX7_doesAll 101 = .ok (.istore_n 3, 1) := by decide +kernel
theorem dX7_doesAll_102 : decode cX7_doesAll 102 = .ok (.iinc 5 1, 3) := by decide +kernel
theorem dX7_doesAll_105 : decode cX7_doesAll 105 = .ok (.goto (-87), 3) := by decide +kernel
theorem dX7_doesAll_108 : decode cX7_doesAll 108 = .ok (.iinc 4 1, 3) := by decide +kernel
theorem dX7_doesAll_111 : decode cX7_doesAll 111 = .ok (.goto (-106), 3) := by decide +kernel
theorem dX7_doesAll_114 : decode cX7_doesAll 114 = .ok (.iload_n 3, 1) := by decide +kernel
theorem dX7_doesAll_115 : decode cX7_doesAll 115 = .ok (.ireturn, 1) := by decide +kernel
theorem dX7_fewestDays_0 : decode cX7_fewestDays 0 = .ok (.iload_n 1, 1) := by decide +kernel
theorem dX7_fewestDays_1 : decode cX7_fewestDays 1 = .ok (.iconst 0, 1) := by decide +kernel
theorem dX7_fewestDays_2 : decode cX7_fewestDays 2 = .ok (.iconst 1, 1) := by decide +kernel
theorem dX7_fewestDays_3 : decode cX7_fewestDays 3 = .ok (.invokestatic 45, 3) := by decide +kernel
theorem dX7_fewestDays_6 : decode cX7_fewestDays 6 = .ok (.ifCond .eq 12, 3) := by decide +kernel
theorem dX7_fewestDays_9 : decode cX7_fewestDays 9 = .ok (.iload_n 2, 1) := by decide +kernel
theorem dX7_fewestDays_10 : decode cX7_fewestDays 10 = .ok (.iconst 0, 1) := by decide +kernel
theorem dX7_fewestDays_11 : decode cX7_fewestDays 11 = .ok (.iconst 1, 1) := by decide +kernel
theorem dX7_fewestDays_12 : decode cX7_fewestDays 12 = .ok (.invokestatic 45, 3) := by decide +kernel
theorem dX7_fewestDays_15 : decode cX7_fewestDays 15 = .ok (.ifCond .ne 6, 3) := by decide +kernel
theorem dX7_fewestDays_18 : decode cX7_fewestDays 18 = .ok (.ldc 53, 2) := by decide +kernel
theorem dX7_fewestDays_20 : decode cX7_fewestDays 20 = .ok (.ireturn, 1) := by decide +kernel
theorem dX7_fewestDays_21 : decode cX7_fewestDays 21 = .ok (.aload_n 0, 1) := by decide +kernel
theorem dX7_fewestDays_22 : decode cX7_fewestDays 22 = .ok (.invokevirtual 166, 3) := by decide +kernel
theorem dX7_fewestDays_25 : decode cX7_fewestDays 25 = .ok (.bipush 127, 2) := by decide +kernel
theorem dX7_fewestDays_27 : decode cX7_fewestDays 27 = .ok (.istore_n 3, 1) := by decide +kernel
theorem dX7_fewestDays_28 : decode cX7_fewestDays 28 = .ok (.bipush 126, 2) := by decide +kernel
theorem dX7_fewestDays_30 : decode cX7_fewestDays 30 = .ok (.istore 4, 2) := by decide +kernel
theorem dX7_fewestDays_32 : decode cX7_fewestDays 32 = .ok (.iload 4, 2) := by decide +kernel
theorem dX7_fewestDays_34 : decode cX7_fewestDays 34 = .ok (.ifCond .lt 34, 3) := by decide +kernel
theorem dX7_fewestDays_37 : decode cX7_fewestDays 37 = .ok (.iload 4, 2) := by decide +kernel
theorem dX7_fewestDays_39 : decode cX7_fewestDays 39 = .ok (.invokestatic 49, 3) := by decide +kernel
theorem dX7_fewestDays_42 : decode cX7_fewestDays 42 = .ok (.iload_n 3, 1) := by decide +kernel
theorem dX7_fewestDays_43 : decode cX7_fewestDays 43 = .ok (.invokestatic 49, 3) := by decide +kernel
theorem dX7_fewestDays_46 : decode cX7_fewestDays 46 = .ok (.if_icmp .gt 16, 3) := by decide +kernel
theorem dX7_fewestDays_49 : decode cX7_fewestDays 49 = .ok (.aload_n 0, 1) := by decide +kernel
theorem dX7_fewestDays_50 : decode cX7_fewestDays 50 = .ok (.iload_n 1, 1) := by decide +kernel
theorem dX7_fewestDays_51 : decode cX7_fewestDays 51 = .ok (.iload 4, 2) := by decide +kernel
theorem dX7_fewestDays_53 : decode cX7_fewestDays 53 = .ok (.invokevirtual 169, 3) := by decide +kernel
theorem dX7_fewestDays_56 : decode cX7_fewestDays 56 = .ok (.ifCond .eq 6, 3) := by decide +kernel
theorem dX7_fewestDays_59 : decode cX7_fewestDays 59 = .ok (.iload 4, 2) := by decide +kernel
theorem dX7_fewestDays_61 : decode cX7_fewestDays 61 = .ok (.istore_n 3, 1) := by decide +kernel
theorem dX7_fewestDays_62 : decode cX7_fewestDays 62 = .ok (.iinc 4 (-1), 3) := by decide +kernel
theorem dX7_fewestDays_65 : decode cX7_fewestDays 65 = .ok (.goto (-33), 3) := by decide +kernel
theorem dX7_fewestDays_68 : decode cX7_fewestDays 68 = .ok (.iload_n 2, 1) := by decide +kernel
theorem dX7_fewestDays_69 : decode cX7_fewestDays 69 = .ok (.ifCond .ne 10, 3) := by decide +kernel
theorem dX7_fewestDays_72 : decode cX7_fewestDays 72 = .ok (.iload_n 3, 1) := by decide +kernel
theorem dX7_fewestDays_73 : decode cX7_fewestDays 73 = .ok (.invokestatic 49, 3) := by decide +kernel
theorem dX7_fewestDays_76 : decode cX7_fewestDays 76 = .ok (.goto 4, 3) := by decide +kernel
theorem dX7_fewestDays_79 : decode cX7_fewestDays 79 = .ok (.iload_n 3, 1) := by decide +kernel
theorem dX7_fewestDays_80 : decode cX7_fewestDays 80 = .ok (.ireturn, 1) := by decide +kernel
theorem dX7_isTold_0 : decode cX7_isTold 0 = .ok (.aload_n 0, 1) := by decide +kernel
theorem dX7_isTold_1 : decode cX7_isTold 1 = .ok (.iconst 0, 1) := by decide +kernel
theorem dX7_isTold_2 : decode cX7_isTold 2 = .ok (.iload_n 1, 1) := by decide +kernel
theorem dX7_isTold_3 : decode cX7_isTold 3 = .ok (.iload_n 2, 1) := by decide +kernel
theorem dX7_isTold_4 : decode cX7_isTold 4 = .ok (.invokevirtual 137, 3) := by decide +kernel
theorem dX7_isTold_7 : decode cX7_isTold 7 = .ok (.aload_n 0, 1) := by decide +kernel
theorem dX7_isTold_8 : decode cX7_isTold 8 = .ok (.bipush 10, 2) := by decide +kernel
theorem dX7_isTold_10 : decode cX7_isTold 10 = .ok (.iconst (-1), 1) := by decide +kernel
theorem dX7_isTold_11 : decode cX7_isTold 11 = .ok (.iload_n 2, 1) := by decide +kernel
theorem dX7_isTold_12 : decode cX7_isTold 12 = .ok (.invokevirtual 137, 3) := by decide +kernel
theorem dX7_isTold_15 : decode cX7_isTold 15 = .ok (.aload_n 0, 1) := by decide +kernel
theorem dX7_isTold_16 : decode cX7_isTold 16 = .ok (.iconst 0, 1) := by decide +kernel
theorem dX7_isTold_17 : decode cX7_isTold 17 = .ok (.bipush 10, 2) := by decide +kernel
theorem dX7_isTold_19 : decode cX7_isTold 19 = .ok (.invokevirtual 141, 3) := by decide +kernel
theorem dX7_isTold_22 : decode cX7_isTold 22 = .ok (.ifCond .ne 7, 3) := by decide +kernel
theorem dX7_isTold_25 : decode cX7_isTold 25 = .ok (.iconst 1, 1) := by decide +kernel
theorem dX7_isTold_26 : decode cX7_isTold 26 = .ok (.goto 4, 3) := by decide +kernel
theorem dX7_isTold_29 : decode cX7_isTold 29 = .ok (.iconst 0, 1) := by decide +kernel
theorem dX7_isTold_30 : decode cX7_isTold 30 = .ok (.ireturn, 1) := by decide +kernel
theorem dX7_wantedSet_0 : decode cX7_wantedSet 0 = .ok (.aload_n 0, 1) := by decide +kernel
theorem dX7_wantedSet_1 : decode cX7_wantedSet 1 = .ok (.iload_n 1, 1) := by decide +kernel
theorem dX7_wantedSet_2 : decode cX7_wantedSet 2 = .ok (.iload_n 2, 1) := by decide +kernel
theorem dX7_wantedSet_3 : decode cX7_wantedSet 3 = .ok (.invokevirtual 172, 3) := by decide +kernel
theorem dX7_wantedSet_6 : decode cX7_wantedSet 6 = .ok (.ifCond .eq 5, 3) := by decide +kernel
theorem dX7_wantedSet_9 : decode cX7_wantedSet 9 = .ok (.iconst 0, 1) := by decide +kernel
theorem dX7_wantedSet_10 : decode cX7_wantedSet 10 = .ok (.ireturn, 1) := by decide +kernel
theorem dX7_wantedSet_11 : decode cX7_wantedSet 11 = .ok (.iconst 0, 1) := by decide +kernel
theorem dX7_wantedSet_12 : decode cX7_wantedSet 12 = .ok (.istore_n 3, 1) := by decide +kernel
theorem dX7_wantedSet_13 : decode cX7_wantedSet 13 = .ok (.iload_n 3, 1) := by decide +kernel
theorem dX7_wantedSet_14 : decode cX7_wantedSet 14 = .ok (.bipush 16, 2) := by decide +kernel
theorem dX7_wantedSet_16 : decode cX7_wantedSet 16 = .ok (.if_icmp .ge 34, 3) := by decide +kernel
theorem dX7_wantedSet_19 : decode cX7_wantedSet 19 = .ok (.iload_n 2, 1) := by decide +kernel
theorem dX7_wantedSet_20 : decode cX7_wantedSet 20 = .ok (.iload_n 3, 1) := by decide +kernel
theorem dX7_wantedSet_21 : decode cX7_wantedSet 21 = .ok (.invokestatic 36, 3) := by decide +kernel
theorem dX7_wantedSet_24 : decode cX7_wantedSet 24 = .ok (.ifCond .ne 20, 3) := by decide +kernel
theorem dX7_wantedSet_27 : decode cX7_wantedSet 27 = .ok (.aload_n 0, 1) := by decide +kernel
theorem dX7_wantedSet_28 : decode cX7_wantedSet 28 = .ok (.iload_n 1, 1) := by decide +kernel
theorem dX7_wantedSet_29 : decode cX7_wantedSet 29 = .ok (.iload_n 2, 1) := by decide +kernel
theorem dX7_wantedSet_30 : decode cX7_wantedSet 30 = .ok (.iconst 1, 1) := by decide +kernel
theorem dX7_wantedSet_31 : decode cX7_wantedSet 31 = .ok (.iload_n 3, 1) := by decide +kernel
theorem dX7_wantedSet_32 : decode cX7_wantedSet 32 = .ok (.ishl, 1) := by decide +kernel
theorem dX7_wantedSet_33 : decode cX7_wantedSet 33 = .ok (.ior, 1) := by decide +kernel
theorem dX7_wantedSet_34 : decode cX7_wantedSet 34 = .ok (.invokevirtual 172, 3) := by decide +kernel
theorem dX7_wantedSet_37 : decode cX7_wantedSet 37 = .ok (.ifCond .eq 7, 3) := by decide +kernel
theorem dX7_wantedSet_40 : decode cX7_wantedSet 40 = .ok (.iconst 1, 1) := by decide +kernel
theorem dX7_wantedSet_41 : decode cX7_wantedSet 41 = .ok (.iload_n 3, 1) := by decide +kernel
theorem dX7_wantedSet_42 : decode cX7_wantedSet 42 = .ok (.ishl, 1) := by decide +kernel
theorem dX7_wantedSet_43 : decode cX7_wantedSet 43 = .ok (.ireturn, 1) := by decide +kernel
theorem dX7_wantedSet_44 : decode cX7_wantedSet 44 = .ok (.iinc 3 1, 3) := by decide +kernel
theorem dX7_wantedSet_47 : decode cX7_wantedSet 47 = .ok (.goto (-34), 3) := by decide +kernel
theorem dX7_wantedSet_50 : decode cX7_wantedSet 50 = .ok (.iconst 1, 1) := by decide +kernel
theorem dX7_wantedSet_51 : decode cX7_wantedSet 51 = .ok (.istore_n 3, 1) := by decide +kernel
theorem dX7_wantedSet_52 : decode cX7_wantedSet 52 = .ok (.iload_n 3, 1) := by decide +kernel
theorem dX7_wantedSet_53 : decode cX7_wantedSet 53 = .ok (.bipush 16, 2) := by decide +kernel
theorem dX7_wantedSet_55 : decode cX7_wantedSet 55 = .ok (.if_icmp .ge 56, 3) := by decide +kernel
theorem dX7_wantedSet_58 : decode cX7_wantedSet 58 = .ok (.iconst 0, 1) := by decide +kernel
theorem dX7_wantedSet_59 : decode cX7_wantedSet 59 = .ok (.istore 4, 2) := by decide +kernel
theorem dX7_wantedSet_61 : decode cX7_wantedSet 61 = .ok (.iload 4, 2) := by decide +kernel
theorem dX7_wantedSet_63 : decode cX7_wantedSet 63 = .ok (.iload_n 3, 1) := by decide +kernel
theorem dX7_wantedSet_64 : decode cX7_wantedSet 64 = .ok (.if_icmp .ge 41, 3) := by decide +kernel
theorem dX7_wantedSet_67 : decode cX7_wantedSet 67 = .ok (.iconst 1, 1) := by decide +kernel
theorem dX7_wantedSet_68 : decode cX7_wantedSet 68 = .ok (.iload_n 3, 1) := by decide +kernel
theorem dX7_wantedSet_69 : decode cX7_wantedSet 69 = .ok (.ishl, 1) := by decide +kernel
theorem dX7_wantedSet_70 : decode cX7_wantedSet 70 = .ok (.iconst 1, 1) := by decide +kernel
theorem dX7_wantedSet_71 : decode cX7_wantedSet 71 = .ok (.iload 4, 2) := by decide +kernel
theorem dX7_wantedSet_73 : decode cX7_wantedSet 73 = .ok (.ishl, 1) := by decide +kernel
theorem dX7_wantedSet_74 : decode cX7_wantedSet 74 = .ok (.ior, 1) := by decide +kernel
theorem dX7_wantedSet_75 : decode cX7_wantedSet 75 = .ok (.istore 5, 2) := by decide +kernel
theorem dX7_wantedSet_77 : decode cX7_wantedSet 77 = .ok (.iload_n 2, 1) := by decide +kernel
theorem dX7_wantedSet_78 : decode cX7_wantedSet 78 = .ok (.iload 5, 2) := by decide +kernel
theorem dX7_wantedSet_80 : decode cX7_wantedSet 80 = .ok (.iand, 1) := by decide +kernel
theorem dX7_wantedSet_81 : decode cX7_wantedSet 81 = .ok (.ifCond .ne 18, 3) := by decide +kernel
theorem dX7_wantedSet_84 : decode cX7_wantedSet 84 = .ok (.aload_n 0, 1) := by decide +kernel
theorem dX7_wantedSet_85 : decode cX7_wantedSet 85 = .ok (.iload_n 1, 1) := by decide +kernel
theorem dX7_wantedSet_86 : decode cX7_wantedSet 86 = .ok (.iload_n 2, 1) := by decide +kernel
theorem dX7_wantedSet_87 : decode cX7_wantedSet 87 = .ok (.iload 5, 2) := by decide +kernel
theorem dX7_wantedSet_89 : decode cX7_wantedSet 89 = .ok (.ior, 1) := by decide +kernel
theorem dX7_wantedSet_90 : decode cX7_wantedSet 90 = .ok (.invokevirtual 172, 3) := by decide +kernel
theorem dX7_wantedSet_93 : decode cX7_wantedSet 93 = .ok (.ifCond .eq 6, 3) := by decide +kernel
theorem dX7_wantedSet_96 : decode cX7_wantedSet 96 = .ok (.iload 5, 2) := by decide +kernel
theorem dX7_wantedSet_98 : decode cX7_wantedSet 98 = .ok (.ireturn, 1) := by decide +kernel
theorem dX7_wantedSet_99 : decode cX7_wantedSet 99 = .ok (.iinc 4 1, 3) := by decide +kernel
theorem dX7_wantedSet_102 : decode cX7_wantedSet 102 = .ok (.goto (-41), 3) := by decide +kernel
theorem dX7_wantedSet_105 : decode cX7_wantedSet 105 = .ok (.iinc 3 1, 3) := by decide +kernel
theorem dX7_wantedSet_108 : decode cX7_wantedSet 108 = .ok (.goto (-56), 3) := by decide +kernel
theorem dX7_wantedSet_111 : decode cX7_wantedSet 111 = .ok (.iconst (-1), 1) := by decide +kernel
theorem dX7_wantedSet_112 : decode cX7_wantedSet 112 = .ok (.ireturn, 1) := by decide +kernel
theorem dX7_wanted_0 : decode cX7_wanted 0 = .ok (.aload_n 0, 1) := by decide +kernel
theorem dX7_wanted_1 : decode cX7_wanted 1 = .ok (.iload_n 1, 1) := by decide +kernel
theorem dX7_wanted_2 : decode cX7_wanted 2 = .ok (.invokevirtual 100, 3) := by decide +kernel
theorem dX7_wanted_5 : decode cX7_wanted 5 = .ok (.ifCond .eq 19, 3) := by decide +kernel
theorem dX7_wanted_8 : decode cX7_wanted 8 = .ok (.iload_n 2, 1) := by decide +kernel
theorem dX7_wanted_9 : decode cX7_wanted 9 = .ok (.invokestatic 144, 3) := by decide +kernel
theorem dX7_wanted_12 : decode cX7_wanted 12 = .ok (.ifCond .eq 12, 3) := by decide +kernel
theorem dX7_wanted_15 : decode cX7_wanted 15 = .ok (.iload_n 3, 1) := by decide +kernel
theorem dX7_wanted_16 : decode cX7_wanted 16 = .ok (.iconst 0, 1) := by decide +kernel
theorem dX7_wanted_17 : decode cX7_wanted 17 = .ok (.iconst 1, 1) := by decide +kernel
theorem dX7_wanted_18 : decode cX7_wanted 18 = .ok (.invokestatic 45, 3) := by decide +kernel
theorem dX7_wanted_21 : decode cX7_wanted 21 = .ok (.ifCond .ne 6, 3) := by decide +kernel
theorem dX7_wanted_24 : decode cX7_wanted 24 = .ok (.ldc 53, 2) := by decide +kernel
theorem dX7_wanted_26 : decode cX7_wanted 26 = .ok (.ireturn, 1) := by decide +kernel
theorem dX7_wanted_27 : decode cX7_wanted 27 = .ok (.aload_n 0, 1) := by decide +kernel
theorem dX7_wanted_28 : decode cX7_wanted 28 = .ok (.iload_n 1, 1) := by decide +kernel
theorem dX7_wanted_29 : decode cX7_wanted 29 = .ok (.aload_n 0, 1) := by decide +kernel
theorem dX7_wanted_30 : decode cX7_wanted 30 = .ok (.iload_n 2, 1) := by decide +kernel
theorem dX7_wanted_31 : decode cX7_wanted 31 = .ok (.invokevirtual 90, 3) := by decide +kernel
theorem dX7_wanted_34 : decode cX7_wanted 34 = .ok (.invokevirtual 175, 3) := by decide +kernel
theorem dX7_wanted_37 : decode cX7_wanted 37 = .ok (.istore 4, 2) := by decide +kernel
theorem dX7_wanted_39 : decode cX7_wanted 39 = .ok (.iload 4, 2) := by decide +kernel
theorem dX7_wanted_41 : decode cX7_wanted 41 = .ok (.iconst (-1), 1) := by decide +kernel
theorem dX7_wanted_42 : decode cX7_wanted 42 = .ok (.if_icmp .ne 6, 3) := by decide +kernel
theorem dX7_wanted_45 : decode cX7_wanted 45 = .ok (.ldc 93, 2) := by decide +kernel
theorem dX7_wanted_47 : decode cX7_wanted 47 = .ok (.ireturn, 1) := by decide +kernel
theorem dX7_wanted_48 : decode cX7_wanted 48 = .ok (.iload_n 3, 1) := by decide +kernel
theorem dX7_wanted_49 : decode cX7_wanted 49 = .ok (.ifCond .ne 11, 3) := by decide +kernel
theorem dX7_wanted_52 : decode cX7_wanted 52 = .ok (.iload 4, 2) := by decide +kernel
theorem dX7_wanted_54 : decode cX7_wanted 54 = .ok (.invokestatic 49, 3) := by decide +kernel
theorem dX7_wanted_57 : decode cX7_wanted 57 = .ok (.goto 5, 3) := by decide +kernel
theorem dX7_wanted_60 : decode cX7_wanted 60 = .ok (.iload 4, 2) := by decide +kernel
theorem dX7_wanted_62 : decode cX7_wanted 62 = .ok (.ireturn, 1) := by decide +kernel
theorem dX7_floatBits_0 : decode cX7_floatBits 0 = .ok (.iload_n 0, 1) := by decide +kernel
theorem dX7_floatBits_1 : decode cX7_floatBits 1 = .ok (.ifCond .ne 5, 3) := by decide +kernel
theorem dX7_floatBits_4 : decode cX7_floatBits 4 = .ok (.iconst 0, 1) := by decide +kernel
theorem dX7_floatBits_5 : decode cX7_floatBits 5 = .ok (.ireturn, 1) := by decide +kernel
theorem dX7_floatBits_6 : decode cX7_floatBits 6 = .ok (.bipush 127, 2) := by decide +kernel
theorem dX7_floatBits_8 : decode cX7_floatBits 8 = .ok (.istore_n 2, 1) := by decide +kernel
theorem dX7_floatBits_9 : decode cX7_floatBits 9 = .ok (.iload_n 0, 1) := by decide +kernel
theorem dX7_floatBits_10 : decode cX7_floatBits 10 = .ok (.i2l, 1) := by decide +kernel
theorem dX7_floatBits_11 : decode cX7_floatBits 11 = .ok (.lstore_n 3, 1) := by decide +kernel
theorem dX7_floatBits_12 : decode cX7_floatBits 12 = .ok (.lload_n 3, 1) := by decide +kernel
theorem dX7_floatBits_13 : decode cX7_floatBits 13 = .ok (.iload_n 1, 1) := by decide +kernel
theorem dX7_floatBits_14 : decode cX7_floatBits 14 = .ok (.i2l, 1) := by decide +kernel
theorem dX7_floatBits_15 : decode cX7_floatBits 15 = .ok (.lcmp, 1) := by decide +kernel
theorem dX7_floatBits_16 : decode cX7_floatBits 16 = .ok (.ifCond .ge 15, 3) := by decide +kernel
theorem dX7_floatBits_19 : decode cX7_floatBits 19 = .ok (.lload_n 3, 1) := by decide +kernel
theorem dX7_floatBits_20 : decode cX7_floatBits 20 = .ok (.ldc2_w 178, 3) := by decide +kernel
theorem dX7_floatBits_23 : decode cX7_floatBits 23 = .ok (.lmul, 1) := by decide +kernel
theorem dX7_floatBits_24 : decode cX7_floatBits 24 = .ok (.lstore_n 3, 1) := by decide +kernel
theorem dX7_floatBits_25 : decode cX7_floatBits 25 = .ok (.iinc 2 (-1), 3) := by decide +kernel
theorem dX7_floatBits_28 : decode cX7_floatBits 28 = .ok (.goto (-16), 3) := by decide +kernel
theorem dX7_floatBits_31 : decode cX7_floatBits 31 = .ok (.lload_n 3, 1) := by decide +kernel
theorem dX7_floatBits_32 : decode cX7_floatBits 32 = .ok (.ldc2_w 180, 3) := by decide +kernel
theorem dX7_floatBits_35 : decode cX7_floatBits 35 = .ok (.lmul, 1) := by decide +kernel
theorem dX7_floatBits_36 : decode cX7_floatBits 36 = .ok (.lstore 5, 2) := by decide +kernel
theorem dX7_floatBits_38 : decode cX7_floatBits 38 = .ok (.lload 5, 2) := by decide +kernel
theorem dX7_floatBits_40 : decode cX7_floatBits 40 = .ok (.iload_n 1, 1) := by decide +kernel
theorem dX7_floatBits_41 : decode cX7_floatBits 41 = .ok (.i2l, 1) := by decide +kernel
theorem dX7_floatBits_42 : decode cX7_floatBits 42 = .ok (.ldiv, 1) := by decide +kernel
theorem dX7_floatBits_43 : decode cX7_floatBits 43 = .ok (.lstore 7, 2) := by decide +kernel
theorem dX7_floatBits_45 : decode cX7_floatBits 45 = .ok (.ldc2_w 178, 3) := by decide +kernel
theorem dX7_floatBits_48 : decode cX7_floatBits 48 = .ok (.lload 5, 2) := by decide +kernel
theorem dX7_floatBits_50 : decode cX7_floatBits 50 = .ok (.iload_n 1, 1) := by decide +kernel
theorem dX7_floatBits_51 : decode cX7_floatBits 51 = .ok (.i2l, 1) := by decide +kernel
theorem dX7_floatBits_52 : decode cX7_floatBits 52 = .ok (.lrem, 1) := by decide +kernel
theorem dX7_floatBits_53 : decode cX7_floatBits 53 = .ok (.lmul, 1) := by decide +kernel
theorem dX7_floatBits_54 : decode cX7_floatBits 54 = .ok (.lstore 9, 2) := by decide +kernel
theorem dX7_floatBits_56 : decode cX7_floatBits 56 = .ok (.lload 9, 2) := by decide +kernel
theorem dX7_floatBits_58 : decode cX7_floatBits 58 = .ok (.iload_n 1, 1) := by decide +kernel
theorem dX7_floatBits_59 : decode cX7_floatBits 59 = .ok (.i2l, 1) := by decide +kernel
theorem dX7_floatBits_60 : decode cX7_floatBits 60 = .ok (.lcmp, 1) := by decide +kernel
theorem dX7_floatBits_61 : decode cX7_floatBits 61 = .ok (.ifCond .gt 22, 3) := by decide +kernel
theorem dX7_floatBits_64 : decode cX7_floatBits 64 = .ok (.lload 9, 2) := by decide +kernel
theorem dX7_floatBits_66 : decode cX7_floatBits 66 = .ok (.iload_n 1, 1) := by decide +kernel
theorem dX7_floatBits_67 : decode cX7_floatBits 67 = .ok (.i2l, 1) := by decide +kernel
theorem dX7_floatBits_68 : decode cX7_floatBits 68 = .ok (.lcmp, 1) := by decide +kernel
theorem dX7_floatBits_69 : decode cX7_floatBits 69 = .ok (.ifCond .ne 20, 3) := by decide +kernel
theorem dX7_floatBits_72 : decode cX7_floatBits 72 = .ok (.lload 7, 2) := by decide +kernel
theorem dX7_floatBits_74 : decode cX7_floatBits 74 = .ok (.ldc2_w 178, 3) := by decide +kernel
theorem dX7_floatBits_77 : decode cX7_floatBits 77 = .ok (.lrem, 1) := by decide +kernel
theorem dX7_floatBits_78 : decode cX7_floatBits 78 = .ok (.lconst 1, 1) := by decide +kernel
theorem dX7_floatBits_79 : decode cX7_floatBits 79 = .ok (.lcmp, 1) := by decide +kernel
theorem dX7_floatBits_80 : decode cX7_floatBits 80 = .ok (.ifCond .ne 9, 3) := by decide +kernel
theorem dX7_floatBits_83 : decode cX7_floatBits 83 = .ok (.lload 7, 2) := by decide +kernel
theorem dX7_floatBits_85 : decode cX7_floatBits 85 = .ok (.lconst 1, 1) := by decide +kernel
theorem dX7_floatBits_86 : decode cX7_floatBits 86 = .ok (.ladd, 1) := by decide +kernel
theorem dX7_floatBits_87 : decode cX7_floatBits 87 = .ok (.lstore 7, 2) := by decide +kernel
theorem dX7_floatBits_89 : decode cX7_floatBits 89 = .ok (.iload_n 2, 1) := by decide +kernel
theorem dX7_floatBits_90 : decode cX7_floatBits 90 = .ok (.bipush 23, 2) := by decide +kernel
theorem dX7_floatBits_92 : decode cX7_floatBits 92 = .ok (.ishl, 1) := by decide +kernel
theorem dX7_floatBits_93 : decode cX7_floatBits 93 = .ok (.lload 7, 2) := by decide +kernel
theorem dX7_floatBits_95 : decode cX7_floatBits 95 = .ok (.ldc2_w 180, 3) := by decide +kernel
theorem dX7_floatBits_98 : decode cX7_floatBits 98 = .ok (.lsub, 1) := by decide +kernel
theorem dX7_floatBits_99 : decode cX7_floatBits 99 = .ok (.l2i, 1) := by decide +kernel
theorem dX7_floatBits_100 : decode cX7_floatBits 100 = .ok (.iadd, 1) := by decide +kernel
theorem dX7_floatBits_101 : decode cX7_floatBits 101 = .ok (.ireturn, 1) := by decide +kernel
theorem dX7_share_0 : decode cX7_share 0 = .ok (.iload_n 1, 1) := by decide +kernel
theorem dX7_share_1 : decode cX7_share 1 = .ok (.invokestatic 144, 3) := by decide +kernel
theorem dX7_share_4 : decode cX7_share 4 = .ok (.ifCond .ne 6, 3) := by decide +kernel
theorem dX7_share_7 : decode cX7_share 7 = .ok (.ldc 53, 2) := by decide +kernel
theorem dX7_share_9 : decode cX7_share 9 = .ok (.ireturn, 1) := by decide +kernel
theorem dX7_share_10 : decode cX7_share 10 = .ok (.iconst 0, 1) := by decide +kernel
theorem dX7_share_11 : decode cX7_share 11 = .ok (.istore_n 2, 1) := by decide +kernel
theorem dX7_share_12 : decode cX7_share 12 = .ok (.iconst 0, 1) := by decide +kernel
theorem dX7_share_13 : decode cX7_share 13 = .ok (.istore_n 3, 1) := by decide +kernel
theorem dX7_share_14 : decode cX7_share 14 = .ok (.iload_n 3, 1) := by decide +kernel
theorem dX7_share_15 : decode cX7_share 15 = .ok (.aload_n 0, 1) := by decide +kernel
theorem dX7_share_16 : decode cX7_share 16 = .ok (.getfield 7, 3) := by decide +kernel
theorem dX7_share_19 : decode cX7_share 19 = .ok (.iconst 2, 1) := by decide +kernel
theorem dX7_share_20 : decode cX7_share 20 = .ok (.iaload, 1) := by decide +kernel
theorem dX7_share_21 : decode cX7_share 21 = .ok (.if_icmp .ge 30, 3) := by decide +kernel
theorem dX7_share_24 : decode cX7_share 24 = .ok (.iload_n 2, 1) := by decide +kernel
theorem dX7_share_25 : decode cX7_share 25 = .ok (.aload_n 0, 1) := by decide +kernel
theorem dX7_share_26 : decode cX7_share 26 = .ok (.iload_n 3, 1) := by decide +kernel
theorem dX7_share_27 : decode cX7_share 27 = .ok (.aload_n 0, 1) := by decide +kernel
theorem dX7_share_28 : decode cX7_share 28 = .ok (.iload_n 1, 1) := by decide +kernel
theorem dX7_share_29 : decode cX7_share 29 = .ok (.invokevirtual 90, 3) := by decide +kernel
theorem dX7_share_32 : decode cX7_share 32 = .ok (.invokevirtual 172, 3) := by decide +kernel
theorem dX7_share_35 : decode cX7_share 35 = .ok (.ifCond .eq 7, 3) := by decide +kernel
theorem dX7_share_38 : decode cX7_share 38 = .ok (.iconst 1, 1) := by decide +kernel
theorem dX7_share_39 : decode cX7_share 39 = .ok (.goto 4, 3) := by decide +kernel
theorem dX7_share_42 : decode cX7_share 42 = .ok (.iconst 0, 1) := by decide +kernel
theorem dX7_share_43 : decode cX7_share 43 = .ok (.iadd, 1) := by decide +kernel
theorem dX7_share_44 : decode cX7_share 44 = .ok (.istore_n 2, 1) := by decide +kernel
theorem dX7_share_45 : decode cX7_share 45 = .ok (.iinc 3 1, 3) := by decide +kernel
theorem dX7_share_48 : decode cX7_share 48 = .ok (.goto (-34), 3) := by decide +kernel
theorem dX7_share_51 : decode cX7_share 51 = .ok (.aload_n 0, 1) := by decide +kernel
theorem dX7_share_52 : decode cX7_share 52 = .ok (.getfield 7, 3) := by decide +kernel
theorem dX7_share_55 : decode cX7_share 55 = .ok (.iconst 2, 1) := by decide +kernel
theorem dX7_share_56 : decode cX7_share 56 = .ok (.iaload, 1) := by decide +kernel
theorem dX7_share_57 : decode cX7_share 57 = .ok (.ifCond .ne 11, 3) := by decide +kernel
theorem dX7_share_60 : decode cX7_share 60 = .ok (.iconst 1, 1) := by decide +kernel
theorem dX7_share_61 : decode cX7_share 61 = .ok (.iconst 1, 1) := by decide +kernel
theorem dX7_share_62 : decode cX7_share 62 = .ok (.invokestatic 182, 3) := by decide +kernel
theorem dX7_share_65 : decode cX7_share 65 = .ok (.goto 13, 3) := by decide +kernel
theorem dX7_share_68 : decode cX7_share 68 = .ok (.iload_n 2, 1) := by decide +kernel
theorem dX7_share_69 : decode cX7_share 69 = .ok (.aload_n 0, 1) := by decide +kernel
theorem dX7_share_70 : decode cX7_share 70 = .ok (.getfield 7, 3) := by decide +kernel
theorem dX7_share_73 : decode cX7_share 73 = .ok (.iconst 2, 1) := by decide +kernel
theorem dX7_share_74 : decode cX7_share 74 = .ok (.iaload, 1) := by decide +kernel
theorem dX7_share_75 : decode cX7_share 75 = .ok (.invokestatic 182, 3) := by decide +kernel
theorem dX7_share_78 : decode cX7_share 78 = .ok (.ireturn, 1) := by decide +kernel
theorem dX7_plant_0 : decode cX7_plant 0 = .ok (.aload_n 0, 1) := by decide +kernel
theorem dX7_plant_1 : decode cX7_plant 1 = .ok (.iload_n 1, 1) := by decide +kernel
theorem dX7_plant_2 : decode cX7_plant 2 = .ok (.invokevirtual 147, 3) := by decide +kernel
theorem dX7_plant_5 : decode cX7_plant 5 = .ok (.ifCond .ne 6, 3) := by decide +kernel
theorem dX7_plant_8 : decode cX7_plant 8 = .ok (.ldc 53, 2) := by decide +kernel
theorem dX7_plant_10 : decode cX7_plant 10 = .ok (.ireturn, 1) := by decide +kernel
theorem dX7_plant_11 : decode cX7_plant 11 = .ok (.aload_n 0, 1) := by decide +kernel
theorem dX7_plant_12 : decode cX7_plant 12 = .ok (.invokevirtual 61, 3) := by decide +kernel
theorem dX7_plant_15 : decode cX7_plant 15 = .ok (.aload_n 0, 1) := by decide +kernel
theorem dX7_plant_16 : decode cX7_plant 16 = .ok (.getfield 7, 3) := by decide +kernel
theorem dX7_plant_19 : decode cX7_plant 19 = .ok (.bipush 6, 2) := by decide +kernel
theorem dX7_plant_21 : decode cX7_plant 21 = .ok (.iload_n 1, 1) := by decide +kernel
theorem dX7_plant_22 : decode cX7_plant 22 = .ok (.iastore, 1) := by decide +kernel
theorem dX7_plant_23 : decode cX7_plant 23 = .ok (.aload_n 0, 1) := by decide +kernel
theorem dX7_plant_24 : decode cX7_plant 24 = .ok (.getfield 7, 3) := by decide +kernel
theorem dX7_plant_27 : decode cX7_plant 27 = .ok (.bipush 7, 2) := by decide +kernel
theorem dX7_plant_29 : decode cX7_plant 29 = .ok (.iconst 1, 1) := by decide +kernel
theorem dX7_plant_30 : decode cX7_plant 30 = .ok (.aload_n 0, 1) := by decide +kernel
theorem dX7_plant_31 : decode cX7_plant 31 = .ok (.getfield 7, 3) := by decide +kernel
theorem dX7_plant_34 : decode cX7_plant 34 = .ok (.iconst 2, 1) := by decide +kernel
theorem dX7_plant_35 : decode cX7_plant 35 = .ok (.iaload, 1) := by decide +kernel
theorem dX7_plant_36 : decode cX7_plant 36 = .ok (.ishl, 1) := by decide +kernel
theorem dX7_plant_37 : decode cX7_plant 37 = .ok (.iconst 1, 1) := by decide +kernel
theorem dX7_plant_38 : decode cX7_plant 38 = .ok (.isub, 1) := by decide +kernel
theorem dX7_plant_39 : decode cX7_plant 39 = .ok (.sipush 1024, 3) := by decide +kernel
theorem dX7_plant_42 : decode cX7_plant 42 = .ok (.ior, 1) := by decide +kernel
theorem dX7_plant_43 : decode cX7_plant 43 = .ok (.iastore, 1) := by decide +kernel
theorem dX7_plant_44 : decode cX7_plant 44 = .ok (.aload_n 0, 1) := by decide +kernel
theorem dX7_plant_45 : decode cX7_plant 45 = .ok (.getfield 7, 3) := by decide +kernel
theorem dX7_plant_48 : decode cX7_plant 48 = .ok (.bipush 7, 2) := by decide +kernel
theorem dX7_plant_50 : decode cX7_plant 50 = .ok (.iaload, 1) := by decide +kernel
theorem dX7_plant_51 : decode cX7_plant 51 = .ok (.invokestatic 49, 3) := by decide +kernel
theorem dX7_plant_54 : decode cX7_plant 54 = .ok (.ireturn, 1) := by decide +kernel
theorem dX7_test_0 : decode cX7_test 0 = .ok (.aload_n 0, 1) := by decide +kernel
theorem dX7_test_1 : decode cX7_test 1 = .ok (.invokevirtual 61, 3) := by decide +kernel
theorem dX7_test_4 : decode cX7_test 4 = .ok (.aload_n 0, 1) := by decide +kernel
theorem dX7_test_5 : decode cX7_test 5 = .ok (.aload_n 0, 1) := by decide +kernel
theorem dX7_test_6 : decode cX7_test 6 = .ok (.invokevirtual 97, 3) := by decide +kernel
theorem dX7_test_9 : decode cX7_test 9 = .ok (.invokevirtual 156, 3) := by decide +kernel
theorem dX7_test_12 : decode cX7_test 12 = .ok (.aload_n 0, 1) := by decide +kernel
theorem dX7_test_13 : decode cX7_test 13 = .ok (.getfield 7, 3) := by decide +kernel
theorem dX7_test_16 : decode cX7_test 16 = .ok (.bipush 7, 2) := by decide +kernel
theorem dX7_test_18 : decode cX7_test 18 = .ok (.dup2, 1) := by decide +kernel
theorem dX7_test_19 : decode cX7_test 19 = .ok (.iaload, 1) := by decide +kernel
theorem dX7_test_20 : decode cX7_test 20 = .ok (.aload_n 0, 1) := by decide +kernel
theorem dX7_test_21 : decode cX7_test 21 = .ok (.aload_n 0, 1) := by decide +kernel
theorem dX7_test_22 : decode cX7_test 22 = .ok (.getfield 7, 3) := by decide +kernel
theorem dX7_test_25 : decode cX7_test 25 = .ok (.bipush 6, 2) := by decide +kernel
theorem dX7_test_27 : decode cX7_test 27 = .ok (.iaload, 1) := by decide +kernel
theorem dX7_test_28 : decode cX7_test 28 = .ok (.invokestatic 150, 3) := by decide +kernel
theorem dX7_test_31 : decode cX7_test 31 = .ok (.invokevirtual 160, 3) := by decide +kernel
theorem dX7_test_34 : decode cX7_test 34 = .ok (.iand, 1) := by decide +kernel
theorem dX7_test_35 : decode cX7_test 35 = .ok (.iastore, 1) := by decide +kernel
theorem dX7_test_36 : decode cX7_test 36 = .ok (.aload_n 0, 1) := by decide +kernel
theorem dX7_test_37 : decode cX7_test 37 = .ok (.getfield 7, 3) := by decide +kernel
theorem dX7_test_40 : decode cX7_test 40 = .ok (.bipush 8, 2) := by decide +kernel
theorem dX7_test_42 : decode cX7_test 42 = .ok (.dup2, 1) := by decide +kernel
theorem dX7_test_43 : decode cX7_test 43 = .ok (.iaload, 1) := by decide +kernel
theorem dX7_test_44 : decode cX7_test 44 = .ok (.iconst 1, 1) := by decide +kernel
theorem dX7_test_45 : decode cX7_test 45 = .ok (.iadd, 1) := by decide +kernel
theorem dX7_test_46 : decode cX7_test 46 = .ok (.iastore, 1) := by decide +kernel
theorem dX7_test_47 : decode cX7_test 47 = .ok (.aload_n 0, 1) := by decide +kernel
theorem dX7_test_48 : decode cX7_test 48 = .ok (.getfield 7, 3) := by decide +kernel
theorem dX7_test_51 : decode cX7_test 51 = .ok (.bipush 7, 2) := by decide +kernel
theorem dX7_test_53 : decode cX7_test 53 = .ok (.iaload, 1) := by decide +kernel
theorem dX7_test_54 : decode cX7_test 54 = .ok (.invokestatic 49, 3) := by decide +kernel
theorem dX7_test_57 : decode cX7_test 57 = .ok (.ireturn, 1) := by decide +kernel
theorem dX7_vouch_0 : decode cX7_vouch 0 = .ok (.iload_n 1, 1) := by decide +kernel
theorem dX7_vouch_1 : decode cX7_vouch 1 = .ok (.iconst 0, 1) := by decide +kernel
theorem dX7_vouch_2 : decode cX7_vouch 2 = .ok (.bipush 15, 2) := by decide +kernel
theorem dX7_vouch_4 : decode cX7_vouch 4 = .ok (.invokestatic 45, 3) := by decide +kernel
theorem dX7_vouch_7 : decode cX7_vouch 7 = .ok (.ifCond .ne 6, 3) := by decide +kernel
theorem dX7_vouch_10 : decode cX7_vouch 10 = .ok (.ldc 53, 2) := by decide +kernel
theorem dX7_vouch_12 : decode cX7_vouch 12 = .ok (.ireturn, 1) := by decide +kernel
theorem dX7_vouch_13 : decode cX7_vouch 13 = .ok (.aload_n 0, 1) := by decide +kernel
theorem dX7_vouch_14 : decode cX7_vouch 14 = .ok (.invokevirtual 97, 3) := by decide +kernel
theorem dX7_vouch_17 : decode cX7_vouch 17 = .ok (.iload_n 1, 1) := by decide +kernel
theorem dX7_vouch_18 : decode cX7_vouch 18 = .ok (.invokestatic 36, 3) := by decide +kernel
theorem dX7_vouch_21 : decode cX7_vouch 21 = .ok (.ifCond .eq 6, 3) := by decide +kernel
theorem dX7_vouch_24 : decode cX7_vouch 24 = .ok (.ldc 35, 2) := by decide +kernel
theorem dX7_vouch_26 : decode cX7_vouch 26 = .ok (.ireturn, 1) := by decide +kernel
theorem dX7_vouch_27 : decode cX7_vouch 27 = .ok (.aload_n 0, 1) := by decide +kernel
theorem dX7_vouch_28 : decode cX7_vouch 28 = .ok (.getfield 7, 3) := by decide +kernel
theorem dX7_vouch_31 : decode cX7_vouch 31 = .ok (.iconst 4, 1) := by decide +kernel
theorem dX7_vouch_32 : decode cX7_vouch 32 = .ok (.iaload, 1) := by decide +kernel
theorem dX7_vouch_33 : decode cX7_vouch 33 = .ok (.ifCond .ne 6, 3) := by decide +kernel
theorem dX7_vouch_36 : decode cX7_vouch 36 = .ok (.ldc 57, 2) := by decide +kernel
theorem dX7_vouch_38 : decode cX7_vouch 38 = .ok (.ireturn, 1) := by decide +kernel
theorem dX7_vouch_39 : decode cX7_vouch 39 = .ok (.aload_n 0, 1) := by decide +kernel
theorem dX7_vouch_40 : decode cX7_vouch 40 = .ok (.invokevirtual 61, 3) := by decide +kernel
theorem dX7_vouch_43 : decode cX7_vouch 43 = .ok (.aload_n 0, 1) := by decide +kernel
theorem dX7_vouch_44 : decode cX7_vouch 44 = .ok (.getfield 7, 3) := by decide +kernel
theorem dX7_vouch_47 : decode cX7_vouch 47 = .ok (.iconst 5, 1) := by decide +kernel
theorem dX7_vouch_48 : decode cX7_vouch 48 = .ok (.dup2, 1) := by decide +kernel
theorem dX7_vouch_49 : decode cX7_vouch 49 = .ok (.iaload, 1) := by decide +kernel
theorem dX7_vouch_50 : decode cX7_vouch 50 = .ok (.iconst 1, 1) := by decide +kernel
theorem dX7_vouch_51 : decode cX7_vouch 51 = .ok (.iload_n 1, 1) := by decide +kernel
theorem dX7_vouch_52 : decode cX7_vouch 52 = .ok (.ishl, 1) := by decide +kernel
theorem dX7_vouch_53 : decode cX7_vouch 53 = .ok (.ior, 1) := by decide +kernel
theorem dX7_vouch_54 : decode cX7_vouch 54 = .ok (.iastore, 1) := by decide +kernel
theorem dX7_vouch_55 : decode cX7_vouch 55 = .ok (.aload_n 0, 1) := by decide +kernel
theorem dX7_vouch_56 : decode cX7_vouch 56 = .ok (.getfield 7, 3) := by decide +kernel
theorem dX7_vouch_59 : decode cX7_vouch 59 = .ok (.iconst 4, 1) := by decide +kernel
theorem dX7_vouch_60 : decode cX7_vouch 60 = .ok (.dup2, 1) := by decide +kernel
theorem dX7_vouch_61 : decode cX7_vouch 61 = .ok (.iaload, 1) := by decide +kernel
theorem dX7_vouch_62 : decode cX7_vouch 62 = .ok (.iconst 1, 1) := by decide +kernel
theorem dX7_vouch_63 : decode cX7_vouch 63 = .ok (.isub, 1) := by decide +kernel
theorem dX7_vouch_64 : decode cX7_vouch 64 = .ok (.iastore, 1) := by decide +kernel
theorem dX7_vouch_65 : decode cX7_vouch 65 = .ok (.aload_n 0, 1) := by decide +kernel
theorem dX7_vouch_66 : decode cX7_vouch 66 = .ok (.getfield 7, 3) := by decide +kernel
theorem dX7_vouch_69 : decode cX7_vouch 69 = .ok (.iconst 4, 1) := by decide +kernel
theorem dX7_vouch_70 : decode cX7_vouch 70 = .ok (.iaload, 1) := by decide +kernel
theorem dX7_vouch_71 : decode cX7_vouch 71 = .ok (.ireturn, 1) := by decide +kernel
theorem dX7_vouchers_0 : decode cX7_vouchers 0 = .ok (.iload_n 1, 1) := by decide +kernel
theorem dX7_vouchers_1 : decode cX7_vouchers 1 = .ok (.iconst 0, 1) := by decide +kernel
theorem dX7_vouchers_2 : decode cX7_vouchers 2 = .ok (.bipush 20, 2) := by decide +kernel
theorem dX7_vouchers_4 : decode cX7_vouchers 4 = .ok (.invokestatic 45, 3) := by decide +kernel
theorem dX7_vouchers_7 : decode cX7_vouchers 7 = .ok (.ifCond .ne 6, 3) := by decide +kernel
theorem dX7_vouchers_10 : decode cX7_vouchers 10 = .ok (.ldc 53, 2) := by decide +kernel
theorem dX7_vouchers_12 : decode cX7_vouchers 12 = .ok (.ireturn, 1) := by decide +kernel
theorem dX7_vouchers_13 : decode cX7_vouchers 13 = .ok (.aload_n 0, 1) := by decide +kernel
theorem dX7_vouchers_14 : decode cX7_vouchers 14 = .ok (.invokevirtual 61, 3) := by decide +kernel
theorem dX7_vouchers_17 : decode cX7_vouchers 17 = .ok (.aload_n 0, 1) := by decide +kernel
theorem dX7_vouchers_18 : decode cX7_vouchers 18 = .ok (.getfield 7, 3) := by decide +kernel
theorem dX7_vouchers_21 : decode cX7_vouchers 21 = .ok (.iconst 4, 1) := by decide +kernel
theorem dX7_vouchers_22 : decode cX7_vouchers 22 = .ok (.iaload, 1) := by decide +kernel
theorem dX7_vouchers_23 : decode cX7_vouchers 23 = .ok (.istore_n 2, 1) := by decide +kernel
theorem dX7_vouchers_24 : decode cX7_vouchers 24 = .ok (.aload_n 0, 1) := by decide +kernel
theorem dX7_vouchers_25 : decode cX7_vouchers 25 = .ok (.getfield 7, 3) := by decide +kernel
theorem dX7_vouchers_28 : decode cX7_vouchers 28 = .ok (.iconst 4, 1) := by decide +kernel
theorem dX7_vouchers_29 : decode cX7_vouchers 29 = .ok (.iload_n 1, 1) := by decide +kernel
theorem dX7_vouchers_30 : decode cX7_vouchers 30 = .ok (.iastore, 1) := by decide +kernel
theorem dX7_vouchers_31 : decode cX7_vouchers 31 = .ok (.iload_n 2, 1) := by decide +kernel
theorem dX7_vouchers_32 : decode cX7_vouchers 32 = .ok (.ireturn, 1) := by decide +kernel
theorem dX7_pass_0 : decode cX7_pass 0 = .ok (.iload_n 1, 1) := by decide +kernel
theorem dX7_pass_1 : decode cX7_pass 1 = .ok (.iconst 1, 1) := by decide +kernel
theorem dX7_pass_2 : decode cX7_pass 2 = .ok (.bipush 60, 2) := by decide +kernel
theorem dX7_pass_4 : decode cX7_pass 4 = .ok (.invokestatic 45, 3) := by decide +kernel
theorem dX7_pass_7 : decode cX7_pass 7 = .ok (.ifCond .ne 6, 3) := by decide +kernel
theorem dX7_pass_10 : decode cX7_pass 10 = .ok (.ldc 53, 2) := by decide +kernel
theorem dX7_pass_12 : decode cX7_pass 12 = .ok (.ireturn, 1) := by decide +kernel
theorem dX7_pass_13 : decode cX7_pass 13 = .ok (.aload_n 0, 1) := by decide +kernel
theorem dX7_pass_14 : decode cX7_pass 14 = .ok (.getfield 7, 3) := by decide +kernel
theorem dX7_pass_17 : decode cX7_pass 17 = .ok (.iconst 3, 1) := by decide +kernel
theorem dX7_pass_18 : decode cX7_pass 18 = .ok (.iaload, 1) := by decide +kernel
theorem dX7_pass_19 : decode cX7_pass 19 = .ok (.iload_n 1, 1) := by decide +kernel
theorem dX7_pass_20 : decode cX7_pass 20 = .ok (.iadd, 1) := by decide +kernel
theorem dX7_pass_21 : decode cX7_pass 21 = .ok (.sipush 10000, 3) := by decide +kernel
theorem dX7_pass_24 : decode cX7_pass 24 = .ok (.if_icmp .le 6, 3) := by decide +kernel
theorem dX7_pass_27 : decode cX7_pass 27 = .ok (.ldc 57, 2) := by decide +kernel
theorem dX7_pass_29 : decode cX7_pass 29 = .ok (.ireturn, 1) := by decide +kernel
theorem dX7_pass_30 : decode cX7_pass 30 = .ok (.aload_n 0, 1) := by decide +kernel
theorem dX7_pass_31 : decode cX7_pass 31 = .ok (.invokevirtual 61, 3) := by decide +kernel
theorem dX7_pass_34 : decode cX7_pass 34 = .ok (.aload_n 0, 1) := by decide +kernel
theorem dX7_pass_35 : decode cX7_pass 35 = .ok (.getfield 7, 3) := by decide +kernel
theorem dX7_pass_38 : decode cX7_pass 38 = .ok (.iconst 3, 1) := by decide +kernel
theorem dX7_pass_39 : decode cX7_pass 39 = .ok (.dup2, 1) := by decide +kernel
theorem dX7_pass_40 : decode cX7_pass 40 = .ok (.iaload, 1) := by decide +kernel
theorem dX7_pass_41 : decode cX7_pass 41 = .ok (.iload_n 1, 1) := by decide +kernel
theorem dX7_pass_42 : decode cX7_pass 42 = .ok (.iadd, 1) := by decide +kernel
theorem dX7_pass_43 : decode cX7_pass 43 = .ok (.iastore, 1) := by decide +kernel
theorem dX7_pass_44 : decode cX7_pass 44 = .ok (.aload_n 0, 1) := by decide +kernel
theorem dX7_pass_45 : decode cX7_pass 45 = .ok (.getfield 7, 3) := by decide +kernel
theorem dX7_pass_48 : decode cX7_pass 48 = .ok (.iconst 5, 1) := by decide +kernel
theorem dX7_pass_49 : decode cX7_pass 49 = .ok (.iconst 0, 1) := by decide +kernel
theorem dX7_pass_50 : decode cX7_pass 50 = .ok (.iastore, 1) := by decide +kernel
theorem dX7_pass_51 : decode cX7_pass 51 = .ok (.aload_n 0, 1) := by decide +kernel
theorem dX7_pass_52 : decode cX7_pass 52 = .ok (.invokevirtual 86, 3) := by decide +kernel
theorem dX7_pass_55 : decode cX7_pass 55 = .ok (.ireturn, 1) := by decide +kernel
theorem dX7_suspects_0 : decode cX7_suspects 0 = .ok (.aload_n 0, 1) := by decide +kernel
theorem dX7_suspects_1 : decode cX7_suspects 1 = .ok (.getfield 7, 3) := by decide +kernel
theorem dX7_suspects_4 : decode cX7_suspects 4 = .ok (.bipush 7, 2) := by decide +kernel
theorem dX7_suspects_6 : decode cX7_suspects 6 = .ok (.iaload, 1) := by decide +kernel
theorem dX7_suspects_7 : decode cX7_suspects 7 = .ok (.ireturn, 1) := by decide +kernel
theorem dX7_worstOn_0 : decode cX7_worstOn 0 = .ok (.aload_n 0, 1) := by decide +kernel
theorem dX7_worstOn_1 : decode cX7_worstOn 1 = .ok (.aload_n 0, 1) := by decide +kernel
theorem dX7_worstOn_2 : decode cX7_worstOn 2 = .ok (.iload_n 1, 1) := by decide +kernel
theorem dX7_worstOn_3 : decode cX7_worstOn 3 = .ok (.invokevirtual 90, 3) := by decide +kernel
theorem dX7_worstOn_6 : decode cX7_worstOn 6 = .ok (.invokevirtual 156, 3) := by decide +kernel
theorem dX7_worstOn_9 : decode cX7_worstOn 9 = .ok (.iconst 0, 1) := by decide +kernel
theorem dX7_worstOn_10 : decode cX7_worstOn 10 = .ok (.istore_n 2, 1) := by decide +kernel
theorem dX7_worstOn_11 : decode cX7_worstOn 11 = .ok (.iconst 0, 1) := by decide +kernel
theorem dX7_worstOn_12 : decode cX7_worstOn 12 = .ok (.istore_n 3, 1) := by decide +kernel
theorem dX7_worstOn_13 : decode cX7_worstOn 13 = .ok (.iload_n 3, 1) := by decide +kernel
theorem dX7_worstOn_14 : decode cX7_worstOn 14 = .ok (.bipush 10, 2) := by decide +kernel
theorem dX7_worstOn_16 : decode cX7_worstOn 16 = .ok (.if_icmp .gt 54, 3) := by decide +kernel
theorem dX7_worstOn_19 : decode cX7_worstOn 19 = .ok (.aload_n 0, 1) := by decide +kernel
theorem dX7_worstOn_20 : decode cX7_worstOn 20 = .ok (.getfield 7, 3) := by decide +kernel
theorem dX7_worstOn_23 : decode cX7_worstOn 23 = .ok (.bipush 7, 2) := by decide +kernel
theorem dX7_worstOn_25 : decode cX7_worstOn 25 = .ok (.iaload, 1) := by decide +kernel
theorem dX7_worstOn_26 : decode cX7_worstOn 26 = .ok (.iload_n 3, 1) := by decide +kernel
theorem dX7_worstOn_27 : decode cX7_worstOn 27 = .ok (.invokestatic 36, 3) := by decide +kernel
theorem dX7_worstOn_30 : decode cX7_worstOn 30 = .ok (.ifCond .eq 34, 3) := by decide +kernel
theorem dX7_worstOn_33 : decode cX7_worstOn 33 = .ok (.aload_n 0, 1) := by decide +kernel
theorem dX7_worstOn_34 : decode cX7_worstOn 34 = .ok (.iload_n 3, 1) := by decide +kernel
theorem dX7_worstOn_35 : decode cX7_worstOn 35 = .ok (.invokevirtual 160, 3) := by decide +kernel
theorem dX7_worstOn_38 : decode cX7_worstOn 38 = .ok (.aload_n 0, 1) := by decide +kernel
theorem dX7_worstOn_39 : decode cX7_worstOn 39 = .ok (.getfield 7, 3) := by decide +kernel
theorem dX7_worstOn_42 : decode cX7_worstOn 42 = .ok (.bipush 7, 2) := by decide +kernel
theorem dX7_worstOn_44 : decode cX7_worstOn 44 = .ok (.iaload, 1) := by decide +kernel
theorem dX7_worstOn_45 : decode cX7_worstOn 45 = .ok (.iand, 1) := by decide +kernel
theorem dX7_worstOn_46 : decode cX7_worstOn 46 = .ok (.invokestatic 49, 3) := by decide +kernel
theorem dX7_worstOn_49 : decode cX7_worstOn 49 = .ok (.istore 4, 2) := by decide +kernel
theorem dX7_worstOn_51 : decode cX7_worstOn 51 = .ok (.iload 4, 2) := by decide +kernel
theorem dX7_worstOn_53 : decode cX7_worstOn 53 = .ok (.iload_n 2, 1) := by decide +kernel
theorem dX7_worstOn_54 : decode cX7_worstOn 54 = .ok (.if_icmp .le 8, 3) := by decide +kernel
theorem dX7_worstOn_57 : decode cX7_worstOn 57 = .ok (.iload 4, 2) := by decide +kernel
theorem dX7_worstOn_59 : decode cX7_worstOn 59 = .ok (.goto 4, 3) := by decide +kernel
theorem dX7_worstOn_62 : decode cX7_worstOn 62 = .ok (.iload_n 2, 1) := by decide +kernel
theorem dX7_worstOn_63 : decode cX7_worstOn 63 = .ok (.istore_n 2, 1) := by decide +kernel
theorem dX7_worstOn_64 : decode cX7_worstOn 64 = .ok (.iinc 3 1, 3) := by decide +kernel
theorem dX7_worstOn_67 : decode cX7_worstOn 67 = .ok (.goto (-54), 3) := by decide +kernel
theorem dX7_worstOn_70 : decode cX7_worstOn 70 = .ok (.iload_n 2, 1) := by decide +kernel
theorem dX7_worstOn_71 : decode cX7_worstOn 71 = .ok (.ireturn, 1) := by decide +kernel
theorem dX7_bestDay_0 : decode cX7_bestDay 0 = .ok (.iload_n 1, 1) := by decide +kernel
theorem dX7_bestDay_1 : decode cX7_bestDay 1 = .ok (.iconst 0, 1) := by decide +kernel
theorem dX7_bestDay_2 : decode cX7_bestDay 2 = .ok (.iconst 1, 1) := by decide +kernel
theorem dX7_bestDay_3 : decode cX7_bestDay 3 = .ok (.invokestatic 45, 3) := by decide +kernel
theorem dX7_bestDay_6 : decode cX7_bestDay 6 = .ok (.ifCond .ne 6, 3) := by decide +kernel
theorem dX7_bestDay_9 : decode cX7_bestDay 9 = .ok (.ldc 53, 2) := by decide +kernel
theorem dX7_bestDay_11 : decode cX7_bestDay 11 = .ok (.ireturn, 1) := by decide +kernel
theorem dX7_bestDay_12 : decode cX7_bestDay 12 = .ok (.aload_n 0, 1) := by decide +kernel
theorem dX7_bestDay_13 : decode cX7_bestDay 13 = .ok (.invokevirtual 86, 3) := by decide +kernel
theorem dX7_bestDay_16 : decode cX7_bestDay 16 = .ok (.istore_n 2, 1) := by decide +kernel
theorem dX7_bestDay_17 : decode cX7_bestDay 17 = .ok (.aload_n 0, 1) := by decide +kernel
theorem dX7_bestDay_18 : decode cX7_bestDay 18 = .ok (.iload_n 2, 1) := by decide +kernel
theorem dX7_bestDay_19 : decode cX7_bestDay 19 = .ok (.invokevirtual 185, 3) := by decide +kernel
