theorem dX0_init_0 : decode cX0_init 0 = .ok (.aload_n 0, 1) := by decide +kernel
theorem dX0_init_1 : decode cX0_init 1 = .ok (.invokespecial 3, 3) := by decide +kernel
theorem dX0_init_4 : decode cX0_init 4 = .ok (.aload_n 0, 1) := by decide +kernel
theorem dX0_init_5 : decode cX0_init 5 = .ok (.bipush 8, 2) := by decide +kernel
theorem dX0_init_7 : decode cX0_init 7 = .ok (.newarray .int, 2) := by decide +kernel
theorem dX0_init_9 : decode cX0_init 9 = .ok (.putfield 9, 3) := by decide +kernel
theorem dX0_init_12 : decode cX0_init 12 = .ok (.aload_n 0, 1) := by decide +kernel
theorem dX0_init_13 : decode cX0_init 13 = .ok (.bipush 16, 2) := by decide +kernel
theorem dX0_init_15 : decode cX0_init 15 = .ok (.newarray .int, 2) := by decide +kernel
theorem dX0_init_17 : decode cX0_init 17 = .ok (.putfield 15, 3) := by decide +kernel
theorem dX0_init_20 : decode cX0_init 20 = .ok (.aload_n 0, 1) := by decide +kernel
theorem dX0_init_21 : decode cX0_init 21 = .ok (.iconst 5, 1) := by decide +kernel
theorem dX0_init_22 : decode cX0_init 22 = .ok (.newarray .int, 2) := by decide +kernel
theorem dX0_init_24 : decode cX0_init 24 = .ok (.putfield 18, 3) := by decide +kernel
theorem dX0_init_27 : decode cX0_init 27 = .ok (.aload_n 0, 1) := by decide +kernel
theorem dX0_init_28 : decode cX0_init 28 = .ok (.iconst 5, 1) := by decide +kernel
theorem dX0_init_29 : decode cX0_init 29 = .ok (.newarray .int, 2) := by decide +kernel
theorem dX0_init_31 : decode cX0_init 31 = .ok (.putfield 21, 3) := by decide +kernel
theorem dX0_init_34 : decode cX0_init 34 = .ok (.aload_n 0, 1) := by decide +kernel
theorem dX0_init_35 : decode cX0_init 35 = .ok (.iconst 5, 1) := by decide +kernel
theorem dX0_init_36 : decode cX0_init 36 = .ok (.newarray .int, 2) := by decide +kernel
theorem dX0_init_38 : decode cX0_init 38 = .ok (.putfield 24, 3) := by decide +kernel
theorem dX0_init_41 : decode cX0_init 41 = .ok (.aload_n 0, 1) := by decide +kernel
theorem dX0_init_42 : decode cX0_init 42 = .ok (.bipush 10, 2) := by decide +kernel
theorem dX0_init_44 : decode cX0_init 44 = .ok (.newarray .int, 2) := by decide +kernel
theorem dX0_init_46 : decode cX0_init 46 = .ok (.putfield 27, 3) := by decide +kernel
theorem dX0_init_49 : decode cX0_init 49 = .ok (.aload_n 0, 1) := by decide +kernel
theorem dX0_init_50 : decode cX0_init 50 = .ok (.bipush 10, 2) := by decide +kernel
theorem dX0_init_52 : decode cX0_init 52 = .ok (.newarray .int, 2) := by decide +kernel
theorem dX0_init_54 : decode cX0_init 54 = .ok (.putfield 30, 3) := by decide +kernel
theorem dX0_init_57 : decode cX0_init 57 = .ok (.aload_n 0, 1) := by decide +kernel
theorem dX0_init_58 : decode cX0_init 58 = .ok (.bipush 10, 2) := by decide +kernel
theorem dX0_init_60 : decode cX0_init 60 = .ok (.newarray .int, 2) := by decide +kernel
theorem dX0_init_62 : decode cX0_init 62 = .ok (.putfield 33, 3) := by decide +kernel
theorem dX0_init_65 : decode cX0_init 65 = .ok (.aload_n 0, 1) := by decide +kernel
theorem dX0_init_66 : decode cX0_init 66 = .ok (.bipush 16, 2) := by decide +kernel
theorem dX0_init_68 : decode cX0_init 68 = .ok (.newarray .int, 2) := by decide +kernel
theorem dX0_init_70 : decode cX0_init 70 = .ok (.putfield 36, 3) := by decide +kernel
theorem dX0_init_73 : decode cX0_init 73 = .ok (.aload_n 0, 1) := by decide +kernel
theorem dX0_init_74 : decode cX0_init 74 = .ok (.getfield 15, 3) := by decide +kernel
theorem dX0_init_77 : decode cX0_init 77 = .ok (.iconst (-1), 1) := by decide +kernel
theorem dX0_init_78 : decode cX0_init 78 = .ok (.invokestatic 39, 3) := by decide +kernel
theorem dX0_init_81 : decode cX0_init 81 = .ok (.return_, 1) := by decide +kernel
theorem dX0_copyFrom_0 : decode cX0_copyFrom 0 = .ok (.aload_n 1, 1) := by decide +kernel
theorem dX0_copyFrom_1 : decode cX0_copyFrom 1 = .ok (.getfield 9, 3) := by decide +kernel
theorem dX0_copyFrom_4 : decode cX0_copyFrom 4 = .ok (.iconst 0, 1) := by decide +kernel
theorem dX0_copyFrom_5 : decode cX0_copyFrom 5 = .ok (.aload_n 0, 1) := by decide +kernel
theorem dX0_copyFrom_6 : decode cX0_copyFrom 6 = .ok (.getfield 9, 3) := by decide +kernel
theorem dX0_copyFrom_9 : decode cX0_copyFrom 9 = .ok (.iconst 0, 1) := by decide +kernel
theorem dX0_copyFrom_10 : decode cX0_copyFrom 10 = .ok (.bipush 8, 2) := by decide +kernel
theorem dX0_copyFrom_12 : decode cX0_copyFrom 12 = .ok (.invokestatic 45, 3) := by decide +kernel
theorem dX0_copyFrom_15 : decode cX0_copyFrom 15 = .ok (.aload_n 1, 1) := by decide +kernel
theorem dX0_copyFrom_16 : decode cX0_copyFrom 16 = .ok (.getfield 15, 3) := by decide +kernel
theorem dX0_copyFrom_19 : decode cX0_copyFrom 19 = .ok (.iconst 0, 1) := by decide +kernel
theorem dX0_copyFrom_20 : decode cX0_copyFrom 20 = .ok (.aload_n 0, 1) := by decide +kernel
theorem dX0_copyFrom_21 : decode cX0_copyFrom 21 = .ok (.getfield 15, 3) := by decide +kernel
theorem dX0_copyFrom_24 : decode cX0_copyFrom 24 = .ok (.iconst 0, 1) := by decide +kernel
theorem dX0_copyFrom_25 : decode cX0_copyFrom 25 = .ok (.bipush 16, 2) := by decide +kernel
theorem dX0_copyFrom_27 : decode cX0_copyFrom 27 = .ok (.invokestatic 45, 3) := by decide +kernel
theorem dX0_copyFrom_30 : decode cX0_copyFrom 30 = .ok (.aload_n 1, 1) := by decide +kernel
theorem dX0_copyFrom_31 : decode cX0_copyFrom 31 = .ok (.getfield 18, 3) := by decide +kernel
theorem dX0_copyFrom_34 : decode cX0_copyFrom 34 = .ok (.iconst 0, 1) := by decide +kernel
theorem dX0_copyFrom_35 : decode cX0_copyFrom 35 = .ok (.aload_n 0, 1) := by decide +kernel
theorem dX0_copyFrom_36 : decode cX0_copyFrom 36 = .ok (.getfield 18, 3) := by decide +kernel
theorem dX0_copyFrom_39 : decode cX0_copyFrom 39 = .ok (.iconst 0, 1) := by decide +kernel
theorem dX0_copyFrom_40 : decode cX0_copyFrom 40 = .ok (.iconst 5, 1) := by decide +kernel
theorem dX0_copyFrom_41 : decode cX0_copyFrom 41 = .ok (.invokestatic 45, 3) := by decide +kernel
theorem dX0_copyFrom_44 : decode cX0_copyFrom 44 = .ok (.aload_n 1, 1) := by decide +kernel
theorem dX0_copyFrom_45 : decode cX0_copyFrom 45 = .ok (.getfield 21, 3) := by decide +kernel
theorem dX0_copyFrom_48 : decode cX0_copyFrom 48 = .ok (.iconst 0, 1) := by decide +kernel
theorem dX0_copyFrom_49 : decode cX0_copyFrom 49 = .ok (.aload_n 0, 1) := by decide +kernel
theorem dX0_copyFrom_50 : decode cX0_copyFrom 50 = .ok (.getfield 21, 3) := by decide +kernel
theorem dX0_copyFrom_53 : decode cX0_copyFrom 53 = .ok (.iconst 0, 1) := by decide +kernel
theorem dX0_copyFrom_54 : decode cX0_copyFrom 54 = .ok (.iconst 5, 1) := by decide +kernel
theorem dX0_copyFrom_55 : decode cX0_copyFrom 55 = .ok (.invokestatic 45, 3) := by decide +kernel
theorem dX0_copyFrom_58 : decode cX0_copyFrom 58 = .ok (.aload_n 1, 1) := by decide +kernel
theorem dX0_copyFrom_59 : decode cX0_copyFrom 59 = .ok (.getfield 24, 3) := by decide +kernel
theorem dX0_copyFrom_62 : decode cX0_copyFrom 62 = .ok (.iconst 0, 1) := by decide +kernel
theorem dX0_copyFrom_63 : decode cX0_copyFrom 63 = .ok (.aload_n 0, 1) := by decide +kernel
theorem dX0_copyFrom_64 : decode cX0_copyFrom 64 = .ok (.getfield 24, 3) := by decide +kernel
theorem dX0_copyFrom_67 : decode cX0_copyFrom 67 = .ok (.iconst 0, 1) := by decide +kernel
theorem dX0_copyFrom_68 : decode cX0_copyFrom 68 = .ok (.iconst 5, 1) := by decide +kernel
theorem dX0_copyFrom_69 : decode cX0_copyFrom 69 = .ok (.invokestatic 45, 3) := by decide +kernel
theorem dX0_copyFrom_72 : decode cX0_copyFrom 72 = .ok (.aload_n 1, 1) := by decide +kernel
theorem dX0_copyFrom_73 : decode cX0_copyFrom 73 = .ok (.getfield 27, 3) := by decide +kernel
theorem dX0_copyFrom_76 : decode cX0_copyFrom 76 = .ok (.iconst 0, 1) := by decide +kernel
theorem dX0_copyFrom_77 : decode cX0_copyFrom 77 = .ok (.aload_n 0, 1) := by decide +kernel
theorem dX0_copyFrom_78 : decode cX0_copyFrom 78 = .ok (.getfield 27, 3) := by decide +kernel
theorem dX0_copyFrom_81 : decode cX0_copyFrom 81 = .ok (.iconst 0, 1) := by decide +kernel
theorem dX0_copyFrom_82 : decode cX0_copyFrom 82 = .ok (.bipush 10, 2) := by decide +kernel
theorem dX0_copyFrom_84 : decode cX0_copyFrom 84 = .ok (.invokestatic 45, 3) := by decide +kernel
theorem dX0_copyFrom_87 : decode cX0_copyFrom 87 = .ok (.aload_n 1, 1) := by decide +kernel
theorem dX0_copyFrom_88 : decode cX0_copyFrom 88 = .ok (.getfield 30, 3) := by decide +kernel
theorem dX0_copyFrom_91 : decode cX0_copyFrom 91 = .ok (.iconst 0, 1) := by decide +kernel
theorem dX0_copyFrom_92 : decode cX0_copyFrom 92 = .ok (.aload_n 0, 1) := by decide +kernel
theorem dX0_copyFrom_93 : decode cX0_copyFrom 93 = .ok (.getfield 30, 3) := by decide +kernel
theorem dX0_copyFrom_96 : decode cX0_copyFrom 96 = .ok (.iconst 0, 1) := by decide +kernel
theorem dX0_copyFrom_97 : decode cX0_copyFrom 97 = .ok (.bipush 10, 2) := by decide +kernel
theorem dX0_copyFrom_99 : decode cX0_copyFrom 99 = .ok (.invokestatic 45, 3) := by decide +kernel
theorem dX0_copyFrom_102 : decode cX0_copyFrom 102 = .ok (.aload_n 1, 1) := by decide +kernel
theorem dX0_copyFrom_103 : decode cX0_copyFrom 103 = .ok (.getfield 33, 3) := by decide +kernel
theorem dX0_copyFrom_106 : decode cX0_copyFrom 106 = .ok (.iconst 0, 1) := by decide +kernel
theorem dX0_copyFrom_107 : decode cX0_copyFrom 107 = .ok (.aload_n 0, 1) := by decide +kernel
theorem dX0_copyFrom_108 : decode cX0_copyFrom 108 = .ok (.getfield 33, 3) := by decide +kernel
theorem dX0_copyFrom_111 : decode cX0_copyFrom 111 = .ok (.iconst 0, 1) := by decide +kernel
theorem dX0_copyFrom_112 : decode cX0_copyFrom 112 = .ok (.bipush 10, 2) := by decide +kernel
theorem dX0_copyFrom_114 : decode cX0_copyFrom 114 = .ok (.invokestatic 45, 3) := by decide +kernel
theorem dX0_copyFrom_117 : decode cX0_copyFrom 117 = .ok (.aload_n 1, 1) := by decide +kernel
theorem dX0_copyFrom_118 : decode cX0_copyFrom 118 = .ok (.getfield 36, 3) := by decide +kernel
theorem dX0_copyFrom_121 : decode cX0_copyFrom 121 = .ok (.iconst 0, 1) := by decide +kernel
theorem dX0_copyFrom_122 : decode cX0_copyFrom 122 = .ok (.aload_n 0, 1) := by decide +kernel
theorem dX0_copyFrom_123 : decode cX0_copyFrom 123 = .ok (.getfield 36, 3) := by decide +kernel
theorem dX0_copyFrom_126 : decode cX0_copyFrom 126 = .ok (.iconst 0, 1) := by decide +kernel
theorem dX0_copyFrom_127 : decode cX0_copyFrom 127 = .ok (.bipush 16, 2) := by decide +kernel
theorem dX0_copyFrom_129 : decode cX0_copyFrom 129 = .ok (.invokestatic 45, 3) := by decide +kernel
theorem dX0_copyFrom_132 : decode cX0_copyFrom 132 = .ok (.aload_n 0, 1) := by decide +kernel
theorem dX0_copyFrom_133 : decode cX0_copyFrom 133 = .ok (.aload_n 1, 1) := by decide +kernel
theorem dX0_copyFrom_134 : decode cX0_copyFrom 134 = .ok (.getfield 51, 3) := by decide +kernel
theorem dX0_copyFrom_137 : decode cX0_copyFrom 137 = .ok (.putfield 51, 3) := by decide +kernel
theorem dX0_copyFrom_140 : decode cX0_copyFrom 140 = .ok (.aload_n 0, 1) := by decide +kernel
theorem dX0_copyFrom_141 : decode cX0_copyFrom 141 = .ok (.aload_n 1, 1) := by decide +kernel
theorem dX0_copyFrom_142 : decode cX0_copyFrom 142 = .ok (.getfield 55, 3) := by decide +kernel
theorem dX0_copyFrom_145 : decode cX0_copyFrom 145 = .ok (.putfield 55, 3) := by decide +kernel
theorem dX0_copyFrom_148 : decode cX0_copyFrom 148 = .ok (.aload_n 0, 1) := by decide +kernel
theorem dX0_copyFrom_149 : decode cX0_copyFrom 149 = .ok (.aload_n 1, 1) := by decide +kernel
theorem dX0_copyFrom_150 : decode cX0_copyFrom 150 = .ok (.getfield 58, 3) := by decide +kernel
theorem dX0_copyFrom_153 : decode cX0_copyFrom 153 = .ok (.putfield 58, 3) := by decide +kernel
theorem dX0_copyFrom_156 : decode cX0_copyFrom 156 = .ok (.aload_n 0, 1) := by decide +kernel
theorem dX0_copyFrom_157 : decode cX0_copyFrom 157 = .ok (.aload_n 1, 1) := by decide +kernel
theorem dX0_copyFrom_158 : decode cX0_copyFrom 158 = .ok (.getfield 61, 3) := by decide +kernel
theorem dX0_copyFrom_161 : decode cX0_copyFrom 161 = .ok (.putfield 61, 3) := by decide +kernel
theorem dX0_copyFrom_164 : decode cX0_copyFrom 164 = .ok (.aload_n 0, 1) := by decide +kernel
theorem dX0_copyFrom_165 : decode cX0_copyFrom 165 = .ok (.aload_n 1, 1) := by decide +kernel
theorem dX0_copyFrom_166 : decode cX0_copyFrom 166 = .ok (.getfield 64, 3) := by decide +kernel
theorem dX0_copyFrom_169 : decode cX0_copyFrom 169 = .ok (.putfield 64, 3) := by decide +kernel
theorem dX0_copyFrom_172 : decode cX0_copyFrom 172 = .ok (.return_, 1) := by decide +kernel
theorem dX0_refusalOfNet_0 : decode cX0_refusalOfNet 0 = .ok (.iload_n 1, 1) := by decide +kernel
theorem dX0_refusalOfNet_1 : decode cX0_refusalOfNet 1 = .ok (.invokestatic 67, 3) := by decide +kernel
theorem dX0_refusalOfNet_4 : decode cX0_refusalOfNet 4 = .ok (.istore_n 2, 1) := by decide +kernel
theorem dX0_refusalOfNet_5 : decode cX0_refusalOfNet 5 = .ok (.iload_n 1, 1) := by decide +kernel
theorem dX0_refusalOfNet_6 : decode cX0_refusalOfNet 6 = .ok (.ldc 73, 2) := by decide +kernel
theorem dX0_refusalOfNet_8 : decode cX0_refusalOfNet 8 = .ok (.iand, 1) := by decide +kernel
theorem dX0_refusalOfNet_9 : decode cX0_refusalOfNet 9 = .ok (.ifCond .ne 13, 3) := by decide +kernel
theorem dX0_refusalOfNet_12 : decode cX0_refusalOfNet 12 = .ok (.iload_n 2, 1) := by decide +kernel
theorem dX0_refusalOfNet_13 : decode cX0_refusalOfNet 13 = .ok (.iconst 2, 1) := by decide +kernel
theorem dX0_refusalOfNet_14 : decode cX0_refusalOfNet 14 = .ok (.if_icmp .lt 8, 3) := by decide +kernel
theorem dX0_refusalOfNet_17 : decode cX0_refusalOfNet 17 = .ok (.iload_n 2, 1) := by decide +kernel
theorem dX0_refusalOfNet_18 : decode cX0_refusalOfNet 18 = .ok (.iconst 5, 1) := by decide +kernel
theorem dX0_refusalOfNet_19 : decode cX0_refusalOfNet 19 = .ok (.if_icmp .le 6, 3) := by decide +kernel
theorem dX0_refusalOfNet_22 : decode cX0_refusalOfNet 22 = .ok (.ldc 74, 2) := by decide +kernel
theorem dX0_refusalOfNet_24 : decode cX0_refusalOfNet 24 = .ok (.ireturn, 1) := by decide +kernel
theorem dX0_refusalOfNet_25 : decode cX0_refusalOfNet 25 = .ok (.iload_n 1, 1) := by decide +kernel
theorem dX0_refusalOfNet_26 : decode cX0_refusalOfNet 26 = .ok (.aload_n 0, 1) := by decide +kernel
theorem dX0_refusalOfNet_27 : decode cX0_refusalOfNet 27 = .ok (.getfield 61, 3) := by decide +kernel
theorem dX0_refusalOfNet_30 : decode cX0_refusalOfNet 30 = .ok (.iand, 1) := by decide +kernel
theorem dX0_refusalOfNet_31 : decode cX0_refusalOfNet 31 = .ok (.ifCond .eq 6, 3) := by decide +kernel
theorem dX0_refusalOfNet_34 : decode cX0_refusalOfNet 34 = .ok (.ldc 75, 2) := by decide +kernel
theorem dX0_refusalOfNet_36 : decode cX0_refusalOfNet 36 = .ok (.ireturn, 1) := by decide +kernel
theorem dX0_refusalOfNet_37 : decode cX0_refusalOfNet 37 = .ok (.aload_n 0, 1) := by decide +kernel
theorem dX0_refusalOfNet_38 : decode cX0_refusalOfNet 38 = .ok (.getfield 51, 3) := by decide +kernel
theorem dX0_refusalOfNet_41 : decode cX0_refusalOfNet 41 = .ok (.bipush 8, 2) := by decide +kernel
theorem dX0_refusalOfNet_43 : decode cX0_refusalOfNet 43 = .ok (.if_icmp .lt 8, 3) := by decide +kernel
theorem dX0_refusalOfNet_46 : decode cX0_refusalOfNet 46 = .ok (.ldc 76, 2) := by decide +kernel
theorem dX0_refusalOfNet_48 : decode cX0_refusalOfNet 48 = .ok (.goto 4, 3) := by decide +kernel
theorem dX0_refusalOfNet_51 : decode cX0_refusalOfNet 51 = .ok (.iconst 0, 1) := by decide +kernel
theorem dX0_refusalOfNet_52 : decode cX0_refusalOfNet 52 = .ok (.ireturn, 1) := by decide +kernel
theorem dX0_addNet_0 : decode cX0_addNet 0 = .ok (.aload_n 0, 1) := by decide +kernel
theorem dX0_addNet_1 : decode cX0_addNet 1 = .ok (.getfield 9, 3) := by decide +kernel
theorem dX0_addNet_4 : decode cX0_addNet 4 = .ok (.aload_n 0, 1) := by decide +kernel
theorem dX0_addNet_5 : decode cX0_addNet 5 = .ok (.getfield 51, 3) := by decide +kernel
theorem dX0_addNet_8 : decode cX0_addNet 8 = .ok (.iload_n 1, 1) := by decide +kernel
theorem dX0_addNet_9 : decode cX0_addNet 9 = .ok (.iastore, 1) := by decide +kernel
theorem dX0_addNet_10 : decode cX0_addNet 10 = .ok (.aload_n 0, 1) := by decide +kernel
theorem dX0_addNet_11 : decode cX0_addNet 11 = .ok (.dup, 1) := by decide +kernel
theorem dX0_addNet_12 : decode cX0_addNet 12 = .ok (.getfield 61, 3) := by decide +kernel
theorem dX0_addNet_15 : decode cX0_addNet 15 = .ok (.iload_n 1, 1) := by decide +kernel
theorem dX0_addNet_16 : decode cX0_addNet 16 = .ok (.ior, 1) := by decide +kernel
theorem dX0_addNet_17 : decode cX0_addNet 17 = .ok (.putfield 61, 3) := by decide +kernel
theorem dX0_addNet_20 : decode cX0_addNet 20 = .ok (.iconst 0, 1) := by decide +kernel
theorem dX0_addNet_21 : decode cX0_addNet 21 = .ok (.istore_n 2, 1) := by decide +kernel
theorem dX0_addNet_22 : decode cX0_addNet 22 = .ok (.iload_n 2, 1) := by decide +kernel
theorem dX0_addNet_23 : decode cX0_addNet 23 = .ok (.bipush 16, 2) := by decide +kernel
theorem dX0_addNet_25 : decode cX0_addNet 25 = .ok (.if_icmp .ge 27, 3) := by decide +kernel
theorem dX0_addNet_28 : decode cX0_addNet 28 = .ok (.iload_n 1, 1) := by decide +kernel
theorem dX0_addNet_29 : decode cX0_addNet 29 = .ok (.iload_n 2, 1) := by decide +kernel
theorem dX0_addNet_30 : decode cX0_addNet 30 = .ok (.invokestatic 77, 3) := by decide +kernel
theorem dX0_addNet_33 : decode cX0_addNet 33 = .ok (.ifCond .eq 13, 3) := by decide +kernel
theorem dX0_addNet_36 : decode cX0_addNet 36 = .ok (.aload_n 0, 1) := by decide +kernel
theorem dX0_addNet_37 : decode cX0_addNet 37 = .ok (.getfield 15, 3) := by decide +kernel
theorem dX0_addNet_40 : decode cX0_addNet 40 = .ok (.iload_n 2, 1) := by decide +kernel
theorem dX0_addNet_41 : decode cX0_addNet 41 = .ok (.aload_n 0, 1) := by decide +kernel
theorem dX0_addNet_42 : decode cX0_addNet 42 = .ok (.getfield 51, 3) := by decide +kernel
theorem dX0_addNet_45 : decode cX0_addNet 45 = .ok (.iastore, 1) := by decide +kernel
theorem dX0_addNet_46 : decode cX0_addNet 46 = .ok (.iinc 2 1, 3) := by decide +kernel
theorem dX0_addNet_49 : decode cX0_addNet 49 = .ok (.goto (-27), 3) := by decide +kernel
theorem dX0_addNet_52 : decode cX0_addNet 52 = .ok (.aload_n 0, 1) := by decide +kernel
theorem dX0_addNet_53 : decode cX0_addNet 53 = .ok (.dup, 1) := by decide +kernel
theorem dX0_addNet_54 : decode cX0_addNet 54 = .ok (.getfield 51, 3) := by decide +kernel
theorem dX0_addNet_57 : decode cX0_addNet 57 = .ok (.iconst 1, 1) := by decide +kernel
theorem dX0_addNet_58 : decode cX0_addNet 58 = .ok (.iadd, 1) := by decide +kernel
theorem dX0_addNet_59 : decode cX0_addNet 59 = .ok (.putfield 51, 3) := by decide +kernel
theorem dX0_addNet_62 : decode cX0_addNet 62 = .ok (.aload_n 0, 1) := by decide +kernel
theorem dX0_addNet_63 : decode cX0_addNet 63 = .ok (.getfield 51, 3) := by decide +kernel
theorem dX0_addNet_66 : decode cX0_addNet 66 = .ok (.iconst 1, 1) := by decide +kernel
theorem dX0_addNet_67 : decode cX0_addNet 67 = .ok (.isub, 1) := by decide +kernel
theorem dX0_addNet_68 : decode cX0_addNet 68 = .ok (.ireturn, 1) := by decide +kernel
theorem dX0_refusalOfChip_0 : decode cX0_refusalOfChip 0 = .ok (.iload_n 1, 1) := by decide +kernel
theorem dX0_refusalOfChip_1 : decode cX0_refusalOfChip 1 = .ok (.invokestatic 81, 3) := by decide +kernel
theorem dX0_refusalOfChip_4 : decode cX0_refusalOfChip 4 = .ok (.ifCond .eq 15, 3) := by decide +kernel
theorem dX0_refusalOfChip_7 : decode cX0_refusalOfChip 7 = .ok (.iload_n 2, 1) := by decide +kernel
theorem dX0_refusalOfChip_8 : decode cX0_refusalOfChip 8 = .ok (.invokestatic 81, 3) := by decide +kernel
theorem dX0_refusalOfChip_11 : decode cX0_refusalOfChip 11 = .ok (.ifCond .eq 8, 3) := by decide +kernel
theorem dX0_refusalOfChip_14 : decode cX0_refusalOfChip 14 = .ok (.iload_n 1, 1) := by decide +kernel
theorem dX0_refusalOfChip_15 : decode cX0_refusalOfChip 15 = .ok (.iload_n 2, 1) := by decide +kernel
theorem dX0_refusalOfChip_16 : decode cX0_refusalOfChip 16 = .ok (.if_icmp .ne 6, 3) := by decide +kernel
theorem dX0_refusalOfChip_19 : decode cX0_refusalOfChip 19 = .ok (.ldc 74, 2) := by decide +kernel
theorem dX0_refusalOfChip_21 : decode cX0_refusalOfChip 21 = .ok (.ireturn, 1) := by decide +kernel
theorem dX0_refusalOfChip_22 : decode cX0_refusalOfChip 22 = .ok (.iload_n 3, 1) := by decide +kernel
theorem dX0_refusalOfChip_23 : decode cX0_refusalOfChip 23 = .ok (.ldc 73, 2) := by decide +kernel
theorem dX0_refusalOfChip_25 : decode cX0_refusalOfChip 25 = .ok (.iand, 1) := by decide +kernel
theorem dX0_refusalOfChip_26 : decode cX0_refusalOfChip 26 = .ok (.ifCond .ne 27, 3) := by decide +kernel
theorem dX0_refusalOfChip_29 : decode cX0_refusalOfChip 29 = .ok (.iload_n 3, 1) := by decide +kernel
theorem dX0_refusalOfChip_30 : decode cX0_refusalOfChip 30 = .ok (.invokestatic 67, 3) := by decide +kernel
theorem dX0_refusalOfChip_33 : decode cX0_refusalOfChip 33 = .ok (.iconst 5, 1) := by decide +kernel
theorem dX0_refusalOfChip_34 : decode cX0_refusalOfChip 34 = .ok (.if_icmp .gt 19, 3) := by decide +kernel
theorem dX0_refusalOfChip_37 : decode cX0_refusalOfChip 37 = .ok (.iload_n 3, 1) := by decide +kernel
theorem dX0_refusalOfChip_38 : decode cX0_refusalOfChip 38 = .ok (.iload_n 1, 1) := by decide +kernel
theorem dX0_refusalOfChip_39 : decode cX0_refusalOfChip 39 = .ok (.invokestatic 77, 3) := by decide +kernel
theorem dX0_refusalOfChip_42 : decode cX0_refusalOfChip 42 = .ok (.ifCond .ne 11, 3) := by decide +kernel
theorem dX0_refusalOfChip_45 : decode cX0_refusalOfChip 45 = .ok (.iload_n 3, 1) := by decide +kernel
theorem dX0_refusalOfChip_46 : decode cX0_refusalOfChip 46 = .ok (.iload_n 2, 1) := by decide +kernel
theorem dX0_refusalOfChip_47 : decode cX0_refusalOfChip 47 = .ok (.invokestatic 77, 3) := by decide +kernel
theorem dX0_refusalOfChip_50 : decode cX0_refusalOfChip 50 = .ok (.ifCond .eq 6, 3) := by decide +kernel
theorem dX0_refusalOfChip_53 : decode cX0_refusalOfChip 53 = .ok (.ldc 74, 2) := by decide +kernel
theorem dX0_refusalOfChip_55 : decode cX0_refusalOfChip 55 = .ok (.ireturn, 1) := by decide +kernel
theorem dX0_refusalOfChip_56 : decode cX0_refusalOfChip 56 = .ok (.iconst 1, 1) := by decide +kernel
theorem dX0_refusalOfChip_57 : decode cX0_refusalOfChip 57 = .ok (.iload_n 1, 1) := by decide +kernel
theorem dX0_refusalOfChip_58 : decode cX0_refusalOfChip 58 = .ok (.ishl, 1) := by decide +kernel
theorem dX0_refusalOfChip_59 : decode cX0_refusalOfChip 59 = .ok (.iconst 1, 1) := by decide +kernel
theorem dX0_refusalOfChip_60 : decode cX0_refusalOfChip 60 = .ok (.iload_n 2, 1) := by decide +kernel
theorem dX0_refusalOfChip_61 : decode cX0_refusalOfChip 61 = .ok (.ishl, 1) := by decide +kernel
theorem dX0_refusalOfChip_62 : decode cX0_refusalOfChip 62 = .ok (.ior, 1) := by decide +kernel
theorem dX0_refusalOfChip_63 : decode cX0_refusalOfChip 63 = .ok (.iload_n 3, 1) := by decide +kernel
theorem dX0_refusalOfChip_64 : decode cX0_refusalOfChip 64 = .ok (.ior, 1) := by decide +kernel
theorem dX0_refusalOfChip_65 : decode cX0_refusalOfChip 65 = .ok (.aload_n 0, 1) := by decide +kernel
theorem dX0_refusalOfChip_66 : decode cX0_refusalOfChip 66 = .ok (.getfield 64, 3) := by decide +kernel
theorem dX0_refusalOfChip_69 : decode cX0_refusalOfChip 69 = .ok (.iand, 1) := by decide +kernel
theorem dX0_refusalOfChip_70 : decode cX0_refusalOfChip 70 = .ok (.ifCond .eq 6, 3) := by decide +kernel
theorem dX0_refusalOfChip_73 : decode cX0_refusalOfChip 73 = .ok (.ldc 75, 2) := by decide +kernel
theorem dX0_refusalOfChip_75 : decode cX0_refusalOfChip 75 = .ok (.ireturn, 1) := by decide +kernel
theorem dX0_refusalOfChip_76 : decode cX0_refusalOfChip 76 = .ok (.aload_n 0, 1) := by decide +kernel
theorem dX0_refusalOfChip_77 : decode cX0_refusalOfChip 77 = .ok (.getfield 55, 3) := by decide +kernel
theorem dX0_refusalOfChip_80 : decode cX0_refusalOfChip 80 = .ok (.iconst 5, 1) := by decide +kernel
theorem dX0_refusalOfChip_81 : decode cX0_refusalOfChip 81 = .ok (.if_icmp .lt 8, 3) := by decide +kernel
theorem dX0_refusalOfChip_84 : decode cX0_refusalOfChip 84 = .ok (.ldc 76, 2) := by decide +kernel
theorem dX0_refusalOfChip_86 : decode cX0_refusalOfChip 86 = .ok (.goto 4, 3) := by decide +kernel
theorem dX0_refusalOfChip_89 : decode cX0_refusalOfChip 89 = .ok (.iconst 0, 1) := by decide +kernel
theorem dX0_refusalOfChip_90 : decode cX0_refusalOfChip 90 = .ok (.ireturn, 1) := by decide +kernel
theorem dX0_addChip_0 : decode cX0_addChip 0 = .ok (.aload_n 0, 1) := by decide +kernel
theorem dX0_addChip_1 : decode cX0_addChip 1 = .ok (.getfield 18, 3) := by decide +kernel
theorem dX0_addChip_4 : decode cX0_addChip 4 = .ok (.aload_n 0, 1) := by decide +kernel
theorem dX0_addChip_5 : decode cX0_addChip 5 = .ok (.getfield 55, 3) := by decide +kernel
theorem dX0_addChip_8 : decode cX0_addChip 8 = .ok (.iload_n 1, 1) := by decide +kernel
theorem dX0_addChip_9 : decode cX0_addChip 9 = .ok (.iastore, 1) := by decide +kernel
theorem dX0_addChip_10 : decode cX0_addChip 10 = .ok (.aload_n 0, 1) := by decide +kernel
theorem dX0_addChip_11 : decode cX0_addChip 11 = .ok (.getfield 21, 3) := by decide +kernel
theorem dX0_addChip_14 : decode cX0_addChip 14 = .ok (.aload_n 0, 1) := by decide +kernel
theorem dX0_addChip_15 : decode cX0_addChip 15 = .ok (.getfield 55, 3) := by decide +kernel
theorem dX0_addChip_18 : decode cX0_addChip 18 = .ok (.iload_n 2, 1) := by decide +kernel
theorem dX0_addChip_19 : decode cX0_addChip 19 = .ok (.iastore, 1) := by decide +kernel
theorem dX0_addChip_20 : decode cX0_addChip 20 = .ok (.aload_n 0, 1) := by decide +kernel
theorem dX0_addChip_21 : decode cX0_addChip 21 = .ok (.getfield 24, 3) := by decide +kernel
theorem dX0_addChip_24 : decode cX0_addChip 24 = .ok (.aload_n 0, 1) := by decide +kernel
theorem dX0_addChip_25 : decode cX0_addChip 25 = .ok (.getfield 55, 3) := by decide +kernel
theorem dX0_addChip_28 : decode cX0_addChip 28 = .ok (.iload_n 3, 1) := by decide +kernel
theorem dX0_addChip_29 : decode cX0_addChip 29 = .ok (.iastore, 1) := by decide +kernel
theorem dX0_addChip_30 : decode cX0_addChip 30 = .ok (.aload_n 0, 1) := by decide +kernel
theorem dX0_addChip_31 : decode cX0_addChip 31 = .ok (.dup, 1) := by decide +kernel
theorem dX0_addChip_32 : decode cX0_addChip 32 = .ok (.getfield 64, 3) := by decide +kernel
theorem dX0_addChip_35 : decode cX0_addChip 35 = .ok (.iconst 1, 1) := by decide +kernel
theorem dX0_addChip_36 : decode cX0_addChip 36 = .ok (.iload_n 1, 1) := by decide +kernel
theorem dX0_addChip_37 : decode cX0_addChip 37 = .ok (.ishl, 1) := by decide +kernel
theorem dX0_addChip_38 : decode cX0_addChip 38 = .ok (.iconst 1, 1) := by decide +kernel
theorem dX0_addChip_39 : decode cX0_addChip 39 = .ok (.iload_n 2, 1) := by decide +kernel
theorem dX0_addChip_40 : decode cX0_addChip 40 = .ok (.ishl, 1) := by decide +kernel
theorem dX0_addChip_41 : decode cX0_addChip 41 = .ok (.ior, 1) := by decide +kernel
theorem dX0_addChip_42 : decode cX0_addChip 42 = .ok (.iload_n 3, 1) := by decide +kernel
theorem dX0_addChip_43 : decode cX0_addChip 43 = .ok (.ior, 1) := by decide +kernel
theorem dX0_addChip_44 : decode cX0_addChip 44 = .ok (.ior, 1) := by decide +kernel
theorem dX0_addChip_45 : decode cX0_addChip 45 = .ok (.putfield 64, 3) := by decide +kernel
theorem dX0_addChip_48 : decode cX0_addChip 48 = .ok (.aload_n 0, 1) := by decide +kernel
theorem dX0_addChip_49 : decode cX0_addChip 49 = .ok (.dup, 1) := by decide +kernel
theorem dX0_addChip_50 : decode cX0_addChip 50 = .ok (.getfield 55, 3) := by decide +kernel
theorem dX0_addChip_53 : decode cX0_addChip 53 = .ok (.iconst 1, 1) := by decide +kernel
theorem dX0_addChip_54 : decode cX0_addChip 54 = .ok (.iadd, 1) := by decide +kernel
theorem dX0_addChip_55 : decode cX0_addChip 55 = .ok (.putfield 55, 3) := by decide +kernel
theorem dX0_addChip_58 : decode cX0_addChip 58 = .ok (.aload_n 0, 1) := by decide +kernel
theorem dX0_addChip_59 : decode cX0_addChip 59 = .ok (.getfield 55, 3) := by decide +kernel
theorem dX0_addChip_62 : decode cX0_addChip 62 = .ok (.iconst 1, 1) := by decide +kernel
theorem dX0_addChip_63 : decode cX0_addChip 63 = .ok (.isub, 1) := by decide +kernel
theorem dX0_addChip_64 : decode cX0_addChip 64 = .ok (.ireturn, 1) := by decide +kernel
theorem dX0_refusalOfFault_0 : decode cX0_refusalOfFault 0 = .ok (.iload_n 1, 1) := by decide +kernel
theorem dX0_refusalOfFault_1 : decode cX0_refusalOfFault 1 = .ok (.ifCond .lt 21, 3) := by decide +kernel
theorem dX0_refusalOfFault_4 : decode cX0_refusalOfFault 4 = .ok (.iload_n 1, 1) := by decide +kernel
theorem dX0_refusalOfFault_5 : decode cX0_refusalOfFault 5 = .ok (.iconst 5, 1) := by decide +kernel
theorem dX0_refusalOfFault_6 : decode cX0_refusalOfFault 6 = .ok (.if_icmp .ge 16, 3) := by decide +kernel
theorem dX0_refusalOfFault_9 : decode cX0_refusalOfFault 9 = .ok (.iload_n 2, 1) := by decide +kernel
theorem dX0_refusalOfFault_10 : decode cX0_refusalOfFault 10 = .ok (.ifCond .lt 12, 3) := by decide +kernel
theorem dX0_refusalOfFault_13 : decode cX0_refusalOfFault 13 = .ok (.iload_n 2, 1) := by decide +kernel
theorem dX0_refusalOfFault_14 : decode cX0_refusalOfFault 14 = .ok (.aload_n 0, 1) := by decide +kernel
theorem dX0_refusalOfFault_15 : decode cX0_refusalOfFault 15 = .ok (.iload_n 1, 1) := by decide +kernel
theorem dX0_refusalOfFault_16 : decode cX0_refusalOfFault 16 = .ok (.invokevirtual 85, 3) := by decide +kernel
theorem dX0_refusalOfFault_19 : decode cX0_refusalOfFault 19 = .ok (.if_icmp .lt 6, 3) := by decide +kernel
theorem dX0_refusalOfFault_22 : decode cX0_refusalOfFault 22 = .ok (.ldc 74, 2) := by decide +kernel
theorem dX0_refusalOfFault_24 : decode cX0_refusalOfFault 24 = .ok (.ireturn, 1) := by decide +kernel
theorem dX0_refusalOfFault_25 : decode cX0_refusalOfFault 25 = .ok (.iload_n 1, 1) := by decide +kernel
theorem dX0_refusalOfFault_26 : decode cX0_refusalOfFault 26 = .ok (.iconst 1, 1) := by decide +kernel
theorem dX0_refusalOfFault_27 : decode cX0_refusalOfFault 27 = .ok (.if_icmp .ne 24, 3) := by decide +kernel
theorem dX0_refusalOfFault_30 : decode cX0_refusalOfFault 30 = .ok (.iload_n 3, 1) := by decide +kernel
theorem dX0_refusalOfFault_31 : decode cX0_refusalOfFault 31 = .ok (.iload_n 2, 1) := by decide +kernel
theorem dX0_refusalOfFault_32 : decode cX0_refusalOfFault 32 = .ok (.if_icmp .le 15, 3) := by decide +kernel
theorem dX0_refusalOfFault_35 : decode cX0_refusalOfFault 35 = .ok (.iload_n 3, 1) := by decide +kernel
theorem dX0_refusalOfFault_36 : decode cX0_refusalOfFault 36 = .ok (.aload_n 0, 1) := by decide +kernel
theorem dX0_refusalOfFault_37 : decode cX0_refusalOfFault 37 = .ok (.getfield 51, 3) := by decide +kernel
theorem dX0_refusalOfFault_40 : decode cX0_refusalOfFault 40 = .ok (.if_icmp .ge 7, 3) := by decide +kernel
theorem dX0_refusalOfFault_43 : decode cX0_refusalOfFault 43 = .ok (.iconst 1, 1) := by decide +kernel
theorem dX0_refusalOfFault_44 : decode cX0_refusalOfFault 44 = .ok (.goto 16, 3) := by decide +kernel
theorem dX0_refusalOfFault_47 : decode cX0_refusalOfFault 47 = .ok (.iconst 0, 1) := by decide +kernel
theorem dX0_refusalOfFault_48 : decode cX0_refusalOfFault 48 = .ok (.goto 12, 3) := by decide +kernel
theorem dX0_refusalOfFault_51 : decode cX0_refusalOfFault 51 = .ok (.iload_n 3, 1) := by decide +kernel
theorem dX0_refusalOfFault_52 : decode cX0_refusalOfFault 52 = .ok (.ifCond .ne 7, 3) := by decide +kernel
theorem dX0_refusalOfFault_55 : decode cX0_refusalOfFault 55 = .ok (.iconst 1, 1) := by decide +kernel
theorem dX0_refusalOfFault_56 : decode cX0_refusalOfFault 56 = .ok (.goto 4, 3) := by decide +kernel
theorem dX0_refusalOfFault_59 : decode cX0_refusalOfFault 59 = .ok (.iconst 0, 1) := by decide +kernel
theorem dX0_refusalOfFault_60 : decode cX0_refusalOfFault 60 = .ok (.istore 4, 2) := by decide +kernel
theorem dX0_refusalOfFault_62 : decode cX0_refusalOfFault 62 = .ok (.iload 4, 2) := by decide +kernel
theorem dX0_refusalOfFault_64 : decode cX0_refusalOfFault 64 = .ok (.ifCond .ne 6, 3) := by decide +kernel
theorem dX0_refusalOfFault_67 : decode cX0_refusalOfFault 67 = .ok (.ldc 74, 2) := by decide +kernel
theorem dX0_refusalOfFault_69 : decode cX0_refusalOfFault 69 = .ok (.ireturn, 1) := by decide +kernel
theorem dX0_refusalOfFault_70 : decode cX0_refusalOfFault 70 = .ok (.iconst 0, 1) := by decide +kernel
theorem dX0_refusalOfFault_71 : decode cX0_refusalOfFault 71 = .ok (.istore 5, 2) := by decide +kernel
theorem dX0_refusalOfFault_73 : decode cX0_refusalOfFault 73 = .ok (.iload 5, 2) := by decide +kernel
theorem dX0_refusalOfFault_75 : decode cX0_refusalOfFault 75 = .ok (.aload_n 0, 1) := by decide +kernel
theorem dX0_refusalOfFault_76 : decode cX0_refusalOfFault 76 = .ok (.getfield 58, 3) := by decide +kernel
theorem dX0_refusalOfFault_79 : decode cX0_refusalOfFault 79 = .ok (.if_icmp .ge 45, 3) := by decide +kernel
theorem dX0_refusalOfFault_82 : decode cX0_refusalOfFault 82 = .ok (.aload_n 0, 1) := by decide +kernel
theorem dX0_refusalOfFault_83 : decode cX0_refusalOfFault 83 = .ok (.getfield 27, 3) := by decide +kernel
theorem dX0_refusalOfFault_86 : decode cX0_refusalOfFault 86 = .ok (.iload 5, 2) := by decide +kernel
theorem dX0_refusalOfFault_88 : decode cX0_refusalOfFault 88 = .ok (.iaload, 1) := by decide +kernel
theorem dX0_refusalOfFault_89 : decode cX0_refusalOfFault 89 = .ok (.iload_n 1, 1) := by decide +kernel
theorem dX0_refusalOfFault_90 : decode cX0_refusalOfFault 90 = .ok (.if_icmp .ne 28, 3) := by decide +kernel
theorem dX0_refusalOfFault_93 : decode cX0_refusalOfFault 93 = .ok (.aload_n 0, 1) := by decide +kernel
theorem dX0_refusalOfFault_94 : decode cX0_refusalOfFault 94 = .ok (.getfield 30, 3) := by decide +kernel
theorem dX0_refusalOfFault_97 : decode cX0_refusalOfFault 97 = .ok (.iload 5, 2) := by decide +kernel
theorem dX0_refusalOfFault_99 : decode cX0_refusalOfFault 99 = .ok (.iaload, 1) := by decide +kernel
theorem dX0_refusalOfFault_100 : decode cX0_refusalOfFault 100 = .ok (.iload_n 2, 1) := by decide +kernel
theorem dX0_refusalOfFault_101 : decode cX0_refusalOfFault 101 = .ok (.if_icmp .ne 17, 3) := by decide +kernel
theorem dX0_refusalOfFault_104 : decode cX0_refusalOfFault 104 = .ok (.aload_n 0, 1) := by decide +kernel
theorem dX0_refusalOfFault_105 : decode cX0_refusalOfFault 105 = .ok (.getfield 33, 3) := by decide +kernel
theorem dX0_refusalOfFault_108 : decode cX0_refusalOfFault 108 = .ok (.iload 5, 2) := by decide +kernel
theorem dX0_refusalOfFault_110 : decode cX0_refusalOfFault 110 = .ok (.iaload, 1) := by decide +kernel
theorem dX0_refusalOfFault_111 : decode cX0_refusalOfFault 111 = .ok (.iload_n 3, 1) := by decide +kernel
theorem dX0_refusalOfFault_112 : decode cX0_refusalOfFault 112 = .ok (.if_icmp .ne 6, 3) := by decide +kernel
theorem dX0_refusalOfFault_115 : decode cX0_refusalOfFault 115 = .ok (.ldc 75, 2) := by decide +kernel
theorem dX0_refusalOfFault_117 : decode cX0_refusalOfFault 117 = .ok (.ireturn, 1) := by decide +kernel
theorem dX0_refusalOfFault_118 : decode cX0_refusalOfFault 118 = .ok (.iinc 5 1, 3) := by decide +kernel
theorem dX0_refusalOfFault_121 : decode cX0_refusalOfFault 121 = .ok (.goto (-48), 3) := by decide +kernel
theorem dX0_refusalOfFault_124 : decode cX0_refusalOfFault 124 = .ok (.aload_n 0, 1) := by decide +kernel
theorem dX0_refusalOfFault_125 : decode cX0_refusalOfFault 125 = .ok (.getfield 58, 3) := by decide +kernel
theorem dX0_refusalOfFault_128 : decode cX0_refusalOfFault 128 = .ok (.bipush 10, 2) := by decide +kernel
theorem dX0_refusalOfFault_130 : decode cX0_refusalOfFault 130 = .ok (.if_icmp .lt 8, 3) := by decide +kernel
theorem dX0_refusalOfFault_133 : decode cX0_refusalOfFault 133 = .ok (.ldc 76, 2) := by decide +kernel
theorem dX0_refusalOfFault_135 : decode cX0_refusalOfFault 135 = .ok (.goto 4, 3) := by decide +kernel
theorem dX0_refusalOfFault_138 : decode cX0_refusalOfFault 138 = .ok (.iconst 0, 1) := by decide +kernel
theorem dX0_refusalOfFault_139 : decode cX0_refusalOfFault 139 = .ok (.ireturn, 1) := by decide +kernel
theorem dX0_placesFor_0 : decode cX0_placesFor 0 = .ok (.iload_n 1, 1) := by decide +kernel
theorem dX0_placesFor_1 : decode cX0_placesFor 1 = .ok (.ifCond .ne 6, 3) := by decide +kernel
theorem dX0_placesFor_4 : decode cX0_placesFor 4 = .ok (.bipush 16, 2) := by decide +kernel
theorem dX0_placesFor_6 : decode cX0_placesFor 6 = .ok (.ireturn, 1) := by decide +kernel
theorem dX0_placesFor_7 : decode cX0_placesFor 7 = .ok (.iload_n 1, 1) := by decide +kernel
theorem dX0_placesFor_8 : decode cX0_placesFor 8 = .ok (.iconst 4, 1) := by decide +kernel
theorem dX0_placesFor_9 : decode cX0_placesFor 9 = .ok (.if_icmp .ne 10, 3) := by decide +kernel
theorem dX0_placesFor_12 : decode cX0_placesFor 12 = .ok (.aload_n 0, 1) := by decide +kernel
theorem dX0_placesFor_13 : decode cX0_placesFor 13 = .ok (.getfield 55, 3) := by decide +kernel
theorem dX0_placesFor_16 : decode cX0_placesFor 16 = .ok (.goto 7, 3) := by decide +kernel
theorem dX0_placesFor_19 : decode cX0_placesFor 19 = .ok (.aload_n 0, 1) := by decide +kernel
theorem dX0_placesFor_20 : decode cX0_placesFor 20 = .ok (.getfield 51, 3) := by decide +kernel
theorem dX0_placesFor_23 : decode cX0_placesFor 23 = .ok (.ireturn, 1) := by decide +kernel
theorem dX0_addFault_0 : decode cX0_addFault 0 = .ok (.aload_n 0, 1) := by decide +kernel
theorem dX0_addFault_1 : decode cX0_addFault 1 = .ok (.getfield 27, 3) := by decide +kernel
theorem dX0_addFault_4 : decode cX0_addFault 4 = .ok (.aload_n 0, 1) := by decide +kernel
theorem dX0_addFault_5 : decode cX0_addFault 5 = .ok (.getfield 58, 3) := by decide +kernel
theorem dX0_addFault_8 : decode cX0_addFault 8 = .ok (.iload_n 1, 1) := by decide +kernel
theorem dX0_addFault_9 : decode cX0_addFault 9 = .ok (.iastore, 1) := by decide +kernel
theorem dX0_addFault_10 : decode cX0_addFault 10 = .ok (.aload_n 0, 1) := by decide +kernel
theorem dX0_addFault_11 : decode cX0_addFault 11 = .ok (.getfield 30, 3) := by decide +kernel
theorem dX0_addFault_14 : decode cX0_addFault 14 = .ok (.aload_n 0, 1) := by decide +kernel
theorem dX0_addFault_15 : decode cX0_addFault 15 = .ok (.getfield 58, 3) := by decide +kernel
theorem dX0_addFault_18 : decode cX0_addFault 18 = .ok (.iload_n 2, 1) := by decide +kernel
theorem dX0_addFault_19 : decode cX0_addFault 19 = .ok (.iastore, 1) := by decide +kernel
theorem dX0_addFault_20 : decode cX0_addFault 20 = .ok (.aload_n 0, 1) := by decide +kernel
theorem dX0_addFault_21 : decode cX0_addFault 21 = .ok (.getfield 33, 3) := by decide +kernel
theorem dX0_addFault_24 : decode cX0_addFault 24 = .ok (.aload_n 0, 1) := by decide +kernel
theorem dX0_addFault_25 : decode cX0_addFault 25 = .ok (.getfield 58, 3) := by decide +kernel
theorem dX0_addFault_28 : decode cX0_addFault 28 = .ok (.iload_n 3, 1) := by decide +kernel
theorem dX0_addFault_29 : decode cX0_addFault 29 = .ok (.iastore, 1) := by decide +kernel
theorem dX0_addFault_30 : decode cX0_addFault 30 = .ok (.aload_n 0, 1) := by decide +kernel
theorem dX0_addFault_31 : decode cX0_addFault 31 = .ok (.dup, 1) := by decide +kernel
theorem dX0_addFault_32 : decode cX0_addFault 32 = .ok (.getfield 58, 3) := by decide +kernel
theorem dX0_addFault_35 : decode cX0_addFault 35 = .ok (.iconst 1, 1) := by decide +kernel
theorem dX0_addFault_36 : decode cX0_addFault 36 = .ok (.iadd, 1) := by decide +kernel
theorem dX0_addFault_37 : decode cX0_addFault 37 = .ok (.putfield 58, 3) := by decide +kernel
theorem dX0_addFault_40 : decode cX0_addFault 40 = .ok (.aload_n 0, 1) := by decide +kernel
theorem dX0_addFault_41 : decode cX0_addFault 41 = .ok (.getfield 58, 3) := by decide +kernel
theorem dX0_addFault_44 : decode cX0_addFault 44 = .ok (.iconst 1, 1) := by decide +kernel
theorem dX0_addFault_45 : decode cX0_addFault 45 = .ok (.isub, 1) := by decide +kernel
theorem dX0_addFault_46 : decode cX0_addFault 46 = .ok (.ireturn, 1) := by decide +kernel
theorem dX0_setBlessing_0 : decode cX0_setBlessing 0 = .ok (.aload_n 0, 1) := by decide +kernel
theorem dX0_setBlessing_1 : decode cX0_setBlessing 1 = .ok (.getfield 36, 3) := by decide +kernel
theorem dX0_setBlessing_4 : decode cX0_setBlessing 4 = .ok (.iload_n 1, 1) := by decide +kernel
theorem dX0_setBlessing_5 : decode cX0_setBlessing 5 = .ok (.iaload, 1) := by decide +kernel
theorem dX0_setBlessing_6 : decode cX0_setBlessing 6 = .ok (.istore_n 3, 1) := by decide +kernel
theorem dX0_setBlessing_7 : decode cX0_setBlessing 7 = .ok (.aload_n 0, 1) := by decide +kernel
theorem dX0_setBlessing_8 : decode cX0_setBlessing 8 = .ok (.getfield 36, 3) := by decide +kernel
theorem dX0_setBlessing_11 : decode cX0_setBlessing 11 = .ok (.iload_n 1, 1) := by decide +kernel
theorem dX0_setBlessing_12 : decode cX0_setBlessing 12 = .ok (.iload_n 2, 1) := by decide +kernel
theorem dX0_setBlessing_13 : decode cX0_setBlessing 13 = .ok (.iastore, 1) := by decide +kernel
theorem dX0_setBlessing_14 : decode cX0_setBlessing 14 = .ok (.iload_n 3, 1) := by decide +kernel
theorem dX0_setBlessing_15 : decode cX0_setBlessing 15 = .ok (.ireturn, 1) := by decide +kernel
theorem dX0_blessedOn_0 : decode cX0_blessedOn 0 = .ok (.iconst 0, 1) := by decide +kernel
theorem dX0_blessedOn_1 : decode cX0_blessedOn 1 = .ok (.istore_n 2, 1) := by decide +kernel
theorem dX0_blessedOn_2 : decode cX0_blessedOn 2 = .ok (.iconst 0, 1) := by decide +kernel
theorem dX0_blessedOn_3 : decode cX0_blessedOn 3 = .ok (.istore_n 3, 1) := by decide +kernel
theorem dX0_blessedOn_4 : decode cX0_blessedOn 4 = .ok (.iload_n 3, 1) := by decide +kernel
theorem dX0_blessedOn_5 : decode cX0_blessedOn 5 = .ok (.bipush 16, 2) := by decide +kernel
theorem dX0_blessedOn_7 : decode cX0_blessedOn 7 = .ok (.if_icmp .ge 28, 3) := by decide +kernel
theorem dX0_blessedOn_10 : decode cX0_blessedOn 10 = .ok (.aload_n 0, 1) := by decide +kernel
theorem dX0_blessedOn_11 : decode cX0_blessedOn 11 = .ok (.getfield 36, 3) := by decide +kernel
theorem dX0_blessedOn_14 : decode cX0_blessedOn 14 = .ok (.iload_n 3, 1) := by decide +kernel
theorem dX0_blessedOn_15 : decode cX0_blessedOn 15 = .ok (.iaload, 1) := by decide +kernel
theorem dX0_blessedOn_16 : decode cX0_blessedOn 16 = .ok (.iload_n 1, 1) := by decide +kernel
theorem dX0_blessedOn_17 : decode cX0_blessedOn 17 = .ok (.invokestatic 77, 3) := by decide +kernel
theorem dX0_blessedOn_20 : decode cX0_blessedOn 20 = .ok (.ifCond .eq 9, 3) := by decide +kernel
theorem dX0_blessedOn_23 : decode cX0_blessedOn 23 = .ok (.iload_n 2, 1) := by decide +kernel
theorem dX0_blessedOn_24 : decode cX0_blessedOn 24 = .ok (.iconst 1, 1) := by decide +kernel
theorem dX0_blessedOn_25 : decode cX0_blessedOn 25 = .ok (.iload_n 3, 1) := by decide +kernel
theorem dX0_blessedOn_26 : decode cX0_blessedOn 26 = .ok (.ishl, 1) := by decide +kernel
theorem dX0_blessedOn_27 : decode cX0_blessedOn 27 = .ok (.ior, 1) := by decide +kernel
theorem dX0_blessedOn_28 : decode cX0_blessedOn 28 = .ok (.istore_n 2, 1) := by decide +kernel
theorem dX0_blessedOn_29 : decode cX0_blessedOn 29 = .ok (.iinc 3 1, 3) := by decide +kernel
theorem dX0_blessedOn_32 : decode cX0_blessedOn 32 = .ok (.goto (-28), 3) := by decide +kernel
theorem dX0_blessedOn_35 : decode cX0_blessedOn 35 = .ok (.iload_n 2, 1) := by decide +kernel
theorem dX0_blessedOn_36 : decode cX0_blessedOn 36 = .ok (.ireturn, 1) := by decide +kernel
theorem dX0_chipWith_0 : decode cX0_chipWith 0 = .ok (.iconst 0, 1) := by decide +kernel
theorem dX0_chipWith_1 : decode cX0_chipWith 1 = .ok (.istore_n 2, 1) := by decide +kernel
theorem dX0_chipWith_2 : decode cX0_chipWith 2 = .ok (.iload_n 2, 1) := by decide +kernel
theorem dX0_chipWith_3 : decode cX0_chipWith 3 = .ok (.aload_n 0, 1) := by decide +kernel
theorem dX0_chipWith_4 : decode cX0_chipWith 4 = .ok (.getfield 55, 3) := by decide +kernel
theorem dX0_chipWith_7 : decode cX0_chipWith 7 = .ok (.if_icmp .ge 44, 3) := by decide +kernel
theorem dX0_chipWith_10 : decode cX0_chipWith 10 = .ok (.aload_n 0, 1) := by decide +kernel
theorem dX0_chipWith_11 : decode cX0_chipWith 11 = .ok (.getfield 18, 3) := by decide +kernel
theorem dX0_chipWith_14 : decode cX0_chipWith 14 = .ok (.iload_n 2, 1) := by decide +kernel
theorem dX0_chipWith_15 : decode cX0_chipWith 15 = .ok (.iaload, 1) := by decide +kernel
theorem dX0_chipWith_16 : decode cX0_chipWith 16 = .ok (.iload_n 1, 1) := by decide +kernel
theorem dX0_chipWith_17 : decode cX0_chipWith 17 = .ok (.if_icmp .eq 26, 3) := by decide +kernel
theorem dX0_chipWith_20 : decode cX0_chipWith 20 = .ok (.aload_n 0, 1) := by decide +kernel
theorem dX0_chipWith_21 : decode cX0_chipWith 21 = .ok (.getfield 21, 3) := by decide +kernel
theorem dX0_chipWith_24 : decode cX0_chipWith 24 = .ok (.iload_n 2, 1) := by decide +kernel
theorem dX0_chipWith_25 : decode cX0_chipWith 25 = .ok (.iaload, 1) := by decide +kernel
theorem dX0_chipWith_26 : decode cX0_chipWith 26 = .ok (.iload_n 1, 1) := by decide +kernel
theorem dX0_chipWith_27 : decode cX0_chipWith 27 = .ok (.if_icmp .eq 16, 3) := by decide +kernel
theorem dX0_chipWith_30 : decode cX0_chipWith 30 = .ok (.aload_n 0, 1) := by decide +kernel
theorem dX0_chipWith_31 : decode cX0_chipWith 31 = .ok (.getfield 24, 3) := by decide +kernel
theorem dX0_chipWith_34 : decode cX0_chipWith 34 = .ok (.iload_n 2, 1) := by decide +kernel
theorem dX0_chipWith_35 : decode cX0_chipWith 35 = .ok (.iaload, 1) := by decide +kernel
theorem dX0_chipWith_36 : decode cX0_chipWith 36 = .ok (.iload_n 1, 1) := by decide +kernel
theorem dX0_chipWith_37 : decode cX0_chipWith 37 = .ok (.invokestatic 77, 3) := by decide +kernel
theorem dX0_chipWith_40 : decode cX0_chipWith 40 = .ok (.ifCond .eq 5, 3) := by decide +kernel
theorem dX0_chipWith_43 : decode cX0_chipWith 43 = .ok (.iload_n 2, 1) := by decide +kernel
theorem dX0_chipWith_44 : decode cX0_chipWith 44 = .ok (.ireturn, 1) := by decide +kernel
theorem dX0_chipWith_45 : decode cX0_chipWith 45 = .ok (.iinc 2 1, 3) := by decide +kernel
theorem dX0_chipWith_48 : decode cX0_chipWith 48 = .ok (.goto (-46), 3) := by decide +kernel
theorem dX0_chipWith_51 : decode cX0_chipWith 51 = .ok (.iconst (-1), 1) := by decide +kernel
theorem dX0_chipWith_52 : decode cX0_chipWith 52 = .ok (.ireturn, 1) := by decide +kernel
theorem dX0_roleOf_0 : decode cX0_roleOf 0 = .ok (.aload_n 0, 1) := by decide +kernel
theorem dX0_roleOf_1 : decode cX0_roleOf 1 = .ok (.iload_n 1, 1) := by decide +kernel
theorem dX0_roleOf_2 : decode cX0_roleOf 2 = .ok (.invokevirtual 88, 3) := by decide +kernel
theorem dX0_roleOf_5 : decode cX0_roleOf 5 = .ok (.istore_n 2, 1) := by decide +kernel
theorem dX0_roleOf_6 : decode cX0_roleOf 6 = .ok (.iload_n 2, 1) := by decide +kernel
theorem dX0_roleOf_7 : decode cX0_roleOf 7 = .ok (.iconst (-1), 1) := by decide +kernel
theorem dX0_roleOf_8 : decode cX0_roleOf 8 = .ok (.if_icmp .ne 5, 3) := by decide +kernel
theorem dX0_roleOf_11 : decode cX0_roleOf 11 = .ok (.iconst (-1), 1) := by decide +kernel
theorem dX0_roleOf_12 : decode cX0_roleOf 12 = .ok (.ireturn, 1) := by decide +kernel
theorem dX0_roleOf_13 : decode cX0_roleOf 13 = .ok (.aload_n 0, 1) := by decide +kernel
theorem dX0_roleOf_14 : decode cX0_roleOf 14 = .ok (.getfield 18, 3) := by decide +kernel
theorem dX0_roleOf_17 : decode cX0_roleOf 17 = .ok (.iload_n 2, 1) := by decide +kernel
theorem dX0_roleOf_18 : decode cX0_roleOf 18 = .ok (.iaload, 1) := by decide +kernel
theorem dX0_roleOf_19 : decode cX0_roleOf 19 = .ok (.iload_n 1, 1) := by decide +kernel
theorem dX0_roleOf_20 : decode cX0_roleOf 20 = .ok (.if_icmp .ne 5, 3) := by decide +kernel
theorem dX0_roleOf_23 : decode cX0_roleOf 23 = .ok (.iconst 0, 1) := by decide +kernel
theorem dX0_roleOf_24 : decode cX0_roleOf 24 = .ok (.ireturn, 1) := by decide +kernel
theorem dX0_roleOf_25 : decode cX0_roleOf 25 = .ok (.aload_n 0, 1) := by decide +kernel
theorem dX0_roleOf_26 : decode cX0_roleOf 26 = .ok (.getfield 21, 3) := by decide +kernel
theorem dX0_roleOf_29 : decode cX0_roleOf 29 = .ok (.iload_n 2, 1) := by decide +kernel
theorem dX0_roleOf_30 : decode cX0_roleOf 30 = .ok (.iaload, 1) := by decide +kernel
theorem dX0_roleOf_31 : decode cX0_roleOf 31 = .ok (.iload_n 1, 1) := by decide +kernel
theorem dX0_roleOf_32 : decode cX0_roleOf 32 = .ok (.if_icmp .ne 7, 3) := by decide +kernel
theorem dX0_roleOf_35 : decode cX0_roleOf 35 = .ok (.iconst 1, 1) := by decide +kernel
theorem dX0_roleOf_36 : decode cX0_roleOf 36 = .ok (.goto 4, 3) := by decide +kernel
theorem dX0_roleOf_39 : decode cX0_roleOf 39 = .ok (.iconst 2, 1) := by decide +kernel
theorem dX0_roleOf_40 : decode cX0_roleOf 40 = .ok (.ireturn, 1) := by decide +kernel
theorem dX0_isFault_0 : decode cX0_isFault 0 = .ok (.iload_n 1, 1) := by decide +kernel
theorem dX0_isFault_1 : decode cX0_isFault 1 = .ok (.ifCond .lt 15, 3) := by decide +kernel
theorem dX0_isFault_4 : decode cX0_isFault 4 = .ok (.iload_n 1, 1) := by decide +kernel
theorem dX0_isFault_5 : decode cX0_isFault 5 = .ok (.aload_n 0, 1) := by decide +kernel
theorem dX0_isFault_6 : decode cX0_isFault 6 = .ok (.getfield 58, 3) := by decide +kernel
theorem dX0_isFault_9 : decode cX0_isFault 9 = .ok (.if_icmp .ge 7, 3) := by decide +kernel
theorem dX0_isFault_12 : decode cX0_isFault 12 = .ok (.iconst 1, 1) := by decide +kernel
theorem dX0_isFault_13 : decode cX0_isFault 13 = .ok (.goto 4, 3) := by decide +kernel
theorem dX0_isFault_16 : decode cX0_isFault 16 = .ok (.iconst 0, 1) := by decide +kernel
theorem dX0_isFault_17 : decode cX0_isFault 17 = .ok (.ireturn, 1) := by decide +kernel
theorem dX0_allSuspects_0 : decode cX0_allSuspects 0 = .ok (.sipush 1024, 3) := by decide +kernel
theorem dX0_allSuspects_3 : decode cX0_allSuspects 3 = .ok (.iconst 1, 1) := by decide +kernel
theorem dX0_allSuspects_4 : decode cX0_allSuspects 4 = .ok (.aload_n 0, 1) := by decide +kernel
theorem dX0_allSuspects_5 : decode cX0_allSuspects 5 = .ok (.getfield 58, 3) := by decide +kernel
theorem dX0_allSuspects_8 : decode cX0_allSuspects 8 = .ok (.ishl, 1) := by decide +kernel
theorem dX0_allSuspects_9 : decode cX0_allSuspects 9 = .ok (.iconst 1, 1) := by decide +kernel
theorem dX0_allSuspects_10 : decode cX0_allSuspects 10 = .ok (.isub, 1) := by decide +kernel
theorem dX0_allSuspects_11 : decode cX0_allSuspects 11 = .ok (.ior, 1) := by decide +kernel
theorem dX0_allSuspects_12 : decode cX0_allSuspects 12 = .ok (.ireturn, 1) := by decide +kernel
theorem dX0_suffers_0 : decode cX0_suffers 0 = .ok (.aload_n 0, 1) := by decide +kernel
theorem dX0_suffers_1 : decode cX0_suffers 1 = .ok (.iload_n 1, 1) := by decide +kernel
theorem dX0_suffers_2 : decode cX0_suffers 2 = .ok (.invokevirtual 91, 3) := by decide +kernel
theorem dX0_suffers_5 : decode cX0_suffers 5 = .ok (.ifCond .eq 27, 3) := by decide +kernel
theorem dX0_suffers_8 : decode cX0_suffers 8 = .ok (.aload_n 0, 1) := by decide +kernel
theorem dX0_suffers_9 : decode cX0_suffers 9 = .ok (.getfield 27, 3) := by decide +kernel
theorem dX0_suffers_12 : decode cX0_suffers 12 = .ok (.iload_n 1, 1) := by decide +kernel
theorem dX0_suffers_13 : decode cX0_suffers 13 = .ok (.iaload, 1) := by decide +kernel
theorem dX0_suffers_14 : decode cX0_suffers 14 = .ok (.iload_n 2, 1) := by decide +kernel
theorem dX0_suffers_15 : decode cX0_suffers 15 = .ok (.if_icmp .ne 17, 3) := by decide +kernel
theorem dX0_suffers_18 : decode cX0_suffers 18 = .ok (.aload_n 0, 1) := by decide +kernel
theorem dX0_suffers_19 : decode cX0_suffers 19 = .ok (.getfield 30, 3) := by decide +kernel
theorem dX0_suffers_22 : decode cX0_suffers 22 = .ok (.iload_n 1, 1) := by decide +kernel
theorem dX0_suffers_23 : decode cX0_suffers 23 = .ok (.iaload, 1) := by decide +kernel
theorem dX0_suffers_24 : decode cX0_suffers 24 = .ok (.iload_n 3, 1) := by decide +kernel
theorem dX0_suffers_25 : decode cX0_suffers 25 = .ok (.if_icmp .ne 7, 3) := by decide +kernel
theorem dX0_suffers_28 : decode cX0_suffers 28 = .ok (.iconst 1, 1) := by decide +kernel
theorem dX0_suffers_29 : decode cX0_suffers 29 = .ok (.goto 4, 3) := by decide +kernel
theorem dX0_suffers_32 : decode cX0_suffers 32 = .ok (.iconst 0, 1) := by decide +kernel
theorem dX0_suffers_33 : decode cX0_suffers 33 = .ok (.ireturn, 1) := by decide +kernel
theorem dX0_shortedWith_0 : decode cX0_shortedWith 0 = .ok (.aload_n 0, 1) := by decide +kernel
theorem dX0_shortedWith_1 : decode cX0_shortedWith 1 = .ok (.iload_n 1, 1) := by decide +kernel
theorem dX0_shortedWith_2 : decode cX0_shortedWith 2 = .ok (.invokevirtual 91, 3) := by decide +kernel
theorem dX0_shortedWith_5 : decode cX0_shortedWith 5 = .ok (.ifCond .eq 13, 3) := by decide +kernel
theorem dX0_shortedWith_8 : decode cX0_shortedWith 8 = .ok (.aload_n 0, 1) := by decide +kernel
theorem dX0_shortedWith_9 : decode cX0_shortedWith 9 = .ok (.getfield 27, 3) := by decide +kernel
theorem dX0_shortedWith_12 : decode cX0_shortedWith 12 = .ok (.iload_n 1, 1) := by decide +kernel
theorem dX0_shortedWith_13 : decode cX0_shortedWith 13 = .ok (.iaload, 1) := by decide +kernel
theorem dX0_shortedWith_14 : decode cX0_shortedWith 14 = .ok (.iconst 1, 1) := by decide +kernel
theorem dX0_shortedWith_15 : decode cX0_shortedWith 15 = .ok (.if_icmp .eq 5, 3) := by decide +kernel
theorem dX0_shortedWith_18 : decode cX0_shortedWith 18 = .ok (.iconst (-1), 1) := by decide +kernel
theorem dX0_shortedWith_19 : decode cX0_shortedWith 19 = .ok (.ireturn, 1) := by decide +kernel
theorem dX0_shortedWith_20 : decode cX0_shortedWith 20 = .ok (.aload_n 0, 1) := by decide +kernel
theorem dX0_shortedWith_21 : decode cX0_shortedWith 21 = .ok (.getfield 30, 3) := by decide +kernel
theorem dX0_shortedWith_24 : decode cX0_shortedWith 24 = .ok (.iload_n 1, 1) := by decide +kernel
theorem dX0_shortedWith_25 : decode cX0_shortedWith 25 = .ok (.iaload, 1) := by decide +kernel
theorem dX0_shortedWith_26 : decode cX0_shortedWith 26 = .ok (.iload_n 2, 1) := by decide +kernel
theorem dX0_shortedWith_27 : decode cX0_shortedWith 27 = .ok (.if_icmp .ne 10, 3) := by decide +kernel
theorem dX0_shortedWith_30 : decode cX0_shortedWith 30 = .ok (.aload_n 0, 1) := by decide +kernel
theorem dX0_shortedWith_31 : decode cX0_shortedWith 31 = .ok (.getfield 33, 3) := by decide +kernel
theorem dX0_shortedWith_34 : decode cX0_shortedWith 34 = .ok (.iload_n 1, 1) := by decide +kernel
theorem dX0_shortedWith_35 : decode cX0_shortedWith 35 = .ok (.iaload, 1) := by decide +kernel
theorem dX0_shortedWith_36 : decode cX0_shortedWith 36 = .ok (.ireturn, 1) := by decide +kernel
theorem dX0_shortedWith_37 : decode cX0_shortedWith 37 = .ok (.aload_n 0, 1) := by decide +kernel
theorem dX0_shortedWith_38 : decode cX0_shortedWith 38 = .ok (.getfield 33, 3) := by decide +kernel
theorem dX0_shortedWith_41 : decode cX0_shortedWith 41 = .ok (.iload_n 1, 1) := by decide +kernel
theorem dX0_shortedWith_42 : decode cX0_shortedWith 42 = .ok (.iaload, 1) := by decide +kernel
theorem dX0_shortedWith_43 : decode cX0_shortedWith 43 = .ok (.iload_n 2, 1) := by decide +kernel
theorem dX0_shortedWith_44 : decode cX0_shortedWith 44 = .ok (.if_icmp .ne 12, 3) := by decide +kernel
theorem dX0_shortedWith_47 : decode cX0_shortedWith 47 = .ok (.aload_n 0, 1) := by decide +kernel
theorem dX0_shortedWith_48 : decode cX0_shortedWith 48 = .ok (.getfield 30, 3) := by decide +kernel
theorem dX0_shortedWith_51 : decode cX0_shortedWith 51 = .ok (.iload_n 1, 1) := by decide +kernel
theorem dX0_shortedWith_52 : decode cX0_shortedWith 52 = .ok (.iaload, 1) := by decide +kernel
theorem dX0_shortedWith_53 : decode cX0_shortedWith 53 = .ok (.goto 4, 3) := by decide +kernel
theorem dX0_shortedWith_56 : decode cX0_shortedWith 56 = .ok (.iconst (-1), 1) := by decide +kernel
theorem dX0_shortedWith_57 : decode cX0_shortedWith 57 = .ok (.ireturn, 1) := by decide +kernel
theorem dX1_init_0 : decode cX1_init 0 = .ok (.aload_n 0, 1) := by decide +kernel
theorem dX1_init_1 : decode cX1_init 1 = .ok (.invokespecial 3, 3) := by decide +kernel
theorem dX1_init_4 : decode cX1_init 4 = .ok (.aload_n 0, 1) := by decide +kernel
theorem dX1_init_5 : decode cX1_init 5 = .ok (.iconst 4, 1) := by decide +kernel
theorem dX1_init_6 : decode cX1_init 6 = .ok (.anewarray 9, 3) := by decide +kernel
theorem dX1_init_9 : decode cX1_init 9 = .ok (.putfield 11, 3) := by decide +kernel
theorem dX1_init_12 : decode cX1_init 12 = .ok (.iconst 0, 1) := by decide +kernel
theorem dX1_init_13 : decode cX1_init 13 = .ok (.istore_n 1, 1) := by decide +kernel
theorem dX1_init_14 : decode cX1_init 14 = .ok (.iload_n 1, 1) := by decide +kernel
theorem dX1_init_15 : decode cX1_init 15 = .ok (.iconst 4, 1) := by decide +kernel
theorem dX1_init_16 : decode cX1_init 16 = .ok (.if_icmp .ge 29, 3) := by decide +kernel
theorem dX1_init_19 : decode cX1_init 19 = .ok (.aload_n 0, 1) := by decide +kernel
theorem dX1_init_20 : decode cX1_init 20 = .ok (.getfield 11, 3) := by decide +kernel
theorem dX1_init_23 : decode cX1_init 23 = .ok (.iload_n 1, 1) := by decide +kernel
theorem dX1_init_24 : decode cX1_init 24 = .ok (.new 9, 3) := by decide +kernel
theorem dX1_init_27 : decode cX1_init 27 = .ok (.dup, 1) := by decide +kernel
theorem dX1_init_28 : decode cX1_init 28 = .ok (.new 17, 3) := by decide +kernel
theorem dX1_init_31 : decode cX1_init 31 = .ok (.dup, 1) := by decide +kernel
theorem dX1_init_32 : decode cX1_init 32 = .ok (.invokespecial 19, 3) := by decide +kernel
theorem dX1_init_35 : decode cX1_init 35 = .ok (.invokespecial 20, 3) := by decide +kernel
theorem dX1_init_38 : decode cX1_init 38 = .ok (.aastore, 1) := by decide +kernel
theorem dX1_init_39 : decode cX1_init 39 = .ok (.iinc 1 1, 3) := by decide +kernel
theorem dX1_init_42 : decode cX1_init 42 = .ok (.goto (-28), 3) := by decide +kernel
theorem dX1_init_45 : decode cX1_init 45 = .ok (.return_, 1) := by decide +kernel
theorem dX1_keep_0 : decode cX1_keep 0 = .ok (.aload_n 0, 1) := by decide +kernel
theorem dX1_keep_1 : decode cX1_keep 1 = .ok (.getfield 23, 3) := by decide +kernel
theorem dX1_keep_4 : decode cX1_keep 4 = .ok (.iconst 4, 1) := by decide +kernel
theorem dX1_keep_5 : decode cX1_keep 5 = .ok (.if_icmp .lt 7, 3) := by decide +kernel
theorem dX1_keep_8 : decode cX1_keep 8 = .ok (.aload_n 0, 1) := by decide +kernel
theorem dX1_keep_9 : decode cX1_keep 9 = .ok (.invokevirtual 27, 3) := by decide +kernel
theorem dX1_keep_12 : decode cX1_keep 12 = .ok (.aload_n 0, 1) := by decide +kernel
theorem dX1_keep_13 : decode cX1_keep 13 = .ok (.getfield 11, 3) := by decide +kernel
theorem dX1_keep_16 : decode cX1_keep 16 = .ok (.aload_n 0, 1) := by decide +kernel
theorem dX1_keep_17 : decode cX1_keep 17 = .ok (.getfield 23, 3) := by decide +kernel
theorem dX1_keep_20 : decode cX1_keep 20 = .ok (.aaload, 1) := by decide +kernel
theorem dX1_keep_21 : decode cX1_keep 21 = .ok (.aload_n 1, 1) := by decide +kernel
theorem dX1_keep_22 : decode cX1_keep 22 = .ok (.invokevirtual 30, 3) := by decide +kernel
theorem dX1_keep_25 : decode cX1_keep 25 = .ok (.aload_n 0, 1) := by decide +kernel
theorem dX1_keep_26 : decode cX1_keep 26 = .ok (.dup, 1) := by decide +kernel
theorem dX1_keep_27 : decode cX1_keep 27 = .ok (.getfield 23, 3) := by decide +kernel
theorem dX1_keep_30 : decode cX1_keep 30 = .ok (.iconst 1, 1) := by decide +kernel
