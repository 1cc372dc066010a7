theorem dX0_init_0 : decode cX0_init 0 = .ok (.aload_n 0, 1) := by decide +kernel
theorem dX0_init_1 : decode cX0_init 1 = .ok (.invokespecial 3, 3) := by decide +kernel
theorem dX0_init_4 : decode cX0_init 4 = .ok (.aload_n 0, 1) := by decide +kernel
theorem dX0_init_5 : decode cX0_init 5 = .ok (.bipush 8, 2) := by decide +kernel
theorem dX0_init_7 : decode cX0_init 7 = .ok (.newarray .int, 2) := by decide +kernel
theorem dX0_init_9 : decode cX0_init 9 = .ok (.putfield 9, 3) := by decide +kernel
theorem dX0_init_12 : decode cX0_init 12 = .ok (.aload_n 0, 1) := by decide +kernel
theorem dX0_init_13 : decode cX0_init 13 = .ok (.bipush 16, 2) := by decide +kernel
theorem dX0_init_15 : decode cX0_init 15 = .ok (.newarray .int, 2) := by decide +kernel
theorem dX0_init_17 : decode cX0_init 17 = .ok (.putfield 15, 3) := by decide +kernel
theorem dX0_init_20 : decode cX0_init 20 = .ok (.aload_n 0, 1) := by decide +kernel
theorem dX0_init_21 : decode cX0_init 21 = .ok (.iconst 5, 1) := by decide +kernel
theorem dX0_init_22 : decode cX0_init 22 = .ok (.newarray .int, 2) := by decide +kernel
theorem dX0_init_24 : decode cX0_init 24 = .ok (.putfield 18, 3) := by decide +kernel
theorem dX0_init_27 : decode cX0_init 27 = .ok (.aload_n 0, 1) := by decide +kernel
theorem dX0_init_28 : decode cX0_init 28 = .ok (.iconst 5, 1) := by decide +kernel
theorem dX0_init_29 : decode cX0_init 29 = .ok (.newarray .int, 2) := by decide +kernel
theorem dX0_init_31 : decode cX0_init 31 = .ok (.putfield 21, 3) := by decide +kernel
theorem dX0_init_34 : decode cX0_init 34 = .ok (.aload_n 0, 1) := by decide +kernel
theorem dX0_init_35 : decode cX0_init 35 = .ok (.iconst 5, 1) := by decide +kernel
theorem dX0_init_36 : decode cX0_init 36 = .ok (.newarray .int, 2) := by decide +kernel
theorem dX0_init_38 : decode cX0_init 38 = .ok (.putfield 24, 3) := by decide +kernel
theorem dX0_init_41 : decode cX0_init 41 = .ok (.aload_n 0, 1) := by decide +kernel
theorem dX0_init_42 : decode cX0_init 42 = .ok (.bipush 10, 2) := by decide +kernel
theorem dX0_init_44 : decode cX0_init 44 = .ok (.newarray .int, 2) := by decide +kernel
theorem dX0_init_46 : decode cX0_init 46 = .ok (.putfield 27, 3) := by decide +kernel
theorem dX0_init_49 : decode cX0_init 49 = .ok (.aload_n 0, 1) := by decide +kernel
theorem dX0_init_50 : decode cX0_init 50 = .ok (.bipush 10, 2) := by decide +kernel
theorem dX0_init_52 : decode cX0_init 52 = .ok (.newarray .int, 2) := by decide +kernel
theorem dX0_init_54 : decode cX0_init 54 = .ok (.putfield 30, 3) := by decide +kernel
theorem dX0_init_57 : decode cX0_init 57 = .ok (.aload_n 0, 1) := by decide +kernel
theorem dX0_init_58 : decode cX0_init 58 = .ok (.bipush 10, 2) := by decide +kernel
theorem dX0_init_60 : decode cX0_init 60 = .ok (.newarray .int, 2) := by decide +kernel
theorem dX0_init_62 : decode cX0_init 62 = .ok (.putfield 33, 3) := by decide +kernel
theorem dX0_init_65 : decode cX0_init 65 = .ok (.aload_n 0, 1) := by decide +kernel
theorem dX0_init_66 : decode cX0_init 66 = .ok (.bipush 16, 2) := by decide +kernel
theorem dX0_init_68 : decode cX0_init 68 = .ok (.newarray .int, 2) := by decide +kernel
theorem dX0_init_70 : decode cX0_init 70 = .ok (.putfield 36, 3) := by decide +kernel
theorem dX0_init_73 : decode cX0_init 73 = .ok (.aload_n 0, 1) := by decide +kernel
theorem dX0_init_74 : decode cX0_init 74 = .ok (.getfield 15, 3) := by decide +kernel
theorem dX0_init_77 : decode cX0_init 77 = .ok (.iconst (-1), 1) := by decide +kernel
theorem dX0_init_78 : decode cX0_init 78 = .ok (.invokestatic 39, 3) := by decide +kernel
theorem dX0_init_81 : decode cX0_init 81 = .ok (.return_, 1) := by decide +kernel
theorem dX0_copyFrom_0 : decode cX0_copyFrom 0 = .ok (.aload_n 1, 1) := by decide +kernel
theorem dX0_copyFrom_1 : decode cX0_copyFrom 1 = .ok (.getfield 9, 3) := by decide +kernel
theorem dX0_copyFrom_4 : decode cX0_copyFrom 4 = .ok (.iconst 0, 1) := by decide +kernel
theorem dX0_copyFrom_5 : decode cX0_copyFrom 5 = .ok (.aload_n 0, 1) := by decide +kernel
theorem dX0_copyFrom_6 : decode cX0_copyFrom 6 = .ok (.getfield 9, 3) := by decide +kernel
theorem dX0_copyFrom_9 : decode cX0_copyFrom 9 = .ok (.iconst 0, 1) := by decide +kernel
theorem dX0_copyFrom_10 : decode cX0_copyFrom 10 = .ok (.bipush 8, 2) := by decide +kernel
theorem dX0_copyFrom_12 : decode cX0_copyFrom 12 = .ok (.invokestatic 45, 3) := by decide +kernel
theorem dX0_copyFrom_15 : decode cX0_copyFrom 15 = .ok (.aload_n 1, 1) := by decide +kernel
theorem dX0_copyFrom_16 : decode cX0_copyFrom 16 = .ok (.getfield 15, 3) := by decide +kernel
theorem dX0_copyFrom_19 : decode cX0_copyFrom 19 = .ok (.iconst 0, 1) := by decide +kernel
theorem dX0_copyFrom_20 : decode cX0_copyFrom 20 = .ok (.aload_n 0, 1) := by decide +kernel
theorem dX0_copyFrom_21 : decode cX0_copyFrom 21 = .ok (.getfield 15, 3) := by decide +kernel
theorem dX0_copyFrom_24 : decode cX0_copyFrom 24 = .ok (.iconst 0, 1) := by decide +kernel
theorem dX0_copyFrom_25 : decode cX0_copyFrom 25 = .ok (.bipush 16, 2) := by decide +kernel
theorem dX0_copyFrom_27 : decode cX0_copyFrom 27 = .ok (.invokestatic 45, 3) := by decide +kernel
theorem dX0_copyFrom_30 : decode cX0_copyFrom 30 = .ok (.aload_n 1, 1) := by decide +kernel
theorem dX0_copyFrom_31 : decode cX0_copyFrom 31 = .ok (.getfield 18, 3) := by decide +kernel
theorem dX0_copyFrom_34 : decode cX0_copyFrom 34 = .ok (.iconst 0, 1) := by decide +kernel
theorem dX0_copyFrom_35 : decode cX0_copyFrom 35 = .ok (.aload_n 0, 1) := by decide +kernel
theorem dX0_copyFrom_36 : decode cX0_copyFrom 36 = .ok (.getfield 18, 3) := by decide +kernel
theorem dX0_copyFrom_39 : decode cX0_copyFrom 39 = .ok (.iconst 0, 1) := by decide +kernel
theorem dX0_copyFrom_40 : decode cX0_copyFrom 40 = .ok (.iconst 5, 1) := by decide +kernel
theorem dX0_copyFrom_41 : decode cX0_copyFrom 41 = .ok (.invokestatic 45, 3) := by decide +kernel
theorem dX0_copyFrom_44 : decode cX0_copyFrom 44 = .ok (.aload_n 1, 1) := by decide +kernel
theorem dX0_copyFrom_45 : decode cX0_copyFrom 45 = .ok (.getfield 21, 3) := by decide +kernel
theorem dX0_copyFrom_48 : decode cX0_copyFrom 48 = .ok (.iconst 0, 1) := by decide +kernel
theorem dX0_copyFrom_49 : decode cX0_copyFrom 49 = .ok (.aload_n 0, 1) := by decide +kernel
theorem dX0_copyFrom_50 : decode cX0_copyFrom 50 = .ok (.getfield 21, 3) := by decide +kernel
theorem dX0_copyFrom_53 : decode cX0_copyFrom 53 = .ok (.iconst 0, 1) := by decide +kernel
theorem dX0_copyFrom_54 : decode cX0_copyFrom 54 = .ok (.iconst 5, 1) := by decide +kernel
theorem dX0_copyFrom_55 : decode cX0_copyFrom 55 = .ok (.invokestatic 45, 3) := by decide +kernel
theorem dX0_copyFrom_58 : decode cX0_copyFrom 58 = .ok (.aload_n 1, 1) := by decide +kernel
theorem dX0_copyFrom_59 : decode cX0_copyFrom 59 = .ok (.getfield 24, 3) := by decide +kernel
theorem dX0_copyFrom_62 : decode cX0_copyFrom 62 = .ok (.iconst 0, 1) := by decide +kernel
theorem dX0_copyFrom_63 : decode cX0_copyFrom 63 = .ok (.aload_n 0, 1) := by decide +kernel
theorem dX0_copyFrom_64 : decode cX0_copyFrom 64 = .ok (.getfield 24, 3) := by decide +kernel
theorem dX0_copyFrom_67 : decode cX0_copyFrom 67 = .ok (.iconst 0, 1) := by decide +kernel
theorem dX0_copyFrom_68 : decode cX0_copyFrom 68 = .ok (.iconst 5, 1) := by decide +kernel
theorem dX0_copyFrom_69 : decode cX0_copyFrom 69 = .ok (.invokestatic 45, 3) := by decide +kernel
theorem dX0_copyFrom_72 : decode cX0_copyFrom 72 = .ok (.aload_n 1, 1) := by decide +kernel
theorem dX0_copyFrom_73 : decode cX0_copyFrom 73 = .ok (.getfield 27, 3) := by decide +kernel
theorem dX0_copyFrom_76 : decode cX0_copyFrom 76 = .ok (.iconst 0, 1) := by decide +kernel
theorem dX0_copyFrom_77 : decode cX0_copyFrom 77 = .ok (.aload_n 0, 1) := by decide +kernel
theorem dX0_copyFrom_78 : decode cX0_copyFrom 78 = .ok (.getfield 27, 3) := by decide +kernel
theorem dX0_copyFrom_81 : decode cX0_copyFrom 81 = .ok (.iconst 0, 1) := by decide +kernel
theorem dX0_copyFrom_82 : decode cX0_copyFrom 82 = .ok (.bipush 10, 2) := by decide +kernel
theorem dX0_copyFrom_84 : decode cX0_copyFrom 84 = .ok (.invokestatic 45, 3) := by decide +kernel
theorem dX0_copyFrom_87 : decode cX0_copyFrom 87 = .ok (.aload_n 1, 1) := by decide +kernel
theorem dX0_copyFrom_88 : decode cX0_copyFrom 88 = .ok (.getfield 30, 3) := by decide +kernel
theorem dX0_copyFrom_91 : decode cX0_copyFrom 91 = .ok (.iconst 0, 1) := by decide +kernel
theorem dX0_copyFrom_92 : decode cX0_copyFrom 92 = .ok (.aload_n 0, 1) := by decide +kernel
theorem dX0_copyFrom_93 : decode cX0_copyFrom 93 = .ok (.getfield 30, 3) := by decide +kernel
theorem dX0_copyFrom_96 : decode cX0_copyFrom 96 = .ok (.iconst 0, 1) := by decide +kernel
theorem dX0_copyFrom_97 : decode cX0_copyFrom 97 = .ok (.bipush 10, 2) := by decide +kernel
theorem dX0_copyFrom_99 : decode cX0_copyFrom 99 = .ok (.invokestatic 45, 3) := by decide +kernel
theorem dX0_copyFrom_102 : decode cX0_copyFrom 102 = .ok (.aload_n 1, 1) := by decide +kernel
theorem dX0_copyFrom_103 : decode cX0_copyFrom 103 = .ok (.getfield 33, 3) := by decide +kernel
theorem dX0_copyFrom_106 : decode cX0_copyFrom 106 = .ok (.iconst 0, 1) := by decide +kernel
theorem dX0_copyFrom_107 : decode cX0_copyFrom 107 = .ok (.aload_n 0, 1) := by decide +kernel
theorem dX0_copyFrom_108 : decode cX0_copyFrom 108 = .ok (.getfield 33, 3) := by decide +kernel
theorem dX0_copyFrom_111 : decode cX0_copyFrom 111 = .ok (.iconst 0, 1) := by decide +kernel
theorem dX0_copyFrom_112 : decode cX0_copyFrom 112 = .ok (.bipush 10, 2) := by decide +kernel
theorem dX0_copyFrom_114 : decode cX0_copyFrom 114 = .ok (.invokestatic 45, 3) := by decide +kernel
theorem dX0_copyFrom_117 : decode cX0_copyFrom 117 = .ok (.aload_n 1, 1) := by decide +kernel
theorem dX0_copyFrom_118 : decode cX0_copyFrom 118 = .ok (.getfield 36, 3) := by decide +kernel
theorem dX0_copyFrom_121 : decode cX0_copyFrom 121 = .ok (.iconst 0, 1) := by decide +kernel
theorem dX0_copyFrom_122 : decode cX0_copyFrom 122 = .ok (.aload_n 0, 1) := by decide +kernel
theorem dX0_copyFrom_123 : decode cX0_copyFrom 123 = .ok (.getfield 36, 3) := by decide +kernel
theorem dX0_copyFrom_126 : decode cX0_copyFrom 126 = .ok (.iconst 0, 1) := by decide +kernel
theorem dX0_copyFrom_127 : decode cX0_copyFrom 127 = .ok (.bipush 16, 2) := by decide +kernel
theorem dX0_copyFrom_129 : decode cX0_copyFrom 129 = .ok (.invokestatic 45, 3) := by decide +kernel
theorem dX0_copyFrom_132 : decode cX0_copyFrom 132 = .ok (.aload_n 0, 1) := by decide +kernel
theorem dX0_copyFrom_133 : decode cX0_copyFrom 133 = .ok (.aload_n 1, 1) := by decide +kernel
theorem dX0_copyFrom_134 : decode cX0_copyFrom 134 = .ok (.getfield 51, 3) := by decide +kernel
theorem dX0_copyFrom_137 : decode cX0_copyFrom 137 = .ok (.putfield 51, 3) := by decide +kernel
theorem dX0_copyFrom_140 : decode cX0_copyFrom 140 = .ok (.aload_n 0, 1) := by decide +kernel
theorem dX0_copyFrom_141 : decode cX0_copyFrom 141 = .ok (.aload_n 1, 1) := by decide +kernel
theorem dX0_copyFrom_142 : decode cX0_copyFrom 142 = .ok (.getfield 55, 3) := by decide +kernel
theorem dX0_copyFrom_145 : decode cX0_copyFrom 145 = .ok (.putfield 55, 3) := by decide +kernel
theorem dX0_copyFrom_148 : decode cX0_copyFrom 148 = .ok (.aload_n 0, 1) := by decide +kernel
theorem dX0_copyFrom_149 : decode cX0_copyFrom 149 = .ok (.aload_n 1, 1) := by decide +kernel
theorem dX0_copyFrom_150 : decode cX0_copyFrom 150 = .ok (.getfield 58, 3) := by decide +kernel
theorem dX0_copyFrom_153 : decode cX0_copyFrom 153 = .ok (.putfield 58, 3) := by decide +kernel
theorem dX0_copyFrom_156 : decode cX0_copyFrom 156 = .ok (.aload_n 0, 1) := by decide +kernel
theorem dX0_copyFrom_157 : decode cX0_copyFrom 157 = .ok (.aload_n 1, 1) := by decide +kernel
theorem dX0_copyFrom_158 : decode cX0_copyFrom 158 = .ok (.getfield 61, 3) := by decide +kernel
theorem dX0_copyFrom_161 : decode cX0_copyFrom 161 = .ok (.putfield 61, 3) := by decide +kernel
theorem dX0_copyFrom_164 : decode cX0_copyFrom 164 = .ok (.aload_n 0, 1) := by decide +kernel
theorem dX0_copyFrom_165 : decode cX0_copyFrom 165 = .ok (.aload_n 1, 1) := by decide +kernel
theorem dX0_copyFrom_166 : decode cX0_copyFrom 166 = .ok (.getfield 64, 3) := by decide +kernel
theorem dX0_copyFrom_169 : decode cX0_copyFrom 169 = .ok (.putfield 64, 3) := by decide +kernel
theorem dX0_copyFrom_172 : decode cX0_copyFrom 172 = .ok (.return_, 1) := by decide +kernel
theorem dX0_refusalOfNet_0 : decode cX0_refusalOfNet 0 = .ok (.iload_n 1, 1) := by decide +kernel
theorem dX0_refusalOfNet_1 : decode cX0_refusalOfNet 1 = .ok (.invokestatic 67, 3) := by decide +kernel
theorem dX0_refusalOfNet_4 : decode cX0_refusalOfNet 4 = .ok (.istore_n 2, 1) := by decide +kernel
theorem dX0_refusalOfNet_5 : decode cX0_refusalOfNet 5 = .ok (.iload_n 1, 1) := by decide +kernel
theorem dX0_refusalOfNet_6 : decode cX0_refusalOfNet 6 = .ok (.ldc 73, 2) := by decide +kernel
theorem dX0_refusalOfNet_8 : decode cX0_refusalOfNet 8 = .ok (.iand, 1) := by decide +kernel
theorem dX0_refusalOfNet_9 : decode cX0_refusalOfNet 9 = .ok (.ifCond .ne 13, 3) := by decide +kernel
theorem dX0_refusalOfNet_12 : decode cX0_refusalOfNet 12 = .ok (.iload_n 2, 1) := by decide +kernel
theorem dX0_refusalOfNet_13 : decode cX0_refusalOfNet 13 = .ok (.iconst 2, 1) := by decide +kernel
theorem dX0_refusalOfNet_14 : decode cX0_refusalOfNet 14 = .ok (.if_icmp .lt 8, 3) := by decide +kernel
theorem dX0_refusalOfNet_17 : decode cX0_refusalOfNet 17 = .ok (.iload_n 2, 1) := by decide +kernel
theorem dX0_refusalOfNet_18 : decode cX0_refusalOfNet 18 = .ok (.iconst 5, 1) := by decide +kernel
theorem dX0_refusalOfNet_19 : decode cX0_refusalOfNet 19 = .ok (.if_icmp .le 6, 3) := by decide +kernel
theorem dX0_refusalOfNet_22 : decode cX0_refusalOfNet 22 = .ok (.ldc 74, 2) := by decide +kernel
theorem dX0_refusalOfNet_24 : decode cX0_refusalOfNet 24 = .ok (.ireturn, 1) := by decide +kernel
theorem dX0_refusalOfNet_25 : decode cX0_refusalOfNet 25 = .ok (.iload_n 1, 1) := by decide +kernel
theorem dX0_refusalOfNet_26 : decode cX0_refusalOfNet 26 = .ok (.aload_n 0, 1) := by decide +kernel
theorem dX0_refusalOfNet_27 : decode cX0_refusalOfNet 27 = .ok (.getfield 61, 3) := by decide +kernel
theorem dX0_refusalOfNet_30 : decode cX0_refusalOfNet 30 = .ok (.iand, 1) := by decide +kernel
theorem dX0_refusalOfNet_31 : decode cX0_refusalOfNet 31 = .ok (.ifCond .eq 6, 3) := by decide +kernel
theorem dX0_refusalOfNet_34 : decode cX0_refusalOfNet 34 = .ok (.ldc 75, 2) := by decide +kernel
theorem dX0_refusalOfNet_36 : decode cX0_refusalOfNet 36 = .ok (.ireturn, 1) := by decide +kernel
theorem dX0_refusalOfNet_37 : decode cX0_refusalOfNet 37 = .ok (.aload_n 0, 1) := by decide +kernel
theorem dX0_refusalOfNet_38 : decode cX0_refusalOfNet 38 = .ok (.getfield 51, 3) := by decide +kernel
theorem dX0_refusalOfNet_41 : decode cX0_refusalOfNet 41 = .ok (.bipush 8, 2) := by decide +kernel
theorem dX0_refusalOfNet_43 : decode cX0_refusalOfNet 43 = .ok (.if_icmp .lt 8, 3) := by decide +kernel
theorem dX0_refusalOfNet_46 : decode cX0_refusalOfNet 46 = .ok (.ldc 76, 2) := by decide +kernel
theorem dX0_refusalOfNet_48 : decode cX0_refusalOfNet 48 = .ok (.goto 4, 3) := by decide +kernel
theorem dX0_refusalOfNet_51 : decode cX0_refusalOfNet 51 = .ok (.iconst 0, 1) := by decide +kernel
theorem dX0_refusalOfNet_52 : decode cX0_refusalOfNet 52 = .ok (.ireturn, 1) := by decide +kernel
theorem dX0_addNet_0 : decode cX0_addNet 0 = .ok (.aload_n 0, 1) := by decide +kernel
theorem dX0_addNet_1 : decode cX0_addNet 1 = .ok (.getfield 9, 3) := by decide +kernel
theorem dX0_addNet_4 : decode cX0_addNet 4 = .ok (.aload_n 0, 1) := by decide +kernel
theorem dX0_addNet_5 : decode cX0_addNet 5 = .ok (.getfield 51, 3) := by decide +kernel
theorem dX0_addNet_8 : decode cX0_addNet 8 = .ok (.iload_n 1, 1) := by decide +kernel
theorem dX0_addNet_9 : decode cX0_addNet 9 = .ok (.iastore, 1) := by decide +kernel
theorem dX0_addNet_10 : decode cX0_addNet 10 = .ok (.aload_n 0, 1) := by decide +kernel
theorem dX0_addNet_11 : decode cX0_addNet 11 = .ok (.dup, 1) := by decide +kernel
theorem dX0_addNet_12 : decode cX0_addNet 12 = .ok (.getfield 61, 3) := by decide +kernel
theorem dX0_addNet_15 : decode cX0_addNet 15 = .ok (.iload_n 1, 1) := by decide +kernel
theorem dX0_addNet_16 : decode cX0_addNet 16 = .ok (.ior, 1) := by decide +kernel
theorem dX0_addNet_17 : decode cX0_addNet 17 = .ok (.putfield 61, 3) := by decide +kernel
theorem dX0_addNet_20 : decode cX0_addNet 20 = .ok (.iconst 0, 1) := by decide +kernel
theorem dX0_addNet_21 : decode cX0_addNet 21 = .ok (.istore_n 2, 1) := by decide +kernel
theorem dX0_addNet_22 : decode cX0_addNet 22 = .ok (.iload_n 2, 1) := by decide +kernel
theorem dX0_addNet_23 : decode cX0_addNet 23 = .ok (.bipush 16, 2) := by decide +kernel
theorem dX0_addNet_25 : decode cX0_addNet 25 = .ok (.if_icmp .ge 27, 3) := by decide +kernel
theorem dX0_addNet_28 : decode cX0_addNet 28 = .ok (.iload_n 1, 1) := by decide +kernel
theorem dX0_addNet_29 : decode cX0_addNet 29 = .ok (.iload_n 2, 1) := by decide +kernel
theorem dX0_addNet_30 : decode cX0_addNet 30 = .ok (.invokestatic 77, 3) := by decide +kernel
theorem dX0_addNet_33 : decode cX0_addNet 33 = .ok (.ifCond .eq 13, 3) := by decide +kernel
theorem dX0_addNet_36 : decode cX0_addNet 36 = .ok (.aload_n 0, 1) := by decide +kernel
theorem dX0_addNet_37 : decode cX0_addNet 37 = .ok (.getfield 15, 3) := by decide +kernel
theorem dX0_addNet_40 : decode cX0_addNet 40 = .ok (.iload_n 2, 1) := by decide +kernel
theorem dX0_addNet_41 : decode cX0_addNet 41 = .ok (.aload_n 0, 1) := by decide +kernel
theorem dX0_addNet_42 : decode cX0_addNet 42 = .ok (.getfield 51, 3) := by decide +kernel
theorem dX0_addNet_45 : decode cX0_addNet 45 = .ok (.iastore, 1) := by decide +kernel
theorem dX0_addNet_46 : decode cX0_addNet 46 = .ok (.iinc 2 1, 3) := by decide +kernel
theorem dX0_addNet_49 : decode cX0_addNet 49 = .ok (.goto (-27), 3) := by decide +kernel
theorem dX0_addNet_52 : decode cX0_addNet 52 = .ok (.aload_n 0, 1) := by decide +kernel
theorem dX0_addNet_53 : decode cX0_addNet 53 = .ok (.dup, 1) := by decide +kernel
theorem dX0_addNet_54 : decode cX0_addNet 54 = .ok (.getfield 51, 3) := by decide +kernel
theorem dX0_addNet_57 : decode cX0_addNet 57 = .ok (.iconst 1, 1) := by decide +kernel
theorem dX0_addNet_58 : decode cX0_addNet 58 = .ok (.iadd, 1) := by decide +kernel
theorem dX0_addNet_59 : decode cX0_addNet 59 = .ok (.putfield 51, 3) := by decide +kernel
theorem dX0_addNet_62 : decode cX0_addNet 62 = .ok (.aload_n 0, 1) := by decide +kernel
theorem dX0_addNet_63 : decode cX0_addNet 63 = .ok (.getfield 51, 3) := by decide +kernel
theorem dX0_addNet_66 : decode cX0_addNet 66 = .ok (.iconst 1, 1) := by decide +kernel
theorem dX0_addNet_67 : decode cX0_addNet 67 = .ok (.isub, 1) := by decide +kernel
theorem dX0_addNet_68 : decode cX0_addNet 68 = .ok (.ireturn, 1) := by decide +kernel
theorem dX0_refusalOfChip_0 : decode cX0_refusalOfChip 0 = .ok (.iload_n 1, 1) := by decide +kernel
theorem dX0_refusalOfChip_1 : decode cX0_refusalOfChip 1 = .ok (.invokestatic 81, 3) := by decide +kernel
theorem dX0_refusalOfChip_4 : decode cX0_refusalOfChip 4 = .ok (.ifCond .eq 15, 3) := by decide +kernel
theorem dX0_refusalOfChip_7 : decode cX0_refusalOfChip 7 = .ok (.iload_n 2, 1) := by decide +kernel
theorem dX0_refusalOfChip_8 : decode cX0_refusalOfChip 8 = .ok (.invokestatic 81, 3) := by decide +kernel
theorem dX0_refusalOfChip_11 : decode cX0_refusalOfChip 11 = .ok (.ifCond .eq 8, 3) := by decide +kernel
theorem dX0_refusalOfChip_14 : decode cX0_refusalOfChip 14 = .ok (.iload_n 1, 1) := by decide +kernel
theorem dX0_refusalOfChip_15 : decode cX0_refusalOfChip 15 = .ok (.iload_n 2, 1) := by decide +kernel
theorem dX0_refusalOfChip_16 : decode cX0_refusalOfChip 16 = .ok (.if_icmp .ne 6, 3) := by decide +kernel
theorem dX0_refusalOfChip_19 : decode cX0_refusalOfChip 19 = .ok (.ldc 74, 2) := by decide +kernel
theorem dX0_refusalOfChip_21 : decode cX0_refusalOfChip 21 = .ok (.ireturn, 1) := by decide +kernel
theorem dX0_refusalOfChip_22 : decode cX0_refusalOfChip 22 = .ok (.iload_n 3, 1) := by decide +kernel
theorem dX0_refusalOfChip_23 : decode cX0_refusalOfChip 23 = .ok (.ldc 73, 2) := by decide +kernel
theorem dX0_refusalOfChip_25 : decode cX0_refusalOfChip 25 = .ok (.iand, 1) := by decide +kernel
theorem dX0_refusalOfChip_26 : decode cX0_refusalOfChip 26 = .ok (.ifCond .ne 27, 3) := by decide +kernel
theorem dX0_refusalOfChip_29 : decode cX0_refusalOfChip 29 = .ok (.iload_n 3, 1) := by decide +kernel
theorem dX0_refusalOfChip_30 : decode cX0_refusalOfChip 30 = .ok (.invokestatic 67, 3) := by decide +kernel
theorem dX0_refusalOfChip_33 : decode cX0_refusalOfChip 33 = .ok (.iconst 5, 1) := by decide +kernel
theorem dX0_refusalOfChip_34 : decode cX0_refusalOfChip 34 = .ok (.if_icmp .gt 19, 3) := by decide +kernel
theorem dX0_refusalOfChip_37 : decode cX0_refusalOfChip 37 = .ok (.iload_n 3, 1) := by decide +kernel
theorem dX0_refusalOfChip_38 : decode cX0_refusalOfChip 38 = .ok (.iload_n 1, 1) := by decide +kernel
theorem dX0_refusalOfChip_39 : decode cX0_refusalOfChip 39 = .ok (.invokestatic 77, 3) := by decide +kernel
theorem dX0_refusalOfChip_42 : decode cX0_refusalOfChip 42 = .ok (.ifCond .ne 11, 3) := by decide +kernel
theorem dX0_refusalOfChip_45 : decode cX0_refusalOfChip 45 = .ok (.iload_n 3, 1) := by decide +kernel
theorem dX0_refusalOfChip_46 : decode cX0_refusalOfChip 46 = .ok (.iload_n 2, 1) := by decide +kernel
theorem dX0_refusalOfChip_47 : decode cX0_refusalOfChip 47 = .ok (.invokestatic 77, 3) := by decide +kernel
theorem dX0_refusalOfChip_50 : decode cX0_refusalOfChip 50 = .ok (.ifCond .eq 6, 3) := by decide +kernel
theorem dX0_refusalOfChip_53 : decode cX0_refusalOfChip 53 = .ok (.ldc 74, 2) := by decide +kernel
theorem dX0_refusalOfChip_55 : decode cX0_refusalOfChip 55 = .ok (.ireturn, 1) := by decide +kernel
theorem dX0_refusalOfChip_56 : decode cX0_refusalOfChip 56 = .ok (.iconst 1, 1) := by decide +kernel
theorem dX0_refusalOfChip_57 : decode cX0_refusalOfChip 57 = .ok (.iload_n 1, 1) := by decide +kernel
theorem dX0_refusalOfChip_58 : decode cX0_refusalOfChip 58 = .ok (.ishl, 1) := by decide +kernel
theorem dX0_refusalOfChip_59 : decode cX0_refusalOfChip 59 = .ok (.iconst 1, 1) := by decide +kernel
theorem dX0_refusalOfChip_60 : decode cX0_refusalOfChip 60 = .ok (.iload_n 2, 1) := by decide +kernel
theorem dX0_refusalOfChip_61 : decode cX0_refusalOfChip 61 = .ok (.ishl, 1) := by decide +kernel
theorem dX0_refusalOfChip_62 : decode cX0_refusalOfChip 62 = .ok (.ior, 1) := by decide +kernel
theorem dX0_refusalOfChip_63 : decode cX0_refusalOfChip 63 = .ok (.iload_n 3, 1) := by decide +kernel
theorem dX0_refusalOfChip_64 : decode cX0_refusalOfChip 64 = .ok (.ior, 1) := by decide +kernel
theorem dX0_refusalOfChip_65 : decode cX0_refusalOfChip 65 = .ok (.aload_n 0, 1) := by decide +kernel
theorem dX0_refusalOfChip_66 : decode cX0_refusalOfChip 66 = .ok (.getfield 64, 3) := by decide +kernel
theorem dX0_refusalOfChip_69 : decode cX0_refusalOfChip 69 = .ok (.iand, 1) := by decide +kernel
theorem dX0_refusalOfChip_70 : decode cX0_refusalOfChip 70 = .ok (.ifCond .eq 6, 3) := by decide +kernel
theorem dX0_refusalOfChip_73 : decode cX0_refusalOfChip 73 = .ok (.ldc 75, 2) := by decide +kernel
theorem dX0_refusalOfChip_75 : decode cX0_refusalOfChip 75 = .ok (.ireturn, 1) := by decide +kernel
theorem dX0_refusalOfChip_76 : decode cX0_refusalOfChip 76 = .ok (.aload_n 0, 1) := by decide +kernel
theorem dX0_refusalOfChip_77 : decode cX0_refusalOfChip 77 = .ok (.getfield 55, 3) := by decide +kernel
theorem dX0_refusalOfChip_80 : decode cX0_refusalOfChip 80 = .ok (.iconst 5, 1) := by decide +kernel
theorem dX0_refusalOfChip_81 : decode cX0_refusalOfChip 81 = .ok (.if_icmp .lt 8, 3) := by decide +kernel
theorem dX0_refusalOfChip_84 : decode cX0_refusalOfChip 84 = .ok (.ldc 76, 2) := by decide +kernel
theorem dX0_refusalOfChip_86 : decode cX0_refusalOfChip 86 = .ok (.goto 4, 3) := by decide +kernel
theorem dX0_refusalOfChip_89 : decode cX0_refusalOfChip 89 = .ok (.iconst 0, 1) := by decide +kernel
theorem dX0_refusalOfChip_90 : decode cX0_refusalOfChip 90 = .ok (.ireturn, 1) := by decide +kernel
theorem dX0_addChip_0 : decode cX0_addChip 0 = .ok (.aload_n 0, 1) := by decide +kernel
theorem dX0_addChip_1 : decode cX0_addChip 1 = .ok (.getfield 18, 3) := by decide +kernel
theorem dX0_addChip_4 : decode cX0_addChip 4 = .ok (.aload_n 0, 1) := by decide +kernel
theorem dX0_addChip_5 : decode cX0_addChip 5 = .ok (.getfield 55, 3) := by decide +kernel
theorem dX0_addChip_8 : decode cX0_addChip 8 = .ok (.iload_n 1, 1) := by decide +kernel
theorem dX0_addChip_9 : decode cX0_addChip 9 = .ok (.iastore, 1) := by decide +kernel
theorem dX0_addChip_10 : decode cX0_addChip 10 = .ok (.aload_n 0, 1) := by decide +kernel
theorem dX0_addChip_11 : decode cX0_addChip 11 = .ok (.getfield 21, 3) := by decide +kernel
theorem dX0_addChip_14 : decode cX0_addChip 14 = .ok (.aload_n 0, 1) := by decide +kernel
theorem dX0_addChip_15 : decode cX0_addChip 15 = .ok (.getfield 55, 3) := by decide +kernel
theorem dX0_addChip_18 : decode cX0_addChip 18 = .ok (.iload_n 2, 1) := by decide +kernel
theorem dX0_addChip_19 : decode cX0_addChip 19 = .ok (.iastore, 1) := by decide +kernel
theorem dX0_addChip_20 : decode cX0_addChip 20 = .ok (.aload_n 0, 1) := by decide +kernel
theorem dX0_addChip_21 : decode cX0_addChip 21 = .ok (.getfield 24, 3) := by decide +kernel
theorem dX0_addChip_24 : decode cX0_addChip 24 = .ok (.aload_n 0, 1) := by decide +kernel
theorem dX0_addChip_25 : decode cX0_addChip 25 = .ok (.getfield 55, 3) := by decide +kernel
theorem dX0_addChip_28 : decode cX0_addChip 28 = .ok (.iload_n 3, 1) := by decide +kernel
theorem dX0_addChip_29 : decode cX0_addChip 29 = .ok (.iastore, 1) := by decide +kernel
theorem dX0_addChip_30 : decode cX0_addChip 30 = .ok (.aload_n 0, 1) := by decide +kernel
theorem dX0_addChip_31 : decode cX0_addChip 31 = .ok (.dup, 1) := by decide +kernel
theorem dX0_addChip_32 : decode cX0_addChip 32 = .ok (.getfield 64, 3) := by decide +kernel
theorem dX0_addChip_35 : decode cX0_addChip 35 = .ok (.iconst 1, 1) := by decide +kernel
theorem dX0_addChip_36 : decode cX0_addChip 36 = .ok (.iload_n 1, 1) := by decide +kernel
theorem dX0_addChip_37 : decode cX0_addChip 37 = .ok (.ishl, 1) := by decide +kernel
theorem dX0_addChip_38 : decode cX0_addChip 38 = .ok (.iconst 1, 1) := by decide +kernel
theorem dX0_addChip_39 : decode cX0_addChip 39 = .ok (.iload_n 2, 1) := by decide +kernel
theorem dX0_addChip_40 : decode cX0_addChip 40 = .ok (.ishl, 1) := by decide +kernel
theorem dX0_addChip_41 : decode cX0_addChip 41 = .ok (.ior, 1) := by decide +kernel
theorem dX0_addChip_42 : decode cX0_addChip 42 = .ok (.iload_n 3, 1) := by decide +kernel
theorem dX0_addChip_43 : decode cX0_addChip 43 = .ok (.ior, 1) := by decide +kernel
theorem dX0_addChip_44 : decode cX0_addChip 44 = .ok (.ior, 1) := by decide +kernel
theorem dX0_addChip_45 : decode cX0_addChip 45 = .ok (.putfield 64, 3) := by decide +kernel
theorem dX0_addChip_48 : decode cX0_addChip 48 = .ok (.aload_n 0, 1) := by decide +kernel
theorem dX0_addChip_49 : decode cX0_addChip 49 = .ok (.dup, 1) := by decide +kernel
theorem dX0_addChip_50 : decode cX0_addChip 50 = .ok (.getfield 55, 3) := by decide +kernel
theorem dX0_addChip_53 : decode cX0_addChip 53 = .ok (.iconst 1, 1) := by decide +kernel
theorem dX0_addChip_54 : decode cX0_addChip 54 = .ok (.iadd, 1) := by decide +kernel
theorem dX0_addChip_55 : decode cX0_addChip 55 = .ok (.putfield 55, 3) := by decide +kernel
theorem dX0_addChip_58 : decode cX0_addChip 58 = .ok (.aload_n 0, 1) := by decide +kernel
theorem dX0_addChip_59 : decode cX0_addChip 59 = .ok (.getfield 55, 3) := by decide +kernel
theorem dX0_addChip_62 : decode cX0_addChip 62 = .ok (.iconst 1, 1) := by decide +kernel
theorem dX0_addChip_63 : decode cX0_addChip 63 = .ok (.isub, 1) := by decide +kernel
theorem dX0_addChip_64 : decode cX0_addChip 64 = .ok (.ireturn, 1) := by decide +kernel
theorem dX0_refusalOfFault_0 : decode cX0_refusalOfFault 0 = .ok (.iload_n 1, 1) := by decide +kernel
theorem dX0_refusalOfFault_1 : decode cX0_refusalOfFault 1 = .ok (.ifCond .lt 21, 3) := by decide +kernel
theorem dX0_refusalOfFault_4 : decode cX0_refusalOfFault 4 = .ok (.iload_n 1, 1) := by decide +kernel
theorem dX0_refusalOfFault_5 : decode cX0_refusalOfFault 5 = .ok (.iconst 5, 1) := by decide +kernel
theorem dX0_refusalOfFault_6 : decode cX0_refusalOfFault 6 = .ok (.if_icmp .ge 16, 3) := by decide +kernel
theorem dX0_refusalOfFault_9 : decode cX0_refusalOfFault 9 = .ok (.iload_n 2, 1) := by decide +kernel
theorem dX0_refusalOfFault_10 : decode cX0_refusalOfFault 10 = .ok (.ifCond .lt 12, 3) := by decide +kernel
theorem dX0_refusalOfFault_13 : decode cX0_refusalOfFault 13 = .ok (.iload_n 2, 1) := by decide +kernel
theorem dX0_refusalOfFault_14 : decode cX0_refusalOfFault 14 = .ok (.aload_n 0, 1) := by decide +kernel
theorem dX0_refusalOfFault_15 : decode cX0_refusalOfFault 15 = .ok (.iload_n 1, 1) := by decide +kernel
theorem dX0_refusalOfFault_16 : decode cX0_refusalOfFault 16 = .ok (.invokevirtual 85, 3) := by decide +kernel
theorem dX0_refusalOfFault_19 : decode cX0_refusalOfFault 19 = .ok (.if_icmp .lt 6, 3) := by decide +kernel
theorem dX0_refusalOfFault_22 : decode cX0_refusalOfFault 22 = .ok (.ldc 74, 2) := by decide +kernel
theorem dX0_refusalOfFault_24 : decode cX0_refusalOfFault 24 = .ok (.ireturn, 1) := by decide +kernel
theorem dX0_refusalOfFault_25 : decode cX0_refusalOfFault 25 = .ok (.iload_n 1, 1) := by decide +kernel
theorem dX0_refusalOfFault_26 : decode cX0_refusalOfFault 26 = .ok (.iconst 1, 1) := by decide +kernel
theorem dX0_refusalOfFault_27 : decode cX0_refusalOfFault 27 = .ok (.if_icmp .ne 24, 3) := by decide +kernel
theorem dX0_refusalOfFault_30 : decode cX0_refusalOfFault 30 = .ok (.iload_n 3, 1) := by decide +kernel
theorem dX0_refusalOfFault_31 : decode cX0_refusalOfFault 31 = .ok (.iload_n 2, 1) := by decide +kernel
theorem dX0_refusalOfFault_32 : decode cX0_refusalOfFault 32 = .ok (.if_icmp .le 15, 3) := by decide +kernel
theorem dX0_refusalOfFault_35 : decode cX0_refusalOfFault 35 = .ok (.iload_n 3, 1) := by decide +kernel
theorem dX0_refusalOfFault_36 : decode cX0_refusalOfFault 36 = .ok (.aload_n 0, 1) := by decide +kernel
theorem dX0_refusalOfFault_37 : decode cX0_refusalOfFault 37 = .ok (.getfield 51, 3) := by decide +kernel
theorem dX0_refusalOfFault_40 : decode cX0_refusalOfFault 40 = .ok (.if_icmp .ge 7, 3) := by decide +kernel
theorem dX0_refusalOfFault_43 : decode cX0_refusalOfFault 43 = .ok (.iconst 1, 1) := by decide +kernel
theorem dX0_refusalOfFault_44 : decode cX0_refusalOfFault 44 = .ok (.goto 16, 3) := by decide +kernel
theorem dX0_refusalOfFault_47 : decode cX0_refusalOfFault 47 = .ok (.iconst 0, 1) := by decide +kernel
theorem dX0_refusalOfFault_48 : decode cX0_refusalOfFault 48 = .ok (.goto 12, 3) := by decide +kernel
theorem dX0_refusalOfFault_51 : decode cX0_refusalOfFault 51 = .ok (.iload_n 3, 1) := by decide +kernel
theorem dX0_refusalOfFault_52 : decode cX0_refusalOfFault 52 = .ok (.ifCond .ne 7, 3) := by decide +kernel
theorem dX0_refusalOfFault_55 : decode cX0_refusalOfFault 55 = .ok (.iconst 1, 1) := by decide +kernel
theorem dX0_refusalOfFault_56 : decode cX0_refusalOfFault 56 = .ok (.goto 4, 3) := by decide +kernel
theorem dX0_refusalOfFault_59 : decode cX0_refusalOfFault 59 = .ok (.iconst 0, 1) := by decide +kernel
theorem dX0_refusalOfFault_60 : decode cX0_refusalOfFault 60 = .ok (.istore 4, 2) := by decide +kernel
theorem dX0_refusalOfFault_62 : decode cX0_refusalOfFault 62 = .ok (.iload 4, 2) := by decide +kernel
theorem dX0_refusalOfFault_64 : decode cX0_refusalOfFault 64 = .ok (.ifCond .ne 6, 3) := by decide +kernel
theorem dX0_refusalOfFault_67 : decode cX0_refusalOfFault 67 = .ok (.ldc 74, 2) := by decide +kernel
theorem dX0_refusalOfFault_69 : decode cX0_refusalOfFault 69 = .ok (.ireturn, 1) := by decide +kernel
theorem dX0_refusalOfFault_70 : decode cX0_refusalOfFault 70 = .ok (.iconst 0, 1) := by decide +kernel
theorem dX0_refusalOfFault_71 : decode cX0_refusalOfFault 71 = .ok (.istore 5, 2) := by decide +kernel
theorem dX0_refusalOfFault_73 : decode cX0_refusalOfFault 73 = .ok (.iload 5, 2) := by decide +kernel
theorem dX0_refusalOfFault_75 : decode cX0_refusalOfFault 75 = .ok (.aload_n 0, 1) := by decide +kernel
theorem dX0_refusalOfFault_76 : decode cX0_refusalOfFault 76 = .ok (.getfield 58, 3) := by decide +kernel
theorem dX0_refusalOfFault_79 : decode cX0_refusalOfFault 79 = .ok (.if_icmp .ge 45, 3) := by decide +kernel
theorem dX0_refusalOfFault_82 : decode cX0_refusalOfFault 82 = .ok (.aload_n 0, 1) := by decide +kernel
theorem dX0_refusalOfFault_83 : decode cX0_refusalOfFault 83 = .ok (.getfield 27, 3) := by decide +kernel
theorem dX0_refusalOfFault_86 : decode cX0_refusalOfFault 86 = .ok (.iload 5, 2) := by decide +kernel
theorem dX0_refusalOfFault_88 : decode cX0_refusalOfFault 88 = .ok (.iaload, 1) := by decide +kernel
theorem dX0_refusalOfFault_89 : decode cX0_refusalOfFault 89 = .ok (.iload_n 1, 1) := by decide +kernel
theorem dX0_refusalOfFault_90 : decode cX0_refusalOfFault 90 = .ok (.if_icmp .ne 28, 3) := by decide +kernel
theorem dX0_refusalOfFault_93 : decode cX0_refusalOfFault 93 = .ok (.aload_n 0, 1) := by decide +kernel
theorem dX0_refusalOfFault_94 : decode cX0_refusalOfFault 94 = .ok (.getfield 30, 3) := by decide +kernel
theorem dX0_refusalOfFault_97 : decode cX0_refusalOfFault 97 = .ok (.iload 5, 2) := by decide +kernel
theorem dX0_refusalOfFault_99 : decode cX0_refusalOfFault 99 = .ok (.iaload, 1) := by decide +kernel
theorem dX0_refusalOfFault_100 : decode cX0_refusalOfFault 100 = .ok (.iload_n 2, 1) := by decide +kernel
theorem dX0_refusalOfFault_101 : decode cX0_refusalOfFault 101 = .ok (.if_icmp .ne 17, 3) := by decide +kernel
theorem dX0_refusalOfFault_104 : decode cX0_refusalOfFault 104 = .ok (.aload_n 0, 1) := by decide +kernel
theorem dX0_refusalOfFault_105 : decode cX0_refusalOfFault 105 = .ok (.getfield 33, 3) := by decide +kernel
theorem dX0_refusalOfFault_108 : decode cX0_refusalOfFault 108 = .ok (.iload 5, 2) := by decide +kernel
theorem dX0_refusalOfFault_110 : decode cX0_refusalOfFault 110 = .ok (.iaload, 1) := by decide +kernel
theorem dX0_refusalOfFault_111 : decode cX0_refusalOfFault 111 = .ok (.iload_n 3, 1) := by decide +kernel
theorem dX0_refusalOfFault_112 : decode cX0_refusalOfFault 112 = .ok (.if_icmp .ne 6, 3) := by decide +kernel
theorem dX0_refusalOfFault_115 : decode cX0_refusalOfFault 115 = .ok (.ldc 75, 2) := by decide +kernel
theorem dX0_refusalOfFault_117 : decode cX0_refusalOfFault 117 = .ok (.ireturn, 1) := by decide +kernel
theorem dX0_refusalOfFault_118 : decode cX0_refusalOfFault 118 = .ok (.iinc 5 1, 3) := by decide +kernel
theorem dX0_refusalOfFault_121 : decode cX0_refusalOfFault 121 = .ok (.goto (-48), 3) := by decide +kernel
theorem dX0_refusalOfFault_124 : decode cX0_refusalOfFault 124 = .ok (.aload_n 0, 1) := by decide +kernel
theorem dX0_refusalOfFault_125 : decode cX0_refusalOfFault 125 = .ok (.getfield 58, 3) := by decide +kernel
theorem dX0_refusalOfFault_128 : decode cX0_refusalOfFault 128 = .ok (.bipush 10, 2) := by decide +kernel
theorem dX0_refusalOfFault_130 : decode cX0_refusalOfFault 130 = .ok (.if_icmp .lt 8, 3) := by decide +kernel
theorem dX0_refusalOfFault_133 : decode cX0_refusalOfFault 133 = .ok (.ldc 76, 2) := by decide +kernel
theorem dX0_refusalOfFault_135 : decode cX0_refusalOfFault 135 = .ok (.goto 4, 3) := by decide +kernel
theorem dX0_refusalOfFault_138 : decode cX0_refusalOfFault 138 = .ok (.iconst 0, 1) := by decide +kernel
theorem dX0_refusalOfFault_139 : decode cX0_refusalOfFault 139 = .ok (.ireturn, 1) := by decide +kernel
theorem dX0_placesFor_0 : decode cX0_placesFor 0 = .ok (.iload_n 1, 1) := by decide +kernel
theorem dX0_placesFor_1 : decode cX0_placesFor 1 = .ok (.ifCond .ne 6, 3) := by decide +kernel
theorem dX0_placesFor_4 : decode cX0_placesFor 4 = .ok (.bipush 16, 2) := by decide +kernel
theorem dX0_placesFor_6 : decode cX0_placesFor 6 = .ok (.ireturn, 1) := by decide +kernel
theorem dX0_placesFor_7 : decode cX0_placesFor 7 = .ok (.iload_n 1, 1) := by decide +kernel
theorem dX0_placesFor_8 : decode cX0_placesFor 8 = .ok (.iconst 4, 1) := by decide +kernel
theorem dX0_placesFor_9 : decode cX0_placesFor 9 = .ok (.if_icmp .ne 10, 3) := by decide +kernel
theorem dX0_placesFor_12 : decode cX0_placesFor 12 = .ok (.aload_n 0, 1) := by decide +kernel
theorem dX0_placesFor_13 : decode cX0_placesFor 13 = .ok (.getfield 55, 3) := by decide +kernel
theorem dX0_placesFor_16 : decode cX0_placesFor 16 = .ok (.goto 7, 3) := by decide +kernel
theorem dX0_placesFor_19 : decode cX0_placesFor 19 = .ok (.aload_n 0, 1) := by decide +kernel
theorem dX0_placesFor_20 : decode cX0_placesFor 20 = .ok (.getfield 51, 3) := by decide +kernel
theorem dX0_placesFor_23 : decode cX0_placesFor 23 = .ok (.ireturn, 1) := by decide +kernel
theorem dX0_addFault_0 : decode cX0_addFault 0 = .ok (.aload_n 0, 1) := by decide +kernel
theorem dX0_addFault_1 : decode cX0_addFault 1 = .ok (.getfield 27, 3) := by decide +kernel
theorem dX0_addFault_4 : decode cX0_addFault 4 = .ok (.aload_n 0, 1) := by decide +kernel
theorem dX0_addFault_5 : decode cX0_addFault 5 = .ok (.getfield 58, 3) := by decide +kernel
theorem dX0_addFault_8 : decode cX0_addFault 8 = .ok (.iload_n 1, 1) := by decide +kernel
theorem dX0_addFault_9 : decode cX0_addFault 9 = .ok (.iastore, 1) := by decide +kernel
theorem dX0_addFault_10 : decode cX0_addFault 10 = .ok (.aload_n 0, 1) := by decide +kernel
theorem dX0_addFault_11 : decode cX0_addFault 11 = .ok (.getfield 30, 3) := by decide +kernel
theorem dX0_addFault_14 : decode cX0_addFault 14 = .ok (.aload_n 0, 1) := by decide +kernel
theorem dX0_addFault_15 : decode cX0_addFault 15 = .ok (.getfield 58, 3) := by decide +kernel
theorem dX0_addFault_18 : decode cX0_addFault 18 = .ok (.iload_n 2, 1) := by decide +kernel
theorem dX0_addFault_19 : decode cX0_addFault 19 = .ok (.iastore, 1) := by decide +kernel
theorem dX0_addFault_20 : decode cX0_addFault 20 = .ok (.aload_n 0, 1) := by decide +kernel
theorem dX0_addFault_21 : decode cX0_addFault 21 = .ok (.getfield 33, 3) := by decide +kernel
theorem dX0_addFault_24 : decode cX0_addFault 24 = .ok (.aload_n 0, 1) := by decide +kernel
theorem dX0_addFault_25 : decode cX0_addFault 25 = .ok (.getfield 58, 3) := by decide +kernel
theorem dX0_addFault_28 : decode cX0_addFault 28 = .ok (.iload_n 3, 1) := by decide +kernel
theorem dX0_addFault_29 : decode cX0_addFault 29 = .ok (.iastore, 1) := by decide +kernel
theorem dX0_addFault_30 : decode cX0_addFault 30 = .ok (.aload_n 0, 1) := by decide +kernel
theorem dX0_addFault_31 : decode cX0_addFault 31 = .ok (.dup, 1) := by decide +kernel
theorem dX0_addFault_32 : decode cX0_addFault 32 = .ok (.getfield 58, 3) := by decide +kernel
theorem dX0_addFault_35 : decode cX0_addFault 35 = .ok (.iconst 1, 1) := by decide +kernel
theorem dX0_addFault_36 : decode cX0_addFault 36 = .ok (.iadd, 1) := by decide +kernel
theorem dX0_addFault_37 : decode cX0_addFault 37 = .ok (.putfield 58, 3) := by decide +kernel
theorem dX0_addFault_40 : decode cX0_addFault 40 = .ok (.aload_n 0, 1) := by decide +kernel
theorem dX0_addFault_41 : decode cX0_addFault 41 = .ok (.getfield 58, 3) := by decide +kernel
theorem dX0_addFault_44 : decode cX0_addFault 44 = .ok (.iconst 1, 1) := by decide +kernel
theorem dX0_addFault_45 : decode cX0_addFault 45 = .ok (.isub, 1) := by decide +kernel
theorem dX0_addFault_46 : decode cX0_addFault 46 = .ok (.ireturn, 1) := by decide +kernel
theorem dX0_setBlessing_0 : decode cX0_setBlessing 0 = .ok (.aload_n 0, 1) := by decide +kernel
theorem dX0_setBlessing_1 : decode cX0_setBlessing 1 = .ok (.getfield 36, 3) := by decide +kernel
theorem dX0_setBlessing_4 : decode cX0_setBlessing 4 = .ok (.iload_n 1, 1) := by decide +kernel
theorem dX0_setBlessing_5 : decode cX0_setBlessing 5 = .ok (.iaload, 1) := by decide +kernel
theorem dX0_setBlessing_6 : decode cX0_setBlessing 6 = .ok (.istore_n 3, 1) := by decide +kernel
theorem dX0_setBlessing_7 : decode cX0_setBlessing 7 = .ok (.aload_n 0, 1) := by decide +kernel
theorem dX0_setBlessing_8 : decode cX0_setBlessing 8 = .ok (.getfield 36, 3) := by decide +kernel
theorem dX0_setBlessing_11 : decode cX0_setBlessing 11 = .ok (.iload_n 1, 1) := by decide +kernel
theorem dX0_setBlessing_12 : decode cX0_setBlessing 12 = .ok (.iload_n 2, 1) := by decide +kernel
theorem dX0_setBlessing_13 : decode cX0_setBlessing 13 = .ok (.iastore, 1) := by decide +kernel
theorem dX0_setBlessing_14 : decode cX0_setBlessing 14 = .ok (.iload_n 3, 1) := by decide +kernel
theorem dX0_setBlessing_15 : decode cX0_setBlessing 15 = .ok (.ireturn, 1) := by decide +kernel
theorem dX0_blessedOn_0 : decode cX0_blessedOn 0 = .ok (.iconst 0, 1) := by decide +kernel
theorem dX0_blessedOn_1 : decode cX0_blessedOn 1 = .ok (.istore_n 2, 1) := by decide +kernel
theorem dX0_blessedOn_2 : decode cX0_blessedOn 2 = .ok (.iconst 0, 1) := by decide +kernel
theorem dX0_blessedOn_3 : decode cX0_blessedOn 3 = .ok (.istore_n 3, 1) := by decide +kernel
theorem dX0_blessedOn_4 : decode cX0_blessedOn 4 = .ok (.iload_n 3, 1) := by decide +kernel
theorem dX0_blessedOn_5 : decode cX0_blessedOn 5 = .ok (.bipush 16, 2) := by decide +kernel
theorem dX0_blessedOn_7 : decode cX0_blessedOn 7 = .ok (.if_icmp .ge 28, 3) := by decide +kernel
theorem dX0_blessedOn_10 : decode cX0_blessedOn 10 = .ok (.aload_n 0, 1) := by decide +kernel
theorem dX0_blessedOn_11 : decode cX0_blessedOn 11 = .ok (.getfield 36, 3) := by decide +kernel
theorem dX0_blessedOn_14 : decode cX0_blessedOn 14 = .ok (.iload_n 3, 1) := by decide +kernel
theorem dX0_blessedOn_15 : decode cX0_blessedOn 15 = .ok (.iaload, 1) := by decide +kernel
theorem dX0_blessedOn_16 : decode cX0_blessedOn 16 = .ok (.iload_n 1, 1) := by decide +kernel
theorem dX0_blessedOn_17 : decode cX0_blessedOn 17 = .ok (.invokestatic 77, 3) := by decide +kernel
theorem dX0_blessedOn_20 : decode cX0_blessedOn 20 = .ok (.ifCond .eq 9, 3) := by decide +kernel
theorem dX0_blessedOn_23 : decode cX0_blessedOn 23 = .ok (.iload_n 2, 1) := by decide +kernel
theorem dX0_blessedOn_24 : decode cX0_blessedOn 24 = .ok (.iconst 1, 1) := by decide +kernel
theorem dX0_blessedOn_25 : decode cX0_blessedOn 25 = .ok (.iload_n 3, 1) := by decide +kernel
theorem dX0_blessedOn_26 : decode cX0_blessedOn 26 = .ok (.ishl, 1) := by decide +kernel
theorem dX0_blessedOn_27 : decode cX0_blessedOn 27 = .ok (.ior, 1) := by decide +kernel
theorem dX0_blessedOn_28 : decode cX0_blessedOn 28 = .ok (.istore_n 2, 1) := by decide +kernel
theorem dX0_blessedOn_29 : decode cX0_blessedOn 29 = .ok (.iinc 3 1, 3) := by decide +kernel
theorem dX0_blessedOn_32 : decode cX0_blessedOn 32 = .ok (.goto (-28), 3) := by decide +kernel
theorem dX0_blessedOn_35 : decode cX0_blessedOn 35 = .ok (.iload_n 2, 1) := by decide +kernel
theorem dX0_blessedOn_36 : decode cX0_blessedOn 36 = .ok (.ireturn, 1) := by decide +kernel
theorem dX0_chipWith_0 : decode cX0_chipWith 0 = .ok (.iconst 0, 1) := by decide +kernel
theorem dX0_chipWith_1 : decode cX0_chipWith 1 = .ok (.istore_n 2, 1) := by decide +kernel
theorem dX0_chipWith_2 : decode cX0_chipWith 2 = .ok (.iload_n 2, 1) := by decide +kernel
theorem dX0_chipWith_3 : decode cX0_chipWith 3 = .ok (.aload_n 0, 1) := by decide +kernel
theorem dX0_chipWith_4 : decode cX0_chipWith 4 = .ok (.getfield 55, 3) := by decide +kernel
theorem dX0_chipWith_7 : decode cX0_chipWith 7 = .ok (.if_icmp .ge 44, 3) := by decide +kernel
theorem dX0_chipWith_10 : decode cX0_chipWith 10 = .ok (.aload_n 0, 1) := by decide +kernel
theorem dX0_chipWith_11 : decode cX0_chipWith 11 = .ok (.getfield 18, 3) := by decide +kernel
theorem dX0_chipWith_14 : decode cX0_chipWith 14 = .ok (.iload_n 2, 1) := by decide +kernel
theorem dX0_chipWith_15 : decode cX0_chipWith 15 = .ok (.iaload, 1) := by decide +kernel
theorem dX0_chipWith_16 : decode cX0_chipWith 16 = .ok (.iload_n 1, 1) := by decide +kernel
theorem dX0_chipWith_17 : decode cX0_chipWith 17 = .ok (.if_icmp .eq 26, 3) := by decide +kernel
theorem dX0_chipWith_20 : decode cX0_chipWith 20 = .ok (.aload_n 0, 1) := by decide +kernel
theorem dX0_chipWith_21 : decode cX0_chipWith 21 = .ok (.getfield 21, 3) := by decide +kernel
theorem dX0_chipWith_24 : decode cX0_chipWith 24 = .ok (.iload_n 2, 1) := by decide +kernel
theorem dX0_chipWith_25 : decode cX0_chipWith 25 = .ok (.iaload, 1) := by decide +kernel
theorem dX0_chipWith_26 : decode cX0_chipWith 26 = .ok (.iload_n 1, 1) := by decide +kernel
theorem dX0_chipWith_27 : decode cX0_chipWith 27 = .ok (.if_icmp .eq 16, 3) := by decide +kernel
theorem dX0_chipWith_30 : decode cX0_chipWith 30 = .ok (.aload_n 0, 1) := by decide +kernel
theorem dX0_chipWith_31 : decode cX0_chipWith 31 = .ok (.getfield 24, 3) := by decide +kernel
theorem dX0_chipWith_34 : decode cX0_chipWith 34 = .ok (.iload_n 2, 1) := by decide +kernel
theorem dX0_chipWith_35 : decode cX0_chipWith 35 = .ok (.iaload, 1) := by decide +kernel
theorem dX0_chipWith_36 : decode cX0_chipWith 36 = .ok (.iload_n 1, 1) := by decide +kernel
theorem dX0_chipWith_37 : decode cX0_chipWith 37 = .ok (.invokestatic 77, 3) := by decide +kernel
theorem dX0_chipWith_40 : decode cX0_chipWith 40 = .ok (.ifCond .eq 5, 3) := by decide +kernel
theorem dX0_chipWith_43 : decode cX0_chipWith 43 = .ok (.iload_n 2, 1) := by decide +kernel
theorem dX0_chipWith_44 : decode cX0_chipWith 44 = .ok (.ireturn, 1) := by decide +kernel
theorem dX0_chipWith_45 : decode cX0_chipWith 45 = .ok (.iinc 2 1, 3) := by decide +kernel
theorem dX0_chipWith_48 : decode cX0_chipWith 48 = .ok (.goto (-46), 3) := by decide +kernel
theorem dX0_chipWith_51 : decode cX0_chipWith 51 = .ok (.iconst (-1), 1) := by decide +kernel
theorem dX0_chipWith_52 : decode cX0_chipWith 52 = .ok (.ireturn, 1) := by decide +kernel
theorem dX0_roleOf_0 : decode cX0_roleOf 0 = .ok (.aload_n 0, 1) := by decide +kernel
theorem dX0_roleOf_1 : decode cX0_roleOf 1 = .ok (.iload_n 1, 1) := by decide +kernel
theorem dX0_roleOf_2 : decode cX0_roleOf 2 = .ok (.invokevirtual 88, 3) := by decide +kernel
theorem dX0_roleOf_5 : decode cX0_roleOf 5 = .ok (.istore_n 2, 1) := by decide +kernel
theorem dX0_roleOf_6 : decode cX0_roleOf 6 = .ok (.iload_n 2, 1) := by decide +kernel
theorem dX0_roleOf_7 : decode cX0_roleOf 7 = .ok (.iconst (-1), 1) := by decide +kernel
theorem dX0_roleOf_8 : decode cX0_roleOf 8 = .ok (.if_icmp .ne 5, 3) := by decide +kernel
theorem dX0_roleOf_11 : decode cX0_roleOf 11 = .ok (.iconst (-1), 1) := by decide +kernel
theorem dX0_roleOf_12 : decode cX0_roleOf 12 = .ok (.ireturn, 1) := by decide +kernel
theorem dX0_roleOf_13 : decode cX0_roleOf 13 = .ok (.aload_n 0, 1) := by decide +kernel
theorem dX0_roleOf_14 : decode cX0_roleOf 14 = .ok (.getfield 18, 3) := by decide +kernel
theorem dX0_roleOf_17 : decode cX0_roleOf 17 = .ok (.iload_n 2, 1) := by decide +kernel
theorem dX0_roleOf_18 : decode cX0_roleOf 18 = .ok (.iaload, 1) := by decide +kernel
theorem dX0_roleOf_19 : decode cX0_roleOf 19 = .ok (.iload_n 1, 1) := by decide +kernel
theorem dX0_roleOf_20 : decode cX0_roleOf 20 = .ok (.if_icmp .ne 5, 3) := by decide +kernel
theorem dX0_roleOf_23 : decode cX0_roleOf 23 = .ok (.iconst 0, 1) := by decide +kernel
theorem dX0_roleOf_24 : decode cX0_roleOf 24 = .ok (.ireturn, 1) := by decide +kernel
theorem dX0_roleOf_25 : decode cX0_roleOf 25 = .ok (.aload_n 0, 1) := by decide +kernel
theorem dX0_roleOf_26 : decode cX0_roleOf 26 = .ok (.getfield 21, 3) := by decide +kernel
theorem dX0_roleOf_29 : decode cX0_roleOf 29 = .ok (.iload_n 2, 1) := by decide +kernel
theorem dX0_roleOf_30 : decode cX0_roleOf 30 = .ok (.iaload, 1) := by decide +kernel
theorem dX0_roleOf_31 : decode cX0_roleOf 31 = .ok (.iload_n 1, 1) := by decide +kernel
theorem dX0_roleOf_32 : decode cX0_roleOf 32 = .ok (.if_icmp .ne 7, 3) := by decide +kernel
theorem dX0_roleOf_35 : decode cX0_roleOf 35 = .ok (.iconst 1, 1) := by decide +kernel
theorem dX0_roleOf_36 : decode cX0_roleOf 36 = .ok (.goto 4, 3) := by decide +kernel
theorem dX0_roleOf_39 : decode cX0_roleOf 39 = .ok (.iconst 2, 1) := by decide +kernel
theorem dX0_roleOf_40 : decode cX0_roleOf 40 = .ok (.ireturn, 1) := by decide +kernel
theorem dX0_isFault_0 : decode cX0_isFault 0 = .ok (.iload_n 1, 1) := by decide +kernel
theorem dX0_isFault_1 : decode cX0_isFault 1 = .ok (.ifCond .lt 15, 3) := by decide +kernel
theorem dX0_isFault_4 : decode cX0_isFault 4 = .ok (.iload_n 1, 1) := by decide +kernel
theorem dX0_isFault_5 : decode cX0_isFault 5 = .ok (.aload_n 0, 1) := by decide +kernel
theorem dX0_isFault_6 : decode cX0_isFault 6 = .ok (.getfield 58, 3) := by decide +kernel
theorem dX0_isFault_9 : decode cX0_isFault 9 = .ok (.if_icmp .ge 7, 3) := by decide +kernel
theorem dX0_isFault_12 : decode cX0_isFault 12 = .ok (.iconst 1, 1) := by decide +kernel
theorem dX0_isFault_13 : decode cX0_isFault 13 = .ok (.goto 4, 3) := by decide +kernel
theorem dX0_isFault_16 : decode cX0_isFault 16 = .ok (.iconst 0, 1) := by decide +kernel
theorem dX0_isFault_17 : decode cX0_isFault 17 = .ok (.ireturn, 1) := by decide +kernel
theorem dX0_allSuspects_0 : decode cX0_allSuspects 0 = .ok (.sipush 1024, 3) := by decide +kernel
theorem dX0_allSuspects_3 : decode cX0_allSuspects 3 = .ok (.iconst 1, 1) := by decide +kernel
theorem dX0_allSuspects_4 : decode cX0_allSuspects 4 = .ok (.aload_n 0, 1) := by decide +kernel
theorem dX0_allSuspects_5 : decode cX0_allSuspects 5 = .ok (.getfield 58, 3) := by decide +kernel
theorem dX0_allSuspects_8 : decode cX0_allSuspects 8 = .ok (.ishl, 1) := by decide +kernel
theorem dX0_allSuspects_9 : decode cX0_allSuspects 9 = .ok (.iconst 1, 1) := by decide +kernel
theorem dX0_allSuspects_10 : decode cX0_allSuspects 10 = .ok (.isub, 1) := by decide +kernel
theorem dX0_allSuspects_11 : decode cX0_allSuspects 11 = .ok (.ior, 1) := by decide +kernel
theorem dX0_allSuspects_12 : decode cX0_allSuspects 12 = .ok (.ireturn, 1) := by decide +kernel
theorem dX0_suffers_0 : decode cX0_suffers 0 = .ok (.aload_n 0, 1) := by decide +kernel
theorem dX0_suffers_1 : decode cX0_suffers 1 = .ok (.iload_n 1, 1) := by decide +kernel
theorem dX0_suffers_2 : decode cX0_suffers 2 = .ok (.invokevirtual 91, 3) := by decide +kernel
theorem dX0_suffers_5 : decode cX0_suffers 5 = .ok (.ifCond .eq 27, 3) := by decide +kernel
theorem dX0_suffers_8 : decode cX0_suffers 8 = .ok (.aload_n 0, 1) := by decide +kernel
theorem dX0_suffers_9 : decode cX0_suffers 9 = .ok (.getfield 27, 3) := by decide +kernel
theorem dX0_suffers_12 : decode cX0_suffers 12 = .ok (.iload_n 1, 1) := by decide +kernel
theorem dX0_suffers_13 : decode cX0_suffers 13 = .ok (.iaload, 1) := by decide +kernel
theorem dX0_suffers_14 : decode cX0_suffers 14 = .ok (.iload_n 2, 1) := by decide +kernel
theorem dX0_suffers_15 : decode cX0_suffers 15 = .ok (.if_icmp .ne 17, 3) := by decide +kernel
theorem dX0_suffers_18 : decode cX0_suffers 18 = .ok (.aload_n 0, 1) := by decide +kernel
theorem dX0_suffers_19 : decode cX0_suffers 19 = .ok (.getfield 30, 3) := by decide +kernel
theorem dX0_suffers_22 : decode cX0_suffers 22 = .ok (.iload_n 1, 1) := by decide +kernel
theorem dX0_suffers_23 : decode cX0_suffers 23 = .ok (.iaload, 1) := by decide +kernel
theorem dX0_suffers_24 : decode cX0_suffers 24 = .ok (.iload_n 3, 1) := by decide +kernel
theorem dX0_suffers_25 : decode cX0_suffers 25 = .ok (.if_icmp .ne 7, 3) := by decide +kernel
theorem dX0_suffers_28 : decode cX0_suffers 28 = .ok (.iconst 1, 1) := by decide +kernel
theorem dX0_suffers_29 : decode cX0_suffers 29 = .ok (.goto 4, 3) := by decide +kernel
theorem dX0_suffers_32 : decode cX0_suffers 32 = .ok (.iconst 0, 1) := by decide +kernel
theorem dX0_suffers_33 : decode cX0_suffers 33 = .ok (.ireturn, 1) := by decide +kernel
theorem dX0_shortedWith_0 : decode cX0_shortedWith 0 = .ok (.aload_n 0, 1) := by decide +kernel
theorem dX0_shortedWith_1 : decode cX0_shortedWith 1 = .ok (.iload_n 1, 1) := by decide +kernel
theorem dX0_shortedWith_2 : decode cX0_shortedWith 2 = .ok (.invokevirtual 91, 3) := by decide +kernel
theorem dX0_shortedWith_5 : decode cX0_shortedWith 5 = .ok (.ifCond .eq 13, 3) := by decide +kernel
theorem dX0_shortedWith_8 : decode cX0_shortedWith 8 = .ok (.aload_n 0, 1) := by decide +kernel
theorem dX0_shortedWith_9 : decode cX0_shortedWith 9 = .ok (.getfield 27, 3) := by decide +kernel
theorem dX0_shortedWith_12 : decode cX0_shortedWith 12 = .ok (.iload_n 1, 1) := by decide +kernel
theorem dX0_shortedWith_13 : decode cX0_shortedWith 13 = .ok (.iaload, 1) := by decide +kernel
theorem dX0_shortedWith_14 : decode cX0_shortedWith 14 = .ok (.iconst 1, 1) := by decide +kernel
theorem dX0_shortedWith_15 : decode cX0_shortedWith 15 = .ok (.if_icmp .eq 5, 3) := by decide +kernel
theorem dX0_shortedWith_18 : decode cX0_shortedWith 18 = .ok (.iconst (-1), 1) := by decide +kernel
theorem dX0_shortedWith_19 : decode cX0_shortedWith 19 = .ok (.ireturn, 1) := by decide +kernel
theorem dX0_shortedWith_20 : decode cX0_shortedWith 20 = .ok (.aload_n 0, 1) := by decide +kernel
theorem dX0_shortedWith_21 : decode cX0_shortedWith 21 = .ok (.getfield 30, 3) := by decide +kernel
theorem dX0_shortedWith_24 : decode cX0_shortedWith 24 = .ok (.iload_n 1, 1) := by decide +kernel
theorem dX0_shortedWith_25 : decode cX0_shortedWith 25 = .ok (.iaload, 1) := by decide +kernel
theorem dX0_shortedWith_26 : decode cX0_shortedWith 26 = .ok (.iload_n 2, 1) := by decide +kernel
theorem dX0_shortedWith_27 : decode cX0_shortedWith 27 = .ok (.if_icmp .ne 10, 3) := by decide +kernel
theorem dX0_shortedWith_30 : decode cX0_shortedWith 30 = .ok (.aload_n 0, 1) := by decide +kernel
theorem dX0_shortedWith_31 : decode cX0_shortedWith 31 = .ok (.getfield 33, 3) := by decide +kernel
theorem dX0_shortedWith_34 : decode cX0_shortedWith 34 = .ok (.iload_n 1, 1) := by decide +kernel
theorem dX0_shortedWith_35 : decode cX0_shortedWith 35 = .ok (.iaload, 1) := by decide +kernel
theorem dX0_shortedWith_36 : decode cX0_shortedWith 36 = .ok (.ireturn, 1) := by decide +kernel
theorem dX0_shortedWith_37 : decode cX0_shortedWith 37 = .ok (.aload_n 0, 1) := by decide +kernel
theorem dX0_shortedWith_38 : decode cX0_shortedWith 38 = .ok (.getfield 33, 3) := by decide +kernel
theorem dX0_shortedWith_41 : decode cX0_shortedWith 41 = .ok (.iload_n 1, 1) := by decide +kernel
theorem dX0_shortedWith_42 : decode cX0_shortedWith 42 = .ok (.iaload, 1) := by decide +kernel
theorem dX0_shortedWith_43 : decode cX0_shortedWith 43 = .ok (.iload_n 2, 1) := by decide +kernel
theorem dX0_shortedWith_44 : decode cX0_shortedWith 44 = .ok (.if_icmp .ne 12, 3) := by decide +kernel
theorem dX0_shortedWith_47 : decode cX0_shortedWith 47 = .ok (.aload_n 0, 1) := by decide +kernel
theorem dX0_shortedWith_48 : decode cX0_shortedWith 48 = .ok (.getfield 30, 3) := by decide +kernel
theorem dX0_shortedWith_51 : decode cX0_shortedWith 51 = .ok (.iload_n 1, 1) := by decide +kernel
theorem dX0_shortedWith_52 : decode cX0_shortedWith 52 = .ok (.iaload, 1) := by decide +kernel
theorem dX0_shortedWith_53 : decode cX0_shortedWith 53 = .ok (.goto 4, 3) := by decide +kernel
theorem dX0_shortedWith_56 : decode cX0_shortedWith 56 = .ok (.iconst (-1), 1) := by decide +kernel
theorem dX0_shortedWith_57 : decode cX0_shortedWith 57 = .ok (.ireturn, 1) := by decide +kernel
theorem dX1_init_0 : decode cX1_init 0 = .ok (.aload_n 0, 1) := by decide +kernel
theorem dX1_init_1 : decode cX1_init 1 = .ok (.invokespecial 3, 3) := by decide +kernel
theorem dX1_init_4 : decode cX1_init 4 = .ok (.aload_n 0, 1) := by decide +kernel
theorem dX1_init_5 : decode cX1_init 5 = .ok (.iconst 4, 1) := by decide +kernel
theorem dX1_init_6 : decode cX1_init 6 = .ok (.anewarray 9, 3) := by decide +kernel
theorem dX1_init_9 : decode cX1_init 9 = .ok (.putfield 11, 3) := by decide +kernel
theorem dX1_init_12 : decode cX1_init 12 = .ok (.iconst 0, 1) := by decide +kernel
theorem dX1_init_13 : decode cX1_init 13 = .ok (.istore_n 1, 1) := by decide +kernel
theorem dX1_init_14 : decode cX1_init 14 = .ok (.iload_n 1, 1) := by decide +kernel
theorem dX1_init_15 : decode cX1_init 15 = .ok (.iconst 4, 1) := by decide +kernel
theorem dX1_init_16 : decode cX1_init 16 = .ok (.if_icmp .ge 29, 3) := by decide +kernel
theorem dX1_init_19 : decode cX1_init 19 = .ok (.aload_n 0, 1) := by decide +kernel
theorem dX1_init_20 : decode cX1_init 20 = .ok (.getfield 11, 3) := by decide +kernel
theorem dX1_init_23 : decode cX1_init 23 = .ok (.iload_n 1, 1) := by decide +kernel
theorem dX1_init_24 : decode cX1_init 24 = .ok (.new 9, 3) := by decide +kernel
theorem dX1_init_27 : decode cX1_init 27 = .ok (.dup, 1) := by decide +kernel
theorem dX1_init_28 : decode cX1_init 28 = .ok (.new 17, 3) := by decide +kernel
theorem dX1_init_31 : decode cX1_init 31 = .ok (.dup, 1) := by decide +kernel
theorem dX1_init_32 : decode cX1_init 32 = .ok (.invokespecial 19, 3) := by decide +kernel
theorem dX1_init_35 : decode cX1_init 35 = .ok (.invokespecial 20, 3) := by decide +kernel
theorem dX1_init_38 : decode cX1_init 38 = .ok (.aastore, 1) := by decide +kernel
theorem dX1_init_39 : decode cX1_init 39 = .ok (.iinc 1 1, 3) := by decide +kernel
theorem dX1_init_42 : decode cX1_init 42 = .ok (.goto (-28), 3) := by decide +kernel
theorem dX1_init_45 : decode cX1_init 45 = .ok (.return_, 1) := by decide +kernel
theorem dX1_keep_0 : decode cX1_keep 0 = .ok (.aload_n 0, 1) := by decide +kernel
theorem dX1_keep_1 : decode cX1_keep 1 = .ok (.getfield 23, 3) := by decide +kernel
theorem dX1_keep_4 : decode cX1_keep 4 = .ok (.iconst 4, 1) := by decide +kernel
theorem dX1_keep_5 : decode cX1_keep 5 = .ok (.if_icmp .lt 7, 3) := by decide +kernel
theorem dX1_keep_8 : decode cX1_keep 8 = .ok (.aload_n 0, 1) := by decide +kernel
theorem dX1_keep_9 : decode cX1_keep 9 = .ok (.invokevirtual 27, 3) := by decide +kernel
theorem dX1_keep_12 : decode cX1_keep 12 = .ok (.aload_n 0, 1) := by decide +kernel
theorem dX1_keep_13 : decode cX1_keep 13 = .ok (.getfield 11, 3) := by decide +kernel
theorem dX1_keep_16 : decode cX1_keep 16 = .ok (.aload_n 0, 1) := by decide +kernel
theorem dX1_keep_17 : decode cX1_keep 17 = .ok (.getfield 23, 3) := by decide +kernel
theorem dX1_keep_20 : decode cX1_keep 20 = .ok (.aaload, 1) := by decide +kernel
theorem dX1_keep_21 : decode cX1_keep 21 = .ok (.aload_n 1, 1) := by decide +kernel
theorem dX1_keep_22 : decode cX1_keep 22 = .ok (.invokevirtual 30, 3) := by decide +kernel
theorem dX1_keep_25 : decode cX1_keep 25 = .ok (.aload_n 0, 1) := by decide +kernel
theorem dX1_keep_26 : decode cX1_keep 26 = .ok (.dup, 1) := by decide +kernel
theorem dX1_keep_27 : decode cX1_keep 27 = .ok (.getfield 23, 3) := by decide +kernel
theorem dX1_keep_30 : decode cX1_keep 30 = .ok (.iconst 1, 1) := by decide +kernel
theorem dX1_keep_31 : decode cX1_keep 31 = .ok (.iadd, 1) := by decide +kernel
theorem dX1_keep_32 : decode cX1_keep 32 = .ok (.putfield 23, 3) := by decide +kernel
theorem dX1_keep_35 : decode cX1_keep 35 = .ok (.return_, 1) := by decide +kernel
theorem dX1_dropOldest_0 : decode cX1_dropOldest 0 = .ok (.aload_n 0, 1) := by decide +kernel
theorem dX1_dropOldest_1 : decode cX1_dropOldest 1 = .ok (.getfield 11, 3) := by decide +kernel
theorem dX1_dropOldest_4 : decode cX1_dropOldest 4 = .ok (.iconst 0, 1) := by decide +kernel
theorem dX1_dropOldest_5 : decode cX1_dropOldest 5 = .ok (.aaload, 1) := by decide +kernel
theorem dX1_dropOldest_6 : decode cX1_dropOldest 6 = .ok (.astore_n 1, 1) := by decide +kernel
theorem dX1_dropOldest_7 : decode cX1_dropOldest 7 = .ok (.iconst 1, 1) := by decide +kernel
theorem dX1_dropOldest_8 : decode cX1_dropOldest 8 = .ok (.istore_n 2, 1) := by decide +kernel
theorem dX1_dropOldest_9 : decode cX1_dropOldest 9 = .ok (.iload_n 2, 1) := by decide +kernel
theorem dX1_dropOldest_10 : decode cX1_dropOldest 10 = .ok (.iconst 4, 1) := by decide +kernel
theorem dX1_dropOldest_11 : decode cX1_dropOldest 11 = .ok (.if_icmp .ge 23, 3) := by decide +kernel
theorem dX1_dropOldest_14 : decode cX1_dropOldest 14 = .ok (.aload_n 0, 1) := by decide +kernel
theorem dX1_dropOldest_15 : decode cX1_dropOldest 15 = .ok (.getfield 11, 3) := by decide +kernel
theorem dX1_dropOldest_18 : decode cX1_dropOldest 18 = .ok (.iload_n 2, 1) := by decide +kernel
theorem dX1_dropOldest_19 : decode cX1_dropOldest 19 = .ok (.iconst 1, 1) := by decide +kernel
theorem dX1_dropOldest_20 : decode cX1_dropOldest 20 = .ok (.isub, 1) := by decide +kernel
theorem dX1_dropOldest_21 : decode cX1_dropOldest 21 = .ok (.aload_n 0, 1) := by decide +kernel
theorem dX1_dropOldest_22 : decode cX1_dropOldest 22 = .ok (.getfield 11, 3) := by decide +kernel
theorem dX1_dropOldest_25 : decode cX1_dropOldest 25 = .ok (.iload_n 2, 1) := by decide +kernel
theorem dX1_dropOldest_26 : decode cX1_dropOldest 26 = .ok (.aaload, 1) := by decide +kernel
theorem dX1_dropOldest_27 : decode cX1_dropOldest 27 = .ok (.aastore, 1) := by decide +kernel
theorem dX1_dropOldest_28 : decode cX1_dropOldest 28 = .ok (.iinc 2 1, 3) := by decide +kernel
theorem dX1_dropOldest_31 : decode cX1_dropOldest 31 = .ok (.goto (-22), 3) := by decide +kernel
theorem dX1_dropOldest_34 : decode cX1_dropOldest 34 = .ok (.aload_n 0, 1) := by decide +kernel
theorem dX1_dropOldest_35 : decode cX1_dropOldest 35 = .ok (.getfield 11, 3) := by decide +kernel
theorem dX1_dropOldest_38 : decode cX1_dropOldest 38 = .ok (.iconst 3, 1) := by decide +kernel
theorem dX1_dropOldest_39 : decode cX1_dropOldest 39 = .ok (.aload_n 1, 1) := by decide +kernel
theorem dX1_dropOldest_40 : decode cX1_dropOldest 40 = .ok (.aastore, 1) := by decide +kernel
theorem dX1_dropOldest_41 : decode cX1_dropOldest 41 = .ok (.aload_n 0, 1) := by decide +kernel
theorem dX1_dropOldest_42 : decode cX1_dropOldest 42 = .ok (.iconst 3, 1) := by decide +kernel
theorem dX1_dropOldest_43 : decode cX1_dropOldest 43 = .ok (.putfield 23, 3) := by decide +kernel
theorem dX1_dropOldest_46 : decode cX1_dropOldest 46 = .ok (.return_, 1) := by decide +kernel
theorem dX1_restore_0 : decode cX1_restore 0 = .ok (.aload_n 0, 1) := by decide +kernel
theorem dX1_restore_1 : decode cX1_restore 1 = .ok (.getfield 23, 3) := by decide +kernel
theorem dX1_restore_4 : decode cX1_restore 4 = .ok (.ifCond .le 26, 3) := by decide +kernel
theorem dX1_restore_7 : decode cX1_restore 7 = .ok (.aload_n 0, 1) := by decide +kernel
theorem dX1_restore_8 : decode cX1_restore 8 = .ok (.dup, 1) := by decide +kernel
theorem dX1_restore_9 : decode cX1_restore 9 = .ok (.getfield 23, 3) := by decide +kernel
theorem dX1_restore_12 : decode cX1_restore 12 = .ok (.iconst 1, 1) := by decide +kernel
theorem dX1_restore_13 : decode cX1_restore 13 = .ok (.isub, 1) := by decide +kernel
theorem dX1_restore_14 : decode cX1_restore 14 = .ok (.putfield 23, 3) := by decide +kernel
theorem dX1_restore_17 : decode cX1_restore 17 = .ok (.aload_n 1, 1) := by decide +kernel
theorem dX1_restore_18 : decode cX1_restore 18 = .ok (.aload_n 0, 1) := by decide +kernel
theorem dX1_restore_19 : decode cX1_restore 19 = .ok (.getfield 11, 3) := by decide +kernel
theorem dX1_restore_22 : decode cX1_restore 22 = .ok (.aload_n 0, 1) := by decide +kernel
theorem dX1_restore_23 : decode cX1_restore 23 = .ok (.getfield 23, 3) := by decide +kernel
theorem dX1_restore_26 : decode cX1_restore 26 = .ok (.aaload, 1) := by decide +kernel
theorem dX1_restore_27 : decode cX1_restore 27 = .ok (.invokevirtual 30, 3) := by decide +kernel
theorem dX1_restore_30 : decode cX1_restore 30 = .ok (.return_, 1) := by decide +kernel
theorem dX2_init_0 : decode cX2_init 0 = .ok (.aload_n 0, 1) := by decide +kernel
theorem dX2_init_1 : decode cX2_init 1 = .ok (.invokespecial 3, 3) := by decide +kernel
theorem dX2_init_4 : decode cX2_init 4 = .ok (.aload_n 0, 1) := by decide +kernel
theorem dX2_init_5 : decode cX2_init 5 = .ok (.bipush 11, 2) := by decide +kernel
theorem dX2_init_7 : decode cX2_init 7 = .ok (.anewarray 9, 3) := by decide +kernel
theorem dX2_init_10 : decode cX2_init 10 = .ok (.putfield 11, 3) := by decide +kernel
theorem dX2_init_13 : decode cX2_init 13 = .ok (.aload_n 0, 1) := by decide +kernel
theorem dX2_init_14 : decode cX2_init 14 = .ok (.bipush 7, 2) := by decide +kernel
theorem dX2_init_16 : decode cX2_init 16 = .ok (.bipush 11, 2) := by decide +kernel
theorem dX2_init_18 : decode cX2_init 18 = .ok (.multianewarray 17 2, 4) := by decide +kernel
theorem dX2_init_22 : decode cX2_init 22 = .ok (.putfield 19, 3) := by decide +kernel
theorem dX2_init_25 : decode cX2_init 25 = .ok (.aload_n 0, 1) := by decide +kernel
theorem dX2_init_26 : decode cX2_init 26 = .ok (.bipush 55, 2) := by decide +kernel
theorem dX2_init_28 : decode cX2_init 28 = .ok (.newarray .int, 2) := by decide +kernel
theorem dX2_init_30 : decode cX2_init 30 = .ok (.putfield 22, 3) := by decide +kernel
theorem dX2_init_33 : decode cX2_init 33 = .ok (.aload_n 0, 1) := by decide +kernel
theorem dX2_init_34 : decode cX2_init 34 = .ok (.aload_n 1, 1) := by decide +kernel
theorem dX2_init_35 : decode cX2_init 35 = .ok (.putfield 26, 3) := by decide +kernel
theorem dX2_init_38 : decode cX2_init 38 = .ok (.iconst 0, 1) := by decide +kernel
theorem dX2_init_39 : decode cX2_init 39 = .ok (.istore_n 2, 1) := by decide +kernel
theorem dX2_init_40 : decode cX2_init 40 = .ok (.iload_n 2, 1) := by decide +kernel
theorem dX2_init_41 : decode cX2_init 41 = .ok (.bipush 11, 2) := by decide +kernel
theorem dX2_init_43 : decode cX2_init 43 = .ok (.if_icmp .ge 24, 3) := by decide +kernel
theorem dX2_init_46 : decode cX2_init 46 = .ok (.aload_n 0, 1) := by decide +kernel
theorem dX2_init_47 : decode cX2_init 47 = .ok (.getfield 11, 3) := by decide +kernel
theorem dX2_init_50 : decode cX2_init 50 = .ok (.iload_n 2, 1) := by decide +kernel
theorem dX2_init_51 : decode cX2_init 51 = .ok (.new 9, 3) := by decide +kernel
theorem dX2_init_54 : decode cX2_init 54 = .ok (.dup, 1) := by decide +kernel
theorem dX2_init_55 : decode cX2_init 55 = .ok (.aload_n 1, 1) := by decide +kernel
theorem dX2_init_56 : decode cX2_init 56 = .ok (.iload_n 2, 1) := by decide +kernel
theorem dX2_init_57 : decode cX2_init 57 = .ok (.invokespecial 30, 3) := by decide +kernel
theorem dX2_init_60 : decode cX2_init 60 = .ok (.aastore, 1) := by decide +kernel
theorem dX2_init_61 : decode cX2_init 61 = .ok (.iinc 2 1, 3) := by decide +kernel
theorem dX2_init_64 : decode cX2_init 64 = .ok (.goto (-24), 3) := by decide +kernel
theorem dX2_init_67 : decode cX2_init 67 = .ok (.return_, 1) := by decide +kernel
theorem dX2_suppose_0 : decode cX2_suppose 0 = .ok (.aload_n 0, 1) := by decide +kernel
theorem dX2_suppose_1 : decode cX2_suppose 1 = .ok (.getfield 11, 3) := by decide +kernel
theorem dX2_suppose_4 : decode cX2_suppose 4 = .ok (.iload_n 1, 1) := by decide +kernel
theorem dX2_suppose_5 : decode cX2_suppose 5 = .ok (.aaload, 1) := by decide +kernel
theorem dX2_suppose_6 : decode cX2_suppose 6 = .ok (.invokevirtual 33, 3) := by decide +kernel
theorem dX2_suppose_9 : decode cX2_suppose 9 = .ok (.aload_n 0, 1) := by decide +kernel
theorem dX2_suppose_10 : decode cX2_suppose 10 = .ok (.getfield 11, 3) := by decide +kernel
theorem dX2_suppose_13 : decode cX2_suppose 13 = .ok (.iload_n 1, 1) := by decide +kernel
theorem dX2_suppose_14 : decode cX2_suppose 14 = .ok (.aaload, 1) := by decide +kernel
theorem dX2_suppose_15 : decode cX2_suppose 15 = .ok (.areturn, 1) := by decide +kernel
theorem dX2_supposeAll_0 : decode cX2_supposeAll 0 = .ok (.iconst 0, 1) := by decide +kernel
theorem dX2_supposeAll_1 : decode cX2_supposeAll 1 = .ok (.istore_n 2, 1) := by decide +kernel
theorem dX2_supposeAll_2 : decode cX2_supposeAll 2 = .ok (.iload_n 2, 1) := by decide +kernel
theorem dX2_supposeAll_3 : decode cX2_supposeAll 3 = .ok (.bipush 11, 2) := by decide +kernel
theorem dX2_supposeAll_5 : decode cX2_supposeAll 5 = .ok (.if_icmp .ge 26, 3) := by decide +kernel
theorem dX2_supposeAll_8 : decode cX2_supposeAll 8 = .ok (.iload_n 1, 1) := by decide +kernel
theorem dX2_supposeAll_9 : decode cX2_supposeAll 9 = .ok (.iload_n 2, 1) := by decide +kernel
theorem dX2_supposeAll_10 : decode cX2_supposeAll 10 = .ok (.invokestatic 36, 3) := by decide +kernel
theorem dX2_supposeAll_13 : decode cX2_supposeAll 13 = .ok (.ifCond .eq 12, 3) := by decide +kernel
theorem dX2_supposeAll_16 : decode cX2_supposeAll 16 = .ok (.aload_n 0, 1) := by decide +kernel
theorem dX2_supposeAll_17 : decode cX2_supposeAll 17 = .ok (.getfield 11, 3) := by decide +kernel
theorem dX2_supposeAll_20 : decode cX2_supposeAll 20 = .ok (.iload_n 2, 1) := by decide +kernel
theorem dX2_supposeAll_21 : decode cX2_supposeAll 21 = .ok (.aaload, 1) := by decide +kernel
theorem dX2_supposeAll_22 : decode cX2_supposeAll 22 = .ok (.invokevirtual 33, 3) := by decide +kernel
theorem dX2_supposeAll_25 : decode cX2_supposeAll 25 = .ok (.iinc 2 1, 3) := by decide +kernel
theorem dX2_supposeAll_28 : decode cX2_supposeAll 28 = .ok (.goto (-26), 3) := by decide +kernel
theorem dX2_supposeAll_31 : decode cX2_supposeAll 31 = .ok (.return_, 1) := by decide +kernel
theorem dX2_probeAll_0 : decode cX2_probeAll 0 = .ok (.iconst 0, 1) := by decide +kernel
theorem dX2_probeAll_1 : decode cX2_probeAll 1 = .ok (.istore_n 3, 1) := by decide +kernel
theorem dX2_probeAll_2 : decode cX2_probeAll 2 = .ok (.iload_n 3, 1) := by decide +kernel
theorem dX2_probeAll_3 : decode cX2_probeAll 3 = .ok (.bipush 11, 2) := by decide +kernel
theorem dX2_probeAll_5 : decode cX2_probeAll 5 = .ok (.if_icmp .ge 27, 3) := by decide +kernel
theorem dX2_probeAll_8 : decode cX2_probeAll 8 = .ok (.iload_n 1, 1) := by decide +kernel
theorem dX2_probeAll_9 : decode cX2_probeAll 9 = .ok (.iload_n 3, 1) := by decide +kernel
theorem dX2_probeAll_10 : decode cX2_probeAll 10 = .ok (.invokestatic 36, 3) := by decide +kernel
theorem dX2_probeAll_13 : decode cX2_probeAll 13 = .ok (.ifCond .eq 13, 3) := by decide +kernel
theorem dX2_probeAll_16 : decode cX2_probeAll 16 = .ok (.aload_n 0, 1) := by decide +kernel
theorem dX2_probeAll_17 : decode cX2_probeAll 17 = .ok (.getfield 11, 3) := by decide +kernel
theorem dX2_probeAll_20 : decode cX2_probeAll 20 = .ok (.iload_n 3, 1) := by decide +kernel
theorem dX2_probeAll_21 : decode cX2_probeAll 21 = .ok (.aaload, 1) := by decide +kernel
theorem dX2_probeAll_22 : decode cX2_probeAll 22 = .ok (.iload_n 2, 1) := by decide +kernel
theorem dX2_probeAll_23 : decode cX2_probeAll 23 = .ok (.invokevirtual 40, 3) := by decide +kernel
theorem dX2_probeAll_26 : decode cX2_probeAll 26 = .ok (.iinc 3 1, 3) := by decide +kernel
theorem dX2_probeAll_29 : decode cX2_probeAll 29 = .ok (.goto (-27), 3) := by decide +kernel
theorem dX2_probeAll_32 : decode cX2_probeAll 32 = .ok (.return_, 1) := by decide +kernel
theorem dX2_probedLike_0 : decode cX2_probedLike 0 = .ok (.iconst 0, 1) := by decide +kernel
theorem dX2_probedLike_1 : decode cX2_probedLike 1 = .ok (.istore_n 3, 1) := by decide +kernel
theorem dX2_probedLike_2 : decode cX2_probedLike 2 = .ok (.iconst 0, 1) := by decide +kernel
theorem dX2_probedLike_3 : decode cX2_probedLike 3 = .ok (.istore 4, 2) := by decide +kernel
theorem dX2_probedLike_5 : decode cX2_probedLike 5 = .ok (.iload 4, 2) := by decide +kernel
theorem dX2_probedLike_7 : decode cX2_probedLike 7 = .ok (.bipush 11, 2) := by decide +kernel
theorem dX2_probedLike_9 : decode cX2_probedLike 9 = .ok (.if_icmp .ge 44, 3) := by decide +kernel
theorem dX2_probedLike_12 : decode cX2_probedLike 12 = .ok (.iload_n 2, 1) := by decide +kernel
theorem dX2_probedLike_13 : decode cX2_probedLike 13 = .ok (.iload 4, 2) := by decide +kernel
theorem dX2_probedLike_15 : decode cX2_probedLike 15 = .ok (.invokestatic 36, 3) := by decide +kernel
theorem dX2_probedLike_18 : decode cX2_probedLike 18 = .ok (.ifCond .eq 29, 3) := by decide +kernel
theorem dX2_probedLike_21 : decode cX2_probedLike 21 = .ok (.aload_n 0, 1) := by decide +kernel
theorem dX2_probedLike_22 : decode cX2_probedLike 22 = .ok (.getfield 11, 3) := by decide +kernel
theorem dX2_probedLike_25 : decode cX2_probedLike 25 = .ok (.iload_n 1, 1) := by decide +kernel
theorem dX2_probedLike_26 : decode cX2_probedLike 26 = .ok (.aaload, 1) := by decide +kernel
theorem dX2_probedLike_27 : decode cX2_probedLike 27 = .ok (.aload_n 0, 1) := by decide +kernel
theorem dX2_probedLike_28 : decode cX2_probedLike 28 = .ok (.getfield 11, 3) := by decide +kernel
theorem dX2_probedLike_31 : decode cX2_probedLike 31 = .ok (.iload 4, 2) := by decide +kernel
theorem dX2_probedLike_33 : decode cX2_probedLike 33 = .ok (.aaload, 1) := by decide +kernel
theorem dX2_probedLike_34 : decode cX2_probedLike 34 = .ok (.invokevirtual 44, 3) := by decide +kernel
theorem dX2_probedLike_37 : decode cX2_probedLike 37 = .ok (.ifCond .eq 10, 3) := by decide +kernel
theorem dX2_probedLike_40 : decode cX2_probedLike 40 = .ok (.iload_n 3, 1) := by decide +kernel
theorem dX2_probedLike_41 : decode cX2_probedLike 41 = .ok (.iconst 1, 1) := by decide +kernel
theorem dX2_probedLike_42 : decode cX2_probedLike 42 = .ok (.iload 4, 2) := by decide +kernel
theorem dX2_probedLike_44 : decode cX2_probedLike 44 = .ok (.ishl, 1) := by decide +kernel
theorem dX2_probedLike_45 : decode cX2_probedLike 45 = .ok (.ior, 1) := by decide +kernel
theorem dX2_probedLike_46 : decode cX2_probedLike 46 = .ok (.istore_n 3, 1) := by decide +kernel
theorem dX2_probedLike_47 : decode cX2_probedLike 47 = .ok (.iinc 4 1, 3) := by decide +kernel
theorem dX2_probedLike_50 : decode cX2_probedLike 50 = .ok (.goto (-45), 3) := by decide +kernel
theorem dX2_probedLike_53 : decode cX2_probedLike 53 = .ok (.iload_n 3, 1) := by decide +kernel
theorem dX2_probedLike_54 : decode cX2_probedLike 54 = .ok (.ireturn, 1) := by decide +kernel
theorem dX2_leftBy_0 : decode cX2_leftBy 0 = .ok (.aload_n 0, 1) := by decide +kernel
theorem dX2_leftBy_1 : decode cX2_leftBy 1 = .ok (.iload_n 3, 1) := by decide +kernel
theorem dX2_leftBy_2 : decode cX2_leftBy 2 = .ok (.iconst 1, 1) := by decide +kernel
theorem dX2_leftBy_3 : decode cX2_leftBy 3 = .ok (.iload_n 2, 1) := by decide +kernel
theorem dX2_leftBy_4 : decode cX2_leftBy 4 = .ok (.ishl, 1) := by decide +kernel
theorem dX2_leftBy_5 : decode cX2_leftBy 5 = .ok (.ior, 1) := by decide +kernel
theorem dX2_leftBy_6 : decode cX2_leftBy 6 = .ok (.invokevirtual 48, 3) := by decide +kernel
theorem dX2_leftBy_9 : decode cX2_leftBy 9 = .ok (.aload_n 0, 1) := by decide +kernel
theorem dX2_leftBy_10 : decode cX2_leftBy 10 = .ok (.iload_n 3, 1) := by decide +kernel
theorem dX2_leftBy_11 : decode cX2_leftBy 11 = .ok (.iconst 1, 1) := by decide +kernel
theorem dX2_leftBy_12 : decode cX2_leftBy 12 = .ok (.iload_n 2, 1) := by decide +kernel
theorem dX2_leftBy_13 : decode cX2_leftBy 13 = .ok (.ishl, 1) := by decide +kernel
theorem dX2_leftBy_14 : decode cX2_leftBy 14 = .ok (.ior, 1) := by decide +kernel
theorem dX2_leftBy_15 : decode cX2_leftBy 15 = .ok (.iload_n 1, 1) := by decide +kernel
theorem dX2_leftBy_16 : decode cX2_leftBy 16 = .ok (.invokevirtual 51, 3) := by decide +kernel
theorem dX2_leftBy_19 : decode cX2_leftBy 19 = .ok (.aload_n 0, 1) := by decide +kernel
theorem dX2_leftBy_20 : decode cX2_leftBy 20 = .ok (.iload_n 2, 1) := by decide +kernel
theorem dX2_leftBy_21 : decode cX2_leftBy 21 = .ok (.iload_n 3, 1) := by decide +kernel
theorem dX2_leftBy_22 : decode cX2_leftBy 22 = .ok (.invokevirtual 55, 3) := by decide +kernel
theorem dX2_leftBy_25 : decode cX2_leftBy 25 = .ok (.ireturn, 1) := by decide +kernel
theorem dX2_measureWeek_0 : decode cX2_measureWeek 0 = .ok (.aload_n 0, 1) := by decide +kernel
theorem dX2_measureWeek_1 : decode cX2_measureWeek 1 = .ok (.getfield 26, 3) := by decide +kernel
theorem dX2_measureWeek_4 : decode cX2_measureWeek 4 = .ok (.invokevirtual 59, 3) := by decide +kernel
theorem dX2_measureWeek_7 : decode cX2_measureWeek 7 = .ok (.istore_n 1, 1) := by decide +kernel
theorem dX2_measureWeek_8 : decode cX2_measureWeek 8 = .ok (.aload_n 0, 1) := by decide +kernel
theorem dX2_measureWeek_9 : decode cX2_measureWeek 9 = .ok (.iload_n 1, 1) := by decide +kernel
theorem dX2_measureWeek_10 : decode cX2_measureWeek 10 = .ok (.invokevirtual 48, 3) := by decide +kernel
theorem dX2_measureWeek_13 : decode cX2_measureWeek 13 = .ok (.iconst 0, 1) := by decide +kernel
theorem dX2_measureWeek_14 : decode cX2_measureWeek 14 = .ok (.istore_n 2, 1) := by decide +kernel
theorem dX2_measureWeek_15 : decode cX2_measureWeek 15 = .ok (.iload_n 2, 1) := by decide +kernel
theorem dX2_measureWeek_16 : decode cX2_measureWeek 16 = .ok (.bipush 7, 2) := by decide +kernel
theorem dX2_measureWeek_18 : decode cX2_measureWeek 18 = .ok (.if_icmp .ge 62, 3) := by decide +kernel
theorem dX2_measureWeek_21 : decode cX2_measureWeek 21 = .ok (.aload_n 0, 1) := by decide +kernel
theorem dX2_measureWeek_22 : decode cX2_measureWeek 22 = .ok (.iload_n 1, 1) := by decide +kernel
theorem dX2_measureWeek_23 : decode cX2_measureWeek 23 = .ok (.aload_n 0, 1) := by decide +kernel
theorem dX2_measureWeek_24 : decode cX2_measureWeek 24 = .ok (.getfield 26, 3) := by decide +kernel
theorem dX2_measureWeek_27 : decode cX2_measureWeek 27 = .ok (.iload_n 2, 1) := by decide +kernel
theorem dX2_measureWeek_28 : decode cX2_measureWeek 28 = .ok (.invokevirtual 65, 3) := by decide +kernel
theorem dX2_measureWeek_31 : decode cX2_measureWeek 31 = .ok (.invokevirtual 51, 3) := by decide +kernel
theorem dX2_measureWeek_34 : decode cX2_measureWeek 34 = .ok (.iconst 0, 1) := by decide +kernel
theorem dX2_measureWeek_35 : decode cX2_measureWeek 35 = .ok (.istore_n 3, 1) := by decide +kernel
theorem dX2_measureWeek_36 : decode cX2_measureWeek 36 = .ok (.iload_n 3, 1) := by decide +kernel
theorem dX2_measureWeek_37 : decode cX2_measureWeek 37 = .ok (.bipush 11, 2) := by decide +kernel
theorem dX2_measureWeek_39 : decode cX2_measureWeek 39 = .ok (.if_icmp .ge 35, 3) := by decide +kernel
theorem dX2_measureWeek_42 : decode cX2_measureWeek 42 = .ok (.aload_n 0, 1) := by decide +kernel
theorem dX2_measureWeek_43 : decode cX2_measureWeek 43 = .ok (.getfield 19, 3) := by decide +kernel
theorem dX2_measureWeek_46 : decode cX2_measureWeek 46 = .ok (.iload_n 2, 1) := by decide +kernel
theorem dX2_measureWeek_47 : decode cX2_measureWeek 47 = .ok (.aaload, 1) := by decide +kernel
theorem dX2_measureWeek_48 : decode cX2_measureWeek 48 = .ok (.iload_n 3, 1) := by decide +kernel
theorem dX2_measureWeek_49 : decode cX2_measureWeek 49 = .ok (.iload_n 1, 1) := by decide +kernel
theorem dX2_measureWeek_50 : decode cX2_measureWeek 50 = .ok (.iload_n 3, 1) := by decide +kernel
theorem dX2_measureWeek_51 : decode cX2_measureWeek 51 = .ok (.invokestatic 36, 3) := by decide +kernel
theorem dX2_measureWeek_54 : decode cX2_measureWeek 54 = .ok (.ifCond .eq 12, 3) := by decide +kernel
theorem dX2_measureWeek_57 : decode cX2_measureWeek 57 = .ok (.aload_n 0, 1) := by decide +kernel
theorem dX2_measureWeek_58 : decode cX2_measureWeek 58 = .ok (.iload_n 3, 1) := by decide +kernel
theorem dX2_measureWeek_59 : decode cX2_measureWeek 59 = .ok (.iload_n 1, 1) := by decide +kernel
theorem dX2_measureWeek_60 : decode cX2_measureWeek 60 = .ok (.invokevirtual 69, 3) := by decide +kernel
theorem dX2_measureWeek_63 : decode cX2_measureWeek 63 = .ok (.goto 4, 3) := by decide +kernel
theorem dX2_measureWeek_66 : decode cX2_measureWeek 66 = .ok (.iconst (-1), 1) := by decide +kernel
theorem dX2_measureWeek_67 : decode cX2_measureWeek 67 = .ok (.iastore, 1) := by decide +kernel
theorem dX2_measureWeek_68 : decode cX2_measureWeek 68 = .ok (.iinc 3 1, 3) := by decide +kernel
theorem dX2_measureWeek_71 : decode cX2_measureWeek 71 = .ok (.goto (-35), 3) := by decide +kernel
theorem dX2_measureWeek_74 : decode cX2_measureWeek 74 = .ok (.iinc 2 1, 3) := by decide +kernel
theorem dX2_measureWeek_77 : decode cX2_measureWeek 77 = .ok (.goto (-62), 3) := by decide +kernel
theorem dX2_measureWeek_80 : decode cX2_measureWeek 80 = .ok (.return_, 1) := by decide +kernel
theorem dX2_firstProbedLike_0 : decode cX2_firstProbedLike 0 = .ok (.iconst 0, 1) := by decide +kernel
theorem dX2_firstProbedLike_1 : decode cX2_firstProbedLike 1 = .ok (.istore_n 3, 1) := by decide +kernel
theorem dX2_firstProbedLike_2 : decode cX2_firstProbedLike 2 = .ok (.iload_n 3, 1) := by decide +kernel
theorem dX2_firstProbedLike_3 : decode cX2_firstProbedLike 3 = .ok (.iload_n 1, 1) := by decide +kernel
theorem dX2_firstProbedLike_4 : decode cX2_firstProbedLike 4 = .ok (.if_icmp .ge 37, 3) := by decide +kernel
theorem dX2_firstProbedLike_7 : decode cX2_firstProbedLike 7 = .ok (.iload_n 2, 1) := by decide +kernel
theorem dX2_firstProbedLike_8 : decode cX2_firstProbedLike 8 = .ok (.iload_n 3, 1) := by decide +kernel
theorem dX2_firstProbedLike_9 : decode cX2_firstProbedLike 9 = .ok (.invokestatic 36, 3) := by decide +kernel
theorem dX2_firstProbedLike_12 : decode cX2_firstProbedLike 12 = .ok (.ifCond .eq 23, 3) := by decide +kernel
theorem dX2_firstProbedLike_15 : decode cX2_firstProbedLike 15 = .ok (.aload_n 0, 1) := by decide +kernel
theorem dX2_firstProbedLike_16 : decode cX2_firstProbedLike 16 = .ok (.getfield 11, 3) := by decide +kernel
theorem dX2_firstProbedLike_19 : decode cX2_firstProbedLike 19 = .ok (.iload_n 1, 1) := by decide +kernel
theorem dX2_firstProbedLike_20 : decode cX2_firstProbedLike 20 = .ok (.aaload, 1) := by decide +kernel
theorem dX2_firstProbedLike_21 : decode cX2_firstProbedLike 21 = .ok (.aload_n 0, 1) := by decide +kernel
theorem dX2_firstProbedLike_22 : decode cX2_firstProbedLike 22 = .ok (.getfield 11, 3) := by decide +kernel
theorem dX2_firstProbedLike_25 : decode cX2_firstProbedLike 25 = .ok (.iload_n 3, 1) := by decide +kernel
theorem dX2_firstProbedLike_26 : decode cX2_firstProbedLike 26 = .ok (.aaload, 1) := by decide +kernel
theorem dX2_firstProbedLike_27 : decode cX2_firstProbedLike 27 = .ok (.invokevirtual 44, 3) := by decide +kernel
theorem dX2_firstProbedLike_30 : decode cX2_firstProbedLike 30 = .ok (.ifCond .eq 5, 3) := by decide +kernel
theorem dX2_firstProbedLike_33 : decode cX2_firstProbedLike 33 = .ok (.iload_n 3, 1) := by decide +kernel
theorem dX2_firstProbedLike_34 : decode cX2_firstProbedLike 34 = .ok (.ireturn, 1) := by decide +kernel
theorem dX2_firstProbedLike_35 : decode cX2_firstProbedLike 35 = .ok (.iinc 3 1, 3) := by decide +kernel
theorem dX2_firstProbedLike_38 : decode cX2_firstProbedLike 38 = .ok (.goto (-36), 3) := by decide +kernel
theorem dX2_firstProbedLike_41 : decode cX2_firstProbedLike 41 = .ok (.iload_n 1, 1) := by decide +kernel
theorem dX2_firstProbedLike_42 : decode cX2_firstProbedLike 42 = .ok (.ireturn, 1) := by decide +kernel
theorem dX2_daysAlike_0 : decode cX2_daysAlike 0 = .ok (.iconst 0, 1) := by decide +kernel
theorem dX2_daysAlike_1 : decode cX2_daysAlike 1 = .ok (.istore_n 3, 1) := by decide +kernel
theorem dX2_daysAlike_2 : decode cX2_daysAlike 2 = .ok (.iconst 0, 1) := by decide +kernel
theorem dX2_daysAlike_3 : decode cX2_daysAlike 3 = .ok (.istore 4, 2) := by decide +kernel
theorem dX2_daysAlike_5 : decode cX2_daysAlike 5 = .ok (.iload 4, 2) := by decide +kernel
theorem dX2_daysAlike_7 : decode cX2_daysAlike 7 = .ok (.bipush 7, 2) := by decide +kernel
theorem dX2_daysAlike_9 : decode cX2_daysAlike 9 = .ok (.if_icmp .ge 37, 3) := by decide +kernel
theorem dX2_daysAlike_12 : decode cX2_daysAlike 12 = .ok (.aload_n 0, 1) := by decide +kernel
theorem dX2_daysAlike_13 : decode cX2_daysAlike 13 = .ok (.getfield 19, 3) := by decide +kernel
theorem dX2_daysAlike_16 : decode cX2_daysAlike 16 = .ok (.iload 4, 2) := by decide +kernel
theorem dX2_daysAlike_18 : decode cX2_daysAlike 18 = .ok (.aaload, 1) := by decide +kernel
theorem dX2_daysAlike_19 : decode cX2_daysAlike 19 = .ok (.iload_n 1, 1) := by decide +kernel
theorem dX2_daysAlike_20 : decode cX2_daysAlike 20 = .ok (.iaload, 1) := by decide +kernel
theorem dX2_daysAlike_21 : decode cX2_daysAlike 21 = .ok (.aload_n 0, 1) := by decide +kernel
theorem dX2_daysAlike_22 : decode cX2_daysAlike 22 = .ok (.getfield 19, 3) := by decide +kernel
theorem dX2_daysAlike_25 : decode cX2_daysAlike 25 = .ok (.iload 4, 2) := by decide +kernel
theorem dX2_daysAlike_27 : decode cX2_daysAlike 27 = .ok (.aaload, 1) := by decide +kernel
theorem dX2_daysAlike_28 : decode cX2_daysAlike 28 = .ok (.iload_n 2, 1) := by decide +kernel
theorem dX2_daysAlike_29 : decode cX2_daysAlike 29 = .ok (.iaload, 1) := by decide +kernel
theorem dX2_daysAlike_30 : decode cX2_daysAlike 30 = .ok (.if_icmp .ne 10, 3) := by decide +kernel
theorem dX2_daysAlike_33 : decode cX2_daysAlike 33 = .ok (.iload_n 3, 1) := by decide +kernel
theorem dX2_daysAlike_34 : decode cX2_daysAlike 34 = .ok (.iconst 1, 1) := by decide +kernel
theorem dX2_daysAlike_35 : decode cX2_daysAlike 35 = .ok (.iload 4, 2) := by decide +kernel
theorem dX2_daysAlike_37 : decode cX2_daysAlike 37 = .ok (.ishl, 1) := by decide +kernel
theorem dX2_daysAlike_38 : decode cX2_daysAlike 38 = .ok (.ior, 1) := by decide +kernel
theorem dX2_daysAlike_39 : decode cX2_daysAlike 39 = .ok (.istore_n 3, 1) := by decide +kernel
theorem dX2_daysAlike_40 : decode cX2_daysAlike 40 = .ok (.iinc 4 1, 3) := by decide +kernel
theorem dX2_daysAlike_43 : decode cX2_daysAlike 43 = .ok (.goto (-38), 3) := by decide +kernel
theorem dX2_daysAlike_46 : decode cX2_daysAlike 46 = .ok (.iload_n 3, 1) := by decide +kernel
theorem dX2_daysAlike_47 : decode cX2_daysAlike 47 = .ok (.ireturn, 1) := by decide +kernel
theorem dX2_daysUnlike_0 : decode cX2_daysUnlike 0 = .ok (.bipush 127, 2) := by decide +kernel
theorem dX2_daysUnlike_2 : decode cX2_daysUnlike 2 = .ok (.aload_n 0, 1) := by decide +kernel
theorem dX2_daysUnlike_3 : decode cX2_daysUnlike 3 = .ok (.iload_n 1, 1) := by decide +kernel
theorem dX2_daysUnlike_4 : decode cX2_daysUnlike 4 = .ok (.iload_n 2, 1) := by decide +kernel
theorem dX2_daysUnlike_5 : decode cX2_daysUnlike 5 = .ok (.invokevirtual 72, 3) := by decide +kernel
theorem dX2_daysUnlike_8 : decode cX2_daysUnlike 8 = .ok (.iconst (-1), 1) := by decide +kernel
theorem dX2_daysUnlike_9 : decode cX2_daysUnlike 9 = .ok (.ixor, 1) := by decide +kernel
theorem dX2_daysUnlike_10 : decode cX2_daysUnlike 10 = .ok (.iand, 1) := by decide +kernel
theorem dX2_daysUnlike_11 : decode cX2_daysUnlike 11 = .ok (.ireturn, 1) := by decide +kernel
theorem dX2_suspectsLike_0 : decode cX2_suspectsLike 0 = .ok (.iconst 0, 1) := by decide +kernel
theorem dX2_suspectsLike_1 : decode cX2_suspectsLike 1 = .ok (.istore_n 3, 1) := by decide +kernel
theorem dX2_suspectsLike_2 : decode cX2_suspectsLike 2 = .ok (.iconst 0, 1) := by decide +kernel
theorem dX2_suspectsLike_3 : decode cX2_suspectsLike 3 = .ok (.istore 4, 2) := by decide +kernel
theorem dX2_suspectsLike_5 : decode cX2_suspectsLike 5 = .ok (.iload 4, 2) := by decide +kernel
theorem dX2_suspectsLike_7 : decode cX2_suspectsLike 7 = .ok (.bipush 11, 2) := by decide +kernel
theorem dX2_suspectsLike_9 : decode cX2_suspectsLike 9 = .ok (.if_icmp .ge 36, 3) := by decide +kernel
theorem dX2_suspectsLike_12 : decode cX2_suspectsLike 12 = .ok (.aload_n 0, 1) := by decide +kernel
theorem dX2_suspectsLike_13 : decode cX2_suspectsLike 13 = .ok (.getfield 19, 3) := by decide +kernel
theorem dX2_suspectsLike_16 : decode cX2_suspectsLike 16 = .ok (.iload_n 1, 1) := by decide +kernel
theorem dX2_suspectsLike_17 : decode cX2_suspectsLike 17 = .ok (.aaload, 1) := by decide +kernel
theorem dX2_suspectsLike_18 : decode cX2_suspectsLike 18 = .ok (.iload 4, 2) := by decide +kernel
theorem dX2_suspectsLike_20 : decode cX2_suspectsLike 20 = .ok (.iaload, 1) := by decide +kernel
theorem dX2_suspectsLike_21 : decode cX2_suspectsLike 21 = .ok (.aload_n 0, 1) := by decide +kernel
theorem dX2_suspectsLike_22 : decode cX2_suspectsLike 22 = .ok (.getfield 19, 3) := by decide +kernel
theorem dX2_suspectsLike_25 : decode cX2_suspectsLike 25 = .ok (.iload_n 1, 1) := by decide +kernel
theorem dX2_suspectsLike_26 : decode cX2_suspectsLike 26 = .ok (.aaload, 1) := by decide +kernel
theorem dX2_suspectsLike_27 : decode cX2_suspectsLike 27 = .ok (.iload_n 2, 1) := by decide +kernel
theorem dX2_suspectsLike_28 : decode cX2_suspectsLike 28 = .ok (.iaload, 1) := by decide +kernel
theorem dX2_suspectsLike_29 : decode cX2_suspectsLike 29 = .ok (.if_icmp .ne 10, 3) := by decide +kernel
theorem dX2_suspectsLike_32 : decode cX2_suspectsLike 32 = .ok (.iload_n 3, 1) := by decide +kernel
theorem dX2_suspectsLike_33 : decode cX2_suspectsLike 33 = .ok (.iconst 1, 1) := by decide +kernel
theorem dX2_suspectsLike_34 : decode cX2_suspectsLike 34 = .ok (.iload 4, 2) := by decide +kernel
theorem dX2_suspectsLike_36 : decode cX2_suspectsLike 36 = .ok (.ishl, 1) := by decide +kernel
theorem dX2_suspectsLike_37 : decode cX2_suspectsLike 37 = .ok (.ior, 1) := by decide +kernel
theorem dX2_suspectsLike_38 : decode cX2_suspectsLike 38 = .ok (.istore_n 3, 1) := by decide +kernel
theorem dX2_suspectsLike_39 : decode cX2_suspectsLike 39 = .ok (.iinc 4 1, 3) := by decide +kernel
theorem dX2_suspectsLike_42 : decode cX2_suspectsLike 42 = .ok (.goto (-37), 3) := by decide +kernel
theorem dX2_suspectsLike_45 : decode cX2_suspectsLike 45 = .ok (.iload_n 3, 1) := by decide +kernel
theorem dX2_suspectsLike_46 : decode cX2_suspectsLike 46 = .ok (.ireturn, 1) := by decide +kernel
theorem dX2_unlikeOutcomes_0 : decode cX2_unlikeOutcomes 0 = .ok (.iconst 0, 1) := by decide +kernel
theorem dX2_unlikeOutcomes_1 : decode cX2_unlikeOutcomes 1 = .ok (.istore_n 2, 1) := by decide +kernel
theorem dX2_unlikeOutcomes_2 : decode cX2_unlikeOutcomes 2 = .ok (.iconst 0, 1) := by decide +kernel
theorem dX2_unlikeOutcomes_3 : decode cX2_unlikeOutcomes 3 = .ok (.istore_n 3, 1) := by decide +kernel
theorem dX2_unlikeOutcomes_4 : decode cX2_unlikeOutcomes 4 = .ok (.iload_n 3, 1) := by decide +kernel
theorem dX2_unlikeOutcomes_5 : decode cX2_unlikeOutcomes 5 = .ok (.bipush 11, 2) := by decide +kernel
theorem dX2_unlikeOutcomes_7 : decode cX2_unlikeOutcomes 7 = .ok (.if_icmp .ge 24, 3) := by decide +kernel
theorem dX2_unlikeOutcomes_10 : decode cX2_unlikeOutcomes 10 = .ok (.aload_n 0, 1) := by decide +kernel
theorem dX2_unlikeOutcomes_11 : decode cX2_unlikeOutcomes 11 = .ok (.getfield 19, 3) := by decide +kernel
theorem dX2_unlikeOutcomes_14 : decode cX2_unlikeOutcomes 14 = .ok (.iload_n 1, 1) := by decide +kernel
theorem dX2_unlikeOutcomes_15 : decode cX2_unlikeOutcomes 15 = .ok (.aaload, 1) := by decide +kernel
theorem dX2_unlikeOutcomes_16 : decode cX2_unlikeOutcomes 16 = .ok (.iload_n 3, 1) := by decide +kernel
theorem dX2_unlikeOutcomes_17 : decode cX2_unlikeOutcomes 17 = .ok (.iaload, 1) := by decide +kernel
theorem dX2_unlikeOutcomes_18 : decode cX2_unlikeOutcomes 18 = .ok (.iload_n 3, 1) := by decide +kernel
theorem dX2_unlikeOutcomes_19 : decode cX2_unlikeOutcomes 19 = .ok (.if_icmp .ne 6, 3) := by decide +kernel
theorem dX2_unlikeOutcomes_22 : decode cX2_unlikeOutcomes 22 = .ok (.iinc 2 1, 3) := by decide +kernel
theorem dX2_unlikeOutcomes_25 : decode cX2_unlikeOutcomes 25 = .ok (.iinc 3 1, 3) := by decide +kernel
theorem dX2_unlikeOutcomes_28 : decode cX2_unlikeOutcomes 28 = .ok (.goto (-24), 3) := by decide +kernel
theorem dX2_unlikeOutcomes_31 : decode cX2_unlikeOutcomes 31 = .ok (.iload_n 2, 1) := by decide +kernel
theorem dX2_unlikeOutcomes_32 : decode cX2_unlikeOutcomes 32 = .ok (.ireturn, 1) := by decide +kernel
theorem dX2_worstOn_0 : decode cX2_worstOn 0 = .ok (.iconst 0, 1) := by decide +kernel
theorem dX2_worstOn_1 : decode cX2_worstOn 1 = .ok (.istore_n 3, 1) := by decide +kernel
theorem dX2_worstOn_2 : decode cX2_worstOn 2 = .ok (.iconst 0, 1) := by decide +kernel
theorem dX2_worstOn_3 : decode cX2_worstOn 3 = .ok (.istore 4, 2) := by decide +kernel
theorem dX2_worstOn_5 : decode cX2_worstOn 5 = .ok (.iload 4, 2) := by decide +kernel
theorem dX2_worstOn_7 : decode cX2_worstOn 7 = .ok (.bipush 11, 2) := by decide +kernel
theorem dX2_worstOn_9 : decode cX2_worstOn 9 = .ok (.if_icmp .ge 35, 3) := by decide +kernel
theorem dX2_worstOn_12 : decode cX2_worstOn 12 = .ok (.iload_n 2, 1) := by decide +kernel
theorem dX2_worstOn_13 : decode cX2_worstOn 13 = .ok (.iload 4, 2) := by decide +kernel
theorem dX2_worstOn_15 : decode cX2_worstOn 15 = .ok (.invokestatic 36, 3) := by decide +kernel
theorem dX2_worstOn_18 : decode cX2_worstOn 18 = .ok (.ifCond .eq 20, 3) := by decide +kernel
theorem dX2_worstOn_21 : decode cX2_worstOn 21 = .ok (.iload_n 3, 1) := by decide +kernel
theorem dX2_worstOn_22 : decode cX2_worstOn 22 = .ok (.aload_n 0, 1) := by decide +kernel
theorem dX2_worstOn_23 : decode cX2_worstOn 23 = .ok (.iload_n 1, 1) := by decide +kernel
theorem dX2_worstOn_24 : decode cX2_worstOn 24 = .ok (.iload 4, 2) := by decide +kernel
theorem dX2_worstOn_26 : decode cX2_worstOn 26 = .ok (.invokevirtual 75, 3) := by decide +kernel
theorem dX2_worstOn_29 : decode cX2_worstOn 29 = .ok (.iload_n 2, 1) := by decide +kernel
theorem dX2_worstOn_30 : decode cX2_worstOn 30 = .ok (.iand, 1) := by decide +kernel
theorem dX2_worstOn_31 : decode cX2_worstOn 31 = .ok (.invokestatic 78, 3) := by decide +kernel
theorem dX2_worstOn_34 : decode cX2_worstOn 34 = .ok (.invokestatic 83, 3) := by decide +kernel
theorem dX2_worstOn_37 : decode cX2_worstOn 37 = .ok (.istore_n 3, 1) := by decide +kernel
theorem dX2_worstOn_38 : decode cX2_worstOn 38 = .ok (.iinc 4 1, 3) := by decide +kernel
theorem dX2_worstOn_41 : decode cX2_worstOn 41 = .ok (.goto (-36), 3) := by decide +kernel
theorem dX2_worstOn_44 : decode cX2_worstOn 44 = .ok (.iload_n 3, 1) := by decide +kernel
theorem dX2_worstOn_45 : decode cX2_worstOn 45 = .ok (.ireturn, 1) := by decide +kernel
theorem dX2_fewestDaysFor_0 : decode cX2_fewestDaysFor 0 = .ok (.aload_n 0, 1) := by decide +kernel
theorem dX2_fewestDaysFor_1 : decode cX2_fewestDaysFor 1 = .ok (.iload_n 1, 1) := by decide +kernel
theorem dX2_fewestDaysFor_2 : decode cX2_fewestDaysFor 2 = .ok (.invokevirtual 88, 3) := by decide +kernel
theorem dX2_fewestDaysFor_5 : decode cX2_fewestDaysFor 5 = .ok (.bipush 127, 2) := by decide +kernel
theorem dX2_fewestDaysFor_7 : decode cX2_fewestDaysFor 7 = .ok (.istore_n 2, 1) := by decide +kernel
theorem dX2_fewestDaysFor_8 : decode cX2_fewestDaysFor 8 = .ok (.iconst 0, 1) := by decide +kernel
theorem dX2_fewestDaysFor_9 : decode cX2_fewestDaysFor 9 = .ok (.istore_n 3, 1) := by decide +kernel
theorem dX2_fewestDaysFor_10 : decode cX2_fewestDaysFor 10 = .ok (.iload_n 3, 1) := by decide +kernel
theorem dX2_fewestDaysFor_11 : decode cX2_fewestDaysFor 11 = .ok (.bipush 127, 2) := by decide +kernel
theorem dX2_fewestDaysFor_13 : decode cX2_fewestDaysFor 13 = .ok (.if_icmp .ge 30, 3) := by decide +kernel
theorem dX2_fewestDaysFor_16 : decode cX2_fewestDaysFor 16 = .ok (.iload_n 3, 1) := by decide +kernel
theorem dX2_fewestDaysFor_17 : decode cX2_fewestDaysFor 17 = .ok (.invokestatic 78, 3) := by decide +kernel
theorem dX2_fewestDaysFor_20 : decode cX2_fewestDaysFor 20 = .ok (.iload_n 2, 1) := by decide +kernel
theorem dX2_fewestDaysFor_21 : decode cX2_fewestDaysFor 21 = .ok (.invokestatic 78, 3) := by decide +kernel
theorem dX2_fewestDaysFor_24 : decode cX2_fewestDaysFor 24 = .ok (.if_icmp .ge 13, 3) := by decide +kernel
theorem dX2_fewestDaysFor_27 : decode cX2_fewestDaysFor 27 = .ok (.aload_n 0, 1) := by decide +kernel
theorem dX2_fewestDaysFor_28 : decode cX2_fewestDaysFor 28 = .ok (.iload_n 3, 1) := by decide +kernel
theorem dX2_fewestDaysFor_29 : decode cX2_fewestDaysFor 29 = .ok (.invokevirtual 92, 3) := by decide +kernel
theorem dX2_fewestDaysFor_32 : decode cX2_fewestDaysFor 32 = .ok (.ifCond .eq 5, 3) := by decide +kernel
theorem dX2_fewestDaysFor_35 : decode cX2_fewestDaysFor 35 = .ok (.iload_n 3, 1) := by decide +kernel
theorem dX2_fewestDaysFor_36 : decode cX2_fewestDaysFor 36 = .ok (.istore_n 2, 1) := by decide +kernel
theorem dX2_fewestDaysFor_37 : decode cX2_fewestDaysFor 37 = .ok (.iinc 3 1, 3) := by decide +kernel
theorem dX2_fewestDaysFor_40 : decode cX2_fewestDaysFor 40 = .ok (.goto (-30), 3) := by decide +kernel
theorem dX2_fewestDaysFor_43 : decode cX2_fewestDaysFor 43 = .ok (.iload_n 2, 1) := by decide +kernel
theorem dX2_fewestDaysFor_44 : decode cX2_fewestDaysFor 44 = .ok (.ireturn, 1) := by decide +kernel
theorem dX2_collectDaysWanted_0 : decode cX2_collectDaysWanted 0 = .ok (.aload_n 0, 1) := by decide +kernel
theorem dX2_collectDaysWanted_1 : decode cX2_collectDaysWanted 1 = .ok (.getfield 26, 3) := by decide +kernel
theorem dX2_collectDaysWanted_4 : decode cX2_collectDaysWanted 4 = .ok (.invokevirtual 59, 3) := by decide +kernel
theorem dX2_collectDaysWanted_7 : decode cX2_collectDaysWanted 7 = .ok (.istore_n 2, 1) := by decide +kernel
theorem dX2_collectDaysWanted_8 : decode cX2_collectDaysWanted 8 = .ok (.aload_n 0, 1) := by decide +kernel
theorem dX2_collectDaysWanted_9 : decode cX2_collectDaysWanted 9 = .ok (.iconst 0, 1) := by decide +kernel
theorem dX2_collectDaysWanted_10 : decode cX2_collectDaysWanted 10 = .ok (.putfield 96, 3) := by decide +kernel
theorem dX2_collectDaysWanted_13 : decode cX2_collectDaysWanted 13 = .ok (.iconst 1, 1) := by decide +kernel
theorem dX2_collectDaysWanted_14 : decode cX2_collectDaysWanted 14 = .ok (.istore_n 3, 1) := by decide +kernel
theorem dX2_collectDaysWanted_15 : decode cX2_collectDaysWanted 15 = .ok (.iload_n 3, 1) := by decide +kernel
theorem dX2_collectDaysWanted_16 : decode cX2_collectDaysWanted 16 = .ok (.bipush 11, 2) := by decide +kernel
theorem dX2_collectDaysWanted_18 : decode cX2_collectDaysWanted 18 = .ok (.if_icmp .ge 89, 3) := by decide +kernel
theorem dX2_collectDaysWanted_21 : decode cX2_collectDaysWanted 21 = .ok (.iconst 0, 1) := by decide +kernel
theorem dX2_collectDaysWanted_22 : decode cX2_collectDaysWanted 22 = .ok (.istore 4, 2) := by decide +kernel
theorem dX2_collectDaysWanted_24 : decode cX2_collectDaysWanted 24 = .ok (.iload 4, 2) := by decide +kernel
theorem dX2_collectDaysWanted_26 : decode cX2_collectDaysWanted 26 = .ok (.iload_n 3, 1) := by decide +kernel
theorem dX2_collectDaysWanted_27 : decode cX2_collectDaysWanted 27 = .ok (.if_icmp .ge 74, 3) := by decide +kernel
theorem dX2_collectDaysWanted_30 : decode cX2_collectDaysWanted 30 = .ok (.iload_n 2, 1) := by decide +kernel
theorem dX2_collectDaysWanted_31 : decode cX2_collectDaysWanted 31 = .ok (.iload 4, 2) := by decide +kernel
theorem dX2_collectDaysWanted_33 : decode cX2_collectDaysWanted 33 = .ok (.invokestatic 36, 3) := by decide +kernel
theorem dX2_collectDaysWanted_36 : decode cX2_collectDaysWanted 36 = .ok (.ifCond .eq 15, 3) := by decide +kernel
theorem dX2_collectDaysWanted_39 : decode cX2_collectDaysWanted 39 = .ok (.iload_n 2, 1) := by decide +kernel
theorem dX2_collectDaysWanted_40 : decode cX2_collectDaysWanted 40 = .ok (.iload_n 3, 1) := by decide +kernel
theorem dX2_collectDaysWanted_41 : decode cX2_collectDaysWanted 41 = .ok (.invokestatic 36, 3) := by decide +kernel
theorem dX2_collectDaysWanted_44 : decode cX2_collectDaysWanted 44 = .ok (.ifCond .eq 7, 3) := by decide +kernel
theorem dX2_collectDaysWanted_47 : decode cX2_collectDaysWanted 47 = .ok (.iconst 1, 1) := by decide +kernel
theorem dX2_collectDaysWanted_48 : decode cX2_collectDaysWanted 48 = .ok (.goto 4, 3) := by decide +kernel
theorem dX2_collectDaysWanted_51 : decode cX2_collectDaysWanted 51 = .ok (.iconst 0, 1) := by decide +kernel
theorem dX2_collectDaysWanted_52 : decode cX2_collectDaysWanted 52 = .ok (.istore 5, 2) := by decide +kernel
theorem dX2_collectDaysWanted_54 : decode cX2_collectDaysWanted 54 = .ok (.iload 5, 2) := by decide +kernel
theorem dX2_collectDaysWanted_56 : decode cX2_collectDaysWanted 56 = .ok (.ifCond .eq 39, 3) := by decide +kernel
theorem dX2_collectDaysWanted_59 : decode cX2_collectDaysWanted 59 = .ok (.iload_n 1, 1) := by decide +kernel
theorem dX2_collectDaysWanted_60 : decode cX2_collectDaysWanted 60 = .ok (.ifCond .ne 9, 3) := by decide +kernel
theorem dX2_collectDaysWanted_63 : decode cX2_collectDaysWanted 63 = .ok (.iload_n 3, 1) := by decide +kernel
theorem dX2_collectDaysWanted_64 : decode cX2_collectDaysWanted 64 = .ok (.bipush 10, 2) := by decide +kernel
theorem dX2_collectDaysWanted_66 : decode cX2_collectDaysWanted 66 = .ok (.if_icmp .ne 29, 3) := by decide +kernel
theorem dX2_collectDaysWanted_69 : decode cX2_collectDaysWanted 69 = .ok (.aload_n 0, 1) := by decide +kernel
theorem dX2_collectDaysWanted_70 : decode cX2_collectDaysWanted 70 = .ok (.getfield 22, 3) := by decide +kernel
theorem dX2_collectDaysWanted_73 : decode cX2_collectDaysWanted 73 = .ok (.aload_n 0, 1) := by decide +kernel
theorem dX2_collectDaysWanted_74 : decode cX2_collectDaysWanted 74 = .ok (.getfield 96, 3) := by decide +kernel
theorem dX2_collectDaysWanted_77 : decode cX2_collectDaysWanted 77 = .ok (.aload_n 0, 1) := by decide +kernel
theorem dX2_collectDaysWanted_78 : decode cX2_collectDaysWanted 78 = .ok (.iload 4, 2) := by decide +kernel
theorem dX2_collectDaysWanted_80 : decode cX2_collectDaysWanted 80 = .ok (.iload_n 3, 1) := by decide +kernel
theorem dX2_collectDaysWanted_81 : decode cX2_collectDaysWanted 81 = .ok (.invokevirtual 100, 3) := by decide +kernel
theorem dX2_collectDaysWanted_84 : decode cX2_collectDaysWanted 84 = .ok (.iastore, 1) := by decide +kernel
theorem dX2_collectDaysWanted_85 : decode cX2_collectDaysWanted 85 = .ok (.aload_n 0, 1) := by decide +kernel
theorem dX2_collectDaysWanted_86 : decode cX2_collectDaysWanted 86 = .ok (.dup, 1) := by decide +kernel
theorem dX2_collectDaysWanted_87 : decode cX2_collectDaysWanted 87 = .ok (.getfield 96, 3) := by decide +kernel
theorem dX2_collectDaysWanted_90 : decode cX2_collectDaysWanted 90 = .ok (.iconst 1, 1) := by decide +kernel
theorem dX2_collectDaysWanted_91 : decode cX2_collectDaysWanted 91 = .ok (.iadd, 1) := by decide +kernel
theorem dX2_collectDaysWanted_92 : decode cX2_collectDaysWanted 92 = .ok (.putfield 96, 3) := by decide +kernel
theorem dX2_collectDaysWanted_95 : decode cX2_collectDaysWanted 95 = .ok (.iinc 4 1, 3) := by decide +kernel
theorem dX2_collectDaysWanted_98 : decode cX2_collectDaysWanted 98 = .ok (.goto (-74), 3) := by decide +kernel
theorem dX2_collectDaysWanted_101 : decode cX2_collectDaysWanted 101 = .ok (.iinc 3 1, 3) := by decide +kernel
theorem dX2_collectDaysWanted_104 : decode cX2_collectDaysWanted 104 = .ok (.goto (-89), 3) := by decide +kernel
theorem dX2_collectDaysWanted_107 : decode cX2_collectDaysWanted 107 = .ok (.return_, 1) := by decide +kernel
theorem dX2_suffice_0 : decode cX2_suffice 0 = .ok (.iconst 0, 1) := by decide +kernel
theorem dX2_suffice_1 : decode cX2_suffice 1 = .ok (.istore_n 2, 1) := by decide +kernel
theorem dX2_suffice_2 : decode cX2_suffice 2 = .ok (.iload_n 2, 1) := by decide +kernel
theorem dX2_suffice_3 : decode cX2_suffice 3 = .ok (.aload_n 0, 1) := by decide +kernel
theorem dX2_suffice_4 : decode cX2_suffice 4 = .ok (.getfield 96, 3) := by decide +kernel
theorem dX2_suffice_7 : decode cX2_suffice 7 = .ok (.if_icmp .ge 31, 3) := by decide +kernel
theorem dX2_suffice_10 : decode cX2_suffice 10 = .ok (.aload_n 0, 1) := by decide +kernel
theorem dX2_suffice_11 : decode cX2_suffice 11 = .ok (.getfield 22, 3) := by decide +kernel
theorem dX2_suffice_14 : decode cX2_suffice 14 = .ok (.iload_n 2, 1) := by decide +kernel
theorem dX2_suffice_15 : decode cX2_suffice 15 = .ok (.iaload, 1) := by decide +kernel
theorem dX2_suffice_16 : decode cX2_suffice 16 = .ok (.ifCond .eq 16, 3) := by decide +kernel
theorem dX2_suffice_19 : decode cX2_suffice 19 = .ok (.aload_n 0, 1) := by decide +kernel
theorem dX2_suffice_20 : decode cX2_suffice 20 = .ok (.getfield 22, 3) := by decide +kernel
theorem dX2_suffice_23 : decode cX2_suffice 23 = .ok (.iload_n 2, 1) := by decide +kernel
theorem dX2_suffice_24 : decode cX2_suffice 24 = .ok (.iaload, 1) := by decide +kernel
theorem dX2_suffice_25 : decode cX2_suffice 25 = .ok (.iload_n 1, 1) := by decide +kernel
theorem dX2_suffice_26 : decode cX2_suffice 26 = .ok (.iand, 1) := by decide +kernel
theorem dX2_suffice_27 : decode cX2_suffice 27 = .ok (.ifCond .ne 5, 3) := by decide +kernel
theorem dX2_suffice_30 : decode cX2_suffice 30 = .ok (.iconst 0, 1) := by decide +kernel
theorem dX2_suffice_31 : decode cX2_suffice 31 = .ok (.ireturn, 1) := by decide +kernel
theorem dX2_suffice_32 : decode cX2_suffice 32 = .ok (.iinc 2 1, 3) := by decide +kernel
theorem dX2_suffice_35 : decode cX2_suffice 35 = .ok (.goto (-33), 3) := by decide +kernel
theorem dX2_suffice_38 : decode cX2_suffice 38 = .ok (.iconst 1, 1) := by decide +kernel
theorem dX2_suffice_39 : decode cX2_suffice 39 = .ok (.ireturn, 1) := by decide +kernel
theorem dX2_fewestPinsTelling_0 : decode cX2_fewestPinsTelling 0 = .ok (.aload_n 0, 1) := by decide +kernel
theorem dX2_fewestPinsTelling_1 : decode cX2_fewestPinsTelling 1 = .ok (.iload_n 2, 1) := by decide +kernel
theorem dX2_fewestPinsTelling_2 : decode cX2_fewestPinsTelling 2 = .ok (.invokevirtual 103, 3) := by decide +kernel
theorem dX2_fewestPinsTelling_5 : decode cX2_fewestPinsTelling 5 = .ok (.pop, 1) := by decide +kernel
theorem dX2_fewestPinsTelling_6 : decode cX2_fewestPinsTelling 6 = .ok (.aload_n 0, 1) := by decide +kernel
theorem dX2_fewestPinsTelling_7 : decode cX2_fewestPinsTelling 7 = .ok (.bipush 10, 2) := by decide +kernel
theorem dX2_fewestPinsTelling_9 : decode cX2_fewestPinsTelling 9 = .ok (.invokevirtual 103, 3) := by decide +kernel
theorem dX2_fewestPinsTelling_12 : decode cX2_fewestPinsTelling 12 = .ok (.pop, 1) := by decide +kernel
theorem dX2_fewestPinsTelling_13 : decode cX2_fewestPinsTelling 13 = .ok (.aload_n 0, 1) := by decide +kernel
theorem dX2_fewestPinsTelling_14 : decode cX2_fewestPinsTelling 14 = .ok (.iload_n 1, 1) := by decide +kernel
theorem dX2_fewestPinsTelling_15 : decode cX2_fewestPinsTelling 15 = .ok (.iload_n 2, 1) := by decide +kernel
theorem dX2_fewestPinsTelling_16 : decode cX2_fewestPinsTelling 16 = .ok (.invokevirtual 107, 3) := by decide +kernel
theorem dX2_fewestPinsTelling_19 : decode cX2_fewestPinsTelling 19 = .ok (.ifCond .eq 5, 3) := by decide +kernel
theorem dX2_fewestPinsTelling_22 : decode cX2_fewestPinsTelling 22 = .ok (.iconst 0, 1) := by decide +kernel
theorem dX2_fewestPinsTelling_23 : decode cX2_fewestPinsTelling 23 = .ok (.ireturn, 1) := by decide +kernel
theorem dX2_fewestPinsTelling_24 : decode cX2_fewestPinsTelling 24 = .ok (.iconst 0, 1) := by decide +kernel
theorem dX2_fewestPinsTelling_25 : decode cX2_fewestPinsTelling 25 = .ok (.istore_n 3, 1) := by decide +kernel
theorem dX2_fewestPinsTelling_26 : decode cX2_fewestPinsTelling 26 = .ok (.iload_n 3, 1) := by decide +kernel
theorem dX2_fewestPinsTelling_27 : decode cX2_fewestPinsTelling 27 = .ok (.bipush 16, 2) := by decide +kernel
theorem dX2_fewestPinsTelling_29 : decode cX2_fewestPinsTelling 29 = .ok (.if_icmp .ge 26, 3) := by decide +kernel
theorem dX2_fewestPinsTelling_32 : decode cX2_fewestPinsTelling 32 = .ok (.aload_n 0, 1) := by decide +kernel
theorem dX2_fewestPinsTelling_33 : decode cX2_fewestPinsTelling 33 = .ok (.iload_n 1, 1) := by decide +kernel
theorem dX2_fewestPinsTelling_34 : decode cX2_fewestPinsTelling 34 = .ok (.iconst 1, 1) := by decide +kernel
theorem dX2_fewestPinsTelling_35 : decode cX2_fewestPinsTelling 35 = .ok (.iload_n 3, 1) := by decide +kernel
theorem dX2_fewestPinsTelling_36 : decode cX2_fewestPinsTelling 36 = .ok (.ishl, 1) := by decide +kernel
theorem dX2_fewestPinsTelling_37 : decode cX2_fewestPinsTelling 37 = .ok (.ior, 1) := by decide +kernel
theorem dX2_fewestPinsTelling_38 : decode cX2_fewestPinsTelling 38 = .ok (.iload_n 2, 1) := by decide +kernel
theorem dX2_fewestPinsTelling_39 : decode cX2_fewestPinsTelling 39 = .ok (.invokevirtual 107, 3) := by decide +kernel
theorem dX2_fewestPinsTelling_42 : decode cX2_fewestPinsTelling 42 = .ok (.ifCond .eq 7, 3) := by decide +kernel
theorem dX2_fewestPinsTelling_45 : decode cX2_fewestPinsTelling 45 = .ok (.iconst 1, 1) := by decide +kernel
theorem dX2_fewestPinsTelling_46 : decode cX2_fewestPinsTelling 46 = .ok (.iload_n 3, 1) := by decide +kernel
theorem dX2_fewestPinsTelling_47 : decode cX2_fewestPinsTelling 47 = .ok (.ishl, 1) := by decide +kernel
theorem dX2_fewestPinsTelling_48 : decode cX2_fewestPinsTelling 48 = .ok (.ireturn, 1) := by decide +kernel
theorem dX2_fewestPinsTelling_49 : decode cX2_fewestPinsTelling 49 = .ok (.iinc 3 1, 3) := by decide +kernel
theorem dX2_fewestPinsTelling_52 : decode cX2_fewestPinsTelling 52 = .ok (.goto (-26), 3) := by decide +kernel
theorem dX2_fewestPinsTelling_55 : decode cX2_fewestPinsTelling 55 = .ok (.iconst 1, 1) := by decide +kernel
theorem dX2_fewestPinsTelling_56 : decode cX2_fewestPinsTelling 56 = .ok (.istore_n 3, 1) := by decide +kernel
theorem dX2_fewestPinsTelling_57 : decode cX2_fewestPinsTelling 57 = .ok (.iload_n 3, 1) := by decide +kernel
theorem dX2_fewestPinsTelling_58 : decode cX2_fewestPinsTelling 58 = .ok (.bipush 16, 2) := by decide +kernel
theorem dX2_fewestPinsTelling_60 : decode cX2_fewestPinsTelling 60 = .ok (.if_icmp .ge 51, 3) := by decide +kernel
theorem dX2_fewestPinsTelling_63 : decode cX2_fewestPinsTelling 63 = .ok (.iconst 0, 1) := by decide +kernel
theorem dX2_fewestPinsTelling_64 : decode cX2_fewestPinsTelling 64 = .ok (.istore 4, 2) := by decide +kernel
theorem dX2_fewestPinsTelling_66 : decode cX2_fewestPinsTelling 66 = .ok (.iload 4, 2) := by decide +kernel
theorem dX2_fewestPinsTelling_68 : decode cX2_fewestPinsTelling 68 = .ok (.iload_n 3, 1) := by decide +kernel
theorem dX2_fewestPinsTelling_69 : decode cX2_fewestPinsTelling 69 = .ok (.if_icmp .ge 36, 3) := by decide +kernel
theorem dX2_fewestPinsTelling_72 : decode cX2_fewestPinsTelling 72 = .ok (.aload_n 0, 1) := by decide +kernel
theorem dX2_fewestPinsTelling_73 : decode cX2_fewestPinsTelling 73 = .ok (.iload_n 1, 1) := by decide +kernel
theorem dX2_fewestPinsTelling_74 : decode cX2_fewestPinsTelling 74 = .ok (.iconst 1, 1) := by decide +kernel
theorem dX2_fewestPinsTelling_75 : decode cX2_fewestPinsTelling 75 = .ok (.iload_n 3, 1) := by decide +kernel
theorem dX2_fewestPinsTelling_76 : decode cX2_fewestPinsTelling 76 = .ok (.ishl, 1) := by decide +kernel
theorem dX2_fewestPinsTelling_77 : decode cX2_fewestPinsTelling 77 = .ok (.ior, 1) := by decide +kernel
theorem dX2_fewestPinsTelling_78 : decode cX2_fewestPinsTelling 78 = .ok (.iconst 1, 1) := by decide +kernel
theorem dX2_fewestPinsTelling_79 : decode cX2_fewestPinsTelling 79 = .ok (.iload 4, 2) := by decide +kernel
theorem dX2_fewestPinsTelling_81 : decode cX2_fewestPinsTelling 81 = .ok (.ishl, 1) := by decide +kernel
theorem dX2_fewestPinsTelling_82 : decode cX2_fewestPinsTelling 82 = .ok (.ior, 1) := by decide +kernel
theorem dX2_fewestPinsTelling_83 : decode cX2_fewestPinsTelling 83 = .ok (.iload_n 2, 1) := by decide +kernel
theorem dX2_fewestPinsTelling_84 : decode cX2_fewestPinsTelling 84 = .ok (.invokevirtual 107, 3) := by decide +kernel
theorem dX2_fewestPinsTelling_87 : decode cX2_fewestPinsTelling 87 = .ok (.ifCond .eq 12, 3) := by decide +kernel
theorem dX2_fewestPinsTelling_90 : decode cX2_fewestPinsTelling 90 = .ok (.iconst 1, 1) := by decide +kernel
theorem dX2_fewestPinsTelling_91 : decode cX2_fewestPinsTelling 91 = .ok (.iload_n 3, 1) := by decide +kernel
theorem dX2_fewestPinsTelling_92 : decode cX2_fewestPinsTelling 92 = .ok (.ishl, 1) := by decide +kernel
theorem dX2_fewestPinsTelling_93 : decode cX2_fewestPinsTelling 93 = .ok (.iconst 1, 1) := by decide +kernel
theorem dX2_fewestPinsTelling_94 : decode cX2_fewestPinsTelling 94 = .ok (.iload 4, 2) := by decide +kernel
theorem dX2_fewestPinsTelling_96 : decode cX2_fewestPinsTelling 96 = .ok (.ishl, 1) := by decide +kernel
theorem dX2_fewestPinsTelling_97 : decode cX2_fewestPinsTelling 97 = .ok (.ior, 1) := by decide +kernel
theorem dX2_fewestPinsTelling_98 : decode cX2_fewestPinsTelling 98 = .ok (.ireturn, 1) := by decide +kernel
theorem dX2_fewestPinsTelling_99 : decode cX2_fewestPinsTelling 99 = .ok (.iinc 4 1, 3) := by decide +kernel
theorem dX2_fewestPinsTelling_102 : decode cX2_fewestPinsTelling 102 = .ok (.goto (-36), 3) := by decide +kernel
theorem dX2_fewestPinsTelling_105 : decode cX2_fewestPinsTelling 105 = .ok (.iinc 3 1, 3) := by decide +kernel
theorem dX2_fewestPinsTelling_108 : decode cX2_fewestPinsTelling 108 = .ok (.goto (-51), 3) := by decide +kernel
theorem dX2_fewestPinsTelling_111 : decode cX2_fewestPinsTelling 111 = .ok (.iconst (-1), 1) := by decide +kernel
theorem dX2_fewestPinsTelling_112 : decode cX2_fewestPinsTelling 112 = .ok (.ireturn, 1) := by decide +kernel
theorem dX2_tells_0 : decode cX2_tells 0 = .ok (.aload_n 0, 1) := by decide +kernel
theorem dX2_tells_1 : decode cX2_tells 1 = .ok (.getfield 11, 3) := by decide +kernel
theorem dX2_tells_4 : decode cX2_tells 4 = .ok (.iload_n 2, 1) := by decide +kernel
theorem dX2_tells_5 : decode cX2_tells 5 = .ok (.aaload, 1) := by decide +kernel
theorem dX2_tells_6 : decode cX2_tells 6 = .ok (.iload_n 1, 1) := by decide +kernel
theorem dX2_tells_7 : decode cX2_tells 7 = .ok (.invokevirtual 40, 3) := by decide +kernel
theorem dX2_tells_10 : decode cX2_tells 10 = .ok (.aload_n 0, 1) := by decide +kernel
theorem dX2_tells_11 : decode cX2_tells 11 = .ok (.getfield 11, 3) := by decide +kernel
theorem dX2_tells_14 : decode cX2_tells 14 = .ok (.bipush 10, 2) := by decide +kernel
theorem dX2_tells_16 : decode cX2_tells 16 = .ok (.aaload, 1) := by decide +kernel
theorem dX2_tells_17 : decode cX2_tells 17 = .ok (.iload_n 1, 1) := by decide +kernel
theorem dX2_tells_18 : decode cX2_tells 18 = .ok (.invokevirtual 40, 3) := by decide +kernel
theorem dX2_tells_21 : decode cX2_tells 21 = .ok (.aload_n 0, 1) := by decide +kernel
theorem dX2_tells_22 : decode cX2_tells 22 = .ok (.getfield 11, 3) := by decide +kernel
theorem dX2_tells_25 : decode cX2_tells 25 = .ok (.iload_n 2, 1) := by decide +kernel
theorem dX2_tells_26 : decode cX2_tells 26 = .ok (.aaload, 1) := by decide +kernel
theorem dX2_tells_27 : decode cX2_tells 27 = .ok (.aload_n 0, 1) := by decide +kernel
theorem dX2_tells_28 : decode cX2_tells 28 = .ok (.getfield 11, 3) := by decide +kernel
theorem dX2_tells_31 : decode cX2_tells 31 = .ok (.bipush 10, 2) := by decide +kernel
theorem dX2_tells_33 : decode cX2_tells 33 = .ok (.aaload, 1) := by decide +kernel
theorem dX2_tells_34 : decode cX2_tells 34 = .ok (.invokevirtual 44, 3) := by decide +kernel
theorem dX2_tells_37 : decode cX2_tells 37 = .ok (.ifCond .ne 7, 3) := by decide +kernel
theorem dX2_tells_40 : decode cX2_tells 40 = .ok (.iconst 1, 1) := by decide +kernel
theorem dX2_tells_41 : decode cX2_tells 41 = .ok (.goto 4, 3) := by decide +kernel
theorem dX2_tells_44 : decode cX2_tells 44 = .ok (.iconst 0, 1) := by decide +kernel
theorem dX2_tells_45 : decode cX2_tells 45 = .ok (.ireturn, 1) := by decide +kernel
theorem dX3_init_0 : decode cX3_init 0 = .ok (.aload_n 0, 1) := by decide +kernel
theorem dX3_init_1 : decode cX3_init 1 = .ok (.invokespecial 3, 3) := by decide +kernel
theorem dX3_init_4 : decode cX3_init 4 = .ok (.aload_n 0, 1) := by decide +kernel
theorem dX3_init_5 : decode cX3_init 5 = .ok (.new 9, 3) := by decide +kernel
theorem dX3_init_8 : decode cX3_init 8 = .ok (.dup, 1) := by decide +kernel
theorem dX3_init_9 : decode cX3_init 9 = .ok (.invokespecial 11, 3) := by decide +kernel
theorem dX3_init_12 : decode cX3_init 12 = .ok (.putfield 12, 3) := by decide +kernel
theorem dX3_init_15 : decode cX3_init 15 = .ok (.aload_n 0, 1) := by decide +kernel
theorem dX3_init_16 : decode cX3_init 16 = .ok (.bipush 100, 2) := by decide +kernel
theorem dX3_init_18 : decode cX3_init 18 = .ok (.newarray .char, 2) := by decide +kernel
theorem dX3_init_20 : decode cX3_init 20 = .ok (.putfield 18, 3) := by decide +kernel
theorem dX3_init_23 : decode cX3_init 23 = .ok (.aload_n 0, 1) := by decide +kernel
theorem dX3_init_24 : decode cX3_init 24 = .ok (.bipush 8, 2) := by decide +kernel
theorem dX3_init_26 : decode cX3_init 26 = .ok (.newarray .int, 2) := by decide +kernel
theorem dX3_init_28 : decode cX3_init 28 = .ok (.putfield 22, 3) := by decide +kernel
theorem dX3_init_31 : decode cX3_init 31 = .ok (.return_, 1) := by decide +kernel
theorem dX3_append_0 : decode cX3_append 0 = .ok (.aload_n 0, 1) := by decide +kernel
theorem dX3_append_1 : decode cX3_append 1 = .ok (.getfield 26, 3) := by decide +kernel
theorem dX3_append_4 : decode cX3_append 4 = .ok (.bipush 100, 2) := by decide +kernel
theorem dX3_append_6 : decode cX3_append 6 = .ok (.if_icmp .ge 23, 3) := by decide +kernel
theorem dX3_append_9 : decode cX3_append 9 = .ok (.aload_n 0, 1) := by decide +kernel
theorem dX3_append_10 : decode cX3_append 10 = .ok (.getfield 18, 3) := by decide +kernel
theorem dX3_append_13 : decode cX3_append 13 = .ok (.aload_n 0, 1) := by decide +kernel
theorem dX3_append_14 : decode cX3_append 14 = .ok (.getfield 26, 3) := by decide +kernel
theorem dX3_append_17 : decode cX3_append 17 = .ok (.iload_n 1, 1) := by decide +kernel
theorem dX3_append_18 : decode cX3_append 18 = .ok (.castore, 1) := by decide +kernel
theorem dX3_append_19 : decode cX3_append 19 = .ok (.aload_n 0, 1) := by decide +kernel
theorem dX3_append_20 : decode cX3_append 20 = .ok (.dup, 1) := by decide +kernel
theorem dX3_append_21 : decode cX3_append 21 = .ok (.getfield 26, 3) := by decide +kernel
theorem dX3_append_24 : decode cX3_append 24 = .ok (.iconst 1, 1) := by decide +kernel
theorem dX3_append_25 : decode cX3_append 25 = .ok (.iadd, 1) := by decide +kernel
theorem dX3_append_26 : decode cX3_append 26 = .ok (.putfield 26, 3) := by decide +kernel
theorem dX3_append_29 : decode cX3_append 29 = .ok (.return_, 1) := by decide +kernel
theorem dX3_tryOn_0 : decode cX3_tryOn 0 = .ok (.aload_n 0, 1) := by decide +kernel
theorem dX3_tryOn_1 : decode cX3_tryOn 1 = .ok (.getfield 12, 3) := by decide +kernel
theorem dX3_tryOn_4 : decode cX3_tryOn 4 = .ok (.aload_n 1, 1) := by decide +kernel
theorem dX3_tryOn_5 : decode cX3_tryOn 5 = .ok (.invokevirtual 30, 3) := by decide +kernel
theorem dX3_tryOn_8 : decode cX3_tryOn 8 = .ok (.aload_n 0, 1) := by decide +kernel
theorem dX3_tryOn_9 : decode cX3_tryOn 9 = .ok (.iconst 0, 1) := by decide +kernel
theorem dX3_tryOn_10 : decode cX3_tryOn 10 = .ok (.putfield 34, 3) := by decide +kernel
theorem dX3_tryOn_13 : decode cX3_tryOn 13 = .ok (.aload_n 0, 1) := by decide +kernel
theorem dX3_tryOn_14 : decode cX3_tryOn 14 = .ok (.iconst (-1), 1) := by decide +kernel
theorem dX3_tryOn_15 : decode cX3_tryOn 15 = .ok (.putfield 37, 3) := by decide +kernel
theorem dX3_tryOn_18 : decode cX3_tryOn 18 = .ok (.aload_n 0, 1) := by decide +kernel
theorem dX3_tryOn_19 : decode cX3_tryOn 19 = .ok (.iconst 0, 1) := by decide +kernel
theorem dX3_tryOn_20 : decode cX3_tryOn 20 = .ok (.putfield 40, 3) := by decide +kernel
theorem dX3_tryOn_23 : decode cX3_tryOn 23 = .ok (.aload_n 0, 1) := by decide +kernel
theorem dX3_tryOn_24 : decode cX3_tryOn 24 = .ok (.iconst 0, 1) := by decide +kernel
theorem dX3_tryOn_25 : decode cX3_tryOn 25 = .ok (.aload_n 0, 1) := by decide +kernel
theorem dX3_tryOn_26 : decode cX3_tryOn 26 = .ok (.getfield 26, 3) := by decide +kernel
theorem dX3_tryOn_29 : decode cX3_tryOn 29 = .ok (.invokevirtual 43, 3) := by decide +kernel
theorem dX3_tryOn_32 : decode cX3_tryOn 32 = .ok (.istore_n 2, 1) := by decide +kernel
theorem dX3_tryOn_33 : decode cX3_tryOn 33 = .ok (.iload_n 2, 1) := by decide +kernel
theorem dX3_tryOn_34 : decode cX3_tryOn 34 = .ok (.aload_n 0, 1) := by decide +kernel
theorem dX3_tryOn_35 : decode cX3_tryOn 35 = .ok (.getfield 26, 3) := by decide +kernel
theorem dX3_tryOn_38 : decode cX3_tryOn 38 = .ok (.if_icmp .ge 78, 3) := by decide +kernel
theorem dX3_tryOn_41 : decode cX3_tryOn 41 = .ok (.aload_n 0, 1) := by decide +kernel
theorem dX3_tryOn_42 : decode cX3_tryOn 42 = .ok (.getfield 34, 3) := by decide +kernel
theorem dX3_tryOn_45 : decode cX3_tryOn 45 = .ok (.bipush 100, 2) := by decide +kernel
theorem dX3_tryOn_47 : decode cX3_tryOn 47 = .ok (.if_icmp .ge 69, 3) := by decide +kernel
theorem dX3_tryOn_50 : decode cX3_tryOn 50 = .ok (.aload_n 0, 1) := by decide +kernel
theorem dX3_tryOn_51 : decode cX3_tryOn 51 = .ok (.iload_n 2, 1) := by decide +kernel
theorem dX3_tryOn_52 : decode cX3_tryOn 52 = .ok (.invokevirtual 47, 3) := by decide +kernel
theorem dX3_tryOn_55 : decode cX3_tryOn 55 = .ok (.istore_n 3, 1) := by decide +kernel
theorem dX3_tryOn_56 : decode cX3_tryOn 56 = .ok (.aload_n 0, 1) := by decide +kernel
theorem dX3_tryOn_57 : decode cX3_tryOn 57 = .ok (.iload_n 3, 1) := by decide +kernel
theorem dX3_tryOn_58 : decode cX3_tryOn 58 = .ok (.aload_n 0, 1) := by decide +kernel
theorem dX3_tryOn_59 : decode cX3_tryOn 59 = .ok (.getfield 26, 3) := by decide +kernel
theorem dX3_tryOn_62 : decode cX3_tryOn 62 = .ok (.if_icmp .ge 12, 3) := by decide +kernel
theorem dX3_tryOn_65 : decode cX3_tryOn 65 = .ok (.aload_n 0, 1) := by decide +kernel
theorem dX3_tryOn_66 : decode cX3_tryOn 66 = .ok (.iload_n 2, 1) := by decide +kernel
theorem dX3_tryOn_67 : decode cX3_tryOn 67 = .ok (.iload_n 3, 1) := by decide +kernel
theorem dX3_tryOn_68 : decode cX3_tryOn 68 = .ok (.invokevirtual 51, 3) := by decide +kernel
theorem dX3_tryOn_71 : decode cX3_tryOn 71 = .ok (.goto 4, 3) := by decide +kernel
theorem dX3_tryOn_74 : decode cX3_tryOn 74 = .ok (.iconst 1, 1) := by decide +kernel
theorem dX3_tryOn_75 : decode cX3_tryOn 75 = .ok (.putfield 40, 3) := by decide +kernel
theorem dX3_tryOn_78 : decode cX3_tryOn 78 = .ok (.aload_n 0, 1) := by decide +kernel
theorem dX3_tryOn_79 : decode cX3_tryOn 79 = .ok (.getfield 40, 3) := by decide +kernel
theorem dX3_tryOn_82 : decode cX3_tryOn 82 = .ok (.ifCond .eq 9, 3) := by decide +kernel
theorem dX3_tryOn_85 : decode cX3_tryOn 85 = .ok (.aload_n 0, 1) := by decide +kernel
theorem dX3_tryOn_86 : decode cX3_tryOn 86 = .ok (.iload_n 2, 1) := by decide +kernel
theorem dX3_tryOn_87 : decode cX3_tryOn 87 = .ok (.putfield 37, 3) := by decide +kernel
theorem dX3_tryOn_90 : decode cX3_tryOn 90 = .ok (.return_, 1) := by decide +kernel
theorem dX3_tryOn_91 : decode cX3_tryOn 91 = .ok (.aload_n 0, 1) := by decide +kernel
theorem dX3_tryOn_92 : decode cX3_tryOn 92 = .ok (.dup, 1) := by decide +kernel
theorem dX3_tryOn_93 : decode cX3_tryOn 93 = .ok (.getfield 34, 3) := by decide +kernel
theorem dX3_tryOn_96 : decode cX3_tryOn 96 = .ok (.iconst 1, 1) := by decide +kernel
theorem dX3_tryOn_97 : decode cX3_tryOn 97 = .ok (.iadd, 1) := by decide +kernel
theorem dX3_tryOn_98 : decode cX3_tryOn 98 = .ok (.putfield 34, 3) := by decide +kernel
theorem dX3_tryOn_101 : decode cX3_tryOn 101 = .ok (.aload_n 0, 1) := by decide +kernel
theorem dX3_tryOn_102 : decode cX3_tryOn 102 = .ok (.iload_n 3, 1) := by decide +kernel
theorem dX3_tryOn_103 : decode cX3_tryOn 103 = .ok (.iconst 1, 1) := by decide +kernel
theorem dX3_tryOn_104 : decode cX3_tryOn 104 = .ok (.iadd, 1) := by decide +kernel
theorem dX3_tryOn_105 : decode cX3_tryOn 105 = .ok (.aload_n 0, 1) := by decide +kernel
theorem dX3_tryOn_106 : decode cX3_tryOn 106 = .ok (.getfield 26, 3) := by decide +kernel
theorem dX3_tryOn_109 : decode cX3_tryOn 109 = .ok (.invokevirtual 43, 3) := by decide +kernel
theorem dX3_tryOn_112 : decode cX3_tryOn 112 = .ok (.istore_n 2, 1) := by decide +kernel
theorem dX3_tryOn_113 : decode cX3_tryOn 113 = .ok (.goto (-80), 3) := by decide +kernel
theorem dX3_tryOn_116 : decode cX3_tryOn 116 = .ok (.return_, 1) := by decide +kernel
theorem dX3_skipSpaces_0 : decode cX3_skipSpaces 0 = .ok (.iload_n 1, 1) := by decide +kernel
theorem dX3_skipSpaces_1 : decode cX3_skipSpaces 1 = .ok (.istore_n 3, 1) := by decide +kernel
theorem dX3_skipSpaces_2 : decode cX3_skipSpaces 2 = .ok (.iload_n 3, 1) := by decide +kernel
theorem dX3_skipSpaces_3 : decode cX3_skipSpaces 3 = .ok (.iload_n 2, 1) := by decide +kernel
theorem dX3_skipSpaces_4 : decode cX3_skipSpaces 4 = .ok (.if_icmp .ge 20, 3) := by decide +kernel
theorem dX3_skipSpaces_7 : decode cX3_skipSpaces 7 = .ok (.aload_n 0, 1) := by decide +kernel
theorem dX3_skipSpaces_8 : decode cX3_skipSpaces 8 = .ok (.getfield 18, 3) := by decide +kernel
theorem dX3_skipSpaces_11 : decode cX3_skipSpaces 11 = .ok (.iload_n 3, 1) := by decide +kernel
theorem dX3_skipSpaces_12 : decode cX3_skipSpaces 12 = .ok (.caload, 1) := by decide +kernel
theorem dX3_skipSpaces_13 : decode cX3_skipSpaces 13 = .ok (.bipush 32, 2) := by decide +kernel
theorem dX3_skipSpaces_15 : decode cX3_skipSpaces 15 = .ok (.if_icmp .ne 9, 3) := by decide +kernel
theorem dX3_skipSpaces_18 : decode cX3_skipSpaces 18 = .ok (.iinc 3 1, 3) := by decide +kernel
theorem dX3_skipSpaces_21 : decode cX3_skipSpaces 21 = .ok (.goto (-19), 3) := by decide +kernel
theorem dX3_skipSpaces_24 : decode cX3_skipSpaces 24 = .ok (.iload_n 3, 1) := by decide +kernel
theorem dX3_skipSpaces_25 : decode cX3_skipSpaces 25 = .ok (.ireturn, 1) := by decide +kernel
theorem dX3_endOfCommand_0 : decode cX3_endOfCommand 0 = .ok (.iload_n 1, 1) := by decide +kernel
theorem dX3_endOfCommand_1 : decode cX3_endOfCommand 1 = .ok (.istore_n 2, 1) := by decide +kernel
theorem dX3_endOfCommand_2 : decode cX3_endOfCommand 2 = .ok (.iload_n 2, 1) := by decide +kernel
theorem dX3_endOfCommand_3 : decode cX3_endOfCommand 3 = .ok (.aload_n 0, 1) := by decide +kernel
theorem dX3_endOfCommand_4 : decode cX3_endOfCommand 4 = .ok (.getfield 26, 3) := by decide +kernel
theorem dX3_endOfCommand_7 : decode cX3_endOfCommand 7 = .ok (.if_icmp .ge 20, 3) := by decide +kernel
theorem dX3_endOfCommand_10 : decode cX3_endOfCommand 10 = .ok (.aload_n 0, 1) := by decide +kernel
theorem dX3_endOfCommand_11 : decode cX3_endOfCommand 11 = .ok (.getfield 18, 3) := by decide +kernel
theorem dX3_endOfCommand_14 : decode cX3_endOfCommand 14 = .ok (.iload_n 2, 1) := by decide +kernel
theorem dX3_endOfCommand_15 : decode cX3_endOfCommand 15 = .ok (.caload, 1) := by decide +kernel
theorem dX3_endOfCommand_16 : decode cX3_endOfCommand 16 = .ok (.bipush 59, 2) := by decide +kernel
theorem dX3_endOfCommand_18 : decode cX3_endOfCommand 18 = .ok (.if_icmp .eq 9, 3) := by decide +kernel
theorem dX3_endOfCommand_21 : decode cX3_endOfCommand 21 = .ok (.iinc 2 1, 3) := by decide +kernel
theorem dX3_endOfCommand_24 : decode cX3_endOfCommand 24 = .ok (.goto (-22), 3) := by decide +kernel
theorem dX3_endOfCommand_27 : decode cX3_endOfCommand 27 = .ok (.iload_n 2, 1) := by decide +kernel
theorem dX3_endOfCommand_28 : decode cX3_endOfCommand 28 = .ok (.ireturn, 1) := by decide +kernel
theorem dX3_endOfToken_0 : decode cX3_endOfToken 0 = .ok (.iload_n 1, 1) := by decide +kernel
theorem dX3_endOfToken_1 : decode cX3_endOfToken 1 = .ok (.istore_n 3, 1) := by decide +kernel
theorem dX3_endOfToken_2 : decode cX3_endOfToken 2 = .ok (.iload_n 3, 1) := by decide +kernel
theorem dX3_endOfToken_3 : decode cX3_endOfToken 3 = .ok (.iload_n 2, 1) := by decide +kernel
theorem dX3_endOfToken_4 : decode cX3_endOfToken 4 = .ok (.if_icmp .ge 20, 3) := by decide +kernel
theorem dX3_endOfToken_7 : decode cX3_endOfToken 7 = .ok (.aload_n 0, 1) := by decide +kernel
theorem dX3_endOfToken_8 : decode cX3_endOfToken 8 = .ok (.getfield 18, 3) := by decide +kernel
theorem dX3_endOfToken_11 : decode cX3_endOfToken 11 = .ok (.iload_n 3, 1) := by decide +kernel
theorem dX3_endOfToken_12 : decode cX3_endOfToken 12 = .ok (.caload, 1) := by decide +kernel
theorem dX3_endOfToken_13 : decode cX3_endOfToken 13 = .ok (.bipush 32, 2) := by decide +kernel
theorem dX3_endOfToken_15 : decode cX3_endOfToken 15 = .ok (.if_icmp .eq 9, 3) := by decide +kernel
theorem dX3_endOfToken_18 : decode cX3_endOfToken 18 = .ok (.iinc 3 1, 3) := by decide +kernel
theorem dX3_endOfToken_21 : decode cX3_endOfToken 21 = .ok (.goto (-19), 3) := by decide +kernel
theorem dX3_endOfToken_24 : decode cX3_endOfToken 24 = .ok (.iload_n 3, 1) := by decide +kernel
theorem dX3_endOfToken_25 : decode cX3_endOfToken 25 = .ok (.ireturn, 1) := by decide +kernel
theorem dX3_perform_0 : decode cX3_perform 0 = .ok (.aload_n 0, 1) := by decide +kernel
theorem dX3_perform_1 : decode cX3_perform 1 = .ok (.iload_n 1, 1) := by decide +kernel
theorem dX3_perform_2 : decode cX3_perform 2 = .ok (.iload_n 2, 1) := by decide +kernel
theorem dX3_perform_3 : decode cX3_perform 3 = .ok (.invokevirtual 54, 3) := by decide +kernel
theorem dX3_perform_6 : decode cX3_perform 6 = .ok (.ifCond .ne 5, 3) := by decide +kernel
theorem dX3_perform_9 : decode cX3_perform 9 = .ok (.iconst 1, 1) := by decide +kernel
theorem dX3_perform_10 : decode cX3_perform 10 = .ok (.ireturn, 1) := by decide +kernel
theorem dX3_perform_11 : decode cX3_perform 11 = .ok (.iconst 0, 1) := by decide +kernel
theorem dX3_perform_12 : decode cX3_perform 12 = .ok (.istore_n 3, 1) := by decide +kernel
theorem dX3_perform_13 : decode cX3_perform 13 = .ok (.iload_n 3, 1) := by decide +kernel
theorem dX3_perform_14 : decode cX3_perform 14 = .ok (.aload_n 0, 1) := by decide +kernel
theorem dX3_perform_15 : decode cX3_perform 15 = .ok (.getfield 58, 3) := by decide +kernel
theorem dX3_perform_18 : decode cX3_perform 18 = .ok (.if_icmp .ge 25, 3) := by decide +kernel
theorem dX3_perform_21 : decode cX3_perform 21 = .ok (.aload_n 0, 1) := by decide +kernel
theorem dX3_perform_22 : decode cX3_perform 22 = .ok (.getfield 22, 3) := by decide +kernel
theorem dX3_perform_25 : decode cX3_perform 25 = .ok (.iload_n 3, 1) := by decide +kernel
theorem dX3_perform_26 : decode cX3_perform 26 = .ok (.iaload, 1) := by decide +kernel
theorem dX3_perform_27 : decode cX3_perform 27 = .ok (.aload_n 0, 1) := by decide +kernel
theorem dX3_perform_28 : decode cX3_perform 28 = .ok (.iload_n 3, 1) := by decide +kernel
theorem dX3_perform_29 : decode cX3_perform 29 = .ok (.invokevirtual 61, 3) := by decide +kernel
theorem dX3_perform_32 : decode cX3_perform 32 = .ok (.if_icmp .lt 5, 3) := by decide +kernel
theorem dX3_perform_35 : decode cX3_perform 35 = .ok (.iconst 2, 1) := by decide +kernel
theorem dX3_perform_36 : decode cX3_perform 36 = .ok (.ireturn, 1) := by decide +kernel
theorem dX3_perform_37 : decode cX3_perform 37 = .ok (.iinc 3 1, 3) := by decide +kernel
theorem dX3_perform_40 : decode cX3_perform 40 = .ok (.goto (-27), 3) := by decide +kernel
theorem dX3_perform_43 : decode cX3_perform 43 = .ok (.aload_n 0, 1) := by decide +kernel
theorem dX3_perform_44 : decode cX3_perform 44 = .ok (.invokevirtual 64, 3) := by decide +kernel
theorem dX3_perform_47 : decode cX3_perform 47 = .ok (.ifCond .ne 7, 3) := by decide +kernel
theorem dX3_perform_50 : decode cX3_perform 50 = .ok (.iconst 0, 1) := by decide +kernel
theorem dX3_perform_51 : decode cX3_perform 51 = .ok (.goto 4, 3) := by decide +kernel
theorem dX3_perform_54 : decode cX3_perform 54 = .ok (.iconst 3, 1) := by decide +kernel
theorem dX3_perform_55 : decode cX3_perform 55 = .ok (.ireturn, 1) := by decide +kernel
theorem dX3_parse_0 : decode cX3_parse 0 = .ok (.aload_n 0, 1) := by decide +kernel
theorem dX3_parse_1 : decode cX3_parse 1 = .ok (.iload_n 1, 1) := by decide +kernel
theorem dX3_parse_2 : decode cX3_parse 2 = .ok (.iload_n 2, 1) := by decide +kernel
theorem dX3_parse_3 : decode cX3_parse 3 = .ok (.invokevirtual 68, 3) := by decide +kernel
theorem dX3_parse_6 : decode cX3_parse 6 = .ok (.istore_n 3, 1) := by decide +kernel
theorem dX3_parse_7 : decode cX3_parse 7 = .ok (.aload_n 0, 1) := by decide +kernel
theorem dX3_parse_8 : decode cX3_parse 8 = .ok (.aload_n 0, 1) := by decide +kernel
theorem dX3_parse_9 : decode cX3_parse 9 = .ok (.iload_n 1, 1) := by decide +kernel
theorem dX3_parse_10 : decode cX3_parse 10 = .ok (.iload_n 3, 1) := by decide +kernel
theorem dX3_parse_11 : decode cX3_parse 11 = .ok (.invokevirtual 71, 3) := by decide +kernel
theorem dX3_parse_14 : decode cX3_parse 14 = .ok (.putfield 74, 3) := by decide +kernel
theorem dX3_parse_17 : decode cX3_parse 17 = .ok (.aload_n 0, 1) := by decide +kernel
theorem dX3_parse_18 : decode cX3_parse 18 = .ok (.getfield 74, 3) := by decide +kernel
theorem dX3_parse_21 : decode cX3_parse 21 = .ok (.iconst (-1), 1) := by decide +kernel
theorem dX3_parse_22 : decode cX3_parse 22 = .ok (.if_icmp .ne 5, 3) := by decide +kernel
theorem dX3_parse_25 : decode cX3_parse 25 = .ok (.iconst 0, 1) := by decide +kernel
theorem dX3_parse_26 : decode cX3_parse 26 = .ok (.ireturn, 1) := by decide +kernel
theorem dX3_parse_27 : decode cX3_parse 27 = .ok (.aload_n 0, 1) := by decide +kernel
theorem dX3_parse_28 : decode cX3_parse 28 = .ok (.iload_n 3, 1) := by decide +kernel
theorem dX3_parse_29 : decode cX3_parse 29 = .ok (.iload_n 2, 1) := by decide +kernel
theorem dX3_parse_30 : decode cX3_parse 30 = .ok (.invokevirtual 43, 3) := by decide +kernel
theorem dX3_parse_33 : decode cX3_parse 33 = .ok (.istore 4, 2) := by decide +kernel
theorem dX3_parse_35 : decode cX3_parse 35 = .ok (.aload_n 0, 1) := by decide +kernel
theorem dX3_parse_36 : decode cX3_parse 36 = .ok (.iconst 0, 1) := by decide +kernel
theorem dX3_parse_37 : decode cX3_parse 37 = .ok (.putfield 58, 3) := by decide +kernel
theorem dX3_parse_40 : decode cX3_parse 40 = .ok (.aload_n 0, 1) := by decide +kernel
theorem dX3_parse_41 : decode cX3_parse 41 = .ok (.getfield 58, 3) := by decide +kernel
theorem dX3_parse_44 : decode cX3_parse 44 = .ok (.getstatic 77, 3) := by decide +kernel
theorem dX3_parse_47 : decode cX3_parse 47 = .ok (.aload_n 0, 1) := by decide +kernel
theorem dX3_parse_48 : decode cX3_parse 48 = .ok (.getfield 74, 3) := by decide +kernel
theorem dX3_parse_51 : decode cX3_parse 51 = .ok (.iaload, 1) := by decide +kernel
theorem dX3_parse_52 : decode cX3_parse 52 = .ok (.if_icmp .ge 69, 3) := by decide +kernel
theorem dX3_parse_55 : decode cX3_parse 55 = .ok (.iload 4, 2) := by decide +kernel
theorem dX3_parse_57 : decode cX3_parse 57 = .ok (.iload_n 2, 1) := by decide +kernel
theorem dX3_parse_58 : decode cX3_parse 58 = .ok (.if_icmp .ge 63, 3) := by decide +kernel
theorem dX3_parse_61 : decode cX3_parse 61 = .ok (.aload_n 0, 1) := by decide +kernel
theorem dX3_parse_62 : decode cX3_parse 62 = .ok (.iload 4, 2) := by decide +kernel
theorem dX3_parse_64 : decode cX3_parse 64 = .ok (.iload_n 2, 1) := by decide +kernel
theorem dX3_parse_65 : decode cX3_parse 65 = .ok (.invokevirtual 68, 3) := by decide +kernel
theorem dX3_parse_68 : decode cX3_parse 68 = .ok (.istore_n 3, 1) := by decide +kernel
theorem dX3_parse_69 : decode cX3_parse 69 = .ok (.aload_n 0, 1) := by decide +kernel
theorem dX3_parse_70 : decode cX3_parse 70 = .ok (.getfield 22, 3) := by decide +kernel
theorem dX3_parse_73 : decode cX3_parse 73 = .ok (.aload_n 0, 1) := by decide +kernel
theorem dX3_parse_74 : decode cX3_parse 74 = .ok (.getfield 58, 3) := by decide +kernel
theorem dX3_parse_77 : decode cX3_parse 77 = .ok (.aload_n 0, 1) := by decide +kernel
theorem dX3_parse_78 : decode cX3_parse 78 = .ok (.iload 4, 2) := by decide +kernel
theorem dX3_parse_80 : decode cX3_parse 80 = .ok (.iload_n 3, 1) := by decide +kernel
theorem dX3_parse_81 : decode cX3_parse 81 = .ok (.invokevirtual 80, 3) := by decide +kernel
theorem dX3_parse_84 : decode cX3_parse 84 = .ok (.iastore, 1) := by decide +kernel
theorem dX3_parse_85 : decode cX3_parse 85 = .ok (.aload_n 0, 1) := by decide +kernel
theorem dX3_parse_86 : decode cX3_parse 86 = .ok (.getfield 22, 3) := by decide +kernel
theorem dX3_parse_89 : decode cX3_parse 89 = .ok (.aload_n 0, 1) := by decide +kernel
theorem dX3_parse_90 : decode cX3_parse 90 = .ok (.getfield 58, 3) := by decide +kernel
theorem dX3_parse_93 : decode cX3_parse 93 = .ok (.iaload, 1) := by decide +kernel
theorem dX3_parse_94 : decode cX3_parse 94 = .ok (.iconst (-1), 1) := by decide +kernel
theorem dX3_parse_95 : decode cX3_parse 95 = .ok (.if_icmp .ne 5, 3) := by decide +kernel
theorem dX3_parse_98 : decode cX3_parse 98 = .ok (.iconst 0, 1) := by decide +kernel
theorem dX3_parse_99 : decode cX3_parse 99 = .ok (.ireturn, 1) := by decide +kernel
theorem dX3_parse_100 : decode cX3_parse 100 = .ok (.aload_n 0, 1) := by decide +kernel
theorem dX3_parse_101 : decode cX3_parse 101 = .ok (.iload_n 3, 1) := by decide +kernel
theorem dX3_parse_102 : decode cX3_parse 102 = .ok (.iload_n 2, 1) := by decide +kernel
theorem dX3_parse_103 : decode cX3_parse 103 = .ok (.invokevirtual 43, 3) := by decide +kernel
theorem dX3_parse_106 : decode cX3_parse 106 = .ok (.istore 4, 2) := by decide +kernel
theorem dX3_parse_108 : decode cX3_parse 108 = .ok (.aload_n 0, 1) := by decide +kernel
theorem dX3_parse_109 : decode cX3_parse 109 = .ok (.dup, 1) := by decide +kernel
theorem dX3_parse_110 : decode cX3_parse 110 = .ok (.getfield 58, 3) := by decide +kernel
theorem dX3_parse_113 : decode cX3_parse 113 = .ok (.iconst 1, 1) := by decide +kernel
theorem dX3_parse_114 : decode cX3_parse 114 = .ok (.iadd, 1) := by decide +kernel
theorem dX3_parse_115 : decode cX3_parse 115 = .ok (.putfield 58, 3) := by decide +kernel
theorem dX3_parse_118 : decode cX3_parse 118 = .ok (.goto (-78), 3) := by decide +kernel
theorem dX3_parse_121 : decode cX3_parse 121 = .ok (.iload 4, 2) := by decide +kernel
theorem dX3_parse_123 : decode cX3_parse 123 = .ok (.iload_n 2, 1) := by decide +kernel
theorem dX3_parse_124 : decode cX3_parse 124 = .ok (.if_icmp .lt 29, 3) := by decide +kernel
theorem dX3_parse_127 : decode cX3_parse 127 = .ok (.aload_n 0, 1) := by decide +kernel
theorem dX3_parse_128 : decode cX3_parse 128 = .ok (.getfield 58, 3) := by decide +kernel
theorem dX3_parse_131 : decode cX3_parse 131 = .ok (.getstatic 83, 3) := by decide +kernel
theorem dX3_parse_134 : decode cX3_parse 134 = .ok (.aload_n 0, 1) := by decide +kernel
theorem dX3_parse_135 : decode cX3_parse 135 = .ok (.getfield 74, 3) := by decide +kernel
theorem dX3_parse_138 : decode cX3_parse 138 = .ok (.iaload, 1) := by decide +kernel
theorem dX3_parse_139 : decode cX3_parse 139 = .ok (.if_icmp .lt 14, 3) := by decide +kernel
theorem dX3_parse_142 : decode cX3_parse 142 = .ok (.aload_n 0, 1) := by decide +kernel
theorem dX3_parse_143 : decode cX3_parse 143 = .ok (.invokevirtual 86, 3) := by decide +kernel
theorem dX3_parse_146 : decode cX3_parse 146 = .ok (.ifCond .eq 7, 3) := by decide +kernel
theorem dX3_parse_149 : decode cX3_parse 149 = .ok (.iconst 1, 1) := by decide +kernel
theorem dX3_parse_150 : decode cX3_parse 150 = .ok (.goto 4, 3) := by decide +kernel
theorem dX3_parse_153 : decode cX3_parse 153 = .ok (.iconst 0, 1) := by decide +kernel
theorem dX3_parse_154 : decode cX3_parse 154 = .ok (.ireturn, 1) := by decide +kernel
theorem dX3_wordBetween_0 : decode cX3_wordBetween 0 = .ok (.iconst 0, 1) := by decide +kernel
theorem dX3_wordBetween_1 : decode cX3_wordBetween 1 = .ok (.istore_n 3, 1) := by decide +kernel
theorem dX3_wordBetween_2 : decode cX3_wordBetween 2 = .ok (.iload_n 3, 1) := by decide +kernel
theorem dX3_wordBetween_3 : decode cX3_wordBetween 3 = .ok (.bipush 8, 2) := by decide +kernel
theorem dX3_wordBetween_5 : decode cX3_wordBetween 5 = .ok (.if_icmp .ge 24, 3) := by decide +kernel
theorem dX3_wordBetween_8 : decode cX3_wordBetween 8 = .ok (.aload_n 0, 1) := by decide +kernel
theorem dX3_wordBetween_9 : decode cX3_wordBetween 9 = .ok (.iload_n 3, 1) := by decide +kernel
theorem dX3_wordBetween_10 : decode cX3_wordBetween 10 = .ok (.invokestatic 90, 3) := by decide +kernel
theorem dX3_wordBetween_13 : decode cX3_wordBetween 13 = .ok (.iload_n 1, 1) := by decide +kernel
theorem dX3_wordBetween_14 : decode cX3_wordBetween 14 = .ok (.iload_n 2, 1) := by decide +kernel
theorem dX3_wordBetween_15 : decode cX3_wordBetween 15 = .ok (.invokevirtual 94, 3) := by decide +kernel
theorem dX3_wordBetween_18 : decode cX3_wordBetween 18 = .ok (.ifCond .eq 5, 3) := by decide +kernel
theorem dX3_wordBetween_21 : decode cX3_wordBetween 21 = .ok (.iload_n 3, 1) := by decide +kernel
theorem dX3_wordBetween_22 : decode cX3_wordBetween 22 = .ok (.ireturn, 1) := by decide +kernel
theorem dX3_wordBetween_23 : decode cX3_wordBetween 23 = .ok (.iinc 3 1, 3) := by decide +kernel
theorem dX3_wordBetween_26 : decode cX3_wordBetween 26 = .ok (.goto (-24), 3) := by decide +kernel
theorem dX3_wordBetween_29 : decode cX3_wordBetween 29 = .ok (.iconst (-1), 1) := by decide +kernel
theorem dX3_wordBetween_30 : decode cX3_wordBetween 30 = .ok (.ireturn, 1) := by decide +kernel
theorem dX3_spelling_0 : decode cX3_spelling 0 = .ok (.iload_n 0, 1) := by decide +kernel
theorem dX3_spelling_1 : decode cX3_spelling 1 = .ok (.tableswitch 64 0 6 #[43, 46, 49, 52, 55, 58, 61], 43) := by decide +kernel
theorem dX3_spelling_44 : decode cX3_spelling 44 = .ok (.ldc 98, 2) := by decide +kernel
theorem dX3_spelling_46 : decode cX3_spelling 46 = .ok (.areturn, 1) := by decide +kernel
theorem dX3_spelling_47 : decode cX3_spelling 47 = .ok (.ldc 100, 2) := by decide +kernel
theorem dX3_spelling_49 : decode cX3_spelling 49 = .ok (.areturn, 1) := by decide +kernel
theorem dX3_spelling_50 : decode cX3_spelling 50 = .ok (.ldc 102, 2) := by decide +kernel
theorem dX3_spelling_52 : decode cX3_spelling 52 = .ok (.areturn, 1) := by decide +kernel
theorem dX3_spelling_53 : decode cX3_spelling 53 = .ok (.ldc 104, 2) := by decide +kernel
theorem dX3_spelling_55 : decode cX3_spelling 55 = .ok (.areturn, 1) := by decide +kernel
theorem dX3_spelling_56 : decode cX3_spelling 56 = .ok (.ldc 106, 2) := by decide +kernel
theorem dX3_spelling_58 : decode cX3_spelling 58 = .ok (.areturn, 1) := by decide +kernel
theorem dX3_spelling_59 : decode cX3_spelling 59 = .ok (.ldc 108, 2) := by decide +kernel
theorem dX3_spelling_61 : decode cX3_spelling 61 = .ok (.areturn, 1) := by decide +kernel
theorem dX3_spelling_62 : decode cX3_spelling 62 = .ok (.ldc 110, 2) := by decide +kernel
theorem dX3_spelling_64 : decode cX3_spelling 64 = .ok (.areturn, 1) := by decide +kernel
theorem dX3_spelling_65 : decode cX3_spelling 65 = .ok (.ldc 112, 2) := by decide +kernel
theorem dX3_spelling_67 : decode cX3_spelling 67 = .ok (.areturn, 1) := by decide +kernel
theorem dX3_isWritten_0 : decode cX3_isWritten 0 = .ok (.aload_n 1, 1) := by decide +kernel
theorem dX3_isWritten_1 : decode cX3_isWritten 1 = .ok (.invokevirtual 114, 3) := by decide +kernel
theorem dX3_isWritten_4 : decode cX3_isWritten 4 = .ok (.iload_n 3, 1) := by decide +kernel
theorem dX3_isWritten_5 : decode cX3_isWritten 5 = .ok (.iload_n 2, 1) := by decide +kernel
theorem dX3_isWritten_6 : decode cX3_isWritten 6 = .ok (.isub, 1) := by decide +kernel
theorem dX3_isWritten_7 : decode cX3_isWritten 7 = .ok (.if_icmp .eq 5, 3) := by decide +kernel
theorem dX3_isWritten_10 : decode cX3_isWritten 10 = .ok (.iconst 0, 1) := by decide +kernel
theorem dX3_isWritten_11 : decode cX3_isWritten 11 = .ok (.ireturn, 1) := by decide +kernel
theorem dX3_isWritten_12 : decode cX3_isWritten 12 = .ok (.iconst 0, 1) := by decide +kernel
theorem dX3_isWritten_13 : decode cX3_isWritten 13 = .ok (.istore 4, 2) := by decide +kernel
theorem dX3_isWritten_15 : decode cX3_isWritten 15 = .ok (.iload 4, 2) := by decide +kernel
theorem dX3_isWritten_17 : decode cX3_isWritten 17 = .ok (.aload_n 1, 1) := by decide +kernel
theorem dX3_isWritten_18 : decode cX3_isWritten 18 = .ok (.invokevirtual 114, 3) := by decide +kernel
theorem dX3_isWritten_21 : decode cX3_isWritten 21 = .ok (.if_icmp .ge 29, 3) := by decide +kernel
theorem dX3_isWritten_24 : decode cX3_isWritten 24 = .ok (.aload_n 1, 1) := by decide +kernel
theorem dX3_isWritten_25 : decode cX3_isWritten 25 = .ok (.iload 4, 2) := by decide +kernel
theorem dX3_isWritten_27 : decode cX3_isWritten 27 = .ok (.invokevirtual 118, 3) := by decide +kernel
theorem dX3_isWritten_30 : decode cX3_isWritten 30 = .ok (.aload_n 0, 1) := by decide +kernel
theorem dX3_isWritten_31 : decode cX3_isWritten 31 = .ok (.getfield 18, 3) := by decide +kernel
theorem dX3_isWritten_34 : decode cX3_isWritten 34 = .ok (.iload_n 2, 1) := by decide +kernel
theorem dX3_isWritten_35 : decode cX3_isWritten 35 = .ok (.iload 4, 2) := by decide +kernel
theorem dX3_isWritten_37 : decode cX3_isWritten 37 = .ok (.iadd, 1) := by decide +kernel
theorem dX3_isWritten_38 : decode cX3_isWritten 38 = .ok (.caload, 1) := by decide +kernel
theorem dX3_isWritten_39 : decode cX3_isWritten 39 = .ok (.if_icmp .eq 5, 3) := by decide +kernel
theorem dX3_isWritten_42 : decode cX3_isWritten 42 = .ok (.iconst 0, 1) := by decide +kernel
theorem dX3_isWritten_43 : decode cX3_isWritten 43 = .ok (.ireturn, 1) := by decide +kernel
theorem dX3_isWritten_44 : decode cX3_isWritten 44 = .ok (.iinc 4 1, 3) := by decide +kernel
theorem dX3_isWritten_47 : decode cX3_isWritten 47 = .ok (.goto (-32), 3) := by decide +kernel
theorem dX3_isWritten_50 : decode cX3_isWritten 50 = .ok (.iconst 1, 1) := by decide +kernel
theorem dX3_isWritten_51 : decode cX3_isWritten 51 = .ok (.ireturn, 1) := by decide +kernel
theorem dX3_numberBetween_0 : decode cX3_numberBetween 0 = .ok (.iload_n 2, 1) := by decide +kernel
theorem dX3_numberBetween_1 : decode cX3_numberBetween 1 = .ok (.iload_n 1, 1) := by decide +kernel
theorem dX3_numberBetween_2 : decode cX3_numberBetween 2 = .ok (.isub, 1) := by decide +kernel
theorem dX3_numberBetween_3 : decode cX3_numberBetween 3 = .ok (.istore_n 3, 1) := by decide +kernel
theorem dX3_numberBetween_4 : decode cX3_numberBetween 4 = .ok (.iload_n 3, 1) := by decide +kernel
theorem dX3_numberBetween_5 : decode cX3_numberBetween 5 = .ok (.iconst 1, 1) := by decide +kernel
theorem dX3_numberBetween_6 : decode cX3_numberBetween 6 = .ok (.if_icmp .lt 8, 3) := by decide +kernel
theorem dX3_numberBetween_9 : decode cX3_numberBetween 9 = .ok (.iload_n 3, 1) := by decide +kernel
theorem dX3_numberBetween_10 : decode cX3_numberBetween 10 = .ok (.iconst 2, 1) := by decide +kernel
theorem dX3_numberBetween_11 : decode cX3_numberBetween 11 = .ok (.if_icmp .le 5, 3) := by decide +kernel
theorem dX3_numberBetween_14 : decode cX3_numberBetween 14 = .ok (.iconst (-1), 1) := by decide +kernel
theorem dX3_numberBetween_15 : decode cX3_numberBetween 15 = .ok (.ireturn, 1) := by decide +kernel
theorem dX3_numberBetween_16 : decode cX3_numberBetween 16 = .ok (.iconst 0, 1) := by decide +kernel
theorem dX3_numberBetween_17 : decode cX3_numberBetween 17 = .ok (.istore 4, 2) := by decide +kernel
theorem dX3_numberBetween_19 : decode cX3_numberBetween 19 = .ok (.iload_n 1, 1) := by decide +kernel
theorem dX3_numberBetween_20 : decode cX3_numberBetween 20 = .ok (.istore 5, 2) := by decide +kernel
theorem dX3_numberBetween_22 : decode cX3_numberBetween 22 = .ok (.iload 5, 2) := by decide +kernel
theorem dX3_numberBetween_24 : decode cX3_numberBetween 24 = .ok (.iload_n 2, 1) := by decide +kernel
theorem dX3_numberBetween_25 : decode cX3_numberBetween 25 = .ok (.if_icmp .ge 53, 3) := by decide +kernel
theorem dX3_numberBetween_28 : decode cX3_numberBetween 28 = .ok (.aload_n 0, 1) := by decide +kernel
theorem dX3_numberBetween_29 : decode cX3_numberBetween 29 = .ok (.getfield 18, 3) := by decide +kernel
theorem dX3_numberBetween_32 : decode cX3_numberBetween 32 = .ok (.iload 5, 2) := by decide +kernel
theorem dX3_numberBetween_34 : decode cX3_numberBetween 34 = .ok (.caload, 1) := by decide +kernel
theorem dX3_numberBetween_35 : decode cX3_numberBetween 35 = .ok (.bipush 48, 2) := by decide +kernel
theorem dX3_numberBetween_37 : decode cX3_numberBetween 37 = .ok (.if_icmp .lt 15, 3) := by decide +kernel
theorem dX3_numberBetween_40 : decode cX3_numberBetween 40 = .ok (.aload_n 0, 1) := by decide +kernel
theorem dX3_numberBetween_41 : decode cX3_numberBetween 41 = .ok (.getfield 18, 3) := by decide +kernel
theorem dX3_numberBetween_44 : decode cX3_numberBetween 44 = .ok (.iload 5, 2) := by decide +kernel
theorem dX3_numberBetween_46 : decode cX3_numberBetween 46 = .ok (.caload, 1) := by decide +kernel
theorem dX3_numberBetween_47 : decode cX3_numberBetween 47 = .ok (.bipush 57, 2) := by decide +kernel
theorem dX3_numberBetween_49 : decode cX3_numberBetween 49 = .ok (.if_icmp .le 5, 3) := by decide +kernel
theorem dX3_numberBetween_52 : decode cX3_numberBetween 52 = .ok (.iconst (-1), 1) := by decide +kernel
theorem dX3_numberBetween_53 : decode cX3_numberBetween 53 = .ok (.ireturn, 1) := by decide +kernel
theorem dX3_numberBetween_54 : decode cX3_numberBetween 54 = .ok (.iload 4, 2) := by decide +kernel
theorem dX3_numberBetween_56 : decode cX3_numberBetween 56 = .ok (.bipush 10, 2) := by decide +kernel
theorem dX3_numberBetween_58 : decode cX3_numberBetween 58 = .ok (.imul, 1) := by decide +kernel
theorem dX3_numberBetween_59 : decode cX3_numberBetween 59 = .ok (.aload_n 0, 1) := by decide +kernel
theorem dX3_numberBetween_60 : decode cX3_numberBetween 60 = .ok (.getfield 18, 3) := by decide +kernel
theorem dX3_numberBetween_63 : decode cX3_numberBetween 63 = .ok (.iload 5, 2) := by decide +kernel
theorem dX3_numberBetween_65 : decode cX3_numberBetween 65 = .ok (.caload, 1) := by decide +kernel
theorem dX3_numberBetween_66 : decode cX3_numberBetween 66 = .ok (.bipush 48, 2) := by decide +kernel
theorem dX3_numberBetween_68 : decode cX3_numberBetween 68 = .ok (.isub, 1) := by decide +kernel
theorem dX3_numberBetween_69 : decode cX3_numberBetween 69 = .ok (.iadd, 1) := by decide +kernel
theorem dX3_numberBetween_70 : decode cX3_numberBetween 70 = .ok (.istore 4, 2) := by decide +kernel
theorem dX3_numberBetween_72 : decode cX3_numberBetween 72 = .ok (.iinc 5 1, 3) := by decide +kernel
theorem dX3_numberBetween_75 : decode cX3_numberBetween 75 = .ok (.goto (-53), 3) := by decide +kernel
theorem dX3_numberBetween_78 : decode cX3_numberBetween 78 = .ok (.iload 4, 2) := by decide +kernel
theorem dX3_numberBetween_80 : decode cX3_numberBetween 80 = .ok (.ireturn, 1) := by decide +kernel
theorem dX3_areUnlike_0 : decode cX3_areUnlike 0 = .ok (.aload_n 0, 1) := by decide +kernel
theorem dX3_areUnlike_1 : decode cX3_areUnlike 1 = .ok (.getfield 74, 3) := by decide +kernel
theorem dX3_areUnlike_4 : decode cX3_areUnlike 4 = .ok (.bipush 7, 2) := by decide +kernel
theorem dX3_areUnlike_6 : decode cX3_areUnlike 6 = .ok (.if_icmp .ne 7, 3) := by decide +kernel
theorem dX3_areUnlike_9 : decode cX3_areUnlike 9 = .ok (.iconst 1, 1) := by decide +kernel
theorem dX3_areUnlike_10 : decode cX3_areUnlike 10 = .ok (.goto 4, 3) := by decide +kernel
theorem dX3_areUnlike_13 : decode cX3_areUnlike 13 = .ok (.iconst 0, 1) := by decide +kernel
theorem dX3_areUnlike_14 : decode cX3_areUnlike 14 = .ok (.istore_n 1, 1) := by decide +kernel
theorem dX3_areUnlike_15 : decode cX3_areUnlike 15 = .ok (.iload_n 1, 1) := by decide +kernel
theorem dX3_areUnlike_16 : decode cX3_areUnlike 16 = .ok (.istore_n 2, 1) := by decide +kernel
theorem dX3_areUnlike_17 : decode cX3_areUnlike 17 = .ok (.iload_n 2, 1) := by decide +kernel
theorem dX3_areUnlike_18 : decode cX3_areUnlike 18 = .ok (.aload_n 0, 1) := by decide +kernel
theorem dX3_areUnlike_19 : decode cX3_areUnlike 19 = .ok (.getfield 58, 3) := by decide +kernel
theorem dX3_areUnlike_22 : decode cX3_areUnlike 22 = .ok (.if_icmp .ge 44, 3) := by decide +kernel
theorem dX3_areUnlike_25 : decode cX3_areUnlike 25 = .ok (.iload_n 2, 1) := by decide +kernel
theorem dX3_areUnlike_26 : decode cX3_areUnlike 26 = .ok (.iconst 1, 1) := by decide +kernel
theorem dX3_areUnlike_27 : decode cX3_areUnlike 27 = .ok (.iadd, 1) := by decide +kernel
theorem dX3_areUnlike_28 : decode cX3_areUnlike 28 = .ok (.istore_n 3, 1) := by decide +kernel
theorem dX3_areUnlike_29 : decode cX3_areUnlike 29 = .ok (.iload_n 3, 1) := by decide +kernel
theorem dX3_areUnlike_30 : decode cX3_areUnlike 30 = .ok (.aload_n 0, 1) := by decide +kernel
theorem dX3_areUnlike_31 : decode cX3_areUnlike 31 = .ok (.getfield 58, 3) := by decide +kernel
theorem dX3_areUnlike_34 : decode cX3_areUnlike 34 = .ok (.if_icmp .ge 26, 3) := by decide +kernel
theorem dX3_areUnlike_37 : decode cX3_areUnlike 37 = .ok (.aload_n 0, 1) := by decide +kernel
theorem dX3_areUnlike_38 : decode cX3_areUnlike 38 = .ok (.getfield 22, 3) := by decide +kernel
theorem dX3_areUnlike_41 : decode cX3_areUnlike 41 = .ok (.iload_n 2, 1) := by decide +kernel
theorem dX3_areUnlike_42 : decode cX3_areUnlike 42 = .ok (.iaload, 1) := by decide +kernel
theorem dX3_areUnlike_43 : decode cX3_areUnlike 43 = .ok (.aload_n 0, 1) := by decide +kernel
theorem dX3_areUnlike_44 : decode cX3_areUnlike 44 = .ok (.getfield 22, 3) := by decide +kernel
theorem dX3_areUnlike_47 : decode cX3_areUnlike 47 = .ok (.iload_n 3, 1) := by decide +kernel
theorem dX3_areUnlike_48 : decode cX3_areUnlike 48 = .ok (.iaload, 1) := by decide +kernel
theorem dX3_areUnlike_49 : decode cX3_areUnlike 49 = .ok (.if_icmp .ne 5, 3) := by decide +kernel
theorem dX3_areUnlike_52 : decode cX3_areUnlike 52 = .ok (.iconst 0, 1) := by decide +kernel
theorem dX3_areUnlike_53 : decode cX3_areUnlike 53 = .ok (.ireturn, 1) := by decide +kernel
theorem dX3_areUnlike_54 : decode cX3_areUnlike 54 = .ok (.iinc 3 1, 3) := by decide +kernel
theorem dX3_areUnlike_57 : decode cX3_areUnlike 57 = .ok (.goto (-28), 3) := by decide +kernel
theorem dX3_areUnlike_60 : decode cX3_areUnlike 60 = .ok (.iinc 2 1, 3) := by decide +kernel
theorem dX3_areUnlike_63 : decode cX3_areUnlike 63 = .ok (.goto (-46), 3) := by decide +kernel
theorem dX3_areUnlike_66 : decode cX3_areUnlike 66 = .ok (.iconst 1, 1) := by decide +kernel
theorem dX3_areUnlike_67 : decode cX3_areUnlike 67 = .ok (.ireturn, 1) := by decide +kernel
theorem dX3_rangeOfNumber_0 : decode cX3_rangeOfNumber 0 = .ok (.aload_n 0, 1) := by decide +kernel
theorem dX3_rangeOfNumber_1 : decode cX3_rangeOfNumber 1 = .ok (.getfield 74, 3) := by decide +kernel
theorem dX3_rangeOfNumber_4 : decode cX3_rangeOfNumber 4 = .ok (.tableswitch 64 3 7 #[36, 36, 36, 44, 52], 36) := by decide +kernel
theorem dX3_rangeOfNumber_40 : decode cX3_rangeOfNumber 40 = .ok (.aload_n 0, 1) := by decide +kernel
theorem dX3_rangeOfNumber_41 : decode cX3_rangeOfNumber 41 = .ok (.getfield 12, 3) := by decide +kernel
theorem dX3_rangeOfNumber_44 : decode cX3_rangeOfNumber 44 = .ok (.getfield 122, 3) := by decide +kernel
theorem dX3_rangeOfNumber_47 : decode cX3_rangeOfNumber 47 = .ok (.ireturn, 1) := by decide +kernel
theorem dX3_rangeOfNumber_48 : decode cX3_rangeOfNumber 48 = .ok (.aload_n 0, 1) := by decide +kernel
theorem dX3_rangeOfNumber_49 : decode cX3_rangeOfNumber 49 = .ok (.getfield 12, 3) := by decide +kernel
theorem dX3_rangeOfNumber_52 : decode cX3_rangeOfNumber 52 = .ok (.getfield 125, 3) := by decide +kernel
theorem dX3_rangeOfNumber_55 : decode cX3_rangeOfNumber 55 = .ok (.ireturn, 1) := by decide +kernel
theorem dX3_rangeOfNumber_56 : decode cX3_rangeOfNumber 56 = .ok (.iload_n 1, 1) := by decide +kernel
theorem dX3_rangeOfNumber_57 : decode cX3_rangeOfNumber 57 = .ok (.ifCond .ne 8, 3) := by decide +kernel
theorem dX3_rangeOfNumber_60 : decode cX3_rangeOfNumber 60 = .ok (.bipush 16, 2) := by decide +kernel
theorem dX3_rangeOfNumber_62 : decode cX3_rangeOfNumber 62 = .ok (.goto 5, 3) := by decide +kernel
theorem dX3_rangeOfNumber_65 : decode cX3_rangeOfNumber 65 = .ok (.bipush 7, 2) := by decide +kernel
theorem dX3_rangeOfNumber_67 : decode cX3_rangeOfNumber 67 = .ok (.ireturn, 1) := by decide +kernel
theorem dX3_rangeOfNumber_68 : decode cX3_rangeOfNumber 68 = .ok (.bipush 16, 2) := by decide +kernel
theorem dX3_rangeOfNumber_70 : decode cX3_rangeOfNumber 70 = .ok (.ireturn, 1) := by decide +kernel
theorem dX3_doCommand_0 : decode cX3_doCommand 0 = .ok (.aload_n 0, 1) := by decide +kernel
theorem dX3_doCommand_1 : decode cX3_doCommand 1 = .ok (.getfield 74, 3) := by decide +kernel
theorem dX3_doCommand_4 : decode cX3_doCommand 4 = .ok (.tableswitch 142 0 6 #[44, 49, 54, 67, 103, 116, 129], 44) := by decide +kernel
theorem dX3_doCommand_48 : decode cX3_doCommand 48 = .ok (.aload_n 0, 1) := by decide +kernel
theorem dX3_doCommand_49 : decode cX3_doCommand 49 = .ok (.invokevirtual 128, 3) := by decide +kernel
theorem dX3_doCommand_52 : decode cX3_doCommand 52 = .ok (.ireturn, 1) := by decide +kernel
theorem dX3_doCommand_53 : decode cX3_doCommand 53 = .ok (.aload_n 0, 1) := by decide +kernel
theorem dX3_doCommand_54 : decode cX3_doCommand 54 = .ok (.invokevirtual 131, 3) := by decide +kernel
theorem dX3_doCommand_57 : decode cX3_doCommand 57 = .ok (.ireturn, 1) := by decide +kernel
theorem dX3_doCommand_58 : decode cX3_doCommand 58 = .ok (.aload_n 0, 1) := by decide +kernel
theorem dX3_doCommand_59 : decode cX3_doCommand 59 = .ok (.iconst 0, 1) := by decide +kernel
theorem dX3_doCommand_60 : decode cX3_doCommand 60 = .ok (.aload_n 0, 1) := by decide +kernel
theorem dX3_doCommand_61 : decode cX3_doCommand 61 = .ok (.getfield 22, 3) := by decide +kernel
theorem dX3_doCommand_64 : decode cX3_doCommand 64 = .ok (.iconst 0, 1) := by decide +kernel
theorem dX3_doCommand_65 : decode cX3_doCommand 65 = .ok (.iaload, 1) := by decide +kernel
theorem dX3_doCommand_66 : decode cX3_doCommand 66 = .ok (.iconst 0, 1) := by decide +kernel
theorem dX3_doCommand_67 : decode cX3_doCommand 67 = .ok (.invokevirtual 134, 3) := by decide +kernel
theorem dX3_doCommand_70 : decode cX3_doCommand 70 = .ok (.ireturn, 1) := by decide +kernel
theorem dX3_doCommand_71 : decode cX3_doCommand 71 = .ok (.aload_n 0, 1) := by decide +kernel
theorem dX3_doCommand_72 : decode cX3_doCommand 72 = .ok (.iconst 1, 1) := by decide +kernel
theorem dX3_doCommand_73 : decode cX3_doCommand 73 = .ok (.aload_n 0, 1) := by decide +kernel
theorem dX3_doCommand_74 : decode cX3_doCommand 74 = .ok (.getfield 22, 3) := by decide +kernel
theorem dX3_doCommand_77 : decode cX3_doCommand 77 = .ok (.iconst 0, 1) := by decide +kernel
theorem dX3_doCommand_78 : decode cX3_doCommand 78 = .ok (.iaload, 1) := by decide +kernel
theorem dX3_doCommand_79 : decode cX3_doCommand 79 = .ok (.aload_n 0, 1) := by decide +kernel
theorem dX3_doCommand_80 : decode cX3_doCommand 80 = .ok (.getfield 22, 3) := by decide +kernel
theorem dX3_doCommand_83 : decode cX3_doCommand 83 = .ok (.iconst 1, 1) := by decide +kernel
theorem dX3_doCommand_84 : decode cX3_doCommand 84 = .ok (.iaload, 1) := by decide +kernel
theorem dX3_doCommand_85 : decode cX3_doCommand 85 = .ok (.invokestatic 138, 3) := by decide +kernel
theorem dX3_doCommand_88 : decode cX3_doCommand 88 = .ok (.aload_n 0, 1) := by decide +kernel
theorem dX3_doCommand_89 : decode cX3_doCommand 89 = .ok (.getfield 22, 3) := by decide +kernel
theorem dX3_doCommand_92 : decode cX3_doCommand 92 = .ok (.iconst 0, 1) := by decide +kernel
theorem dX3_doCommand_93 : decode cX3_doCommand 93 = .ok (.iaload, 1) := by decide +kernel
theorem dX3_doCommand_94 : decode cX3_doCommand 94 = .ok (.aload_n 0, 1) := by decide +kernel
theorem dX3_doCommand_95 : decode cX3_doCommand 95 = .ok (.getfield 22, 3) := by decide +kernel
theorem dX3_doCommand_98 : decode cX3_doCommand 98 = .ok (.iconst 1, 1) := by decide +kernel
theorem dX3_doCommand_99 : decode cX3_doCommand 99 = .ok (.iaload, 1) := by decide +kernel
theorem dX3_doCommand_100 : decode cX3_doCommand 100 = .ok (.invokestatic 143, 3) := by decide +kernel
theorem dX3_doCommand_103 : decode cX3_doCommand 103 = .ok (.invokevirtual 134, 3) := by decide +kernel
theorem dX3_doCommand_106 : decode cX3_doCommand 106 = .ok (.ireturn, 1) := by decide +kernel
theorem dX3_doCommand_107 : decode cX3_doCommand 107 = .ok (.aload_n 0, 1) := by decide +kernel
theorem dX3_doCommand_108 : decode cX3_doCommand 108 = .ok (.iconst 2, 1) := by decide +kernel
theorem dX3_doCommand_109 : decode cX3_doCommand 109 = .ok (.aload_n 0, 1) := by decide +kernel
theorem dX3_doCommand_110 : decode cX3_doCommand 110 = .ok (.getfield 22, 3) := by decide +kernel
theorem dX3_doCommand_113 : decode cX3_doCommand 113 = .ok (.iconst 0, 1) := by decide +kernel
theorem dX3_doCommand_114 : decode cX3_doCommand 114 = .ok (.iaload, 1) := by decide +kernel
theorem dX3_doCommand_115 : decode cX3_doCommand 115 = .ok (.iconst 0, 1) := by decide +kernel
theorem dX3_doCommand_116 : decode cX3_doCommand 116 = .ok (.invokevirtual 134, 3) := by decide +kernel
theorem dX3_doCommand_119 : decode cX3_doCommand 119 = .ok (.ireturn, 1) := by decide +kernel
theorem dX3_doCommand_120 : decode cX3_doCommand 120 = .ok (.aload_n 0, 1) := by decide +kernel
theorem dX3_doCommand_121 : decode cX3_doCommand 121 = .ok (.iconst 3, 1) := by decide +kernel
theorem dX3_doCommand_122 : decode cX3_doCommand 122 = .ok (.aload_n 0, 1) := by decide +kernel
theorem dX3_doCommand_123 : decode cX3_doCommand 123 = .ok (.getfield 22, 3) := by decide +kernel
theorem dX3_doCommand_126 : decode cX3_doCommand 126 = .ok (.iconst 0, 1) := by decide +kernel
theorem dX3_doCommand_127 : decode cX3_doCommand 127 = .ok (.iaload, 1) := by decide +kernel
theorem dX3_doCommand_128 : decode cX3_doCommand 128 = .ok (.iconst 0, 1) := by decide +kernel
theorem dX3_doCommand_129 : decode cX3_doCommand 129 = .ok (.invokevirtual 134, 3) := by decide +kernel
theorem dX3_doCommand_132 : decode cX3_doCommand 132 = .ok (.ireturn, 1) := by decide +kernel
theorem dX3_doCommand_133 : decode cX3_doCommand 133 = .ok (.aload_n 0, 1) := by decide +kernel
theorem dX3_doCommand_134 : decode cX3_doCommand 134 = .ok (.iconst 4, 1) := by decide +kernel
theorem dX3_doCommand_135 : decode cX3_doCommand 135 = .ok (.aload_n 0, 1) := by decide +kernel
theorem dX3_doCommand_136 : decode cX3_doCommand 136 = .ok (.getfield 22, 3) := by decide +kernel
theorem dX3_doCommand_139 : decode cX3_doCommand 139 = .ok (.iconst 0, 1) := by decide +kernel
theorem dX3_doCommand_140 : decode cX3_doCommand 140 = .ok (.iaload, 1) := by decide +kernel
theorem dX3_doCommand_141 : decode cX3_doCommand 141 = .ok (.iconst 0, 1) := by decide +kernel
theorem dX3_doCommand_142 : decode cX3_doCommand 142 = .ok (.invokevirtual 134, 3) := by decide +kernel
theorem dX3_doCommand_145 : decode cX3_doCommand 145 = .ok (.ireturn, 1) := by decide +kernel
theorem dX3_doCommand_146 : decode cX3_doCommand 146 = .ok (.aload_n 0, 1) := by decide +kernel
theorem dX3_doCommand_147 : decode cX3_doCommand 147 = .ok (.getfield 12, 3) := by decide +kernel
theorem dX3_doCommand_150 : decode cX3_doCommand 150 = .ok (.aload_n 0, 1) := by decide +kernel
theorem dX3_doCommand_151 : decode cX3_doCommand 151 = .ok (.getfield 22, 3) := by decide +kernel
theorem dX3_doCommand_154 : decode cX3_doCommand 154 = .ok (.iconst 0, 1) := by decide +kernel
theorem dX3_doCommand_155 : decode cX3_doCommand 155 = .ok (.iaload, 1) := by decide +kernel
theorem dX3_doCommand_156 : decode cX3_doCommand 156 = .ok (.aload_n 0, 1) := by decide +kernel
theorem dX3_doCommand_157 : decode cX3_doCommand 157 = .ok (.iconst 1, 1) := by decide +kernel
theorem dX3_doCommand_158 : decode cX3_doCommand 158 = .ok (.invokevirtual 146, 3) := by decide +kernel
theorem dX3_doCommand_161 : decode cX3_doCommand 161 = .ok (.invokevirtual 149, 3) := by decide +kernel
theorem dX3_doCommand_164 : decode cX3_doCommand 164 = .ok (.pop, 1) := by decide +kernel
theorem dX3_doCommand_165 : decode cX3_doCommand 165 = .ok (.iconst 0, 1) := by decide +kernel
theorem dX3_doCommand_166 : decode cX3_doCommand 166 = .ok (.ireturn, 1) := by decide +kernel
theorem dX3_doNet_0 : decode cX3_doNet 0 = .ok (.aload_n 0, 1) := by decide +kernel
theorem dX3_doNet_1 : decode cX3_doNet 1 = .ok (.iconst 0, 1) := by decide +kernel
theorem dX3_doNet_2 : decode cX3_doNet 2 = .ok (.invokevirtual 146, 3) := by decide +kernel
theorem dX3_doNet_5 : decode cX3_doNet 5 = .ok (.istore_n 1, 1) := by decide +kernel
theorem dX3_doNet_6 : decode cX3_doNet 6 = .ok (.aload_n 0, 1) := by decide +kernel
theorem dX3_doNet_7 : decode cX3_doNet 7 = .ok (.getfield 12, 3) := by decide +kernel
theorem dX3_doNet_10 : decode cX3_doNet 10 = .ok (.iload_n 1, 1) := by decide +kernel
theorem dX3_doNet_11 : decode cX3_doNet 11 = .ok (.invokevirtual 152, 3) := by decide +kernel
theorem dX3_doNet_14 : decode cX3_doNet 14 = .ok (.istore_n 2, 1) := by decide +kernel
theorem dX3_doNet_15 : decode cX3_doNet 15 = .ok (.iload_n 2, 1) := by decide +kernel
theorem dX3_doNet_16 : decode cX3_doNet 16 = .ok (.ifCond .ne 12, 3) := by decide +kernel
theorem dX3_doNet_19 : decode cX3_doNet 19 = .ok (.aload_n 0, 1) := by decide +kernel
theorem dX3_doNet_20 : decode cX3_doNet 20 = .ok (.getfield 12, 3) := by decide +kernel
theorem dX3_doNet_23 : decode cX3_doNet 23 = .ok (.iload_n 1, 1) := by decide +kernel
theorem dX3_doNet_24 : decode cX3_doNet 24 = .ok (.invokevirtual 155, 3) := by decide +kernel
theorem dX3_doNet_27 : decode cX3_doNet 27 = .ok (.pop, 1) := by decide +kernel
theorem dX3_doNet_28 : decode cX3_doNet 28 = .ok (.iload_n 2, 1) := by decide +kernel
theorem dX3_doNet_29 : decode cX3_doNet 29 = .ok (.ireturn, 1) := by decide +kernel
theorem dX3_doChip_0 : decode cX3_doChip 0 = .ok (.aload_n 0, 1) := by decide +kernel
theorem dX3_doChip_1 : decode cX3_doChip 1 = .ok (.iconst 2, 1) := by decide +kernel
theorem dX3_doChip_2 : decode cX3_doChip 2 = .ok (.invokevirtual 146, 3) := by decide +kernel
theorem dX3_doChip_5 : decode cX3_doChip 5 = .ok (.istore_n 1, 1) := by decide +kernel
theorem dX3_doChip_6 : decode cX3_doChip 6 = .ok (.aload_n 0, 1) := by decide +kernel
theorem dX3_doChip_7 : decode cX3_doChip 7 = .ok (.getfield 12, 3) := by decide +kernel
theorem dX3_doChip_10 : decode cX3_doChip 10 = .ok (.aload_n 0, 1) := by decide +kernel
theorem dX3_doChip_11 : decode cX3_doChip 11 = .ok (.getfield 22, 3) := by decide +kernel
theorem dX3_doChip_14 : decode cX3_doChip 14 = .ok (.iconst 0, 1) := by decide +kernel
theorem dX3_doChip_15 : decode cX3_doChip 15 = .ok (.iaload, 1) := by decide +kernel
theorem dX3_doChip_16 : decode cX3_doChip 16 = .ok (.aload_n 0, 1) := by decide +kernel
theorem dX3_doChip_17 : decode cX3_doChip 17 = .ok (.getfield 22, 3) := by decide +kernel
theorem dX3_doChip_20 : decode cX3_doChip 20 = .ok (.iconst 1, 1) := by decide +kernel
theorem dX3_doChip_21 : decode cX3_doChip 21 = .ok (.iaload, 1) := by decide +kernel
theorem dX3_doChip_22 : decode cX3_doChip 22 = .ok (.iload_n 1, 1) := by decide +kernel
theorem dX3_doChip_23 : decode cX3_doChip 23 = .ok (.invokevirtual 158, 3) := by decide +kernel
theorem dX3_doChip_26 : decode cX3_doChip 26 = .ok (.istore_n 2, 1) := by decide +kernel
theorem dX3_doChip_27 : decode cX3_doChip 27 = .ok (.iload_n 2, 1) := by decide +kernel
theorem dX3_doChip_28 : decode cX3_doChip 28 = .ok (.ifCond .ne 24, 3) := by decide +kernel
theorem dX3_doChip_31 : decode cX3_doChip 31 = .ok (.aload_n 0, 1) := by decide +kernel
theorem dX3_doChip_32 : decode cX3_doChip 32 = .ok (.getfield 12, 3) := by decide +kernel
theorem dX3_doChip_35 : decode cX3_doChip 35 = .ok (.aload_n 0, 1) := by decide +kernel
theorem dX3_doChip_36 : decode cX3_doChip 36 = .ok (.getfield 22, 3) := by decide +kernel
theorem dX3_doChip_39 : decode cX3_doChip 39 = .ok (.iconst 0, 1) := by decide +kernel
theorem dX3_doChip_40 : decode cX3_doChip 40 = .ok (.iaload, 1) := by decide +kernel
theorem dX3_doChip_41 : decode cX3_doChip 41 = .ok (.aload_n 0, 1) := by decide +kernel
theorem dX3_doChip_42 : decode cX3_doChip 42 = .ok (.getfield 22, 3) := by decide +kernel
theorem dX3_doChip_45 : decode cX3_doChip 45 = .ok (.iconst 1, 1) := by decide +kernel
theorem dX3_doChip_46 : decode cX3_doChip 46 = .ok (.iaload, 1) := by decide +kernel
theorem dX3_doChip_47 : decode cX3_doChip 47 = .ok (.iload_n 1, 1) := by decide +kernel
theorem dX3_doChip_48 : decode cX3_doChip 48 = .ok (.invokevirtual 161, 3) := by decide +kernel
theorem dX3_doChip_51 : decode cX3_doChip 51 = .ok (.pop, 1) := by decide +kernel
theorem dX3_doChip_52 : decode cX3_doChip 52 = .ok (.iload_n 2, 1) := by decide +kernel
theorem dX3_doChip_53 : decode cX3_doChip 53 = .ok (.ireturn, 1) := by decide +kernel
theorem dX3_doFault_0 : decode cX3_doFault 0 = .ok (.aload_n 0, 1) := by decide +kernel
theorem dX3_doFault_1 : decode cX3_doFault 1 = .ok (.getfield 12, 3) := by decide +kernel
theorem dX3_doFault_4 : decode cX3_doFault 4 = .ok (.iload_n 1, 1) := by decide +kernel
theorem dX3_doFault_5 : decode cX3_doFault 5 = .ok (.iload_n 2, 1) := by decide +kernel
theorem dX3_doFault_6 : decode cX3_doFault 6 = .ok (.iload_n 3, 1) := by decide +kernel
theorem dX3_doFault_7 : decode cX3_doFault 7 = .ok (.invokevirtual 164, 3) := by decide +kernel
theorem dX3_doFault_10 : decode cX3_doFault 10 = .ok (.istore 4, 2) := by decide +kernel
theorem dX3_doFault_12 : decode cX3_doFault 12 = .ok (.iload 4, 2) := by decide +kernel
theorem dX3_doFault_14 : decode cX3_doFault 14 = .ok (.ifCond .ne 14, 3) := by decide +kernel
theorem dX3_doFault_17 : decode cX3_doFault 17 = .ok (.aload_n 0, 1) := by decide +kernel
theorem dX3_doFault_18 : decode cX3_doFault 18 = .ok (.getfield 12, 3) := by decide +kernel
theorem dX3_doFault_21 : decode cX3_doFault 21 = .ok (.iload_n 1, 1) := by decide +kernel
theorem dX3_doFault_22 : decode cX3_doFault 22 = .ok (.iload_n 2, 1) := by decide +kernel
theorem dX3_doFault_23 : decode cX3_doFault 23 = .ok (.iload_n 3, 1) := by decide +kernel
theorem dX3_doFault_24 : decode cX3_doFault 24 = .ok (.invokevirtual 167, 3) := by decide +kernel
theorem dX3_doFault_27 : decode cX3_doFault 27 = .ok (.pop, 1) := by decide +kernel
theorem dX3_doFault_28 : decode cX3_doFault 28 = .ok (.iload 4, 2) := by decide +kernel
theorem dX3_doFault_30 : decode cX3_doFault 30 = .ok (.ireturn, 1) := by decide +kernel
theorem dX3_setFrom_0 : decode cX3_setFrom 0 = .ok (.iconst 0, 1) := by decide +kernel
theorem dX3_setFrom_1 : decode cX3_setFrom 1 = .ok (.istore_n 2, 1) := by decide +kernel
theorem dX3_setFrom_2 : decode cX3_setFrom 2 = .ok (.iload_n 1, 1) := by decide +kernel
theorem dX3_setFrom_3 : decode cX3_setFrom 3 = .ok (.istore_n 3, 1) := by decide +kernel
theorem dX3_setFrom_4 : decode cX3_setFrom 4 = .ok (.iload_n 3, 1) := by decide +kernel
theorem dX3_setFrom_5 : decode cX3_setFrom 5 = .ok (.aload_n 0, 1) := by decide +kernel
theorem dX3_setFrom_6 : decode cX3_setFrom 6 = .ok (.getfield 58, 3) := by decide +kernel
theorem dX3_setFrom_9 : decode cX3_setFrom 9 = .ok (.if_icmp .ge 20, 3) := by decide +kernel
theorem dX3_setFrom_12 : decode cX3_setFrom 12 = .ok (.iload_n 2, 1) := by decide +kernel
theorem dX3_setFrom_13 : decode cX3_setFrom 13 = .ok (.iconst 1, 1) := by decide +kernel
theorem dX3_setFrom_14 : decode cX3_setFrom 14 = .ok (.aload_n 0, 1) := by decide +kernel
theorem dX3_setFrom_15 : decode cX3_setFrom 15 = .ok (.getfield 22, 3) := by decide +kernel
theorem dX3_setFrom_18 : decode cX3_setFrom 18 = .ok (.iload_n 3, 1) := by decide +kernel
theorem dX3_setFrom_19 : decode cX3_setFrom 19 = .ok (.iaload, 1) := by decide +kernel
theorem dX3_setFrom_20 : decode cX3_setFrom 20 = .ok (.ishl, 1) := by decide +kernel
theorem dX3_setFrom_21 : decode cX3_setFrom 21 = .ok (.ior, 1) := by decide +kernel
theorem dX3_setFrom_22 : decode cX3_setFrom 22 = .ok (.istore_n 2, 1) := by decide +kernel
theorem dX3_setFrom_23 : decode cX3_setFrom 23 = .ok (.iinc 3 1, 3) := by decide +kernel
theorem dX3_setFrom_26 : decode cX3_setFrom 26 = .ok (.goto (-22), 3) := by decide +kernel
theorem dX3_setFrom_29 : decode cX3_setFrom 29 = .ok (.iload_n 2, 1) := by decide +kernel
theorem dX3_setFrom_30 : decode cX3_setFrom 30 = .ok (.ireturn, 1) := by decide +kernel
theorem dX4_init_0 : decode cX4_init 0 = .ok (.aload_n 0, 1) := by decide +kernel
theorem dX4_init_1 : decode cX4_init 1 = .ok (.invokespecial 3, 3) := by decide +kernel
theorem dX4_init_4 : decode cX4_init 4 = .ok (.aload_n 0, 1) := by decide +kernel
theorem dX4_init_5 : decode cX4_init 5 = .ok (.bipush 10, 2) := by decide +kernel
theorem dX4_init_7 : decode cX4_init 7 = .ok (.newarray .int, 2) := by decide +kernel
theorem dX4_init_9 : decode cX4_init 9 = .ok (.putfield 9, 3) := by decide +kernel
theorem dX4_init_12 : decode cX4_init 12 = .ok (.aload_n 0, 1) := by decide +kernel
theorem dX4_init_13 : decode cX4_init 13 = .ok (.bipush 10, 2) := by decide +kernel
theorem dX4_init_15 : decode cX4_init 15 = .ok (.putfield 15, 3) := by decide +kernel
theorem dX4_init_18 : decode cX4_init 18 = .ok (.aload_n 0, 1) := by decide +kernel
theorem dX4_init_19 : decode cX4_init 19 = .ok (.sipush 1024, 3) := by decide +kernel
theorem dX4_init_22 : decode cX4_init 22 = .ok (.putfield 19, 3) := by decide +kernel
theorem dX4_init_25 : decode cX4_init 25 = .ok (.aload_n 0, 1) := by decide +kernel
theorem dX4_init_26 : decode cX4_init 26 = .ok (.iconst 3, 1) := by decide +kernel
theorem dX4_init_27 : decode cX4_init 27 = .ok (.putfield 22, 3) := by decide +kernel
theorem dX4_init_30 : decode cX4_init 30 = .ok (.aload_n 0, 1) := by decide +kernel
theorem dX4_init_31 : decode cX4_init 31 = .ok (.aload_n 1, 1) := by decide +kernel
theorem dX4_init_32 : decode cX4_init 32 = .ok (.putfield 25, 3) := by decide +kernel
theorem dX4_init_35 : decode cX4_init 35 = .ok (.aload_n 0, 1) := by decide +kernel
theorem dX4_init_36 : decode cX4_init 36 = .ok (.getfield 9, 3) := by decide +kernel
theorem dX4_init_39 : decode cX4_init 39 = .ok (.iconst (-1), 1) := by decide +kernel
theorem dX4_init_40 : decode cX4_init 40 = .ok (.invokestatic 29, 3) := by decide +kernel
theorem dX4_init_43 : decode cX4_init 43 = .ok (.return_, 1) := by decide +kernel
theorem dX4_copyFrom_0 : decode cX4_copyFrom 0 = .ok (.aload_n 0, 1) := by decide +kernel
theorem dX4_copyFrom_1 : decode cX4_copyFrom 1 = .ok (.getfield 25, 3) := by decide +kernel
theorem dX4_copyFrom_4 : decode cX4_copyFrom 4 = .ok (.aload_n 1, 1) := by decide +kernel
theorem dX4_copyFrom_5 : decode cX4_copyFrom 5 = .ok (.getfield 25, 3) := by decide +kernel
theorem dX4_copyFrom_8 : decode cX4_copyFrom 8 = .ok (.invokevirtual 35, 3) := by decide +kernel
theorem dX4_copyFrom_11 : decode cX4_copyFrom 11 = .ok (.aload_n 1, 1) := by decide +kernel
theorem dX4_copyFrom_12 : decode cX4_copyFrom 12 = .ok (.getfield 9, 3) := by decide +kernel
theorem dX4_copyFrom_15 : decode cX4_copyFrom 15 = .ok (.iconst 0, 1) := by decide +kernel
theorem dX4_copyFrom_16 : decode cX4_copyFrom 16 = .ok (.aload_n 0, 1) := by decide +kernel
theorem dX4_copyFrom_17 : decode cX4_copyFrom 17 = .ok (.getfield 9, 3) := by decide +kernel
theorem dX4_copyFrom_20 : decode cX4_copyFrom 20 = .ok (.iconst 0, 1) := by decide +kernel
theorem dX4_copyFrom_21 : decode cX4_copyFrom 21 = .ok (.bipush 10, 2) := by decide +kernel
theorem dX4_copyFrom_23 : decode cX4_copyFrom 23 = .ok (.invokestatic 41, 3) := by decide +kernel
theorem dX4_copyFrom_26 : decode cX4_copyFrom 26 = .ok (.aload_n 0, 1) := by decide +kernel
theorem dX4_copyFrom_27 : decode cX4_copyFrom 27 = .ok (.aload_n 1, 1) := by decide +kernel
theorem dX4_copyFrom_28 : decode cX4_copyFrom 28 = .ok (.getfield 47, 3) := by decide +kernel
theorem dX4_copyFrom_31 : decode cX4_copyFrom 31 = .ok (.putfield 47, 3) := by decide +kernel
theorem dX4_copyFrom_34 : decode cX4_copyFrom 34 = .ok (.aload_n 0, 1) := by decide +kernel
theorem dX4_copyFrom_35 : decode cX4_copyFrom 35 = .ok (.aload_n 1, 1) := by decide +kernel
theorem dX4_copyFrom_36 : decode cX4_copyFrom 36 = .ok (.getfield 15, 3) := by decide +kernel
theorem dX4_copyFrom_39 : decode cX4_copyFrom 39 = .ok (.putfield 15, 3) := by decide +kernel
theorem dX4_copyFrom_42 : decode cX4_copyFrom 42 = .ok (.aload_n 0, 1) := by decide +kernel
theorem dX4_copyFrom_43 : decode cX4_copyFrom 43 = .ok (.aload_n 1, 1) := by decide +kernel
theorem dX4_copyFrom_44 : decode cX4_copyFrom 44 = .ok (.getfield 19, 3) := by decide +kernel
theorem dX4_copyFrom_47 : decode cX4_copyFrom 47 = .ok (.putfield 19, 3) := by decide +kernel
theorem dX4_copyFrom_50 : decode cX4_copyFrom 50 = .ok (.aload_n 0, 1) := by decide +kernel
theorem dX4_copyFrom_51 : decode cX4_copyFrom 51 = .ok (.aload_n 1, 1) := by decide +kernel
theorem dX4_copyFrom_52 : decode cX4_copyFrom 52 = .ok (.getfield 22, 3) := by decide +kernel
theorem dX4_copyFrom_55 : decode cX4_copyFrom 55 = .ok (.putfield 22, 3) := by decide +kernel
theorem dX4_copyFrom_58 : decode cX4_copyFrom 58 = .ok (.aload_n 0, 1) := by decide +kernel
theorem dX4_copyFrom_59 : decode cX4_copyFrom 59 = .ok (.aload_n 1, 1) := by decide +kernel
theorem dX4_copyFrom_60 : decode cX4_copyFrom 60 = .ok (.getfield 50, 3) := by decide +kernel
theorem dX4_copyFrom_63 : decode cX4_copyFrom 63 = .ok (.putfield 50, 3) := by decide +kernel
theorem dX4_copyFrom_66 : decode cX4_copyFrom 66 = .ok (.aload_n 0, 1) := by decide +kernel
theorem dX4_copyFrom_67 : decode cX4_copyFrom 67 = .ok (.aload_n 1, 1) := by decide +kernel
