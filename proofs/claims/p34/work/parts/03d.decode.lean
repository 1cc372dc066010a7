theorem dX6_isPin_11 : decode cX6_isPin 11 = .ok (.goto 4, 3) := by decide +kernel
theorem dX6_isPin_14 : decode cX6_isPin 14 = .ok (.iconst 0, 1) := by decide +kernel
theorem dX6_isPin_15 : decode cX6_isPin 15 = .ok (.ireturn, 1) := by decide +kernel
theorem dX6_hasBit_0 : decode cX6_hasBit 0 = .ok (.iload_n 0, 1) := by decide +kernel
theorem dX6_hasBit_1 : decode cX6_hasBit 1 = .ok (.iload_n 1, 1) := by decide +kernel
theorem dX6_hasBit_2 : decode cX6_hasBit 2 = .ok (.ishr, 1) := by decide +kernel
theorem dX6_hasBit_3 : decode cX6_hasBit 3 = .ok (.iconst 1, 1) := by decide +kernel
theorem dX6_hasBit_4 : decode cX6_hasBit 4 = .ok (.iand, 1) := by decide +kernel
theorem dX6_hasBit_5 : decode cX6_hasBit 5 = .ok (.iconst 1, 1) := by decide +kernel
theorem dX6_hasBit_6 : decode cX6_hasBit 6 = .ok (.if_icmp .ne 7, 3) := by decide +kernel
theorem dX6_hasBit_9 : decode cX6_hasBit 9 = .ok (.iconst 1, 1) := by decide +kernel
theorem dX6_hasBit_10 : decode cX6_hasBit 10 = .ok (.goto 4, 3) := by decide +kernel
theorem dX6_hasBit_13 : decode cX6_hasBit 13 = .ok (.iconst 0, 1) := by decide +kernel
theorem dX6_hasBit_14 : decode cX6_hasBit 14 = .ok (.ireturn, 1) := by decide +kernel
theorem dJ6_bitCount_0f7a4_0 : decode cJ6_bitCount_0f7a4 0 = .ok (.iload_n 0, 1) := by decide +kernel
theorem dJ6_bitCount_0f7a4_1 : decode cJ6_bitCount_0f7a4 1 = .ok (.iload_n 0, 1) := by decide +kernel
theorem dJ6_bitCount_0f7a4_2 : decode cJ6_bitCount_0f7a4 2 = .ok (.iconst 1, 1) := by decide +kernel
theorem dJ6_bitCount_0f7a4_3 : decode cJ6_bitCount_0f7a4 3 = .ok (.iushr, 1) := by decide +kernel
theorem dJ6_bitCount_0f7a4_4 : decode cJ6_bitCount_0f7a4 4 = .ok (.ldc_w 265, 3) := by decide +kernel
theorem dJ6_bitCount_0f7a4_7 : decode cJ6_bitCount_0f7a4 7 = .ok (.iand, 1) := by decide +kernel
theorem dJ6_bitCount_0f7a4_8 : decode cJ6_bitCount_0f7a4 8 = .ok (.isub, 1) := by decide +kernel
theorem dJ6_bitCount_0f7a4_9 : decode cJ6_bitCount_0f7a4 9 = .ok (.istore_n 0, 1) := by decide +kernel
theorem dJ6_bitCount_0f7a4_10 : decode cJ6_bitCount_0f7a4 10 = .ok (.iload_n 0, 1) := by decide +kernel
theorem dJ6_bitCount_0f7a4_11 : decode cJ6_bitCount_0f7a4 11 = .ok (.ldc_w 266, 3) := by decide +kernel
theorem dJ6_bitCount_0f7a4_14 : decode cJ6_bitCount_0f7a4 14 = .ok (.iand, 1) := by decide +kernel
theorem dJ6_bitCount_0f7a4_15 : decode cJ6_bitCount_0f7a4 15 = .ok (.iload_n 0, 1) := by decide +kernel
theorem dJ6_bitCount_0f7a4_16 : decode cJ6_bitCount_0f7a4 16 = .ok (.iconst 2, 1) := by decide +kernel
theorem dJ6_bitCount_0f7a4_17 : decode cJ6_bitCount_0f7a4 17 = .ok (.iushr, 1) := by decide +kernel
theorem dJ6_bitCount_0f7a4_18 : decode cJ6_bitCount_0f7a4 18 = .ok (.ldc_w 266, 3) := by decide +kernel
theorem dJ6_bitCount_0f7a4_21 : decode cJ6_bitCount_0f7a4 21 = .ok (.iand, 1) := by decide +kernel
theorem dJ6_bitCount_0f7a4_22 : decode cJ6_bitCount_0f7a4 22 = .ok (.iadd, 1) := by decide +kernel
theorem dJ6_bitCount_0f7a4_23 : decode cJ6_bitCount_0f7a4 23 = .ok (.istore_n 0, 1) := by decide +kernel
theorem dJ6_bitCount_0f7a4_24 : decode cJ6_bitCount_0f7a4 24 = .ok (.iload_n 0, 1) := by decide +kernel
theorem dJ6_bitCount_0f7a4_25 : decode cJ6_bitCount_0f7a4 25 = .ok (.iload_n 0, 1) := by decide +kernel
theorem dJ6_bitCount_0f7a4_26 : decode cJ6_bitCount_0f7a4 26 = .ok (.iconst 4, 1) := by decide +kernel
theorem dJ6_bitCount_0f7a4_27 : decode cJ6_bitCount_0f7a4 27 = .ok (.iushr, 1) := by decide +kernel
theorem dJ6_bitCount_0f7a4_28 : decode cJ6_bitCount_0f7a4 28 = .ok (.iadd, 1) := by decide +kernel
theorem dJ6_bitCount_0f7a4_29 : decode cJ6_bitCount_0f7a4 29 = .ok (.ldc_w 267, 3) := by decide +kernel
theorem dJ6_bitCount_0f7a4_32 : decode cJ6_bitCount_0f7a4 32 = .ok (.iand, 1) := by decide +kernel
theorem dJ6_bitCount_0f7a4_33 : decode cJ6_bitCount_0f7a4 33 = .ok (.istore_n 0, 1) := by decide +kernel
theorem dJ6_bitCount_0f7a4_34 : decode cJ6_bitCount_0f7a4 34 = .ok (.iload_n 0, 1) := by decide +kernel
theorem dJ6_bitCount_0f7a4_35 : decode cJ6_bitCount_0f7a4 35 = .ok (.iload_n 0, 1) := by decide +kernel
theorem dJ6_bitCount_0f7a4_36 : decode cJ6_bitCount_0f7a4 36 = .ok (.bipush 8, 2) := by decide +kernel
theorem dJ6_bitCount_0f7a4_38 : decode cJ6_bitCount_0f7a4 38 = .ok (.iushr, 1) := by decide +kernel
theorem dJ6_bitCount_0f7a4_39 : decode cJ6_bitCount_0f7a4 39 = .ok (.iadd, 1) := by decide +kernel
theorem dJ6_bitCount_0f7a4_40 : decode cJ6_bitCount_0f7a4 40 = .ok (.istore_n 0, 1) := by decide +kernel
theorem dJ6_bitCount_0f7a4_41 : decode cJ6_bitCount_0f7a4 41 = .ok (.iload_n 0, 1) := by decide +kernel
theorem dJ6_bitCount_0f7a4_42 : decode cJ6_bitCount_0f7a4 42 = .ok (.iload_n 0, 1) := by decide +kernel
theorem dJ6_bitCount_0f7a4_43 : decode cJ6_bitCount_0f7a4 43 = .ok (.bipush 16, 2) := by decide +kernel
theorem dJ6_bitCount_0f7a4_45 : decode cJ6_bitCount_0f7a4 45 = .ok (.iushr, 1) := by decide +kernel
theorem dJ6_bitCount_0f7a4_46 : decode cJ6_bitCount_0f7a4 46 = .ok (.iadd, 1) := by decide +kernel
theorem dJ6_bitCount_0f7a4_47 : decode cJ6_bitCount_0f7a4 47 = .ok (.istore_n 0, 1) := by decide +kernel
theorem dJ6_bitCount_0f7a4_48 : decode cJ6_bitCount_0f7a4 48 = .ok (.iload_n 0, 1) := by decide +kernel
theorem dJ6_bitCount_0f7a4_49 : decode cJ6_bitCount_0f7a4 49 = .ok (.bipush 63, 2) := by decide +kernel
theorem dJ6_bitCount_0f7a4_51 : decode cJ6_bitCount_0f7a4 51 = .ok (.iand, 1) := by decide +kernel
theorem dJ6_bitCount_0f7a4_52 : decode cJ6_bitCount_0f7a4 52 = .ok (.ireturn, 1) := by decide +kernel
theorem dJ7_fill_53178_0 : decode cJ7_fill_53178 0 = .ok (.iconst 0, 1) := by decide +kernel
theorem dJ7_fill_53178_1 : decode cJ7_fill_53178 1 = .ok (.istore_n 2, 1) := by decide +kernel
theorem dJ7_fill_53178_2 : decode cJ7_fill_53178 2 = .ok (.aload_n 0, 1) := by decide +kernel
theorem dJ7_fill_53178_3 : decode cJ7_fill_53178 3 = .ok (.arraylength, 1) := by decide +kernel
theorem dJ7_fill_53178_4 : decode cJ7_fill_53178 4 = .ok (.istore_n 3, 1) := by decide +kernel
theorem dJ7_fill_53178_5 : decode cJ7_fill_53178 5 = .ok (.iload_n 2, 1) := by decide +kernel
theorem dJ7_fill_53178_6 : decode cJ7_fill_53178 6 = .ok (.iload_n 3, 1) := by decide +kernel
theorem dJ7_fill_53178_7 : decode cJ7_fill_53178 7 = .ok (.if_icmp .ge 13, 3) := by decide +kernel
theorem dJ7_fill_53178_10 : decode cJ7_fill_53178 10 = .ok (.aload_n 0, 1) := by decide +kernel
theorem dJ7_fill_53178_11 : decode cJ7_fill_53178 11 = .ok (.iload_n 2, 1) := by decide +kernel
theorem dJ7_fill_53178_12 : decode cJ7_fill_53178 12 = .ok (.iload_n 1, 1) := by decide +kernel
theorem dJ7_fill_53178_13 : decode cJ7_fill_53178 13 = .ok (.iastore, 1) := by decide +kernel
theorem dJ7_fill_53178_14 : decode cJ7_fill_53178 14 = .ok (.iinc 2 1, 3) := by decide +kernel
theorem dJ7_fill_53178_17 : decode cJ7_fill_53178 17 = .ok (.goto (-12), 3) := by decide +kernel
theorem dJ7_fill_53178_20 : decode cJ7_fill_53178 20 = .ok (.return_, 1) := by decide +kernel
theorem dL_cell_0 : decode cL_cell 0 = .ok (.iload_n 1, 1) := by decide +kernel
theorem dL_cell_1 : decode cL_cell 1 = .ok (.aload_n 0, 1) := by decide +kernel
theorem dL_cell_2 : decode cL_cell 2 = .ok (.arraylength, 1) := by decide +kernel
theorem dL_cell_3 : decode cL_cell 3 = .ok (.if_icmp .ge 9, 3) := by decide +kernel
theorem dL_cell_6 : decode cL_cell 6 = .ok (.aload_n 0, 1) := by decide +kernel
theorem dL_cell_7 : decode cL_cell 7 = .ok (.iload_n 1, 1) := by decide +kernel
theorem dL_cell_8 : decode cL_cell 8 = .ok (.iaload, 1) := by decide +kernel
theorem dL_cell_9 : decode cL_cell 9 = .ok (.goto 9, 3) := by decide +kernel
theorem dL_cell_12 : decode cL_cell 12 = .ok (.ldc 7, 2) := by decide +kernel
theorem dL_cell_14 : decode cL_cell 14 = .ok (.iload_n 1, 1) := by decide +kernel
theorem dL_cell_15 : decode cL_cell 15 = .ok (.iconst 3, 1) := by decide +kernel
theorem dL_cell_16 : decode cL_cell 16 = .ok (.iadd, 1) := by decide +kernel
theorem dL_cell_17 : decode cL_cell 17 = .ok (.imul, 1) := by decide +kernel
theorem dL_cell_18 : decode cL_cell 18 = .ok (.ireturn, 1) := by decide +kernel
theorem dL_up_0 : decode cL_up 0 = .ok (.iload_n 0, 1) := by decide +kernel
theorem dL_up_1 : decode cL_up 1 = .ok (.ldc 8, 2) := by decide +kernel
theorem dL_up_3 : decode cL_up 3 = .ok (.iand, 1) := by decide +kernel
theorem dL_up_4 : decode cL_up 4 = .ok (.iload_n 1, 1) := by decide +kernel
theorem dL_up_5 : decode cL_up 5 = .ok (.irem, 1) := by decide +kernel
theorem dL_up_6 : decode cL_up 6 = .ok (.ireturn, 1) := by decide +kernel
theorem dL_ones_0 : decode cL_ones 0 = .ok (.iconst 0, 1) := by decide +kernel
theorem dL_ones_1 : decode cL_ones 1 = .ok (.istore_n 1, 1) := by decide +kernel
theorem dL_ones_2 : decode cL_ones 2 = .ok (.iconst 0, 1) := by decide +kernel
theorem dL_ones_3 : decode cL_ones 3 = .ok (.istore_n 2, 1) := by decide +kernel
theorem dL_ones_4 : decode cL_ones 4 = .ok (.iload_n 2, 1) := by decide +kernel
theorem dL_ones_5 : decode cL_ones 5 = .ok (.bipush 11, 2) := by decide +kernel
theorem dL_ones_7 : decode cL_ones 7 = .ok (.if_icmp .ge 17, 3) := by decide +kernel
theorem dL_ones_10 : decode cL_ones 10 = .ok (.iload_n 1, 1) := by decide +kernel
theorem dL_ones_11 : decode cL_ones 11 = .ok (.iload_n 0, 1) := by decide +kernel
theorem dL_ones_12 : decode cL_ones 12 = .ok (.iload_n 2, 1) := by decide +kernel
theorem dL_ones_13 : decode cL_ones 13 = .ok (.ishr, 1) := by decide +kernel
theorem dL_ones_14 : decode cL_ones 14 = .ok (.iconst 1, 1) := by decide +kernel
theorem dL_ones_15 : decode cL_ones 15 = .ok (.iand, 1) := by decide +kernel
theorem dL_ones_16 : decode cL_ones 16 = .ok (.iadd, 1) := by decide +kernel
theorem dL_ones_17 : decode cL_ones 17 = .ok (.istore_n 1, 1) := by decide +kernel
theorem dL_ones_18 : decode cL_ones 18 = .ok (.iinc 2 1, 3) := by decide +kernel
theorem dL_ones_21 : decode cL_ones 21 = .ok (.goto (-17), 3) := by decide +kernel
theorem dL_ones_24 : decode cL_ones 24 = .ok (.iload_n 1, 1) := by decide +kernel
theorem dL_ones_25 : decode cL_ones 25 = .ok (.ireturn, 1) := by decide +kernel
theorem dL_view_0 : decode cL_view 0 = .ok (.aload_n 0, 1) := by decide +kernel
theorem dL_view_1 : decode cL_view 1 = .ok (.invokevirtual 9, 3) := by decide +kernel
theorem dL_view_4 : decode cL_view 4 = .ok (.i2l, 1) := by decide +kernel
theorem dL_view_5 : decode cL_view 5 = .ok (.lstore_n 1, 1) := by decide +kernel
theorem dL_view_6 : decode cL_view 6 = .ok (.iconst 0, 1) := by decide +kernel
theorem dL_view_7 : decode cL_view 7 = .ok (.istore_n 3, 1) := by decide +kernel
theorem dL_view_8 : decode cL_view 8 = .ok (.iload_n 3, 1) := by decide +kernel
theorem dL_view_9 : decode cL_view 9 = .ok (.bipush 16, 2) := by decide +kernel
theorem dL_view_11 : decode cL_view 11 = .ok (.if_icmp .ge 38, 3) := by decide +kernel
theorem dL_view_14 : decode cL_view 14 = .ok (.iload_n 3, 1) := by decide +kernel
theorem dL_view_15 : decode cL_view 15 = .ok (.bipush 9, 2) := by decide +kernel
theorem dL_view_17 : decode cL_view 17 = .ok (.if_icmp .eq 9, 3) := by decide +kernel
theorem dL_view_20 : decode cL_view 20 = .ok (.iload_n 3, 1) := by decide +kernel
theorem dL_view_21 : decode cL_view 21 = .ok (.bipush 10, 2) := by decide +kernel
theorem dL_view_23 : decode cL_view 23 = .ok (.if_icmp .ne 7, 3) := by decide +kernel
theorem dL_view_26 : decode cL_view 26 = .ok (.lload_n 1, 1) := by decide +kernel
theorem dL_view_27 : decode cL_view 27 = .ok (.goto 15, 3) := by decide +kernel
theorem dL_view_30 : decode cL_view 30 = .ok (.ldc2_w 15, 3) := by decide +kernel
theorem dL_view_33 : decode cL_view 33 = .ok (.lload_n 1, 1) := by decide +kernel
theorem dL_view_34 : decode cL_view 34 = .ok (.lmul, 1) := by decide +kernel
theorem dL_view_35 : decode cL_view 35 = .ok (.aload_n 0, 1) := by decide +kernel
theorem dL_view_36 : decode cL_view 36 = .ok (.iload_n 3, 1) := by decide +kernel
theorem dL_view_37 : decode cL_view 37 = .ok (.invokevirtual 17, 3) := by decide +kernel
theorem dL_view_40 : decode cL_view 40 = .ok (.i2l, 1) := by decide +kernel
theorem dL_view_41 : decode cL_view 41 = .ok (.ladd, 1) := by decide +kernel
theorem dL_view_42 : decode cL_view 42 = .ok (.lstore_n 1, 1) := by decide +kernel
theorem dL_view_43 : decode cL_view 43 = .ok (.iinc 3 1, 3) := by decide +kernel
theorem dL_view_46 : decode cL_view 46 = .ok (.goto (-38), 3) := by decide +kernel
theorem dL_view_49 : decode cL_view 49 = .ok (.iconst 0, 1) := by decide +kernel
theorem dL_view_50 : decode cL_view 50 = .ok (.istore_n 3, 1) := by decide +kernel
theorem dL_view_51 : decode cL_view 51 = .ok (.iload_n 3, 1) := by decide +kernel
theorem dL_view_52 : decode cL_view 52 = .ok (.bipush 16, 2) := by decide +kernel
theorem dL_view_54 : decode cL_view 54 = .ok (.if_icmp .ge 39, 3) := by decide +kernel
theorem dL_view_57 : decode cL_view 57 = .ok (.iconst 0, 1) := by decide +kernel
theorem dL_view_58 : decode cL_view 58 = .ok (.istore 4, 2) := by decide +kernel
theorem dL_view_60 : decode cL_view 60 = .ok (.iload 4, 2) := by decide +kernel
theorem dL_view_62 : decode cL_view 62 = .ok (.iconst 5, 1) := by decide +kernel
theorem dL_view_63 : decode cL_view 63 = .ok (.if_icmp .ge 24, 3) := by decide +kernel
theorem dL_view_66 : decode cL_view 66 = .ok (.ldc2_w 15, 3) := by decide +kernel
theorem dL_view_69 : decode cL_view 69 = .ok (.lload_n 1, 1) := by decide +kernel
theorem dL_view_70 : decode cL_view 70 = .ok (.lmul, 1) := by decide +kernel
theorem dL_view_71 : decode cL_view 71 = .ok (.aload_n 0, 1) := by decide +kernel
theorem dL_view_72 : decode cL_view 72 = .ok (.iload_n 3, 1) := by decide +kernel
theorem dL_view_73 : decode cL_view 73 = .ok (.iload 4, 2) := by decide +kernel
theorem dL_view_75 : decode cL_view 75 = .ok (.invokevirtual 21, 3) := by decide +kernel
theorem dL_view_78 : decode cL_view 78 = .ok (.i2l, 1) := by decide +kernel
theorem dL_view_79 : decode cL_view 79 = .ok (.ladd, 1) := by decide +kernel
theorem dL_view_80 : decode cL_view 80 = .ok (.lstore_n 1, 1) := by decide +kernel
theorem dL_view_81 : decode cL_view 81 = .ok (.iinc 4 1, 3) := by decide +kernel
theorem dL_view_84 : decode cL_view 84 = .ok (.goto (-24), 3) := by decide +kernel
theorem dL_view_87 : decode cL_view 87 = .ok (.iinc 3 1, 3) := by decide +kernel
theorem dL_view_90 : decode cL_view 90 = .ok (.goto (-39), 3) := by decide +kernel
theorem dL_view_93 : decode cL_view 93 = .ok (.iconst 0, 1) := by decide +kernel
theorem dL_view_94 : decode cL_view 94 = .ok (.istore_n 3, 1) := by decide +kernel
theorem dL_view_95 : decode cL_view 95 = .ok (.iload_n 3, 1) := by decide +kernel
theorem dL_view_96 : decode cL_view 96 = .ok (.bipush 10, 2) := by decide +kernel
theorem dL_view_98 : decode cL_view 98 = .ok (.if_icmp .ge 39, 3) := by decide +kernel
theorem dL_view_101 : decode cL_view 101 = .ok (.iconst 0, 1) := by decide +kernel
theorem dL_view_102 : decode cL_view 102 = .ok (.istore 4, 2) := by decide +kernel
theorem dL_view_104 : decode cL_view 104 = .ok (.iload 4, 2) := by decide +kernel
theorem dL_view_106 : decode cL_view 106 = .ok (.iconst 4, 1) := by decide +kernel
theorem dL_view_107 : decode cL_view 107 = .ok (.if_icmp .ge 24, 3) := by decide +kernel
theorem dL_view_110 : decode cL_view 110 = .ok (.ldc2_w 15, 3) := by decide +kernel
theorem dL_view_113 : decode cL_view 113 = .ok (.lload_n 1, 1) := by decide +kernel
theorem dL_view_114 : decode cL_view 114 = .ok (.lmul, 1) := by decide +kernel
theorem dL_view_115 : decode cL_view 115 = .ok (.aload_n 0, 1) := by decide +kernel
theorem dL_view_116 : decode cL_view 116 = .ok (.iload_n 3, 1) := by decide +kernel
theorem dL_view_117 : decode cL_view 117 = .ok (.iload 4, 2) := by decide +kernel
theorem dL_view_119 : decode cL_view 119 = .ok (.invokevirtual 25, 3) := by decide +kernel
theorem dL_view_122 : decode cL_view 122 = .ok (.i2l, 1) := by decide +kernel
theorem dL_view_123 : decode cL_view 123 = .ok (.ladd, 1) := by decide +kernel
theorem dL_view_124 : decode cL_view 124 = .ok (.lstore_n 1, 1) := by decide +kernel
theorem dL_view_125 : decode cL_view 125 = .ok (.iinc 4 1, 3) := by decide +kernel
theorem dL_view_128 : decode cL_view 128 = .ok (.goto (-24), 3) := by decide +kernel
theorem dL_view_131 : decode cL_view 131 = .ok (.iinc 3 1, 3) := by decide +kernel
theorem dL_view_134 : decode cL_view 134 = .ok (.goto (-39), 3) := by decide +kernel
theorem dL_view_137 : decode cL_view 137 = .ok (.lload_n 1, 1) := by decide +kernel
theorem dL_view_138 : decode cL_view 138 = .ok (.lreturn, 1) := by decide +kernel
theorem dL_some_0 : decode cL_some 0 = .ok (.iconst 1, 1) := by decide +kernel
theorem dL_some_1 : decode cL_some 1 = .ok (.iload_n 0, 1) := by decide +kernel
theorem dL_some_2 : decode cL_some 2 = .ok (.bipush 15, 2) := by decide +kernel
theorem dL_some_4 : decode cL_some 4 = .ok (.iand, 1) := by decide +kernel
theorem dL_some_5 : decode cL_some 5 = .ok (.ishl, 1) := by decide +kernel
theorem dL_some_6 : decode cL_some 6 = .ok (.iconst 1, 1) := by decide +kernel
theorem dL_some_7 : decode cL_some 7 = .ok (.iload_n 0, 1) := by decide +kernel
theorem dL_some_8 : decode cL_some 8 = .ok (.iconst 4, 1) := by decide +kernel
theorem dL_some_9 : decode cL_some 9 = .ok (.ishr, 1) := by decide +kernel
theorem dL_some_10 : decode cL_some 10 = .ok (.bipush 15, 2) := by decide +kernel
theorem dL_some_12 : decode cL_some 12 = .ok (.iand, 1) := by decide +kernel
theorem dL_some_13 : decode cL_some 13 = .ok (.ishl, 1) := by decide +kernel
theorem dL_some_14 : decode cL_some 14 = .ok (.ior, 1) := by decide +kernel
theorem dL_some_15 : decode cL_some 15 = .ok (.iconst 1, 1) := by decide +kernel
theorem dL_some_16 : decode cL_some 16 = .ok (.iload_n 0, 1) := by decide +kernel
theorem dL_some_17 : decode cL_some 17 = .ok (.bipush 8, 2) := by decide +kernel
theorem dL_some_19 : decode cL_some 19 = .ok (.ishr, 1) := by decide +kernel
theorem dL_some_20 : decode cL_some 20 = .ok (.bipush 15, 2) := by decide +kernel
theorem dL_some_22 : decode cL_some 22 = .ok (.iand, 1) := by decide +kernel
theorem dL_some_23 : decode cL_some 23 = .ok (.ishl, 1) := by decide +kernel
theorem dL_some_24 : decode cL_some 24 = .ok (.ior, 1) := by decide +kernel
theorem dL_some_25 : decode cL_some 25 = .ok (.ireturn, 1) := by decide +kernel
theorem dL_any_0 : decode cL_any 0 = .ok (.iload_n 2, 1) := by decide +kernel
theorem dL_any_1 : decode cL_any 1 = .ok (.bipush 7, 2) := by decide +kernel
theorem dL_any_3 : decode cL_any 3 = .ok (.iand, 1) := by decide +kernel
theorem dL_any_4 : decode cL_any 4 = .ok (.tableswitch 95 0 6 #[44, 50, 60, 70, 77, 83, 89], 44) := by decide +kernel
theorem dL_any_48 : decode cL_any 48 = .ok (.aload_n 0, 1) := by decide +kernel
theorem dL_any_49 : decode cL_any 49 = .ok (.iload_n 1, 1) := by decide +kernel
theorem dL_any_50 : decode cL_any 50 = .ok (.invokevirtual 28, 3) := by decide +kernel
theorem dL_any_53 : decode cL_any 53 = .ok (.ireturn, 1) := by decide +kernel
theorem dL_any_54 : decode cL_any 54 = .ok (.aload_n 0, 1) := by decide +kernel
theorem dL_any_55 : decode cL_any 55 = .ok (.iload_n 1, 1) := by decide +kernel
theorem dL_any_56 : decode cL_any 56 = .ok (.iload_n 2, 1) := by decide +kernel
theorem dL_any_57 : decode cL_any 57 = .ok (.iload_n 2, 1) := by decide +kernel
theorem dL_any_58 : decode cL_any 58 = .ok (.iconst 3, 1) := by decide +kernel
theorem dL_any_59 : decode cL_any 59 = .ok (.ishr, 1) := by decide +kernel
theorem dL_any_60 : decode cL_any 60 = .ok (.invokevirtual 31, 3) := by decide +kernel
theorem dL_any_63 : decode cL_any 63 = .ok (.ireturn, 1) := by decide +kernel
theorem dL_any_64 : decode cL_any 64 = .ok (.aload_n 0, 1) := by decide +kernel
theorem dL_any_65 : decode cL_any 65 = .ok (.iload_n 1, 1) := by decide +kernel
theorem dL_any_66 : decode cL_any 66 = .ok (.iload_n 2, 1) := by decide +kernel
theorem dL_any_67 : decode cL_any 67 = .ok (.iload_n 2, 1) := by decide +kernel
theorem dL_any_68 : decode cL_any 68 = .ok (.iconst 3, 1) := by decide +kernel
theorem dL_any_69 : decode cL_any 69 = .ok (.ishr, 1) := by decide +kernel
theorem dL_any_70 : decode cL_any 70 = .ok (.invokevirtual 35, 3) := by decide +kernel
theorem dL_any_73 : decode cL_any 73 = .ok (.ireturn, 1) := by decide +kernel
theorem dL_any_74 : decode cL_any 74 = .ok (.aload_n 0, 1) := by decide +kernel
theorem dL_any_75 : decode cL_any 75 = .ok (.iload_n 1, 1) := by decide +kernel
theorem dL_any_76 : decode cL_any 76 = .ok (.iload_n 2, 1) := by decide +kernel
theorem dL_any_77 : decode cL_any 77 = .ok (.invokevirtual 38, 3) := by decide +kernel
theorem dL_any_80 : decode cL_any 80 = .ok (.ireturn, 1) := by decide +kernel
theorem dL_any_81 : decode cL_any 81 = .ok (.aload_n 0, 1) := by decide +kernel
theorem dL_any_82 : decode cL_any 82 = .ok (.iload_n 1, 1) := by decide +kernel
theorem dL_any_83 : decode cL_any 83 = .ok (.invokevirtual 41, 3) := by decide +kernel
theorem dL_any_86 : decode cL_any 86 = .ok (.ireturn, 1) := by decide +kernel
theorem dL_any_87 : decode cL_any 87 = .ok (.aload_n 0, 1) := by decide +kernel
theorem dL_any_88 : decode cL_any 88 = .ok (.iload_n 1, 1) := by decide +kernel
theorem dL_any_89 : decode cL_any 89 = .ok (.invokevirtual 44, 3) := by decide +kernel
theorem dL_any_92 : decode cL_any 92 = .ok (.ireturn, 1) := by decide +kernel
theorem dL_any_93 : decode cL_any 93 = .ok (.aload_n 0, 1) := by decide +kernel
theorem dL_any_94 : decode cL_any 94 = .ok (.iload_n 1, 1) := by decide +kernel
theorem dL_any_95 : decode cL_any 95 = .ok (.invokevirtual 47, 3) := by decide +kernel
theorem dL_any_98 : decode cL_any 98 = .ok (.ireturn, 1) := by decide +kernel
theorem dL_any_99 : decode cL_any 99 = .ok (.aload_n 0, 1) := by decide +kernel
theorem dL_any_100 : decode cL_any 100 = .ok (.iload_n 1, 1) := by decide +kernel
theorem dL_any_101 : decode cL_any 101 = .ok (.iload_n 2, 1) := by decide +kernel
theorem dL_any_102 : decode cL_any 102 = .ok (.iconst 3, 1) := by decide +kernel
theorem dL_any_103 : decode cL_any 103 = .ok (.ishr, 1) := by decide +kernel
theorem dL_any_104 : decode cL_any 104 = .ok (.invokevirtual 50, 3) := by decide +kernel
theorem dL_any_107 : decode cL_any 107 = .ok (.ireturn, 1) := by decide +kernel
theorem dL_turn_0 : decode cL_turn 0 = .ok (.iload_n 2, 1) := by decide +kernel
theorem dL_turn_1 : decode cL_turn 1 = .ok (.iconst 5, 1) := by decide +kernel
theorem dL_turn_2 : decode cL_turn 2 = .ok (.invokestatic 53, 3) := by decide +kernel
theorem dL_turn_5 : decode cL_turn 5 = .ok (.istore 4, 2) := by decide +kernel
theorem dL_turn_7 : decode cL_turn 7 = .ok (.iload_n 1, 1) := by decide +kernel
theorem dL_turn_8 : decode cL_turn 8 = .ok (.tableswitch 216 0 14 #[76, 76, 85, 106, 106, 133, 133, 133, 146, 159, 159, 164, 173, 186, 199], 76) := by decide +kernel
theorem dL_turn_84 : decode cL_turn 84 = .ok (.aload_n 0, 1) := by decide +kernel
theorem dL_turn_85 : decode cL_turn 85 = .ok (.iload_n 2, 1) := by decide +kernel
theorem dL_turn_86 : decode cL_turn 86 = .ok (.invokestatic 58, 3) := by decide +kernel
theorem dL_turn_89 : decode cL_turn 89 = .ok (.invokevirtual 28, 3) := by decide +kernel
theorem dL_turn_92 : decode cL_turn 92 = .ok (.ireturn, 1) := by decide +kernel
theorem dL_turn_93 : decode cL_turn 93 = .ok (.aload_n 0, 1) := by decide +kernel
theorem dL_turn_94 : decode cL_turn 94 = .ok (.iload_n 2, 1) := by decide +kernel
theorem dL_turn_95 : decode cL_turn 95 = .ok (.bipush 15, 2) := by decide +kernel
theorem dL_turn_97 : decode cL_turn 97 = .ok (.iand, 1) := by decide +kernel
theorem dL_turn_98 : decode cL_turn 98 = .ok (.iload_n 2, 1) := by decide +kernel
theorem dL_turn_99 : decode cL_turn 99 = .ok (.iconst 4, 1) := by decide +kernel
theorem dL_turn_100 : decode cL_turn 100 = .ok (.ishr, 1) := by decide +kernel
theorem dL_turn_101 : decode cL_turn 101 = .ok (.bipush 15, 2) := by decide +kernel
theorem dL_turn_103 : decode cL_turn 103 = .ok (.iand, 1) := by decide +kernel
theorem dL_turn_104 : decode cL_turn 104 = .ok (.iconst 1, 1) := by decide +kernel
theorem dL_turn_105 : decode cL_turn 105 = .ok (.iload_n 3, 1) := by decide +kernel
theorem dL_turn_106 : decode cL_turn 106 = .ok (.bipush 15, 2) := by decide +kernel
theorem dL_turn_108 : decode cL_turn 108 = .ok (.iand, 1) := by decide +kernel
theorem dL_turn_109 : decode cL_turn 109 = .ok (.ishl, 1) := by decide +kernel
theorem dL_turn_110 : decode cL_turn 110 = .ok (.invokevirtual 31, 3) := by decide +kernel
theorem dL_turn_113 : decode cL_turn 113 = .ok (.ireturn, 1) := by decide +kernel
theorem dL_turn_114 : decode cL_turn 114 = .ok (.aload_n 0, 1) := by decide +kernel
theorem dL_turn_115 : decode cL_turn 115 = .ok (.iload 4, 2) := by decide +kernel
theorem dL_turn_117 : decode cL_turn 117 = .ok (.iload_n 3, 1) := by decide +kernel
theorem dL_turn_118 : decode cL_turn 118 = .ok (.bipush 7, 2) := by decide +kernel
theorem dL_turn_120 : decode cL_turn 120 = .ok (.iand, 1) := by decide +kernel
theorem dL_turn_121 : decode cL_turn 121 = .ok (.iload 4, 2) := by decide +kernel
theorem dL_turn_123 : decode cL_turn 123 = .ok (.iconst 1, 1) := by decide +kernel
theorem dL_turn_124 : decode cL_turn 124 = .ok (.if_icmp .ne 12, 3) := by decide +kernel
theorem dL_turn_127 : decode cL_turn 127 = .ok (.iload_n 3, 1) := by decide +kernel
theorem dL_turn_128 : decode cL_turn 128 = .ok (.iconst 3, 1) := by decide +kernel
theorem dL_turn_129 : decode cL_turn 129 = .ok (.ishr, 1) := by decide +kernel
theorem dL_turn_130 : decode cL_turn 130 = .ok (.bipush 7, 2) := by decide +kernel
theorem dL_turn_132 : decode cL_turn 132 = .ok (.iand, 1) := by decide +kernel
theorem dL_turn_133 : decode cL_turn 133 = .ok (.goto 4, 3) := by decide +kernel
theorem dL_turn_136 : decode cL_turn 136 = .ok (.iconst 0, 1) := by decide +kernel
theorem dL_turn_137 : decode cL_turn 137 = .ok (.invokevirtual 35, 3) := by decide +kernel
theorem dL_turn_140 : decode cL_turn 140 = .ok (.ireturn, 1) := by decide +kernel
theorem dL_turn_141 : decode cL_turn 141 = .ok (.aload_n 0, 1) := by decide +kernel
theorem dL_turn_142 : decode cL_turn 142 = .ok (.iload_n 2, 1) := by decide +kernel
theorem dL_turn_143 : decode cL_turn 143 = .ok (.bipush 15, 2) := by decide +kernel
theorem dL_turn_145 : decode cL_turn 145 = .ok (.iand, 1) := by decide +kernel
theorem dL_turn_146 : decode cL_turn 146 = .ok (.iload_n 3, 1) := by decide +kernel
theorem dL_turn_147 : decode cL_turn 147 = .ok (.bipush 127, 2) := by decide +kernel
theorem dL_turn_149 : decode cL_turn 149 = .ok (.iand, 1) := by decide +kernel
theorem dL_turn_150 : decode cL_turn 150 = .ok (.invokevirtual 38, 3) := by decide +kernel
theorem dL_turn_153 : decode cL_turn 153 = .ok (.ireturn, 1) := by decide +kernel
theorem dL_turn_154 : decode cL_turn 154 = .ok (.aload_n 0, 1) := by decide +kernel
theorem dL_turn_155 : decode cL_turn 155 = .ok (.iload_n 2, 1) := by decide +kernel
theorem dL_turn_156 : decode cL_turn 156 = .ok (.bipush 13, 2) := by decide +kernel
theorem dL_turn_158 : decode cL_turn 158 = .ok (.invokestatic 53, 3) := by decide +kernel
theorem dL_turn_161 : decode cL_turn 161 = .ok (.iconst 2, 1) := by decide +kernel
theorem dL_turn_162 : decode cL_turn 162 = .ok (.isub, 1) := by decide +kernel
theorem dL_turn_163 : decode cL_turn 163 = .ok (.invokevirtual 61, 3) := by decide +kernel
theorem dL_turn_166 : decode cL_turn 166 = .ok (.ireturn, 1) := by decide +kernel
theorem dL_turn_167 : decode cL_turn 167 = .ok (.aload_n 0, 1) := by decide +kernel
theorem dL_turn_168 : decode cL_turn 168 = .ok (.invokevirtual 64, 3) := by decide +kernel
theorem dL_turn_171 : decode cL_turn 171 = .ok (.ireturn, 1) := by decide +kernel
theorem dL_turn_172 : decode cL_turn 172 = .ok (.aload_n 0, 1) := by decide +kernel
theorem dL_turn_173 : decode cL_turn 173 = .ok (.iload_n 2, 1) := by decide +kernel
theorem dL_turn_174 : decode cL_turn 174 = .ok (.bipush 15, 2) := by decide +kernel
theorem dL_turn_176 : decode cL_turn 176 = .ok (.iand, 1) := by decide +kernel
theorem dL_turn_177 : decode cL_turn 177 = .ok (.invokevirtual 44, 3) := by decide +kernel
theorem dL_turn_180 : decode cL_turn 180 = .ok (.ireturn, 1) := by decide +kernel
theorem dL_turn_181 : decode cL_turn 181 = .ok (.aload_n 0, 1) := by decide +kernel
theorem dL_turn_182 : decode cL_turn 182 = .ok (.iload_n 2, 1) := by decide +kernel
theorem dL_turn_183 : decode cL_turn 183 = .ok (.bipush 23, 2) := by decide +kernel
theorem dL_turn_185 : decode cL_turn 185 = .ok (.invokestatic 53, 3) := by decide +kernel
theorem dL_turn_188 : decode cL_turn 188 = .ok (.iconst 1, 1) := by decide +kernel
theorem dL_turn_189 : decode cL_turn 189 = .ok (.isub, 1) := by decide +kernel
theorem dL_turn_190 : decode cL_turn 190 = .ok (.invokevirtual 41, 3) := by decide +kernel
theorem dL_turn_193 : decode cL_turn 193 = .ok (.ireturn, 1) := by decide +kernel
theorem dL_turn_194 : decode cL_turn 194 = .ok (.aload_n 0, 1) := by decide +kernel
theorem dL_turn_195 : decode cL_turn 195 = .ok (.iload_n 2, 1) := by decide +kernel
theorem dL_turn_196 : decode cL_turn 196 = .ok (.bipush 63, 2) := by decide +kernel
theorem dL_turn_198 : decode cL_turn 198 = .ok (.invokestatic 53, 3) := by decide +kernel
theorem dL_turn_201 : decode cL_turn 201 = .ok (.iconst 1, 1) := by decide +kernel
theorem dL_turn_202 : decode cL_turn 202 = .ok (.isub, 1) := by decide +kernel
theorem dL_turn_203 : decode cL_turn 203 = .ok (.invokevirtual 47, 3) := by decide +kernel
theorem dL_turn_206 : decode cL_turn 206 = .ok (.ireturn, 1) := by decide +kernel
theorem dL_turn_207 : decode cL_turn 207 = .ok (.aload_n 0, 1) := by decide +kernel
theorem dL_turn_208 : decode cL_turn 208 = .ok (.iload_n 2, 1) := by decide +kernel
theorem dL_turn_209 : decode cL_turn 209 = .ok (.bipush 11, 2) := by decide +kernel
theorem dL_turn_211 : decode cL_turn 211 = .ok (.invokestatic 53, 3) := by decide +kernel
theorem dL_turn_214 : decode cL_turn 214 = .ok (.iload_n 3, 1) := by decide +kernel
theorem dL_turn_215 : decode cL_turn 215 = .ok (.bipush 6, 2) := by decide +kernel
theorem dL_turn_217 : decode cL_turn 217 = .ok (.invokestatic 53, 3) := by decide +kernel
theorem dL_turn_220 : decode cL_turn 220 = .ok (.invokevirtual 50, 3) := by decide +kernel
theorem dL_turn_223 : decode cL_turn 223 = .ok (.ireturn, 1) := by decide +kernel
theorem dL_turn_224 : decode cL_turn 224 = .ok (.aload_n 0, 1) := by decide +kernel
theorem dL_turn_225 : decode cL_turn 225 = .ok (.iload_n 2, 1) := by decide +kernel
theorem dL_turn_226 : decode cL_turn 226 = .ok (.iload_n 3, 1) := by decide +kernel
theorem dL_turn_227 : decode cL_turn 227 = .ok (.invokestatic 67, 3) := by decide +kernel
theorem dL_turn_230 : decode cL_turn 230 = .ok (.ireturn, 1) := by decide +kernel
theorem dL_isUndone_0 : decode cL_isUndone 0 = .ok (.aload_n 0, 1) := by decide +kernel
theorem dL_isUndone_1 : decode cL_isUndone 1 = .ok (.bipush 9, 2) := by decide +kernel
theorem dL_isUndone_3 : decode cL_isUndone 3 = .ok (.invokevirtual 17, 3) := by decide +kernel
theorem dL_isUndone_6 : decode cL_isUndone 6 = .ok (.istore 7, 2) := by decide +kernel
theorem dL_isUndone_8 : decode cL_isUndone 8 = .ok (.aload_n 0, 1) := by decide +kernel
theorem dL_isUndone_9 : decode cL_isUndone 9 = .ok (.invokevirtual 71, 3) := by decide +kernel
theorem dL_isUndone_12 : decode cL_isUndone 12 = .ok (.iload 7, 2) := by decide +kernel
theorem dL_isUndone_14 : decode cL_isUndone 14 = .ok (.iconst 1, 1) := by decide +kernel
theorem dL_isUndone_15 : decode cL_isUndone 15 = .ok (.isub, 1) := by decide +kernel
theorem dL_isUndone_16 : decode cL_isUndone 16 = .ok (.if_icmp .ne 42, 3) := by decide +kernel
theorem dL_isUndone_19 : decode cL_isUndone 19 = .ok (.aload_n 0, 1) := by decide +kernel
theorem dL_isUndone_20 : decode cL_isUndone 20 = .ok (.bipush 9, 2) := by decide +kernel
theorem dL_isUndone_22 : decode cL_isUndone 22 = .ok (.invokevirtual 17, 3) := by decide +kernel
theorem dL_isUndone_25 : decode cL_isUndone 25 = .ok (.iload 7, 2) := by decide +kernel
theorem dL_isUndone_27 : decode cL_isUndone 27 = .ok (.iconst 1, 1) := by decide +kernel
theorem dL_isUndone_28 : decode cL_isUndone 28 = .ok (.isub, 1) := by decide +kernel
theorem dL_isUndone_29 : decode cL_isUndone 29 = .ok (.if_icmp .ne 29, 3) := by decide +kernel
theorem dL_isUndone_32 : decode cL_isUndone 32 = .ok (.aload_n 0, 1) := by decide +kernel
theorem dL_isUndone_33 : decode cL_isUndone 33 = .ok (.invokestatic 74, 3) := by decide +kernel
theorem dL_isUndone_36 : decode cL_isUndone 36 = .ok (.lload 5, 2) := by decide +kernel
theorem dL_isUndone_38 : decode cL_isUndone 38 = .ok (.lcmp, 1) := by decide +kernel
theorem dL_isUndone_39 : decode cL_isUndone 39 = .ok (.ifCond .ne 19, 3) := by decide +kernel
theorem dL_isUndone_42 : decode cL_isUndone 42 = .ok (.aload_n 0, 1) := by decide +kernel
theorem dL_isUndone_43 : decode cL_isUndone 43 = .ok (.iload_n 1, 1) := by decide +kernel
theorem dL_isUndone_44 : decode cL_isUndone 44 = .ok (.iload_n 2, 1) := by decide +kernel
theorem dL_isUndone_45 : decode cL_isUndone 45 = .ok (.iload_n 3, 1) := by decide +kernel
theorem dL_isUndone_46 : decode cL_isUndone 46 = .ok (.invokestatic 78, 3) := by decide +kernel
theorem dL_isUndone_49 : decode cL_isUndone 49 = .ok (.iload 4, 2) := by decide +kernel
theorem dL_isUndone_51 : decode cL_isUndone 51 = .ok (.if_icmp .ne 7, 3) := by decide +kernel
theorem dL_isUndone_54 : decode cL_isUndone 54 = .ok (.iconst 1, 1) := by decide +kernel
theorem dL_isUndone_55 : decode cL_isUndone 55 = .ok (.goto 4, 3) := by decide +kernel
theorem dL_isUndone_58 : decode cL_isUndone 58 = .ok (.iconst 0, 1) := by decide +kernel
theorem dL_isUndone_59 : decode cL_isUndone 59 = .ok (.ireturn, 1) := by decide +kernel
theorem dL_areRight_0 : decode cL_areRight 0 = .ok (.aload_n 0, 1) := by decide +kernel
theorem dL_areRight_1 : decode cL_areRight 1 = .ok (.invokevirtual 9, 3) := by decide +kernel
theorem dL_areRight_4 : decode cL_areRight 4 = .ok (.istore 5, 2) := by decide +kernel
theorem dL_areRight_6 : decode cL_areRight 6 = .ok (.iconst 1, 1) := by decide +kernel
theorem dL_areRight_7 : decode cL_areRight 7 = .ok (.aload_n 0, 1) := by decide +kernel
theorem dL_areRight_8 : decode cL_areRight 8 = .ok (.iconst 2, 1) := by decide +kernel
theorem dL_areRight_9 : decode cL_areRight 9 = .ok (.invokevirtual 17, 3) := by decide +kernel
theorem dL_areRight_12 : decode cL_areRight 12 = .ok (.ishl, 1) := by decide +kernel
theorem dL_areRight_13 : decode cL_areRight 13 = .ok (.iconst 1, 1) := by decide +kernel
theorem dL_areRight_14 : decode cL_areRight 14 = .ok (.isub, 1) := by decide +kernel
theorem dL_areRight_15 : decode cL_areRight 15 = .ok (.sipush 1024, 3) := by decide +kernel
theorem dL_areRight_18 : decode cL_areRight 18 = .ok (.ior, 1) := by decide +kernel
theorem dL_areRight_19 : decode cL_areRight 19 = .ok (.istore 6, 2) := by decide +kernel
theorem dL_areRight_21 : decode cL_areRight 21 = .ok (.iload 5, 2) := by decide +kernel
theorem dL_areRight_23 : decode cL_areRight 23 = .ok (.iload 6, 2) := by decide +kernel
theorem dL_areRight_25 : decode cL_areRight 25 = .ok (.iconst (-1), 1) := by decide +kernel
theorem dL_areRight_26 : decode cL_areRight 26 = .ok (.ixor, 1) := by decide +kernel
theorem dL_areRight_27 : decode cL_areRight 27 = .ok (.iand, 1) := by decide +kernel
theorem dL_areRight_28 : decode cL_areRight 28 = .ok (.ifCond .ne 23, 3) := by decide +kernel
theorem dL_areRight_31 : decode cL_areRight 31 = .ok (.iload 5, 2) := by decide +kernel
theorem dL_areRight_33 : decode cL_areRight 33 = .ok (.iload 4, 2) := by decide +kernel
theorem dL_areRight_35 : decode cL_areRight 35 = .ok (.ifCond .ge 8, 3) := by decide +kernel
theorem dL_areRight_38 : decode cL_areRight 38 = .ok (.bipush 10, 2) := by decide +kernel
theorem dL_areRight_40 : decode cL_areRight 40 = .ok (.goto 5, 3) := by decide +kernel
theorem dL_areRight_43 : decode cL_areRight 43 = .ok (.iload 4, 2) := by decide +kernel
theorem dL_areRight_45 : decode cL_areRight 45 = .ok (.ishr, 1) := by decide +kernel
theorem dL_areRight_46 : decode cL_areRight 46 = .ok (.iconst 1, 1) := by decide +kernel
theorem dL_areRight_47 : decode cL_areRight 47 = .ok (.iand, 1) := by decide +kernel
theorem dL_areRight_48 : decode cL_areRight 48 = .ok (.ifCond .ne 5, 3) := by decide +kernel
theorem dL_areRight_51 : decode cL_areRight 51 = .ok (.iconst 0, 1) := by decide +kernel
theorem dL_areRight_52 : decode cL_areRight 52 = .ok (.ireturn, 1) := by decide +kernel
theorem dL_areRight_53 : decode cL_areRight 53 = .ok (.iload_n 1, 1) := by decide +kernel
theorem dL_areRight_54 : decode cL_areRight 54 = .ok (.bipush 8, 2) := by decide +kernel
theorem dL_areRight_56 : decode cL_areRight 56 = .ok (.if_icmp .ne 25, 3) := by decide +kernel
theorem dL_areRight_59 : decode cL_areRight 59 = .ok (.iload_n 2, 1) := by decide +kernel
theorem dL_areRight_60 : decode cL_areRight 60 = .ok (.iload 6, 2) := by decide +kernel
theorem dL_areRight_62 : decode cL_areRight 62 = .ok (.invokestatic 82, 3) := by decide +kernel
theorem dL_areRight_65 : decode cL_areRight 65 = .ok (.if_icmp .ne 14, 3) := by decide +kernel
theorem dL_areRight_68 : decode cL_areRight 68 = .ok (.iload 5, 2) := by decide +kernel
theorem dL_areRight_70 : decode cL_areRight 70 = .ok (.iload 6, 2) := by decide +kernel
theorem dL_areRight_72 : decode cL_areRight 72 = .ok (.if_icmp .ne 7, 3) := by decide +kernel
theorem dL_areRight_75 : decode cL_areRight 75 = .ok (.iconst 1, 1) := by decide +kernel
theorem dL_areRight_76 : decode cL_areRight 76 = .ok (.goto 4, 3) := by decide +kernel
theorem dL_areRight_79 : decode cL_areRight 79 = .ok (.iconst 0, 1) := by decide +kernel
theorem dL_areRight_80 : decode cL_areRight 80 = .ok (.ireturn, 1) := by decide +kernel
theorem dL_areRight_81 : decode cL_areRight 81 = .ok (.iload_n 1, 1) := by decide +kernel
theorem dL_areRight_82 : decode cL_areRight 82 = .ok (.bipush 9, 2) := by decide +kernel
theorem dL_areRight_84 : decode cL_areRight 84 = .ok (.if_icmp .eq 21, 3) := by decide +kernel
theorem dL_areRight_87 : decode cL_areRight 87 = .ok (.iload_n 1, 1) := by decide +kernel
theorem dL_areRight_88 : decode cL_areRight 88 = .ok (.bipush 10, 2) := by decide +kernel
theorem dL_areRight_90 : decode cL_areRight 90 = .ok (.if_icmp .eq 15, 3) := by decide +kernel
theorem dL_areRight_93 : decode cL_areRight 93 = .ok (.iload 5, 2) := by decide +kernel
theorem dL_areRight_95 : decode cL_areRight 95 = .ok (.iload_n 3, 1) := by decide +kernel
theorem dL_areRight_96 : decode cL_areRight 96 = .ok (.if_icmp .ne 7, 3) := by decide +kernel
theorem dL_areRight_99 : decode cL_areRight 99 = .ok (.iconst 1, 1) := by decide +kernel
theorem dL_areRight_100 : decode cL_areRight 100 = .ok (.goto 4, 3) := by decide +kernel
theorem dL_areRight_103 : decode cL_areRight 103 = .ok (.iconst 0, 1) := by decide +kernel
theorem dL_areRight_104 : decode cL_areRight 104 = .ok (.ireturn, 1) := by decide +kernel
theorem dL_areRight_105 : decode cL_areRight 105 = .ok (.iload_n 2, 1) := by decide +kernel
theorem dL_areRight_106 : decode cL_areRight 106 = .ok (.iload 5, 2) := by decide +kernel
theorem dL_areRight_108 : decode cL_areRight 108 = .ok (.invokestatic 82, 3) := by decide +kernel
theorem dL_areRight_111 : decode cL_areRight 111 = .ok (.if_icmp .ne 16, 3) := by decide +kernel
theorem dL_areRight_114 : decode cL_areRight 114 = .ok (.iload 5, 2) := by decide +kernel
theorem dL_areRight_116 : decode cL_areRight 116 = .ok (.iload_n 3, 1) := by decide +kernel
theorem dL_areRight_117 : decode cL_areRight 117 = .ok (.iconst (-1), 1) := by decide +kernel
theorem dL_areRight_118 : decode cL_areRight 118 = .ok (.ixor, 1) := by decide +kernel
theorem dL_areRight_119 : decode cL_areRight 119 = .ok (.iand, 1) := by decide +kernel
theorem dL_areRight_120 : decode cL_areRight 120 = .ok (.ifCond .ne 7, 3) := by decide +kernel
theorem dL_areRight_123 : decode cL_areRight 123 = .ok (.iconst 1, 1) := by decide +kernel
theorem dL_areRight_124 : decode cL_areRight 124 = .ok (.goto 4, 3) := by decide +kernel
theorem dL_areRight_127 : decode cL_areRight 127 = .ok (.iconst 0, 1) := by decide +kernel
theorem dL_areRight_128 : decode cL_areRight 128 = .ok (.ireturn, 1) := by decide +kernel
theorem dL_law_0 : decode cL_law 0 = .ok (.new 10, 3) := by decide +kernel
theorem dL_law_3 : decode cL_law 3 = .ok (.dup, 1) := by decide +kernel
theorem dL_law_4 : decode cL_law 4 = .ok (.invokespecial 85, 3) := by decide +kernel
theorem dL_law_7 : decode cL_law 7 = .ok (.astore_n 1, 1) := by decide +kernel
theorem dL_law_8 : decode cL_law 8 = .ok (.iconst (-1), 1) := by decide +kernel
theorem dL_law_9 : decode cL_law 9 = .ok (.istore_n 2, 1) := by decide +kernel
theorem dL_law_10 : decode cL_law 10 = .ok (.aload_n 0, 1) := by decide +kernel
theorem dL_law_11 : decode cL_law 11 = .ok (.arraylength, 1) := by decide +kernel
theorem dL_law_12 : decode cL_law 12 = .ok (.iconst 3, 1) := by decide +kernel
theorem dL_law_13 : decode cL_law 13 = .ok (.idiv, 1) := by decide +kernel
theorem dL_law_14 : decode cL_law 14 = .ok (.bipush 40, 2) := by decide +kernel
theorem dL_law_16 : decode cL_law 16 = .ok (.if_icmp .ge 10, 3) := by decide +kernel
theorem dL_law_19 : decode cL_law 19 = .ok (.aload_n 0, 1) := by decide +kernel
theorem dL_law_20 : decode cL_law 20 = .ok (.arraylength, 1) := by decide +kernel
theorem dL_law_21 : decode cL_law 21 = .ok (.iconst 3, 1) := by decide +kernel
theorem dL_law_22 : decode cL_law 22 = .ok (.idiv, 1) := by decide +kernel
theorem dL_law_23 : decode cL_law 23 = .ok (.goto 5, 3) := by decide +kernel
theorem dL_law_26 : decode cL_law 26 = .ok (.bipush 40, 2) := by decide +kernel
theorem dL_law_28 : decode cL_law 28 = .ok (.istore_n 3, 1) := by decide +kernel
theorem dL_law_29 : decode cL_law 29 = .ok (.iconst 0, 1) := by decide +kernel
theorem dL_law_30 : decode cL_law 30 = .ok (.istore 4, 2) := by decide +kernel
theorem dL_law_32 : decode cL_law 32 = .ok (.iload 4, 2) := by decide +kernel
theorem dL_law_34 : decode cL_law 34 = .ok (.iload_n 3, 1) := by decide +kernel
theorem dL_law_35 : decode cL_law 35 = .ok (.if_icmp .ge 256, 3) := by decide +kernel
theorem dL_law_38 : decode cL_law 38 = .ok (.aload_n 0, 1) := by decide +kernel
theorem dL_law_39 : decode cL_law 39 = .ok (.iconst 3, 1) := by decide +kernel
theorem dL_law_40 : decode cL_law 40 = .ok (.iload 4, 2) := by decide +kernel
theorem dL_law_42 : decode cL_law 42 = .ok (.imul, 1) := by decide +kernel
theorem dL_law_43 : decode cL_law 43 = .ok (.invokestatic 86, 3) := by decide +kernel
theorem dL_law_46 : decode cL_law 46 = .ok (.bipush 15, 2) := by decide +kernel
theorem dL_law_48 : decode cL_law 48 = .ok (.iand, 1) := by decide +kernel
theorem dL_law_49 : decode cL_law 49 = .ok (.istore 5, 2) := by decide +kernel
theorem dL_law_51 : decode cL_law 51 = .ok (.aload_n 0, 1) := by decide +kernel
theorem dL_law_52 : decode cL_law 52 = .ok (.iconst 3, 1) := by decide +kernel
theorem dL_law_53 : decode cL_law 53 = .ok (.iload 4, 2) := by decide +kernel
theorem dL_law_55 : decode cL_law 55 = .ok (.imul, 1) := by decide +kernel
theorem dL_law_56 : decode cL_law 56 = .ok (.iconst 1, 1) := by decide +kernel
theorem dL_law_57 : decode cL_law 57 = .ok (.iadd, 1) := by decide +kernel
theorem dL_law_58 : decode cL_law 58 = .ok (.invokestatic 86, 3) := by decide +kernel
theorem dL_law_61 : decode cL_law 61 = .ok (.istore 6, 2) := by decide +kernel
theorem dL_law_63 : decode cL_law 63 = .ok (.aload_n 0, 1) := by decide +kernel
theorem dL_law_64 : decode cL_law 64 = .ok (.iconst 3, 1) := by decide +kernel
theorem dL_law_65 : decode cL_law 65 = .ok (.iload 4, 2) := by decide +kernel
theorem dL_law_67 : decode cL_law 67 = .ok (.imul, 1) := by decide +kernel
theorem dL_law_68 : decode cL_law 68 = .ok (.iconst 2, 1) := by decide +kernel
theorem dL_law_69 : decode cL_law 69 = .ok (.iadd, 1) := by decide +kernel
theorem dL_law_70 : decode cL_law 70 = .ok (.invokestatic 86, 3) := by decide +kernel
theorem dL_law_73 : decode cL_law 73 = .ok (.istore 7, 2) := by decide +kernel
theorem dL_law_75 : decode cL_law 75 = .ok (.aload_n 1, 1) := by decide +kernel
theorem dL_law_76 : decode cL_law 76 = .ok (.invokestatic 74, 3) := by decide +kernel
theorem dL_law_79 : decode cL_law 79 = .ok (.lstore 8, 2) := by decide +kernel
theorem dL_law_81 : decode cL_law 81 = .ok (.aload_n 1, 1) := by decide +kernel
theorem dL_law_82 : decode cL_law 82 = .ok (.bipush 9, 2) := by decide +kernel
theorem dL_law_84 : decode cL_law 84 = .ok (.invokevirtual 17, 3) := by decide +kernel
theorem dL_law_87 : decode cL_law 87 = .ok (.istore 10, 2) := by decide +kernel
theorem dL_law_89 : decode cL_law 89 = .ok (.aload_n 1, 1) := by decide +kernel
theorem dL_law_90 : decode cL_law 90 = .ok (.invokevirtual 9, 3) := by decide +kernel
theorem dL_law_93 : decode cL_law 93 = .ok (.istore 11, 2) := by decide +kernel
theorem dL_law_95 : decode cL_law 95 = .ok (.aload_n 1, 1) := by decide +kernel
theorem dL_law_96 : decode cL_law 96 = .ok (.iload 5, 2) := by decide +kernel
theorem dL_law_98 : decode cL_law 98 = .ok (.iload 6, 2) := by decide +kernel
theorem dL_law_100 : decode cL_law 100 = .ok (.iload 7, 2) := by decide +kernel
theorem dL_law_102 : decode cL_law 102 = .ok (.invokestatic 78, 3) := by decide +kernel
theorem dL_law_105 : decode cL_law 105 = .ok (.istore 12, 2) := by decide +kernel
theorem dL_law_107 : decode cL_law 107 = .ok (.iload 12, 2) := by decide +kernel
theorem dL_law_109 : decode cL_law 109 = .ok (.ifCond .ge 26, 3) := by decide +kernel
theorem dL_law_112 : decode cL_law 112 = .ok (.aload_n 1, 1) := by decide +kernel
theorem dL_law_113 : decode cL_law 113 = .ok (.invokestatic 74, 3) := by decide +kernel
theorem dL_law_116 : decode cL_law 116 = .ok (.lload 8, 2) := by decide +kernel
theorem dL_law_118 : decode cL_law 118 = .ok (.lcmp, 1) := by decide +kernel
theorem dL_law_119 : decode cL_law 119 = .ok (.ifCond .ne 14, 3) := by decide +kernel
theorem dL_law_122 : decode cL_law 122 = .ok (.aload_n 1, 1) := by decide +kernel
theorem dL_law_123 : decode cL_law 123 = .ok (.bipush 9, 2) := by decide +kernel
theorem dL_law_125 : decode cL_law 125 = .ok (.invokevirtual 17, 3) := by decide +kernel
theorem dL_law_128 : decode cL_law 128 = .ok (.iload 10, 2) := by decide +kernel
theorem dL_law_130 : decode cL_law 130 = .ok (.if_icmp .eq 155, 3) := by decide +kernel
theorem dL_law_133 : decode cL_law 133 = .ok (.iconst 0, 1) := by decide +kernel
theorem dL_law_134 : decode cL_law 134 = .ok (.ireturn, 1) := by decide +kernel
theorem dL_law_135 : decode cL_law 135 = .ok (.iload 5, 2) := by decide +kernel
theorem dL_law_137 : decode cL_law 137 = .ok (.bipush 8, 2) := by decide +kernel
theorem dL_law_139 : decode cL_law 139 = .ok (.if_icmp .ne 15, 3) := by decide +kernel
theorem dL_law_142 : decode cL_law 142 = .ok (.iload 6, 2) := by decide +kernel
theorem dL_law_144 : decode cL_law 144 = .ok (.bipush 13, 2) := by decide +kernel
theorem dL_law_146 : decode cL_law 146 = .ok (.invokestatic 53, 3) := by decide +kernel
theorem dL_law_149 : decode cL_law 149 = .ok (.iconst 2, 1) := by decide +kernel
theorem dL_law_150 : decode cL_law 150 = .ok (.isub, 1) := by decide +kernel
theorem dL_law_151 : decode cL_law 151 = .ok (.goto 4, 3) := by decide +kernel
theorem dL_law_154 : decode cL_law 154 = .ok (.iload_n 2, 1) := by decide +kernel
theorem dL_law_155 : decode cL_law 155 = .ok (.istore_n 2, 1) := by decide +kernel
theorem dL_law_156 : decode cL_law 156 = .ok (.aload_n 1, 1) := by decide +kernel
theorem dL_law_157 : decode cL_law 157 = .ok (.bipush 9, 2) := by decide +kernel
theorem dL_law_159 : decode cL_law 159 = .ok (.invokevirtual 17, 3) := by decide +kernel
theorem dL_law_162 : decode cL_law 162 = .ok (.iload 10, 2) := by decide +kernel
theorem dL_law_164 : decode cL_law 164 = .ok (.iconst 4, 1) := by decide +kernel
theorem dL_law_165 : decode cL_law 165 = .ok (.if_icmp .ge 10, 3) := by decide +kernel
theorem dL_law_168 : decode cL_law 168 = .ok (.iload 10, 2) := by decide +kernel
theorem dL_law_170 : decode cL_law 170 = .ok (.iconst 1, 1) := by decide +kernel
theorem dL_law_171 : decode cL_law 171 = .ok (.iadd, 1) := by decide +kernel
theorem dL_law_172 : decode cL_law 172 = .ok (.goto 4, 3) := by decide +kernel
theorem dL_law_175 : decode cL_law 175 = .ok (.iconst 4, 1) := by decide +kernel
theorem dL_law_176 : decode cL_law 176 = .ok (.if_icmp .eq 5, 3) := by decide +kernel
theorem dL_law_179 : decode cL_law 179 = .ok (.iconst 0, 1) := by decide +kernel
theorem dL_law_180 : decode cL_law 180 = .ok (.ireturn, 1) := by decide +kernel
theorem dL_law_181 : decode cL_law 181 = .ok (.aload_n 0, 1) := by decide +kernel
theorem dL_law_182 : decode cL_law 182 = .ok (.iconst 3, 1) := by decide +kernel
theorem dL_law_183 : decode cL_law 183 = .ok (.iload 4, 2) := by decide +kernel
theorem dL_law_185 : decode cL_law 185 = .ok (.imul, 1) := by decide +kernel
theorem dL_law_186 : decode cL_law 186 = .ok (.invokestatic 86, 3) := by decide +kernel
theorem dL_law_189 : decode cL_law 189 = .ok (.iconst 4, 1) := by decide +kernel
theorem dL_law_190 : decode cL_law 190 = .ok (.ishr, 1) := by decide +kernel
theorem dL_law_191 : decode cL_law 191 = .ok (.iconst 1, 1) := by decide +kernel
theorem dL_law_192 : decode cL_law 192 = .ok (.iand, 1) := by decide +kernel
theorem dL_law_193 : decode cL_law 193 = .ok (.ifCond .ne 22, 3) := by decide +kernel
theorem dL_law_196 : decode cL_law 196 = .ok (.aload_n 1, 1) := by decide +kernel
theorem dL_law_197 : decode cL_law 197 = .ok (.iload 5, 2) := by decide +kernel
theorem dL_law_199 : decode cL_law 199 = .ok (.iload 6, 2) := by decide +kernel
theorem dL_law_201 : decode cL_law 201 = .ok (.iload 7, 2) := by decide +kernel
theorem dL_law_203 : decode cL_law 203 = .ok (.iload 12, 2) := by decide +kernel
theorem dL_law_205 : decode cL_law 205 = .ok (.lload 8, 2) := by decide +kernel
theorem dL_law_207 : decode cL_law 207 = .ok (.invokestatic 90, 3) := by decide +kernel
theorem dL_law_210 : decode cL_law 210 = .ok (.ifCond .ne 5, 3) := by decide +kernel
theorem dL_law_213 : decode cL_law 213 = .ok (.iconst 0, 1) := by decide +kernel
theorem dL_law_214 : decode cL_law 214 = .ok (.ireturn, 1) := by decide +kernel
theorem dL_law_215 : decode cL_law 215 = .ok (.aload_n 1, 1) := by decide +kernel
theorem dL_law_216 : decode cL_law 216 = .ok (.iload 5, 2) := by decide +kernel
theorem dL_law_218 : decode cL_law 218 = .ok (.iload 12, 2) := by decide +kernel
theorem dL_law_220 : decode cL_law 220 = .ok (.iload 11, 2) := by decide +kernel
theorem dL_law_222 : decode cL_law 222 = .ok (.iload_n 2, 1) := by decide +kernel
theorem dL_law_223 : decode cL_law 223 = .ok (.invokestatic 94, 3) := by decide +kernel
theorem dL_law_226 : decode cL_law 226 = .ok (.ifCond .eq 24, 3) := by decide +kernel
theorem dL_law_229 : decode cL_law 229 = .ok (.iload 5, 2) := by decide +kernel
theorem dL_law_231 : decode cL_law 231 = .ok (.bipush 11, 2) := by decide +kernel
theorem dL_law_233 : decode cL_law 233 = .ok (.if_icmp .ne 19, 3) := by decide +kernel
theorem dL_law_236 : decode cL_law 236 = .ok (.aload_n 1, 1) := by decide +kernel
theorem dL_law_237 : decode cL_law 237 = .ok (.iload 6, 2) := by decide +kernel
theorem dL_law_239 : decode cL_law 239 = .ok (.bipush 15, 2) := by decide +kernel
theorem dL_law_241 : decode cL_law 241 = .ok (.iand, 1) := by decide +kernel
theorem dL_law_242 : decode cL_law 242 = .ok (.iconst 4, 1) := by decide +kernel
theorem dL_law_243 : decode cL_law 243 = .ok (.invokevirtual 21, 3) := by decide +kernel
theorem dL_law_246 : decode cL_law 246 = .ok (.iconst 1, 1) := by decide +kernel
theorem dL_law_247 : decode cL_law 247 = .ok (.if_icmp .eq 5, 3) := by decide +kernel
theorem dL_law_250 : decode cL_law 250 = .ok (.iconst 0, 1) := by decide +kernel
theorem dL_law_251 : decode cL_law 251 = .ok (.ireturn, 1) := by decide +kernel
theorem dL_law_252 : decode cL_law 252 = .ok (.aload_n 1, 1) := by decide +kernel
theorem dL_law_253 : decode cL_law 253 = .ok (.invokevirtual 9, 3) := by decide +kernel
theorem dL_law_256 : decode cL_law 256 = .ok (.istore 13, 2) := by decide +kernel
theorem dL_law_258 : decode cL_law 258 = .ok (.iload 5, 2) := by decide +kernel
theorem dL_law_260 : decode cL_law 260 = .ok (.bipush 10, 2) := by decide +kernel
theorem dL_law_262 : decode cL_law 262 = .ok (.if_icmp .ne 23, 3) := by decide +kernel
theorem dL_law_265 : decode cL_law 265 = .ok (.aload_n 1, 1) := by decide +kernel
theorem dL_law_266 : decode cL_law 266 = .ok (.invokevirtual 64, 3) := by decide +kernel
theorem dL_law_269 : decode cL_law 269 = .ok (.iload 12, 2) := by decide +kernel
theorem dL_law_271 : decode cL_law 271 = .ok (.if_icmp .ne 12, 3) := by decide +kernel
theorem dL_law_274 : decode cL_law 274 = .ok (.aload_n 1, 1) := by decide +kernel
theorem dL_law_275 : decode cL_law 275 = .ok (.invokevirtual 9, 3) := by decide +kernel
theorem dL_law_278 : decode cL_law 278 = .ok (.iload 13, 2) := by decide +kernel
theorem dL_law_280 : decode cL_law 280 = .ok (.if_icmp .eq 5, 3) := by decide +kernel
theorem dL_law_283 : decode cL_law 283 = .ok (.iconst 0, 1) := by decide +kernel
theorem dL_law_284 : decode cL_law 284 = .ok (.ireturn, 1) := by decide +kernel
theorem dL_law_285 : decode cL_law 285 = .ok (.iinc 4 1, 3) := by decide +kernel
theorem dL_law_288 : decode cL_law 288 = .ok (.goto (-256), 3) := by decide +kernel
theorem dL_law_291 : decode cL_law 291 = .ok (.iconst 1, 1) := by decide +kernel
theorem dL_law_292 : decode cL_law 292 = .ok (.ireturn, 1) := by decide +kernel
