theorem dX4_copyFrom_68 : decode cX4_copyFrom 68 = .ok (.getfield 53, 3) := by decide +kernel
theorem dX4_copyFrom_71 : decode cX4_copyFrom 71 = .ok (.putfield 53, 3) := by decide +kernel
theorem dX4_copyFrom_74 : decode cX4_copyFrom 74 = .ok (.return_, 1) := by decide +kernel
theorem dX4_weekday_0 : decode cX4_weekday 0 = .ok (.aload_n 0, 1) := by decide +kernel
theorem dX4_weekday_1 : decode cX4_weekday 1 = .ok (.getfield 47, 3) := by decide +kernel
theorem dX4_weekday_4 : decode cX4_weekday 4 = .ok (.bipush 7, 2) := by decide +kernel
theorem dX4_weekday_6 : decode cX4_weekday 6 = .ok (.irem, 1) := by decide +kernel
theorem dX4_weekday_7 : decode cX4_weekday 7 = .ok (.ireturn, 1) := by decide +kernel
theorem dX4_touchedNow_0 : decode cX4_touchedNow 0 = .ok (.aload_n 0, 1) := by decide +kernel
theorem dX4_touchedNow_1 : decode cX4_touchedNow 1 = .ok (.getfield 25, 3) := by decide +kernel
theorem dX4_touchedNow_4 : decode cX4_touchedNow 4 = .ok (.aload_n 0, 1) := by decide +kernel
theorem dX4_touchedNow_5 : decode cX4_touchedNow 5 = .ok (.invokevirtual 56, 3) := by decide +kernel
theorem dX4_touchedNow_8 : decode cX4_touchedNow 8 = .ok (.invokevirtual 60, 3) := by decide +kernel
theorem dX4_touchedNow_11 : decode cX4_touchedNow 11 = .ok (.aload_n 0, 1) := by decide +kernel
theorem dX4_touchedNow_12 : decode cX4_touchedNow 12 = .ok (.getfield 50, 3) := by decide +kernel
theorem dX4_touchedNow_15 : decode cX4_touchedNow 15 = .ok (.ior, 1) := by decide +kernel
theorem dX4_touchedNow_16 : decode cX4_touchedNow 16 = .ok (.ireturn, 1) := by decide +kernel
theorem dX4_filedIn_0 : decode cX4_filedIn 0 = .ok (.iconst 0, 1) := by decide +kernel
theorem dX4_filedIn_1 : decode cX4_filedIn 1 = .ok (.istore_n 2, 1) := by decide +kernel
theorem dX4_filedIn_2 : decode cX4_filedIn 2 = .ok (.iconst 0, 1) := by decide +kernel
theorem dX4_filedIn_3 : decode cX4_filedIn 3 = .ok (.istore_n 3, 1) := by decide +kernel
theorem dX4_filedIn_4 : decode cX4_filedIn 4 = .ok (.iload_n 3, 1) := by decide +kernel
theorem dX4_filedIn_5 : decode cX4_filedIn 5 = .ok (.aload_n 0, 1) := by decide +kernel
theorem dX4_filedIn_6 : decode cX4_filedIn 6 = .ok (.getfield 25, 3) := by decide +kernel
theorem dX4_filedIn_9 : decode cX4_filedIn 9 = .ok (.getfield 64, 3) := by decide +kernel
theorem dX4_filedIn_12 : decode cX4_filedIn 12 = .ok (.if_icmp .ge 22, 3) := by decide +kernel
theorem dX4_filedIn_15 : decode cX4_filedIn 15 = .ok (.aload_n 0, 1) := by decide +kernel
theorem dX4_filedIn_16 : decode cX4_filedIn 16 = .ok (.getfield 9, 3) := by decide +kernel
theorem dX4_filedIn_19 : decode cX4_filedIn 19 = .ok (.iload_n 3, 1) := by decide +kernel
theorem dX4_filedIn_20 : decode cX4_filedIn 20 = .ok (.iaload, 1) := by decide +kernel
theorem dX4_filedIn_21 : decode cX4_filedIn 21 = .ok (.iload_n 1, 1) := by decide +kernel
theorem dX4_filedIn_22 : decode cX4_filedIn 22 = .ok (.if_icmp .ne 6, 3) := by decide +kernel
theorem dX4_filedIn_25 : decode cX4_filedIn 25 = .ok (.iinc 2 1, 3) := by decide +kernel
theorem dX4_filedIn_28 : decode cX4_filedIn 28 = .ok (.iinc 3 1, 3) := by decide +kernel
theorem dX4_filedIn_31 : decode cX4_filedIn 31 = .ok (.goto (-27), 3) := by decide +kernel
theorem dX4_filedIn_34 : decode cX4_filedIn 34 = .ok (.iload_n 2, 1) := by decide +kernel
theorem dX4_filedIn_35 : decode cX4_filedIn 35 = .ok (.ireturn, 1) := by decide +kernel
theorem dX5_init_0 : decode cX5_init 0 = .ok (.aload_n 0, 1) := by decide +kernel
theorem dX5_init_1 : decode cX5_init 1 = .ok (.invokespecial 3, 3) := by decide +kernel
theorem dX5_init_4 : decode cX5_init 4 = .ok (.aload_n 0, 1) := by decide +kernel
theorem dX5_init_5 : decode cX5_init 5 = .ok (.bipush 16, 2) := by decide +kernel
theorem dX5_init_7 : decode cX5_init 7 = .ok (.newarray .int, 2) := by decide +kernel
theorem dX5_init_9 : decode cX5_init 9 = .ok (.putfield 9, 3) := by decide +kernel
theorem dX5_init_12 : decode cX5_init 12 = .ok (.aload_n 0, 1) := by decide +kernel
theorem dX5_init_13 : decode cX5_init 13 = .ok (.bipush 16, 2) := by decide +kernel
theorem dX5_init_15 : decode cX5_init 15 = .ok (.newarray .int, 2) := by decide +kernel
theorem dX5_init_17 : decode cX5_init 17 = .ok (.putfield 15, 3) := by decide +kernel
theorem dX5_init_20 : decode cX5_init 20 = .ok (.aload_n 0, 1) := by decide +kernel
theorem dX5_init_21 : decode cX5_init 21 = .ok (.aload_n 1, 1) := by decide +kernel
theorem dX5_init_22 : decode cX5_init 22 = .ok (.putfield 18, 3) := by decide +kernel
theorem dX5_init_25 : decode cX5_init 25 = .ok (.aload_n 0, 1) := by decide +kernel
theorem dX5_init_26 : decode cX5_init 26 = .ok (.iload_n 2, 1) := by decide +kernel
theorem dX5_init_27 : decode cX5_init 27 = .ok (.putfield 22, 3) := by decide +kernel
theorem dX5_init_30 : decode cX5_init 30 = .ok (.return_, 1) := by decide +kernel
theorem dX5_setUp_0 : decode cX5_setUp 0 = .ok (.aload_n 0, 1) := by decide +kernel
theorem dX5_setUp_1 : decode cX5_setUp 1 = .ok (.getfield 18, 3) := by decide +kernel
theorem dX5_setUp_4 : decode cX5_setUp 4 = .ok (.aload_n 0, 1) := by decide +kernel
theorem dX5_setUp_5 : decode cX5_setUp 5 = .ok (.getfield 22, 3) := by decide +kernel
theorem dX5_setUp_8 : decode cX5_setUp 8 = .ok (.invokevirtual 26, 3) := by decide +kernel
theorem dX5_setUp_11 : decode cX5_setUp 11 = .ok (.istore_n 1, 1) := by decide +kernel
theorem dX5_setUp_12 : decode cX5_setUp 12 = .ok (.iload_n 1, 1) := by decide +kernel
theorem dX5_setUp_13 : decode cX5_setUp 13 = .ok (.ifCond .eq 23, 3) := by decide +kernel
theorem dX5_setUp_16 : decode cX5_setUp 16 = .ok (.aload_n 0, 1) := by decide +kernel
theorem dX5_setUp_17 : decode cX5_setUp 17 = .ok (.getfield 18, 3) := by decide +kernel
theorem dX5_setUp_20 : decode cX5_setUp 20 = .ok (.getfield 32, 3) := by decide +kernel
theorem dX5_setUp_23 : decode cX5_setUp 23 = .ok (.aload_n 0, 1) := by decide +kernel
theorem dX5_setUp_24 : decode cX5_setUp 24 = .ok (.getfield 22, 3) := by decide +kernel
theorem dX5_setUp_27 : decode cX5_setUp 27 = .ok (.iaload, 1) := by decide +kernel
theorem dX5_setUp_28 : decode cX5_setUp 28 = .ok (.iconst 3, 1) := by decide +kernel
theorem dX5_setUp_29 : decode cX5_setUp 29 = .ok (.if_icmp .ne 7, 3) := by decide +kernel
theorem dX5_setUp_32 : decode cX5_setUp 32 = .ok (.iconst 1, 1) := by decide +kernel
theorem dX5_setUp_33 : decode cX5_setUp 33 = .ok (.goto 4, 3) := by decide +kernel
theorem dX5_setUp_36 : decode cX5_setUp 36 = .ok (.iconst 0, 1) := by decide +kernel
theorem dX5_setUp_37 : decode cX5_setUp 37 = .ok (.istore_n 2, 1) := by decide +kernel
theorem dX5_setUp_38 : decode cX5_setUp 38 = .ok (.iload_n 1, 1) := by decide +kernel
theorem dX5_setUp_39 : decode cX5_setUp 39 = .ok (.ifCond .eq 23, 3) := by decide +kernel
theorem dX5_setUp_42 : decode cX5_setUp 42 = .ok (.aload_n 0, 1) := by decide +kernel
theorem dX5_setUp_43 : decode cX5_setUp 43 = .ok (.getfield 18, 3) := by decide +kernel
theorem dX5_setUp_46 : decode cX5_setUp 46 = .ok (.getfield 32, 3) := by decide +kernel
theorem dX5_setUp_49 : decode cX5_setUp 49 = .ok (.aload_n 0, 1) := by decide +kernel
theorem dX5_setUp_50 : decode cX5_setUp 50 = .ok (.getfield 22, 3) := by decide +kernel
theorem dX5_setUp_53 : decode cX5_setUp 53 = .ok (.iaload, 1) := by decide +kernel
theorem dX5_setUp_54 : decode cX5_setUp 54 = .ok (.iconst 4, 1) := by decide +kernel
theorem dX5_setUp_55 : decode cX5_setUp 55 = .ok (.if_icmp .ne 7, 3) := by decide +kernel
theorem dX5_setUp_58 : decode cX5_setUp 58 = .ok (.iconst 1, 1) := by decide +kernel
theorem dX5_setUp_59 : decode cX5_setUp 59 = .ok (.goto 4, 3) := by decide +kernel
theorem dX5_setUp_62 : decode cX5_setUp 62 = .ok (.iconst 0, 1) := by decide +kernel
theorem dX5_setUp_63 : decode cX5_setUp 63 = .ok (.istore_n 3, 1) := by decide +kernel
theorem dX5_setUp_64 : decode cX5_setUp 64 = .ok (.aload_n 0, 1) := by decide +kernel
theorem dX5_setUp_65 : decode cX5_setUp 65 = .ok (.iload_n 2, 1) := by decide +kernel
theorem dX5_setUp_66 : decode cX5_setUp 66 = .ok (.ifCond .eq 26, 3) := by decide +kernel
theorem dX5_setUp_69 : decode cX5_setUp 69 = .ok (.aload_n 0, 1) := by decide +kernel
theorem dX5_setUp_70 : decode cX5_setUp 70 = .ok (.getfield 18, 3) := by decide +kernel
theorem dX5_setUp_73 : decode cX5_setUp 73 = .ok (.getfield 35, 3) := by decide +kernel
theorem dX5_setUp_76 : decode cX5_setUp 76 = .ok (.aload_n 0, 1) := by decide +kernel
theorem dX5_setUp_77 : decode cX5_setUp 77 = .ok (.getfield 18, 3) := by decide +kernel
theorem dX5_setUp_80 : decode cX5_setUp 80 = .ok (.getfield 38, 3) := by decide +kernel
theorem dX5_setUp_83 : decode cX5_setUp 83 = .ok (.aload_n 0, 1) := by decide +kernel
theorem dX5_setUp_84 : decode cX5_setUp 84 = .ok (.getfield 22, 3) := by decide +kernel
theorem dX5_setUp_87 : decode cX5_setUp 87 = .ok (.iaload, 1) := by decide +kernel
theorem dX5_setUp_88 : decode cX5_setUp 88 = .ok (.iaload, 1) := by decide +kernel
theorem dX5_setUp_89 : decode cX5_setUp 89 = .ok (.goto 4, 3) := by decide +kernel
theorem dX5_setUp_92 : decode cX5_setUp 92 = .ok (.iconst 0, 1) := by decide +kernel
theorem dX5_setUp_93 : decode cX5_setUp 93 = .ok (.putfield 41, 3) := by decide +kernel
theorem dX5_setUp_96 : decode cX5_setUp 96 = .ok (.aload_n 0, 1) := by decide +kernel
theorem dX5_setUp_97 : decode cX5_setUp 97 = .ok (.iload_n 3, 1) := by decide +kernel
theorem dX5_setUp_98 : decode cX5_setUp 98 = .ok (.ifCond .eq 20, 3) := by decide +kernel
theorem dX5_setUp_101 : decode cX5_setUp 101 = .ok (.iconst 1, 1) := by decide +kernel
theorem dX5_setUp_102 : decode cX5_setUp 102 = .ok (.aload_n 0, 1) := by decide +kernel
theorem dX5_setUp_103 : decode cX5_setUp 103 = .ok (.getfield 18, 3) := by decide +kernel
theorem dX5_setUp_106 : decode cX5_setUp 106 = .ok (.getfield 38, 3) := by decide +kernel
theorem dX5_setUp_109 : decode cX5_setUp 109 = .ok (.aload_n 0, 1) := by decide +kernel
theorem dX5_setUp_110 : decode cX5_setUp 110 = .ok (.getfield 22, 3) := by decide +kernel
theorem dX5_setUp_113 : decode cX5_setUp 113 = .ok (.iaload, 1) := by decide +kernel
theorem dX5_setUp_114 : decode cX5_setUp 114 = .ok (.ishl, 1) := by decide +kernel
theorem dX5_setUp_115 : decode cX5_setUp 115 = .ok (.goto 4, 3) := by decide +kernel
theorem dX5_setUp_118 : decode cX5_setUp 118 = .ok (.iconst 0, 1) := by decide +kernel
theorem dX5_setUp_119 : decode cX5_setUp 119 = .ok (.putfield 44, 3) := by decide +kernel
theorem dX5_setUp_122 : decode cX5_setUp 122 = .ok (.iconst 0, 1) := by decide +kernel
theorem dX5_setUp_123 : decode cX5_setUp 123 = .ok (.istore 4, 2) := by decide +kernel
theorem dX5_setUp_125 : decode cX5_setUp 125 = .ok (.iload 4, 2) := by decide +kernel
theorem dX5_setUp_127 : decode cX5_setUp 127 = .ok (.bipush 16, 2) := by decide +kernel
theorem dX5_setUp_129 : decode cX5_setUp 129 = .ok (.if_icmp .ge 35, 3) := by decide +kernel
theorem dX5_setUp_132 : decode cX5_setUp 132 = .ok (.aload_n 0, 1) := by decide +kernel
theorem dX5_setUp_133 : decode cX5_setUp 133 = .ok (.getfield 9, 3) := by decide +kernel
theorem dX5_setUp_136 : decode cX5_setUp 136 = .ok (.iload 4, 2) := by decide +kernel
theorem dX5_setUp_138 : decode cX5_setUp 138 = .ok (.aload_n 0, 1) := by decide +kernel
theorem dX5_setUp_139 : decode cX5_setUp 139 = .ok (.iload 4, 2) := by decide +kernel
theorem dX5_setUp_141 : decode cX5_setUp 141 = .ok (.invokevirtual 47, 3) := by decide +kernel
theorem dX5_setUp_144 : decode cX5_setUp 144 = .ok (.iastore, 1) := by decide +kernel
theorem dX5_setUp_145 : decode cX5_setUp 145 = .ok (.aload_n 0, 1) := by decide +kernel
theorem dX5_setUp_146 : decode cX5_setUp 146 = .ok (.getfield 15, 3) := by decide +kernel
theorem dX5_setUp_149 : decode cX5_setUp 149 = .ok (.iload 4, 2) := by decide +kernel
theorem dX5_setUp_151 : decode cX5_setUp 151 = .ok (.aload_n 0, 1) := by decide +kernel
theorem dX5_setUp_152 : decode cX5_setUp 152 = .ok (.iload 4, 2) := by decide +kernel
theorem dX5_setUp_154 : decode cX5_setUp 154 = .ok (.invokevirtual 51, 3) := by decide +kernel
theorem dX5_setUp_157 : decode cX5_setUp 157 = .ok (.iastore, 1) := by decide +kernel
theorem dX5_setUp_158 : decode cX5_setUp 158 = .ok (.iinc 4 1, 3) := by decide +kernel
theorem dX5_setUp_161 : decode cX5_setUp 161 = .ok (.goto (-36), 3) := by decide +kernel
theorem dX5_setUp_164 : decode cX5_setUp 164 = .ok (.return_, 1) := by decide +kernel
theorem dX5_linkingNet_0 : decode cX5_linkingNet 0 = .ok (.aload_n 0, 1) := by decide +kernel
theorem dX5_linkingNet_1 : decode cX5_linkingNet 1 = .ok (.getfield 18, 3) := by decide +kernel
theorem dX5_linkingNet_4 : decode cX5_linkingNet 4 = .ok (.getfield 54, 3) := by decide +kernel
theorem dX5_linkingNet_7 : decode cX5_linkingNet 7 = .ok (.iload_n 1, 1) := by decide +kernel
theorem dX5_linkingNet_8 : decode cX5_linkingNet 8 = .ok (.iaload, 1) := by decide +kernel
theorem dX5_linkingNet_9 : decode cX5_linkingNet 9 = .ok (.istore_n 2, 1) := by decide +kernel
theorem dX5_linkingNet_10 : decode cX5_linkingNet 10 = .ok (.iload_n 2, 1) := by decide +kernel
theorem dX5_linkingNet_11 : decode cX5_linkingNet 11 = .ok (.iconst (-1), 1) := by decide +kernel
theorem dX5_linkingNet_12 : decode cX5_linkingNet 12 = .ok (.if_icmp .eq 51, 3) := by decide +kernel
theorem dX5_linkingNet_15 : decode cX5_linkingNet 15 = .ok (.aload_n 0, 1) := by decide +kernel
theorem dX5_linkingNet_16 : decode cX5_linkingNet 16 = .ok (.getfield 18, 3) := by decide +kernel
theorem dX5_linkingNet_19 : decode cX5_linkingNet 19 = .ok (.aload_n 0, 1) := by decide +kernel
theorem dX5_linkingNet_20 : decode cX5_linkingNet 20 = .ok (.getfield 22, 3) := by decide +kernel
theorem dX5_linkingNet_23 : decode cX5_linkingNet 23 = .ok (.iconst 0, 1) := by decide +kernel
theorem dX5_linkingNet_24 : decode cX5_linkingNet 24 = .ok (.iload_n 1, 1) := by decide +kernel
theorem dX5_linkingNet_25 : decode cX5_linkingNet 25 = .ok (.invokevirtual 57, 3) := by decide +kernel
theorem dX5_linkingNet_28 : decode cX5_linkingNet 28 = .ok (.ifCond .ne 35, 3) := by decide +kernel
theorem dX5_linkingNet_31 : decode cX5_linkingNet 31 = .ok (.aload_n 0, 1) := by decide +kernel
theorem dX5_linkingNet_32 : decode cX5_linkingNet 32 = .ok (.getfield 18, 3) := by decide +kernel
theorem dX5_linkingNet_35 : decode cX5_linkingNet 35 = .ok (.aload_n 0, 1) := by decide +kernel
theorem dX5_linkingNet_36 : decode cX5_linkingNet 36 = .ok (.getfield 22, 3) := by decide +kernel
theorem dX5_linkingNet_39 : decode cX5_linkingNet 39 = .ok (.iconst 2, 1) := by decide +kernel
theorem dX5_linkingNet_40 : decode cX5_linkingNet 40 = .ok (.iload_n 2, 1) := by decide +kernel
theorem dX5_linkingNet_41 : decode cX5_linkingNet 41 = .ok (.invokevirtual 57, 3) := by decide +kernel
theorem dX5_linkingNet_44 : decode cX5_linkingNet 44 = .ok (.ifCond .ne 19, 3) := by decide +kernel
theorem dX5_linkingNet_47 : decode cX5_linkingNet 47 = .ok (.aload_n 0, 1) := by decide +kernel
theorem dX5_linkingNet_48 : decode cX5_linkingNet 48 = .ok (.getfield 18, 3) := by decide +kernel
theorem dX5_linkingNet_51 : decode cX5_linkingNet 51 = .ok (.aload_n 0, 1) := by decide +kernel
theorem dX5_linkingNet_52 : decode cX5_linkingNet 52 = .ok (.getfield 22, 3) := by decide +kernel
theorem dX5_linkingNet_55 : decode cX5_linkingNet 55 = .ok (.iconst 3, 1) := by decide +kernel
theorem dX5_linkingNet_56 : decode cX5_linkingNet 56 = .ok (.iload_n 2, 1) := by decide +kernel
theorem dX5_linkingNet_57 : decode cX5_linkingNet 57 = .ok (.invokevirtual 57, 3) := by decide +kernel
theorem dX5_linkingNet_60 : decode cX5_linkingNet 60 = .ok (.ifCond .eq 5, 3) := by decide +kernel
theorem dX5_linkingNet_63 : decode cX5_linkingNet 63 = .ok (.iconst 0, 1) := by decide +kernel
theorem dX5_linkingNet_64 : decode cX5_linkingNet 64 = .ok (.ireturn, 1) := by decide +kernel
theorem dX5_linkingNet_65 : decode cX5_linkingNet 65 = .ok (.iconst 1, 1) := by decide +kernel
theorem dX5_linkingNet_66 : decode cX5_linkingNet 66 = .ok (.iload_n 2, 1) := by decide +kernel
theorem dX5_linkingNet_67 : decode cX5_linkingNet 67 = .ok (.ishl, 1) := by decide +kernel
theorem dX5_linkingNet_68 : decode cX5_linkingNet 68 = .ok (.ireturn, 1) := by decide +kernel
theorem dX5_followers_0 : decode cX5_followers 0 = .ok (.aload_n 0, 1) := by decide +kernel
theorem dX5_followers_1 : decode cX5_followers 1 = .ok (.getfield 18, 3) := by decide +kernel
theorem dX5_followers_4 : decode cX5_followers 4 = .ok (.getfield 54, 3) := by decide +kernel
theorem dX5_followers_7 : decode cX5_followers 7 = .ok (.iload_n 1, 1) := by decide +kernel
theorem dX5_followers_8 : decode cX5_followers 8 = .ok (.iaload, 1) := by decide +kernel
theorem dX5_followers_9 : decode cX5_followers 9 = .ok (.istore_n 2, 1) := by decide +kernel
theorem dX5_followers_10 : decode cX5_followers 10 = .ok (.iload_n 2, 1) := by decide +kernel
theorem dX5_followers_11 : decode cX5_followers 11 = .ok (.iconst (-1), 1) := by decide +kernel
theorem dX5_followers_12 : decode cX5_followers 12 = .ok (.if_icmp .eq 19, 3) := by decide +kernel
theorem dX5_followers_15 : decode cX5_followers 15 = .ok (.aload_n 0, 1) := by decide +kernel
theorem dX5_followers_16 : decode cX5_followers 16 = .ok (.getfield 18, 3) := by decide +kernel
theorem dX5_followers_19 : decode cX5_followers 19 = .ok (.aload_n 0, 1) := by decide +kernel
theorem dX5_followers_20 : decode cX5_followers 20 = .ok (.getfield 22, 3) := by decide +kernel
theorem dX5_followers_23 : decode cX5_followers 23 = .ok (.iconst 0, 1) := by decide +kernel
theorem dX5_followers_24 : decode cX5_followers 24 = .ok (.iload_n 1, 1) := by decide +kernel
theorem dX5_followers_25 : decode cX5_followers 25 = .ok (.invokevirtual 57, 3) := by decide +kernel
theorem dX5_followers_28 : decode cX5_followers 28 = .ok (.ifCond .eq 7, 3) := by decide +kernel
theorem dX5_followers_31 : decode cX5_followers 31 = .ok (.iconst 1, 1) := by decide +kernel
theorem dX5_followers_32 : decode cX5_followers 32 = .ok (.iload_n 1, 1) := by decide +kernel
theorem dX5_followers_33 : decode cX5_followers 33 = .ok (.ishl, 1) := by decide +kernel
theorem dX5_followers_34 : decode cX5_followers 34 = .ok (.ireturn, 1) := by decide +kernel
theorem dX5_followers_35 : decode cX5_followers 35 = .ok (.aload_n 0, 1) := by decide +kernel
theorem dX5_followers_36 : decode cX5_followers 36 = .ok (.getfield 18, 3) := by decide +kernel
theorem dX5_followers_39 : decode cX5_followers 39 = .ok (.aload_n 0, 1) := by decide +kernel
theorem dX5_followers_40 : decode cX5_followers 40 = .ok (.getfield 22, 3) := by decide +kernel
theorem dX5_followers_43 : decode cX5_followers 43 = .ok (.iconst 2, 1) := by decide +kernel
theorem dX5_followers_44 : decode cX5_followers 44 = .ok (.iload_n 2, 1) := by decide +kernel
theorem dX5_followers_45 : decode cX5_followers 45 = .ok (.invokevirtual 57, 3) := by decide +kernel
theorem dX5_followers_48 : decode cX5_followers 48 = .ok (.ifCond .eq 5, 3) := by decide +kernel
theorem dX5_followers_51 : decode cX5_followers 51 = .ok (.iconst 0, 1) := by decide +kernel
theorem dX5_followers_52 : decode cX5_followers 52 = .ok (.ireturn, 1) := by decide +kernel
theorem dX5_followers_53 : decode cX5_followers 53 = .ok (.aload_n 0, 1) := by decide +kernel
theorem dX5_followers_54 : decode cX5_followers 54 = .ok (.getfield 18, 3) := by decide +kernel
theorem dX5_followers_57 : decode cX5_followers 57 = .ok (.aload_n 0, 1) := by decide +kernel
theorem dX5_followers_58 : decode cX5_followers 58 = .ok (.getfield 22, 3) := by decide +kernel
theorem dX5_followers_61 : decode cX5_followers 61 = .ok (.iload_n 2, 1) := by decide +kernel
theorem dX5_followers_62 : decode cX5_followers 62 = .ok (.invokevirtual 61, 3) := by decide +kernel
theorem dX5_followers_65 : decode cX5_followers 65 = .ok (.istore_n 3, 1) := by decide +kernel
theorem dX5_followers_66 : decode cX5_followers 66 = .ok (.iload_n 3, 1) := by decide +kernel
theorem dX5_followers_67 : decode cX5_followers 67 = .ok (.iconst (-1), 1) := by decide +kernel
theorem dX5_followers_68 : decode cX5_followers 68 = .ok (.if_icmp .ne 15, 3) := by decide +kernel
theorem dX5_followers_71 : decode cX5_followers 71 = .ok (.aload_n 0, 1) := by decide +kernel
theorem dX5_followers_72 : decode cX5_followers 72 = .ok (.getfield 18, 3) := by decide +kernel
theorem dX5_followers_75 : decode cX5_followers 75 = .ok (.getfield 35, 3) := by decide +kernel
theorem dX5_followers_78 : decode cX5_followers 78 = .ok (.iload_n 2, 1) := by decide +kernel
theorem dX5_followers_79 : decode cX5_followers 79 = .ok (.iaload, 1) := by decide +kernel
theorem dX5_followers_80 : decode cX5_followers 80 = .ok (.goto 22, 3) := by decide +kernel
theorem dX5_followers_83 : decode cX5_followers 83 = .ok (.aload_n 0, 1) := by decide +kernel
theorem dX5_followers_84 : decode cX5_followers 84 = .ok (.getfield 18, 3) := by decide +kernel
theorem dX5_followers_87 : decode cX5_followers 87 = .ok (.getfield 35, 3) := by decide +kernel
theorem dX5_followers_90 : decode cX5_followers 90 = .ok (.iload_n 2, 1) := by decide +kernel
theorem dX5_followers_91 : decode cX5_followers 91 = .ok (.iaload, 1) := by decide +kernel
theorem dX5_followers_92 : decode cX5_followers 92 = .ok (.aload_n 0, 1) := by decide +kernel
theorem dX5_followers_93 : decode cX5_followers 93 = .ok (.getfield 18, 3) := by decide +kernel
theorem dX5_followers_96 : decode cX5_followers 96 = .ok (.getfield 35, 3) := by decide +kernel
theorem dX5_followers_99 : decode cX5_followers 99 = .ok (.iload_n 3, 1) := by decide +kernel
theorem dX5_followers_100 : decode cX5_followers 100 = .ok (.iaload, 1) := by decide +kernel
theorem dX5_followers_101 : decode cX5_followers 101 = .ok (.ior, 1) := by decide +kernel
theorem dX5_followers_102 : decode cX5_followers 102 = .ok (.istore 4, 2) := by decide +kernel
theorem dX5_followers_104 : decode cX5_followers 104 = .ok (.aload_n 0, 1) := by decide +kernel
theorem dX5_followers_105 : decode cX5_followers 105 = .ok (.getfield 18, 3) := by decide +kernel
theorem dX5_followers_108 : decode cX5_followers 108 = .ok (.aload_n 0, 1) := by decide +kernel
theorem dX5_followers_109 : decode cX5_followers 109 = .ok (.getfield 22, 3) := by decide +kernel
theorem dX5_followers_112 : decode cX5_followers 112 = .ok (.invokevirtual 26, 3) := by decide +kernel
theorem dX5_followers_115 : decode cX5_followers 115 = .ok (.ifCond .eq 39, 3) := by decide +kernel
theorem dX5_followers_118 : decode cX5_followers 118 = .ok (.aload_n 0, 1) := by decide +kernel
theorem dX5_followers_119 : decode cX5_followers 119 = .ok (.getfield 18, 3) := by decide +kernel
theorem dX5_followers_122 : decode cX5_followers 122 = .ok (.getfield 32, 3) := by decide +kernel
theorem dX5_followers_125 : decode cX5_followers 125 = .ok (.aload_n 0, 1) := by decide +kernel
theorem dX5_followers_126 : decode cX5_followers 126 = .ok (.getfield 22, 3) := by decide +kernel
theorem dX5_followers_129 : decode cX5_followers 129 = .ok (.iaload, 1) := by decide +kernel
theorem dX5_followers_130 : decode cX5_followers 130 = .ok (.ifCond .ne 24, 3) := by decide +kernel
theorem dX5_followers_133 : decode cX5_followers 133 = .ok (.iload 4, 2) := by decide +kernel
theorem dX5_followers_135 : decode cX5_followers 135 = .ok (.iconst 1, 1) := by decide +kernel
theorem dX5_followers_136 : decode cX5_followers 136 = .ok (.aload_n 0, 1) := by decide +kernel
theorem dX5_followers_137 : decode cX5_followers 137 = .ok (.getfield 18, 3) := by decide +kernel
theorem dX5_followers_140 : decode cX5_followers 140 = .ok (.getfield 38, 3) := by decide +kernel
theorem dX5_followers_143 : decode cX5_followers 143 = .ok (.aload_n 0, 1) := by decide +kernel
theorem dX5_followers_144 : decode cX5_followers 144 = .ok (.getfield 22, 3) := by decide +kernel
theorem dX5_followers_147 : decode cX5_followers 147 = .ok (.iaload, 1) := by decide +kernel
theorem dX5_followers_148 : decode cX5_followers 148 = .ok (.ishl, 1) := by decide +kernel
theorem dX5_followers_149 : decode cX5_followers 149 = .ok (.iconst (-1), 1) := by decide +kernel
theorem dX5_followers_150 : decode cX5_followers 150 = .ok (.ixor, 1) := by decide +kernel
theorem dX5_followers_151 : decode cX5_followers 151 = .ok (.iand, 1) := by decide +kernel
theorem dX5_followers_152 : decode cX5_followers 152 = .ok (.istore 4, 2) := by decide +kernel
theorem dX5_followers_154 : decode cX5_followers 154 = .ok (.iload 4, 2) := by decide +kernel
theorem dX5_followers_156 : decode cX5_followers 156 = .ok (.ireturn, 1) := by decide +kernel
theorem dX5_scannedChips_0 : decode cX5_scannedChips 0 = .ok (.aload_n 0, 1) := by decide +kernel
theorem dX5_scannedChips_1 : decode cX5_scannedChips 1 = .ok (.iload_n 1, 1) := by decide +kernel
theorem dX5_scannedChips_2 : decode cX5_scannedChips 2 = .ok (.aload_n 0, 1) := by decide +kernel
theorem dX5_scannedChips_3 : decode cX5_scannedChips 3 = .ok (.getfield 18, 3) := by decide +kernel
theorem dX5_scannedChips_6 : decode cX5_scannedChips 6 = .ok (.getfield 65, 3) := by decide +kernel
theorem dX5_scannedChips_9 : decode cX5_scannedChips 9 = .ok (.aload_n 0, 1) := by decide +kernel
theorem dX5_scannedChips_10 : decode cX5_scannedChips 10 = .ok (.getfield 18, 3) := by decide +kernel
theorem dX5_scannedChips_13 : decode cX5_scannedChips 13 = .ok (.getfield 68, 3) := by decide +kernel
theorem dX5_scannedChips_16 : decode cX5_scannedChips 16 = .ok (.invokevirtual 71, 3) := by decide +kernel
theorem dX5_scannedChips_19 : decode cX5_scannedChips 19 = .ok (.istore_n 2, 1) := by decide +kernel
theorem dX5_scannedChips_20 : decode cX5_scannedChips 20 = .ok (.aload_n 0, 1) := by decide +kernel
theorem dX5_scannedChips_21 : decode cX5_scannedChips 21 = .ok (.iload_n 1, 1) := by decide +kernel
theorem dX5_scannedChips_22 : decode cX5_scannedChips 22 = .ok (.aload_n 0, 1) := by decide +kernel
theorem dX5_scannedChips_23 : decode cX5_scannedChips 23 = .ok (.getfield 18, 3) := by decide +kernel
theorem dX5_scannedChips_26 : decode cX5_scannedChips 26 = .ok (.getfield 68, 3) := by decide +kernel
theorem dX5_scannedChips_29 : decode cX5_scannedChips 29 = .ok (.aload_n 0, 1) := by decide +kernel
theorem dX5_scannedChips_30 : decode cX5_scannedChips 30 = .ok (.getfield 18, 3) := by decide +kernel
theorem dX5_scannedChips_33 : decode cX5_scannedChips 33 = .ok (.getfield 65, 3) := by decide +kernel
theorem dX5_scannedChips_36 : decode cX5_scannedChips 36 = .ok (.invokevirtual 71, 3) := by decide +kernel
theorem dX5_scannedChips_39 : decode cX5_scannedChips 39 = .ok (.istore_n 3, 1) := by decide +kernel
theorem dX5_scannedChips_40 : decode cX5_scannedChips 40 = .ok (.iload_n 2, 1) := by decide +kernel
theorem dX5_scannedChips_41 : decode cX5_scannedChips 41 = .ok (.iload_n 3, 1) := by decide +kernel
theorem dX5_scannedChips_42 : decode cX5_scannedChips 42 = .ok (.iand, 1) := by decide +kernel
theorem dX5_scannedChips_43 : decode cX5_scannedChips 43 = .ok (.ireturn, 1) := by decide +kernel
theorem dX5_spread_0 : decode cX5_spread 0 = .ok (.iconst 0, 1) := by decide +kernel
theorem dX5_spread_1 : decode cX5_spread 1 = .ok (.istore 4, 2) := by decide +kernel
theorem dX5_spread_3 : decode cX5_spread 3 = .ok (.iconst 0, 1) := by decide +kernel
theorem dX5_spread_4 : decode cX5_spread 4 = .ok (.istore 5, 2) := by decide +kernel
theorem dX5_spread_6 : decode cX5_spread 6 = .ok (.iconst 0, 1) := by decide +kernel
theorem dX5_spread_7 : decode cX5_spread 7 = .ok (.istore 6, 2) := by decide +kernel
theorem dX5_spread_9 : decode cX5_spread 9 = .ok (.iload 6, 2) := by decide +kernel
theorem dX5_spread_11 : decode cX5_spread 11 = .ok (.aload_n 0, 1) := by decide +kernel
theorem dX5_spread_12 : decode cX5_spread 12 = .ok (.getfield 18, 3) := by decide +kernel
theorem dX5_spread_15 : decode cX5_spread 15 = .ok (.getfield 75, 3) := by decide +kernel
theorem dX5_spread_18 : decode cX5_spread 18 = .ok (.if_icmp .ge 103, 3) := by decide +kernel
theorem dX5_spread_21 : decode cX5_spread 21 = .ok (.iconst 0, 1) := by decide +kernel
theorem dX5_spread_22 : decode cX5_spread 22 = .ok (.istore 7, 2) := by decide +kernel
theorem dX5_spread_24 : decode cX5_spread 24 = .ok (.iload 7, 2) := by decide +kernel
theorem dX5_spread_26 : decode cX5_spread 26 = .ok (.aload_n 0, 1) := by decide +kernel
theorem dX5_spread_27 : decode cX5_spread 27 = .ok (.getfield 18, 3) := by decide +kernel
theorem dX5_spread_30 : decode cX5_spread 30 = .ok (.getfield 75, 3) := by decide +kernel
theorem dX5_spread_33 : decode cX5_spread 33 = .ok (.if_icmp .ge 82, 3) := by decide +kernel
theorem dX5_spread_36 : decode cX5_spread 36 = .ok (.iload_n 1, 1) := by decide +kernel
theorem dX5_spread_37 : decode cX5_spread 37 = .ok (.aload_n 2, 1) := by decide +kernel
theorem dX5_spread_38 : decode cX5_spread 38 = .ok (.iload 7, 2) := by decide +kernel
theorem dX5_spread_40 : decode cX5_spread 40 = .ok (.iaload, 1) := by decide +kernel
theorem dX5_spread_41 : decode cX5_spread 41 = .ok (.invokestatic 78, 3) := by decide +kernel
theorem dX5_spread_44 : decode cX5_spread 44 = .ok (.ifCond .ne 18, 3) := by decide +kernel
theorem dX5_spread_47 : decode cX5_spread 47 = .ok (.aload_n 0, 1) := by decide +kernel
theorem dX5_spread_48 : decode cX5_spread 48 = .ok (.getfield 9, 3) := by decide +kernel
theorem dX5_spread_51 : decode cX5_spread 51 = .ok (.aload_n 2, 1) := by decide +kernel
theorem dX5_spread_52 : decode cX5_spread 52 = .ok (.iload 7, 2) := by decide +kernel
theorem dX5_spread_54 : decode cX5_spread 54 = .ok (.iaload, 1) := by decide +kernel
theorem dX5_spread_55 : decode cX5_spread 55 = .ok (.iaload, 1) := by decide +kernel
theorem dX5_spread_56 : decode cX5_spread 56 = .ok (.iload 5, 2) := by decide +kernel
theorem dX5_spread_58 : decode cX5_spread 58 = .ok (.iand, 1) := by decide +kernel
theorem dX5_spread_59 : decode cX5_spread 59 = .ok (.ifCond .eq 7, 3) := by decide +kernel
theorem dX5_spread_62 : decode cX5_spread 62 = .ok (.iconst 1, 1) := by decide +kernel
theorem dX5_spread_63 : decode cX5_spread 63 = .ok (.goto 4, 3) := by decide +kernel
theorem dX5_spread_66 : decode cX5_spread 66 = .ok (.iconst 0, 1) := by decide +kernel
theorem dX5_spread_67 : decode cX5_spread 67 = .ok (.istore 8, 2) := by decide +kernel
theorem dX5_spread_69 : decode cX5_spread 69 = .ok (.iload 8, 2) := by decide +kernel
theorem dX5_spread_71 : decode cX5_spread 71 = .ok (.ifCond .eq 38, 3) := by decide +kernel
theorem dX5_spread_74 : decode cX5_spread 74 = .ok (.aload_n 0, 1) := by decide +kernel
theorem dX5_spread_75 : decode cX5_spread 75 = .ok (.getfield 44, 3) := by decide +kernel
theorem dX5_spread_78 : decode cX5_spread 78 = .ok (.iload 7, 2) := by decide +kernel
theorem dX5_spread_80 : decode cX5_spread 80 = .ok (.invokestatic 78, 3) := by decide +kernel
theorem dX5_spread_83 : decode cX5_spread 83 = .ok (.ifCond .ne 26, 3) := by decide +kernel
theorem dX5_spread_86 : decode cX5_spread 86 = .ok (.iload 4, 2) := by decide +kernel
theorem dX5_spread_88 : decode cX5_spread 88 = .ok (.iconst 1, 1) := by decide +kernel
theorem dX5_spread_89 : decode cX5_spread 89 = .ok (.iload 7, 2) := by decide +kernel
theorem dX5_spread_91 : decode cX5_spread 91 = .ok (.ishl, 1) := by decide +kernel
theorem dX5_spread_92 : decode cX5_spread 92 = .ok (.ior, 1) := by decide +kernel
theorem dX5_spread_93 : decode cX5_spread 93 = .ok (.istore 4, 2) := by decide +kernel
theorem dX5_spread_95 : decode cX5_spread 95 = .ok (.iload 5, 2) := by decide +kernel
theorem dX5_spread_97 : decode cX5_spread 97 = .ok (.aload_n 0, 1) := by decide +kernel
theorem dX5_spread_98 : decode cX5_spread 98 = .ok (.getfield 9, 3) := by decide +kernel
theorem dX5_spread_101 : decode cX5_spread 101 = .ok (.aload_n 3, 1) := by decide +kernel
theorem dX5_spread_102 : decode cX5_spread 102 = .ok (.iload 7, 2) := by decide +kernel
theorem dX5_spread_104 : decode cX5_spread 104 = .ok (.iaload, 1) := by decide +kernel
theorem dX5_spread_105 : decode cX5_spread 105 = .ok (.iaload, 1) := by decide +kernel
theorem dX5_spread_106 : decode cX5_spread 106 = .ok (.ior, 1) := by decide +kernel
theorem dX5_spread_107 : decode cX5_spread 107 = .ok (.istore 5, 2) := by decide +kernel
theorem dX5_spread_109 : decode cX5_spread 109 = .ok (.iinc 7 1, 3) := by decide +kernel
theorem dX5_spread_112 : decode cX5_spread 112 = .ok (.goto (-88), 3) := by decide +kernel
theorem dX5_spread_115 : decode cX5_spread 115 = .ok (.iinc 6 1, 3) := by decide +kernel
theorem dX5_spread_118 : decode cX5_spread 118 = .ok (.goto (-109), 3) := by decide +kernel
theorem dX5_spread_121 : decode cX5_spread 121 = .ok (.iload 4, 2) := by decide +kernel
theorem dX5_spread_123 : decode cX5_spread 123 = .ok (.ireturn, 1) := by decide +kernel
theorem dX5_probe_0 : decode cX5_probe 0 = .ok (.aload_n 0, 1) := by decide +kernel
theorem dX5_probe_1 : decode cX5_probe 1 = .ok (.iload_n 1, 1) := by decide +kernel
theorem dX5_probe_2 : decode cX5_probe 2 = .ok (.invokevirtual 82, 3) := by decide +kernel
theorem dX5_probe_5 : decode cX5_probe 5 = .ok (.istore_n 2, 1) := by decide +kernel
theorem dX5_probe_6 : decode cX5_probe 6 = .ok (.aload_n 0, 1) := by decide +kernel
theorem dX5_probe_7 : decode cX5_probe 7 = .ok (.iload_n 1, 1) := by decide +kernel
theorem dX5_probe_8 : decode cX5_probe 8 = .ok (.putfield 85, 3) := by decide +kernel
theorem dX5_probe_11 : decode cX5_probe 11 = .ok (.iconst 0, 1) := by decide +kernel
theorem dX5_probe_12 : decode cX5_probe 12 = .ok (.istore_n 3, 1) := by decide +kernel
theorem dX5_probe_13 : decode cX5_probe 13 = .ok (.iload_n 3, 1) := by decide +kernel
theorem dX5_probe_14 : decode cX5_probe 14 = .ok (.aload_n 0, 1) := by decide +kernel
theorem dX5_probe_15 : decode cX5_probe 15 = .ok (.getfield 18, 3) := by decide +kernel
theorem dX5_probe_18 : decode cX5_probe 18 = .ok (.getfield 75, 3) := by decide +kernel
theorem dX5_probe_21 : decode cX5_probe 21 = .ok (.if_icmp .ge 35, 3) := by decide +kernel
theorem dX5_probe_24 : decode cX5_probe 24 = .ok (.iload_n 2, 1) := by decide +kernel
theorem dX5_probe_25 : decode cX5_probe 25 = .ok (.iload_n 3, 1) := by decide +kernel
theorem dX5_probe_26 : decode cX5_probe 26 = .ok (.invokestatic 78, 3) := by decide +kernel
theorem dX5_probe_29 : decode cX5_probe 29 = .ok (.ifCond .eq 21, 3) := by decide +kernel
theorem dX5_probe_32 : decode cX5_probe 32 = .ok (.aload_n 0, 1) := by decide +kernel
theorem dX5_probe_33 : decode cX5_probe 33 = .ok (.dup, 1) := by decide +kernel
theorem dX5_probe_34 : decode cX5_probe 34 = .ok (.getfield 85, 3) := by decide +kernel
theorem dX5_probe_37 : decode cX5_probe 37 = .ok (.aload_n 0, 1) := by decide +kernel
theorem dX5_probe_38 : decode cX5_probe 38 = .ok (.getfield 18, 3) := by decide +kernel
theorem dX5_probe_41 : decode cX5_probe 41 = .ok (.getfield 88, 3) := by decide +kernel
theorem dX5_probe_44 : decode cX5_probe 44 = .ok (.iload_n 3, 1) := by decide +kernel
theorem dX5_probe_45 : decode cX5_probe 45 = .ok (.iaload, 1) := by decide +kernel
theorem dX5_probe_46 : decode cX5_probe 46 = .ok (.ior, 1) := by decide +kernel
theorem dX5_probe_47 : decode cX5_probe 47 = .ok (.putfield 85, 3) := by decide +kernel
theorem dX5_probe_50 : decode cX5_probe 50 = .ok (.iinc 3 1, 3) := by decide +kernel
theorem dX5_probe_53 : decode cX5_probe 53 = .ok (.goto (-40), 3) := by decide +kernel
theorem dX5_probe_56 : decode cX5_probe 56 = .ok (.return_, 1) := by decide +kernel
theorem dX5_pinsAtOne_0 : decode cX5_pinsAtOne 0 = .ok (.iload_n 2, 1) := by decide +kernel
theorem dX5_pinsAtOne_1 : decode cX5_pinsAtOne 1 = .ok (.iconst 1, 1) := by decide +kernel
theorem dX5_pinsAtOne_2 : decode cX5_pinsAtOne 2 = .ok (.if_icmp .ne 17, 3) := by decide +kernel
theorem dX5_pinsAtOne_5 : decode cX5_pinsAtOne 5 = .ok (.aload_n 0, 1) := by decide +kernel
theorem dX5_pinsAtOne_6 : decode cX5_pinsAtOne 6 = .ok (.getfield 15, 3) := by decide +kernel
theorem dX5_pinsAtOne_9 : decode cX5_pinsAtOne 9 = .ok (.iload_n 1, 1) := by decide +kernel
theorem dX5_pinsAtOne_10 : decode cX5_pinsAtOne 10 = .ok (.iaload, 1) := by decide +kernel
theorem dX5_pinsAtOne_11 : decode cX5_pinsAtOne 11 = .ok (.aload_n 0, 1) := by decide +kernel
theorem dX5_pinsAtOne_12 : decode cX5_pinsAtOne 12 = .ok (.getfield 41, 3) := by decide +kernel
theorem dX5_pinsAtOne_15 : decode cX5_pinsAtOne 15 = .ok (.ior, 1) := by decide +kernel
theorem dX5_pinsAtOne_16 : decode cX5_pinsAtOne 16 = .ok (.goto 7, 3) := by decide +kernel
theorem dX5_pinsAtOne_19 : decode cX5_pinsAtOne 19 = .ok (.aload_n 0, 1) := by decide +kernel
theorem dX5_pinsAtOne_20 : decode cX5_pinsAtOne 20 = .ok (.getfield 41, 3) := by decide +kernel
theorem dX5_pinsAtOne_23 : decode cX5_pinsAtOne 23 = .ok (.istore_n 3, 1) := by decide +kernel
theorem dX5_pinsAtOne_24 : decode cX5_pinsAtOne 24 = .ok (.iload_n 3, 1) := by decide +kernel
theorem dX5_pinsAtOne_25 : decode cX5_pinsAtOne 25 = .ok (.aload_n 0, 1) := by decide +kernel
theorem dX5_pinsAtOne_26 : decode cX5_pinsAtOne 26 = .ok (.getfield 85, 3) := by decide +kernel
theorem dX5_pinsAtOne_29 : decode cX5_pinsAtOne 29 = .ok (.iand, 1) := by decide +kernel
theorem dX5_pinsAtOne_30 : decode cX5_pinsAtOne 30 = .ok (.ireturn, 1) := by decide +kernel
theorem dX5_sameOutcome_0 : decode cX5_sameOutcome 0 = .ok (.aload_n 0, 1) := by decide +kernel
theorem dX5_sameOutcome_1 : decode cX5_sameOutcome 1 = .ok (.getfield 85, 3) := by decide +kernel
theorem dX5_sameOutcome_4 : decode cX5_sameOutcome 4 = .ok (.aload_n 1, 1) := by decide +kernel
theorem dX5_sameOutcome_5 : decode cX5_sameOutcome 5 = .ok (.getfield 85, 3) := by decide +kernel
theorem dX5_sameOutcome_8 : decode cX5_sameOutcome 8 = .ok (.if_icmp .ne 24, 3) := by decide +kernel
theorem dX5_sameOutcome_11 : decode cX5_sameOutcome 11 = .ok (.aload_n 0, 1) := by decide +kernel
theorem dX5_sameOutcome_12 : decode cX5_sameOutcome 12 = .ok (.getfield 41, 3) := by decide +kernel
theorem dX5_sameOutcome_15 : decode cX5_sameOutcome 15 = .ok (.aload_n 0, 1) := by decide +kernel
theorem dX5_sameOutcome_16 : decode cX5_sameOutcome 16 = .ok (.getfield 85, 3) := by decide +kernel
theorem dX5_sameOutcome_19 : decode cX5_sameOutcome 19 = .ok (.iand, 1) := by decide +kernel
theorem dX5_sameOutcome_20 : decode cX5_sameOutcome 20 = .ok (.aload_n 1, 1) := by decide +kernel
theorem dX5_sameOutcome_21 : decode cX5_sameOutcome 21 = .ok (.getfield 41, 3) := by decide +kernel
theorem dX5_sameOutcome_24 : decode cX5_sameOutcome 24 = .ok (.aload_n 0, 1) := by decide +kernel
theorem dX5_sameOutcome_25 : decode cX5_sameOutcome 25 = .ok (.getfield 85, 3) := by decide +kernel
theorem dX5_sameOutcome_28 : decode cX5_sameOutcome 28 = .ok (.iand, 1) := by decide +kernel
theorem dX5_sameOutcome_29 : decode cX5_sameOutcome 29 = .ok (.if_icmp .eq 5, 3) := by decide +kernel
theorem dX5_sameOutcome_32 : decode cX5_sameOutcome 32 = .ok (.iconst 0, 1) := by decide +kernel
theorem dX5_sameOutcome_33 : decode cX5_sameOutcome 33 = .ok (.ireturn, 1) := by decide +kernel
theorem dX5_sameOutcome_34 : decode cX5_sameOutcome 34 = .ok (.iconst 0, 1) := by decide +kernel
theorem dX5_sameOutcome_35 : decode cX5_sameOutcome 35 = .ok (.istore_n 2, 1) := by decide +kernel
theorem dX5_sameOutcome_36 : decode cX5_sameOutcome 36 = .ok (.iload_n 2, 1) := by decide +kernel
theorem dX5_sameOutcome_37 : decode cX5_sameOutcome 37 = .ok (.bipush 16, 2) := by decide +kernel
theorem dX5_sameOutcome_39 : decode cX5_sameOutcome 39 = .ok (.if_icmp .ge 37, 3) := by decide +kernel
theorem dX5_sameOutcome_42 : decode cX5_sameOutcome 42 = .ok (.aload_n 0, 1) := by decide +kernel
theorem dX5_sameOutcome_43 : decode cX5_sameOutcome 43 = .ok (.getfield 85, 3) := by decide +kernel
theorem dX5_sameOutcome_46 : decode cX5_sameOutcome 46 = .ok (.iload_n 2, 1) := by decide +kernel
theorem dX5_sameOutcome_47 : decode cX5_sameOutcome 47 = .ok (.invokestatic 78, 3) := by decide +kernel
theorem dX5_sameOutcome_50 : decode cX5_sameOutcome 50 = .ok (.ifCond .eq 20, 3) := by decide +kernel
theorem dX5_sameOutcome_53 : decode cX5_sameOutcome 53 = .ok (.aload_n 0, 1) := by decide +kernel
theorem dX5_sameOutcome_54 : decode cX5_sameOutcome 54 = .ok (.iload_n 2, 1) := by decide +kernel
theorem dX5_sameOutcome_55 : decode cX5_sameOutcome 55 = .ok (.iconst 1, 1) := by decide +kernel
theorem dX5_sameOutcome_56 : decode cX5_sameOutcome 56 = .ok (.invokevirtual 91, 3) := by decide +kernel
theorem dX5_sameOutcome_59 : decode cX5_sameOutcome 59 = .ok (.aload_n 1, 1) := by decide +kernel
theorem dX5_sameOutcome_60 : decode cX5_sameOutcome 60 = .ok (.iload_n 2, 1) := by decide +kernel
theorem dX5_sameOutcome_61 : decode cX5_sameOutcome 61 = .ok (.iconst 1, 1) := by decide +kernel
theorem dX5_sameOutcome_62 : decode cX5_sameOutcome 62 = .ok (.invokevirtual 91, 3) := by decide +kernel
theorem dX5_sameOutcome_65 : decode cX5_sameOutcome 65 = .ok (.if_icmp .eq 5, 3) := by decide +kernel
theorem dX5_sameOutcome_68 : decode cX5_sameOutcome 68 = .ok (.iconst 0, 1) := by decide +kernel
theorem dX5_sameOutcome_69 : decode cX5_sameOutcome 69 = .ok (.ireturn, 1) := by decide +kernel
theorem dX5_sameOutcome_70 : decode cX5_sameOutcome 70 = .ok (.iinc 2 1, 3) := by decide +kernel
theorem dX5_sameOutcome_73 : decode cX5_sameOutcome 73 = .ok (.goto (-37), 3) := by decide +kernel
theorem dX5_sameOutcome_76 : decode cX5_sameOutcome 76 = .ok (.iconst 1, 1) := by decide +kernel
theorem dX5_sameOutcome_77 : decode cX5_sameOutcome 77 = .ok (.ireturn, 1) := by decide +kernel
theorem dX6_init_0 : decode cX6_init 0 = .ok (.aload_n 0, 1) := by decide +kernel
theorem dX6_init_1 : decode cX6_init 1 = .ok (.invokespecial 3, 3) := by decide +kernel
theorem dX6_init_4 : decode cX6_init 4 = .ok (.aload_n 0, 1) := by decide +kernel
theorem dX6_init_5 : decode cX6_init 5 = .ok (.new 9, 3) := by decide +kernel
theorem dX6_init_8 : decode cX6_init 8 = .ok (.dup, 1) := by decide +kernel
theorem dX6_init_9 : decode cX6_init 9 = .ok (.invokespecial 11, 3) := by decide +kernel
theorem dX6_init_12 : decode cX6_init 12 = .ok (.putfield 12, 3) := by decide +kernel
theorem dX6_init_15 : decode cX6_init 15 = .ok (.aload_n 0, 1) := by decide +kernel
theorem dX6_init_16 : decode cX6_init 16 = .ok (.new 16, 3) := by decide +kernel
theorem dX6_init_19 : decode cX6_init 19 = .ok (.dup, 1) := by decide +kernel
theorem dX6_init_20 : decode cX6_init 20 = .ok (.invokespecial 18, 3) := by decide +kernel
theorem dX6_init_23 : decode cX6_init 23 = .ok (.putfield 19, 3) := by decide +kernel
theorem dX6_init_26 : decode cX6_init 26 = .ok (.new 23, 3) := by decide +kernel
theorem dX6_init_29 : decode cX6_init 29 = .ok (.dup, 1) := by decide +kernel
theorem dX6_init_30 : decode cX6_init 30 = .ok (.invokespecial 25, 3) := by decide +kernel
theorem dX6_init_33 : decode cX6_init 33 = .ok (.astore_n 1, 1) := by decide +kernel
theorem dX6_init_34 : decode cX6_init 34 = .ok (.aload_n 0, 1) := by decide +kernel
theorem dX6_init_35 : decode cX6_init 35 = .ok (.new 26, 3) := by decide +kernel
theorem dX6_init_38 : decode cX6_init 38 = .ok (.dup, 1) := by decide +kernel
theorem dX6_init_39 : decode cX6_init 39 = .ok (.aload_n 1, 1) := by decide +kernel
theorem dX6_init_40 : decode cX6_init 40 = .ok (.invokespecial 28, 3) := by decide +kernel
theorem dX6_init_43 : decode cX6_init 43 = .ok (.putfield 31, 3) := by decide +kernel
theorem dX6_init_46 : decode cX6_init 46 = .ok (.aload_n 0, 1) := by decide +kernel
theorem dX6_init_47 : decode cX6_init 47 = .ok (.new 35, 3) := by decide +kernel
theorem dX6_init_50 : decode cX6_init 50 = .ok (.dup, 1) := by decide +kernel
theorem dX6_init_51 : decode cX6_init 51 = .ok (.aload_n 1, 1) := by decide +kernel
theorem dX6_init_52 : decode cX6_init 52 = .ok (.invokespecial 37, 3) := by decide +kernel
theorem dX6_init_55 : decode cX6_init 55 = .ok (.putfield 38, 3) := by decide +kernel
theorem dX6_init_58 : decode cX6_init 58 = .ok (.return_, 1) := by decide +kernel
theorem dX6_net_0 : decode cX6_net 0 = .ok (.aload_n 0, 1) := by decide +kernel
theorem dX6_net_1 : decode cX6_net 1 = .ok (.getfield 31, 3) := by decide +kernel
theorem dX6_net_4 : decode cX6_net 4 = .ok (.getfield 42, 3) := by decide +kernel
theorem dX6_net_7 : decode cX6_net 7 = .ok (.iload_n 1, 1) := by decide +kernel
theorem dX6_net_8 : decode cX6_net 8 = .ok (.invokevirtual 46, 3) := by decide +kernel
theorem dX6_net_11 : decode cX6_net 11 = .ok (.istore_n 2, 1) := by decide +kernel
theorem dX6_net_12 : decode cX6_net 12 = .ok (.iload_n 2, 1) := by decide +kernel
theorem dX6_net_13 : decode cX6_net 13 = .ok (.ifCond .eq 5, 3) := by decide +kernel
theorem dX6_net_16 : decode cX6_net 16 = .ok (.iload_n 2, 1) := by decide +kernel
theorem dX6_net_17 : decode cX6_net 17 = .ok (.ireturn, 1) := by decide +kernel
theorem dX6_net_18 : decode cX6_net 18 = .ok (.aload_n 0, 1) := by decide +kernel
theorem dX6_net_19 : decode cX6_net 19 = .ok (.getfield 12, 3) := by decide +kernel
theorem dX6_net_22 : decode cX6_net 22 = .ok (.aload_n 0, 1) := by decide +kernel
theorem dX6_net_23 : decode cX6_net 23 = .ok (.getfield 31, 3) := by decide +kernel
theorem dX6_net_26 : decode cX6_net 26 = .ok (.invokevirtual 50, 3) := by decide +kernel
theorem dX6_net_29 : decode cX6_net 29 = .ok (.aload_n 0, 1) := by decide +kernel
theorem dX6_net_30 : decode cX6_net 30 = .ok (.getfield 31, 3) := by decide +kernel
theorem dX6_net_33 : decode cX6_net 33 = .ok (.getfield 42, 3) := by decide +kernel
theorem dX6_net_36 : decode cX6_net 36 = .ok (.iload_n 1, 1) := by decide +kernel
theorem dX6_net_37 : decode cX6_net 37 = .ok (.invokevirtual 54, 3) := by decide +kernel
theorem dX6_net_40 : decode cX6_net 40 = .ok (.ireturn, 1) := by decide +kernel
theorem dX6_chip_0 : decode cX6_chip 0 = .ok (.aload_n 0, 1) := by decide +kernel
theorem dX6_chip_1 : decode cX6_chip 1 = .ok (.getfield 31, 3) := by decide +kernel
theorem dX6_chip_4 : decode cX6_chip 4 = .ok (.getfield 42, 3) := by decide +kernel
theorem dX6_chip_7 : decode cX6_chip 7 = .ok (.iload_n 1, 1) := by decide +kernel
theorem dX6_chip_8 : decode cX6_chip 8 = .ok (.iload_n 2, 1) := by decide +kernel
theorem dX6_chip_9 : decode cX6_chip 9 = .ok (.iload_n 3, 1) := by decide +kernel
theorem dX6_chip_10 : decode cX6_chip 10 = .ok (.invokevirtual 57, 3) := by decide +kernel
theorem dX6_chip_13 : decode cX6_chip 13 = .ok (.istore 4, 2) := by decide +kernel
theorem dX6_chip_15 : decode cX6_chip 15 = .ok (.iload 4, 2) := by decide +kernel
theorem dX6_chip_17 : decode cX6_chip 17 = .ok (.ifCond .eq 6, 3) := by decide +kernel
theorem dX6_chip_20 : decode cX6_chip 20 = .ok (.iload 4, 2) := by decide +kernel
theorem dX6_chip_22 : decode cX6_chip 22 = .ok (.ireturn, 1) := by decide +kernel
theorem dX6_chip_23 : decode cX6_chip 23 = .ok (.aload_n 0, 1) := by decide +kernel
theorem dX6_chip_24 : decode cX6_chip 24 = .ok (.getfield 12, 3) := by decide +kernel
theorem dX6_chip_27 : decode cX6_chip 27 = .ok (.aload_n 0, 1) := by decide +kernel
theorem dX6_chip_28 : decode cX6_chip 28 = .ok (.getfield 31, 3) := by decide +kernel
theorem dX6_chip_31 : decode cX6_chip 31 = .ok (.invokevirtual 50, 3) := by decide +kernel
theorem dX6_chip_34 : decode cX6_chip 34 = .ok (.aload_n 0, 1) := by decide +kernel
theorem dX6_chip_35 : decode cX6_chip 35 = .ok (.getfield 31, 3) := by decide +kernel
theorem dX6_chip_38 : decode cX6_chip 38 = .ok (.getfield 42, 3) := by decide +kernel
theorem dX6_chip_41 : decode cX6_chip 41 = .ok (.iload_n 1, 1) := by decide +kernel
theorem dX6_chip_42 : decode cX6_chip 42 = .ok (.iload_n 2, 1) := by decide +kernel
theorem dX6_chip_43 : decode cX6_chip 43 = .ok (.iload_n 3, 1) := by decide +kernel
theorem dX6_chip_44 : decode cX6_chip 44 = .ok (.invokevirtual 61, 3) := by decide +kernel
theorem dX6_chip_47 : decode cX6_chip 47 = .ok (.ireturn, 1) := by decide +kernel
theorem dX6_fault_0 : decode cX6_fault 0 = .ok (.aload_n 0, 1) := by decide +kernel
theorem dX6_fault_1 : decode cX6_fault 1 = .ok (.getfield 31, 3) := by decide +kernel
theorem dX6_fault_4 : decode cX6_fault 4 = .ok (.getfield 42, 3) := by decide +kernel
theorem dX6_fault_7 : decode cX6_fault 7 = .ok (.iload_n 1, 1) := by decide +kernel
theorem dX6_fault_8 : decode cX6_fault 8 = .ok (.iload_n 2, 1) := by decide +kernel
theorem dX6_fault_9 : decode cX6_fault 9 = .ok (.iload_n 3, 1) := by decide +kernel
theorem dX6_fault_10 : decode cX6_fault 10 = .ok (.invokevirtual 64, 3) := by decide +kernel
theorem dX6_fault_13 : decode cX6_fault 13 = .ok (.istore 4, 2) := by decide +kernel
theorem dX6_fault_15 : decode cX6_fault 15 = .ok (.iload 4, 2) := by decide +kernel
theorem dX6_fault_17 : decode cX6_fault 17 = .ok (.ifCond .eq 6, 3) := by decide +kernel
theorem dX6_fault_20 : decode cX6_fault 20 = .ok (.iload 4, 2) := by decide +kernel
theorem dX6_fault_22 : decode cX6_fault 22 = .ok (.ireturn, 1) := by decide +kernel
theorem dX6_fault_23 : decode cX6_fault 23 = .ok (.aload_n 0, 1) := by decide +kernel
theorem dX6_fault_24 : decode cX6_fault 24 = .ok (.getfield 12, 3) := by decide +kernel
theorem dX6_fault_27 : decode cX6_fault 27 = .ok (.aload_n 0, 1) := by decide +kernel
theorem dX6_fault_28 : decode cX6_fault 28 = .ok (.getfield 31, 3) := by decide +kernel
theorem dX6_fault_31 : decode cX6_fault 31 = .ok (.invokevirtual 50, 3) := by decide +kernel
theorem dX6_fault_34 : decode cX6_fault 34 = .ok (.aload_n 0, 1) := by decide +kernel
theorem dX6_fault_35 : decode cX6_fault 35 = .ok (.getfield 31, 3) := by decide +kernel
theorem dX6_fault_38 : decode cX6_fault 38 = .ok (.getfield 42, 3) := by decide +kernel
theorem dX6_fault_41 : decode cX6_fault 41 = .ok (.iload_n 1, 1) := by decide +kernel
theorem dX6_fault_42 : decode cX6_fault 42 = .ok (.iload_n 2, 1) := by decide +kernel
theorem dX6_fault_43 : decode cX6_fault 43 = .ok (.iload_n 3, 1) := by decide +kernel
theorem dX6_fault_44 : decode cX6_fault 44 = .ok (.invokevirtual 67, 3) := by decide +kernel
theorem dX6_fault_47 : decode cX6_fault 47 = .ok (.ireturn, 1) := by decide +kernel
theorem dX6_bless_0 : decode cX6_bless 0 = .ok (.iload_n 1, 1) := by decide +kernel
theorem dX6_bless_1 : decode cX6_bless 1 = .ok (.invokestatic 70, 3) := by decide +kernel
theorem dX6_bless_4 : decode cX6_bless 4 = .ok (.ifCond .eq 10, 3) := by decide +kernel
theorem dX6_bless_7 : decode cX6_bless 7 = .ok (.iload_n 2, 1) := by decide +kernel
theorem dX6_bless_8 : decode cX6_bless 8 = .ok (.bipush (-128), 2) := by decide +kernel
theorem dX6_bless_10 : decode cX6_bless 10 = .ok (.iand, 1) := by decide +kernel
theorem dX6_bless_11 : decode cX6_bless 11 = .ok (.ifCond .eq 6, 3) := by decide +kernel
theorem dX6_bless_14 : decode cX6_bless 14 = .ok (.ldc 74, 2) := by decide +kernel
theorem dX6_bless_16 : decode cX6_bless 16 = .ok (.ireturn, 1) := by decide +kernel
theorem dX6_bless_17 : decode cX6_bless 17 = .ok (.aload_n 0, 1) := by decide +kernel
theorem dX6_bless_18 : decode cX6_bless 18 = .ok (.getfield 12, 3) := by decide +kernel
theorem dX6_bless_21 : decode cX6_bless 21 = .ok (.aload_n 0, 1) := by decide +kernel
theorem dX6_bless_22 : decode cX6_bless 22 = .ok (.getfield 31, 3) := by decide +kernel
theorem dX6_bless_25 : decode cX6_bless 25 = .ok (.invokevirtual 50, 3) := by decide +kernel
theorem dX6_bless_28 : decode cX6_bless 28 = .ok (.aload_n 0, 1) := by decide +kernel
theorem dX6_bless_29 : decode cX6_bless 29 = .ok (.getfield 31, 3) := by decide +kernel
theorem dX6_bless_32 : decode cX6_bless 32 = .ok (.getfield 42, 3) := by decide +kernel
theorem dX6_bless_35 : decode cX6_bless 35 = .ok (.iload_n 1, 1) := by decide +kernel
theorem dX6_bless_36 : decode cX6_bless 36 = .ok (.iload_n 2, 1) := by decide +kernel
theorem dX6_bless_37 : decode cX6_bless 37 = .ok (.invokevirtual 75, 3) := by decide +kernel
theorem dX6_bless_40 : decode cX6_bless 40 = .ok (.ireturn, 1) := by decide +kernel
theorem dX6_pinOf_0 : decode cX6_pinOf 0 = .ok (.iload_n 1, 1) := by decide +kernel
theorem dX6_pinOf_1 : decode cX6_pinOf 1 = .ok (.invokestatic 70, 3) := by decide +kernel
theorem dX6_pinOf_4 : decode cX6_pinOf 4 = .ok (.ifCond .ne 6, 3) := by decide +kernel
theorem dX6_pinOf_7 : decode cX6_pinOf 7 = .ok (.ldc 74, 2) := by decide +kernel
theorem dX6_pinOf_9 : decode cX6_pinOf 9 = .ok (.ireturn, 1) := by decide +kernel
theorem dX6_pinOf_10 : decode cX6_pinOf 10 = .ok (.aload_n 0, 1) := by decide +kernel
theorem dX6_pinOf_11 : decode cX6_pinOf 11 = .ok (.getfield 31, 3) := by decide +kernel
theorem dX6_pinOf_14 : decode cX6_pinOf 14 = .ok (.getfield 42, 3) := by decide +kernel
theorem dX6_pinOf_17 : decode cX6_pinOf 17 = .ok (.astore_n 3, 1) := by decide +kernel
theorem dX6_pinOf_18 : decode cX6_pinOf 18 = .ok (.iload_n 2, 1) := by decide +kernel
theorem dX6_pinOf_19 : decode cX6_pinOf 19 = .ok (.tableswitch 88 0 4 #[33, 43, 52, 61, 68], 33) := by decide +kernel
theorem dX6_pinOf_52 : decode cX6_pinOf 52 = .ok (.aload_n 3, 1) := by decide +kernel
theorem dX6_pinOf_53 : decode cX6_pinOf 53 = .ok (.getfield 79, 3) := by decide +kernel
theorem dX6_pinOf_56 : decode cX6_pinOf 56 = .ok (.iload_n 1, 1) := by decide +kernel
theorem dX6_pinOf_57 : decode cX6_pinOf 57 = .ok (.iaload, 1) := by decide +kernel
theorem dX6_pinOf_58 : decode cX6_pinOf 58 = .ok (.invokestatic 83, 3) := by decide +kernel
theorem dX6_pinOf_61 : decode cX6_pinOf 61 = .ok (.ireturn, 1) := by decide +kernel
theorem dX6_pinOf_62 : decode cX6_pinOf 62 = .ok (.aload_n 3, 1) := by decide +kernel
theorem dX6_pinOf_63 : decode cX6_pinOf 63 = .ok (.iload_n 1, 1) := by decide +kernel
theorem dX6_pinOf_64 : decode cX6_pinOf 64 = .ok (.invokevirtual 86, 3) := by decide +kernel
theorem dX6_pinOf_67 : decode cX6_pinOf 67 = .ok (.invokestatic 83, 3) := by decide +kernel
theorem dX6_pinOf_70 : decode cX6_pinOf 70 = .ok (.ireturn, 1) := by decide +kernel
theorem dX6_pinOf_71 : decode cX6_pinOf 71 = .ok (.aload_n 3, 1) := by decide +kernel
theorem dX6_pinOf_72 : decode cX6_pinOf 72 = .ok (.iload_n 1, 1) := by decide +kernel
theorem dX6_pinOf_73 : decode cX6_pinOf 73 = .ok (.invokevirtual 89, 3) := by decide +kernel
theorem dX6_pinOf_76 : decode cX6_pinOf 76 = .ok (.invokestatic 83, 3) := by decide +kernel
theorem dX6_pinOf_79 : decode cX6_pinOf 79 = .ok (.ireturn, 1) := by decide +kernel
theorem dX6_pinOf_80 : decode cX6_pinOf 80 = .ok (.aload_n 3, 1) := by decide +kernel
theorem dX6_pinOf_81 : decode cX6_pinOf 81 = .ok (.getfield 92, 3) := by decide +kernel
theorem dX6_pinOf_84 : decode cX6_pinOf 84 = .ok (.iload_n 1, 1) := by decide +kernel
theorem dX6_pinOf_85 : decode cX6_pinOf 85 = .ok (.iaload, 1) := by decide +kernel
theorem dX6_pinOf_86 : decode cX6_pinOf 86 = .ok (.ireturn, 1) := by decide +kernel
theorem dX6_pinOf_87 : decode cX6_pinOf 87 = .ok (.aload_n 0, 1) := by decide +kernel
theorem dX6_pinOf_88 : decode cX6_pinOf 88 = .ok (.getfield 31, 3) := by decide +kernel
theorem dX6_pinOf_91 : decode cX6_pinOf 91 = .ok (.invokevirtual 95, 3) := by decide +kernel
theorem dX6_pinOf_94 : decode cX6_pinOf 94 = .ok (.iload_n 1, 1) := by decide +kernel
theorem dX6_pinOf_95 : decode cX6_pinOf 95 = .ok (.invokestatic 99, 3) := by decide +kernel
theorem dX6_pinOf_98 : decode cX6_pinOf 98 = .ok (.ifCond .eq 7, 3) := by decide +kernel
theorem dX6_pinOf_101 : decode cX6_pinOf 101 = .ok (.iconst 1, 1) := by decide +kernel
theorem dX6_pinOf_102 : decode cX6_pinOf 102 = .ok (.goto 4, 3) := by decide +kernel
theorem dX6_pinOf_105 : decode cX6_pinOf 105 = .ok (.iconst 0, 1) := by decide +kernel
theorem dX6_pinOf_106 : decode cX6_pinOf 106 = .ok (.ireturn, 1) := by decide +kernel
theorem dX6_pinOf_107 : decode cX6_pinOf 107 = .ok (.ldc 74, 2) := by decide +kernel
theorem dX6_pinOf_109 : decode cX6_pinOf 109 = .ok (.ireturn, 1) := by decide +kernel
theorem dX6_faultOf_0 : decode cX6_faultOf 0 = .ok (.aload_n 0, 1) := by decide +kernel
theorem dX6_faultOf_1 : decode cX6_faultOf 1 = .ok (.getfield 31, 3) := by decide +kernel
theorem dX6_faultOf_4 : decode cX6_faultOf 4 = .ok (.getfield 42, 3) := by decide +kernel
theorem dX6_faultOf_7 : decode cX6_faultOf 7 = .ok (.astore_n 3, 1) := by decide +kernel
theorem dX6_faultOf_8 : decode cX6_faultOf 8 = .ok (.aload_n 3, 1) := by decide +kernel
theorem dX6_faultOf_9 : decode cX6_faultOf 9 = .ok (.iload_n 1, 1) := by decide +kernel
theorem dX6_faultOf_10 : decode cX6_faultOf 10 = .ok (.invokevirtual 103, 3) := by decide +kernel
theorem dX6_faultOf_13 : decode cX6_faultOf 13 = .ok (.ifCond .ne 6, 3) := by decide +kernel
theorem dX6_faultOf_16 : decode cX6_faultOf 16 = .ok (.ldc 74, 2) := by decide +kernel
theorem dX6_faultOf_18 : decode cX6_faultOf 18 = .ok (.ireturn, 1) := by decide +kernel
theorem dX6_faultOf_19 : decode cX6_faultOf 19 = .ok (.iload_n 2, 1) := by decide +kernel
theorem dX6_faultOf_20 : decode cX6_faultOf 20 = .ok (.tableswitch 81 0 3 #[32, 39, 46, 68], 32) := by decide +kernel
theorem dX6_faultOf_52 : decode cX6_faultOf 52 = .ok (.aload_n 3, 1) := by decide +kernel
theorem dX6_faultOf_53 : decode cX6_faultOf 53 = .ok (.getfield 106, 3) := by decide +kernel
theorem dX6_faultOf_56 : decode cX6_faultOf 56 = .ok (.iload_n 1, 1) := by decide +kernel
theorem dX6_faultOf_57 : decode cX6_faultOf 57 = .ok (.iaload, 1) := by decide +kernel
theorem dX6_faultOf_58 : decode cX6_faultOf 58 = .ok (.ireturn, 1) := by decide +kernel
theorem dX6_faultOf_59 : decode cX6_faultOf 59 = .ok (.aload_n 3, 1) := by decide +kernel
theorem dX6_faultOf_60 : decode cX6_faultOf 60 = .ok (.getfield 109, 3) := by decide +kernel
theorem dX6_faultOf_63 : decode cX6_faultOf 63 = .ok (.iload_n 1, 1) := by decide +kernel
theorem dX6_faultOf_64 : decode cX6_faultOf 64 = .ok (.iaload, 1) := by decide +kernel
theorem dX6_faultOf_65 : decode cX6_faultOf 65 = .ok (.ireturn, 1) := by decide +kernel
theorem dX6_faultOf_66 : decode cX6_faultOf 66 = .ok (.aload_n 3, 1) := by decide +kernel
theorem dX6_faultOf_67 : decode cX6_faultOf 67 = .ok (.getfield 106, 3) := by decide +kernel
theorem dX6_faultOf_70 : decode cX6_faultOf 70 = .ok (.iload_n 1, 1) := by decide +kernel
theorem dX6_faultOf_71 : decode cX6_faultOf 71 = .ok (.iaload, 1) := by decide +kernel
theorem dX6_faultOf_72 : decode cX6_faultOf 72 = .ok (.iconst 1, 1) := by decide +kernel
theorem dX6_faultOf_73 : decode cX6_faultOf 73 = .ok (.if_icmp .ne 12, 3) := by decide +kernel
theorem dX6_faultOf_76 : decode cX6_faultOf 76 = .ok (.aload_n 3, 1) := by decide +kernel
theorem dX6_faultOf_77 : decode cX6_faultOf 77 = .ok (.getfield 112, 3) := by decide +kernel
theorem dX6_faultOf_80 : decode cX6_faultOf 80 = .ok (.iload_n 1, 1) := by decide +kernel
theorem dX6_faultOf_81 : decode cX6_faultOf 81 = .ok (.iaload, 1) := by decide +kernel
theorem dX6_faultOf_82 : decode cX6_faultOf 82 = .ok (.goto 5, 3) := by decide +kernel
theorem dX6_faultOf_85 : decode cX6_faultOf 85 = .ok (.ldc 115, 2) := by decide +kernel
theorem dX6_faultOf_87 : decode cX6_faultOf 87 = .ok (.ireturn, 1) := by decide +kernel
theorem dX6_faultOf_88 : decode cX6_faultOf 88 = .ok (.aload_n 0, 1) := by decide +kernel
theorem dX6_faultOf_89 : decode cX6_faultOf 89 = .ok (.getfield 31, 3) := by decide +kernel
theorem dX6_faultOf_92 : decode cX6_faultOf 92 = .ok (.getfield 116, 3) := by decide +kernel
theorem dX6_faultOf_95 : decode cX6_faultOf 95 = .ok (.iload_n 1, 1) := by decide +kernel
theorem dX6_faultOf_96 : decode cX6_faultOf 96 = .ok (.iaload, 1) := by decide +kernel
theorem dX6_faultOf_97 : decode cX6_faultOf 97 = .ok (.invokestatic 83, 3) := by decide +kernel
theorem dX6_faultOf_100 : decode cX6_faultOf 100 = .ok (.ireturn, 1) := by decide +kernel
theorem dX6_faultOf_101 : decode cX6_faultOf 101 = .ok (.ldc 74, 2) := by decide +kernel
theorem dX6_faultOf_103 : decode cX6_faultOf 103 = .ok (.ireturn, 1) := by decide +kernel
theorem dX6_reached_0 : decode cX6_reached 0 = .ok (.iload_n 1, 1) := by decide +kernel
theorem dX6_reached_1 : decode cX6_reached 1 = .ok (.invokestatic 119, 3) := by decide +kernel
theorem dX6_reached_4 : decode cX6_reached 4 = .ok (.ifCond .eq 11, 3) := by decide +kernel
theorem dX6_reached_7 : decode cX6_reached 7 = .ok (.aload_n 0, 1) := by decide +kernel
theorem dX6_reached_8 : decode cX6_reached 8 = .ok (.iload_n 2, 1) := by decide +kernel
theorem dX6_reached_9 : decode cX6_reached 9 = .ok (.invokevirtual 122, 3) := by decide +kernel
theorem dX6_reached_12 : decode cX6_reached 12 = .ok (.ifCond .ne 6, 3) := by decide +kernel
theorem dX6_reached_15 : decode cX6_reached 15 = .ok (.ldc 74, 2) := by decide +kernel
theorem dX6_reached_17 : decode cX6_reached 17 = .ok (.ireturn, 1) := by decide +kernel
theorem dX6_reached_18 : decode cX6_reached 18 = .ok (.aload_n 0, 1) := by decide +kernel
theorem dX6_reached_19 : decode cX6_reached 19 = .ok (.getfield 38, 3) := by decide +kernel
theorem dX6_reached_22 : decode cX6_reached 22 = .ok (.iload_n 2, 1) := by decide +kernel
theorem dX6_reached_23 : decode cX6_reached 23 = .ok (.invokestatic 125, 3) := by decide +kernel
theorem dX6_reached_26 : decode cX6_reached 26 = .ok (.invokevirtual 128, 3) := by decide +kernel
theorem dX6_reached_29 : decode cX6_reached 29 = .ok (.astore_n 3, 1) := by decide +kernel
theorem dX6_reached_30 : decode cX6_reached 30 = .ok (.aload_n 3, 1) := by decide +kernel
theorem dX6_reached_31 : decode cX6_reached 31 = .ok (.aload_n 0, 1) := by decide +kernel
theorem dX6_reached_32 : decode cX6_reached 32 = .ok (.getfield 31, 3) := by decide +kernel
theorem dX6_reached_35 : decode cX6_reached 35 = .ok (.getfield 42, 3) := by decide +kernel
theorem dX6_reached_38 : decode cX6_reached 38 = .ok (.iload_n 1, 1) := by decide +kernel
theorem dX6_reached_39 : decode cX6_reached 39 = .ok (.invokevirtual 132, 3) := by decide +kernel
theorem dX6_reached_42 : decode cX6_reached 42 = .ok (.invokevirtual 135, 3) := by decide +kernel
theorem dX6_reached_45 : decode cX6_reached 45 = .ok (.aload_n 3, 1) := by decide +kernel
theorem dX6_reached_46 : decode cX6_reached 46 = .ok (.getfield 141, 3) := by decide +kernel
theorem dX6_reached_49 : decode cX6_reached 49 = .ok (.ireturn, 1) := by decide +kernel
theorem dX6_scanned_0 : decode cX6_scanned 0 = .ok (.iload_n 1, 1) := by decide +kernel
theorem dX6_scanned_1 : decode cX6_scanned 1 = .ok (.invokestatic 119, 3) := by decide +kernel
theorem dX6_scanned_4 : decode cX6_scanned 4 = .ok (.ifCond .eq 11, 3) := by decide +kernel
theorem dX6_scanned_7 : decode cX6_scanned 7 = .ok (.aload_n 0, 1) := by decide +kernel
theorem dX6_scanned_8 : decode cX6_scanned 8 = .ok (.iload_n 2, 1) := by decide +kernel
theorem dX6_scanned_9 : decode cX6_scanned 9 = .ok (.invokevirtual 122, 3) := by decide +kernel
theorem dX6_scanned_12 : decode cX6_scanned 12 = .ok (.ifCond .ne 6, 3) := by decide +kernel
theorem dX6_scanned_15 : decode cX6_scanned 15 = .ok (.ldc 74, 2) := by decide +kernel
theorem dX6_scanned_17 : decode cX6_scanned 17 = .ok (.ireturn, 1) := by decide +kernel
theorem dX6_scanned_18 : decode cX6_scanned 18 = .ok (.aload_n 0, 1) := by decide +kernel
theorem dX6_scanned_19 : decode cX6_scanned 19 = .ok (.getfield 38, 3) := by decide +kernel
theorem dX6_scanned_22 : decode cX6_scanned 22 = .ok (.iload_n 2, 1) := by decide +kernel
theorem dX6_scanned_23 : decode cX6_scanned 23 = .ok (.invokestatic 125, 3) := by decide +kernel
theorem dX6_scanned_26 : decode cX6_scanned 26 = .ok (.invokevirtual 128, 3) := by decide +kernel
theorem dX6_scanned_29 : decode cX6_scanned 29 = .ok (.aload_n 0, 1) := by decide +kernel
theorem dX6_scanned_30 : decode cX6_scanned 30 = .ok (.getfield 31, 3) := by decide +kernel
theorem dX6_scanned_33 : decode cX6_scanned 33 = .ok (.getfield 42, 3) := by decide +kernel
theorem dX6_scanned_36 : decode cX6_scanned 36 = .ok (.iload_n 1, 1) := by decide +kernel
theorem dX6_scanned_37 : decode cX6_scanned 37 = .ok (.invokevirtual 132, 3) := by decide +kernel
theorem dX6_scanned_40 : decode cX6_scanned 40 = .ok (.invokevirtual 145, 3) := by decide +kernel
theorem dX6_scanned_43 : decode cX6_scanned 43 = .ok (.ireturn, 1) := by decide +kernel
theorem dX6_reads_0 : decode cX6_reads 0 = .ok (.iload_n 1, 1) := by decide +kernel
theorem dX6_reads_1 : decode cX6_reads 1 = .ok (.invokestatic 119, 3) := by decide +kernel
theorem dX6_reads_4 : decode cX6_reads 4 = .ok (.ifCond .eq 26, 3) := by decide +kernel
theorem dX6_reads_7 : decode cX6_reads 7 = .ok (.aload_n 0, 1) := by decide +kernel
theorem dX6_reads_8 : decode cX6_reads 8 = .ok (.iload_n 2, 1) := by decide +kernel
theorem dX6_reads_9 : decode cX6_reads 9 = .ok (.invokevirtual 122, 3) := by decide +kernel
theorem dX6_reads_12 : decode cX6_reads 12 = .ok (.ifCond .eq 18, 3) := by decide +kernel
theorem dX6_reads_15 : decode cX6_reads 15 = .ok (.iload_n 3, 1) := by decide +kernel
theorem dX6_reads_16 : decode cX6_reads 16 = .ok (.invokestatic 70, 3) := by decide +kernel
theorem dX6_reads_19 : decode cX6_reads 19 = .ok (.ifCond .eq 11, 3) := by decide +kernel
theorem dX6_reads_22 : decode cX6_reads 22 = .ok (.iload 4, 2) := by decide +kernel
theorem dX6_reads_24 : decode cX6_reads 24 = .ok (.invokestatic 148, 3) := by decide +kernel
theorem dX6_reads_27 : decode cX6_reads 27 = .ok (.ifCond .ne 6, 3) := by decide +kernel
theorem dX6_reads_30 : decode cX6_reads 30 = .ok (.ldc 74, 2) := by decide +kernel
theorem dX6_reads_32 : decode cX6_reads 32 = .ok (.ireturn, 1) := by decide +kernel
theorem dX6_reads_33 : decode cX6_reads 33 = .ok (.aload_n 0, 1) := by decide +kernel
theorem dX6_reads_34 : decode cX6_reads 34 = .ok (.getfield 38, 3) := by decide +kernel
theorem dX6_reads_37 : decode cX6_reads 37 = .ok (.iload_n 2, 1) := by decide +kernel
theorem dX6_reads_38 : decode cX6_reads 38 = .ok (.invokestatic 125, 3) := by decide +kernel
theorem dX6_reads_41 : decode cX6_reads 41 = .ok (.invokevirtual 128, 3) := by decide +kernel
theorem dX6_reads_44 : decode cX6_reads 44 = .ok (.astore 5, 2) := by decide +kernel
theorem dX6_reads_46 : decode cX6_reads 46 = .ok (.aload 5, 2) := by decide +kernel
theorem dX6_reads_48 : decode cX6_reads 48 = .ok (.aload_n 0, 1) := by decide +kernel
theorem dX6_reads_49 : decode cX6_reads 49 = .ok (.getfield 31, 3) := by decide +kernel
theorem dX6_reads_52 : decode cX6_reads 52 = .ok (.getfield 42, 3) := by decide +kernel
theorem dX6_reads_55 : decode cX6_reads 55 = .ok (.iload_n 1, 1) := by decide +kernel
theorem dX6_reads_56 : decode cX6_reads 56 = .ok (.invokevirtual 132, 3) := by decide +kernel
theorem dX6_reads_59 : decode cX6_reads 59 = .ok (.invokevirtual 135, 3) := by decide +kernel
theorem dX6_reads_62 : decode cX6_reads 62 = .ok (.aload 5, 2) := by decide +kernel
theorem dX6_reads_64 : decode cX6_reads 64 = .ok (.getfield 141, 3) := by decide +kernel
theorem dX6_reads_67 : decode cX6_reads 67 = .ok (.iload_n 3, 1) := by decide +kernel
theorem dX6_reads_68 : decode cX6_reads 68 = .ok (.invokestatic 99, 3) := by decide +kernel
theorem dX6_reads_71 : decode cX6_reads 71 = .ok (.ifCond .eq 14, 3) := by decide +kernel
theorem dX6_reads_74 : decode cX6_reads 74 = .ok (.aload 5, 2) := by decide +kernel
theorem dX6_reads_76 : decode cX6_reads 76 = .ok (.iload_n 3, 1) := by decide +kernel
theorem dX6_reads_77 : decode cX6_reads 77 = .ok (.iload 4, 2) := by decide +kernel
theorem dX6_reads_79 : decode cX6_reads 79 = .ok (.invokevirtual 151, 3) := by decide +kernel
theorem dX6_reads_82 : decode cX6_reads 82 = .ok (.goto 5, 3) := by decide +kernel
theorem dX6_reads_85 : decode cX6_reads 85 = .ok (.ldc 115, 2) := by decide +kernel
theorem dX6_reads_87 : decode cX6_reads 87 = .ok (.ireturn, 1) := by decide +kernel
theorem dX6_daysOf_0 : decode cX6_daysOf 0 = .ok (.aload_n 0, 1) := by decide +kernel
theorem dX6_daysOf_1 : decode cX6_daysOf 1 = .ok (.getfield 31, 3) := by decide +kernel
theorem dX6_daysOf_4 : decode cX6_daysOf 4 = .ok (.getfield 42, 3) := by decide +kernel
theorem dX6_daysOf_7 : decode cX6_daysOf 7 = .ok (.iload_n 1, 1) := by decide +kernel
theorem dX6_daysOf_8 : decode cX6_daysOf 8 = .ok (.invokevirtual 103, 3) := by decide +kernel
theorem dX6_daysOf_11 : decode cX6_daysOf 11 = .ok (.ifCond .ne 6, 3) := by decide +kernel
theorem dX6_daysOf_14 : decode cX6_daysOf 14 = .ok (.ldc 74, 2) := by decide +kernel
theorem dX6_daysOf_16 : decode cX6_daysOf 16 = .ok (.ireturn, 1) := by decide +kernel
theorem dX6_daysOf_17 : decode cX6_daysOf 17 = .ok (.aload_n 0, 1) := by decide +kernel
theorem dX6_daysOf_18 : decode cX6_daysOf 18 = .ok (.getfield 38, 3) := by decide +kernel
theorem dX6_daysOf_21 : decode cX6_daysOf 21 = .ok (.invokevirtual 154, 3) := by decide +kernel
theorem dX6_daysOf_24 : decode cX6_daysOf 24 = .ok (.aload_n 0, 1) := by decide +kernel
theorem dX6_daysOf_25 : decode cX6_daysOf 25 = .ok (.getfield 38, 3) := by decide +kernel
theorem dX6_daysOf_28 : decode cX6_daysOf 28 = .ok (.iload_n 1, 1) := by decide +kernel
theorem dX6_daysOf_29 : decode cX6_daysOf 29 = .ok (.bipush 10, 2) := by decide +kernel
theorem dX6_daysOf_31 : decode cX6_daysOf 31 = .ok (.invokevirtual 157, 3) := by decide +kernel
theorem dX6_daysOf_34 : decode cX6_daysOf 34 = .ok (.ireturn, 1) := by decide +kernel
theorem dX6_alike_0 : decode cX6_alike 0 = .ok (.aload_n 0, 1) := by decide +kernel
theorem dX6_alike_1 : decode cX6_alike 1 = .ok (.iload_n 1, 1) := by decide +kernel
theorem dX6_alike_2 : decode cX6_alike 2 = .ok (.invokevirtual 122, 3) := by decide +kernel
theorem dX6_alike_5 : decode cX6_alike 5 = .ok (.ifCond .eq 11, 3) := by decide +kernel
theorem dX6_alike_8 : decode cX6_alike 8 = .ok (.aload_n 0, 1) := by decide +kernel
theorem dX6_alike_9 : decode cX6_alike 9 = .ok (.iload_n 2, 1) := by decide +kernel
theorem dX6_alike_10 : decode cX6_alike 10 = .ok (.invokevirtual 122, 3) := by decide +kernel
theorem dX6_alike_13 : decode cX6_alike 13 = .ok (.ifCond .ne 6, 3) := by decide +kernel
theorem dX6_alike_16 : decode cX6_alike 16 = .ok (.ldc 74, 2) := by decide +kernel
theorem dX6_alike_18 : decode cX6_alike 18 = .ok (.ireturn, 1) := by decide +kernel
theorem dX6_alike_19 : decode cX6_alike 19 = .ok (.aload_n 0, 1) := by decide +kernel
theorem dX6_alike_20 : decode cX6_alike 20 = .ok (.getfield 38, 3) := by decide +kernel
theorem dX6_alike_23 : decode cX6_alike 23 = .ok (.invokevirtual 154, 3) := by decide +kernel
theorem dX6_alike_26 : decode cX6_alike 26 = .ok (.aload_n 0, 1) := by decide +kernel
theorem dX6_alike_27 : decode cX6_alike 27 = .ok (.getfield 38, 3) := by decide +kernel
theorem dX6_alike_30 : decode cX6_alike 30 = .ok (.iload_n 1, 1) := by decide +kernel
theorem dX6_alike_31 : decode cX6_alike 31 = .ok (.invokestatic 125, 3) := by decide +kernel
theorem dX6_alike_34 : decode cX6_alike 34 = .ok (.iload_n 2, 1) := by decide +kernel
theorem dX6_alike_35 : decode cX6_alike 35 = .ok (.invokestatic 125, 3) := by decide +kernel
theorem dX6_alike_38 : decode cX6_alike 38 = .ok (.invokevirtual 160, 3) := by decide +kernel
theorem dX6_alike_41 : decode cX6_alike 41 = .ok (.ireturn, 1) := by decide +kernel
theorem dX6_twin_0 : decode cX6_twin 0 = .ok (.aload_n 0, 1) := by decide +kernel
theorem dX6_twin_1 : decode cX6_twin 1 = .ok (.getfield 31, 3) := by decide +kernel
theorem dX6_twin_4 : decode cX6_twin 4 = .ok (.getfield 42, 3) := by decide +kernel
theorem dX6_twin_7 : decode cX6_twin 7 = .ok (.iload_n 1, 1) := by decide +kernel
theorem dX6_twin_8 : decode cX6_twin 8 = .ok (.invokevirtual 103, 3) := by decide +kernel
theorem dX6_twin_11 : decode cX6_twin 11 = .ok (.ifCond .ne 6, 3) := by decide +kernel
theorem dX6_twin_14 : decode cX6_twin 14 = .ok (.ldc 74, 2) := by decide +kernel
theorem dX6_twin_16 : decode cX6_twin 16 = .ok (.ireturn, 1) := by decide +kernel
theorem dX6_twin_17 : decode cX6_twin 17 = .ok (.aload_n 0, 1) := by decide +kernel
theorem dX6_twin_18 : decode cX6_twin 18 = .ok (.getfield 38, 3) := by decide +kernel
theorem dX6_twin_21 : decode cX6_twin 21 = .ok (.invokevirtual 154, 3) := by decide +kernel
theorem dX6_twin_24 : decode cX6_twin 24 = .ok (.iconst 0, 1) := by decide +kernel
theorem dX6_twin_25 : decode cX6_twin 25 = .ok (.istore_n 2, 1) := by decide +kernel
theorem dX6_twin_26 : decode cX6_twin 26 = .ok (.iload_n 2, 1) := by decide +kernel
theorem dX6_twin_27 : decode cX6_twin 27 = .ok (.aload_n 0, 1) := by decide +kernel
theorem dX6_twin_28 : decode cX6_twin 28 = .ok (.getfield 31, 3) := by decide +kernel
theorem dX6_twin_31 : decode cX6_twin 31 = .ok (.getfield 42, 3) := by decide +kernel
theorem dX6_twin_34 : decode cX6_twin 34 = .ok (.getfield 163, 3) := by decide +kernel
theorem dX6_twin_37 : decode cX6_twin 37 = .ok (.if_icmp .ge 30, 3) := by decide +kernel
theorem dX6_twin_40 : decode cX6_twin 40 = .ok (.iload_n 2, 1) := by decide +kernel
theorem dX6_twin_41 : decode cX6_twin 41 = .ok (.iload_n 1, 1) := by decide +kernel
theorem dX6_twin_42 : decode cX6_twin 42 = .ok (.if_icmp .eq 19, 3) := by decide +kernel
theorem dX6_twin_45 : decode cX6_twin 45 = .ok (.aload_n 0, 1) := by decide +kernel
theorem dX6_twin_46 : decode cX6_twin 46 = .ok (.getfield 38, 3) := by decide +kernel
theorem dX6_twin_49 : decode cX6_twin 49 = .ok (.iload_n 1, 1) := by decide +kernel
theorem dX6_twin_50 : decode cX6_twin 50 = .ok (.iload_n 2, 1) := by decide +kernel
theorem dX6_twin_51 : decode cX6_twin 51 = .ok (.invokevirtual 160, 3) := by decide +kernel
theorem dX6_twin_54 : decode cX6_twin 54 = .ok (.bipush 127, 2) := by decide +kernel
theorem dX6_twin_56 : decode cX6_twin 56 = .ok (.if_icmp .ne 5, 3) := by decide +kernel
theorem dX6_twin_59 : decode cX6_twin 59 = .ok (.iload_n 2, 1) := by decide +kernel
theorem dX6_twin_60 : decode cX6_twin 60 = .ok (.ireturn, 1) := by decide +kernel
theorem dX6_twin_61 : decode cX6_twin 61 = .ok (.iinc 2 1, 3) := by decide +kernel
theorem dX6_twin_64 : decode cX6_twin 64 = .ok (.goto (-38), 3) := by decide +kernel
theorem dX6_twin_67 : decode cX6_twin 67 = .ok (.aload_n 0, 1) := by decide +kernel
theorem dX6_twin_68 : decode cX6_twin 68 = .ok (.getfield 38, 3) := by decide +kernel
theorem dX6_twin_71 : decode cX6_twin 71 = .ok (.iload_n 1, 1) := by decide +kernel
theorem dX6_twin_72 : decode cX6_twin 72 = .ok (.bipush 10, 2) := by decide +kernel
theorem dX6_twin_74 : decode cX6_twin 74 = .ok (.invokevirtual 160, 3) := by decide +kernel
theorem dX6_twin_77 : decode cX6_twin 77 = .ok (.bipush 127, 2) := by decide +kernel
theorem dX6_twin_79 : decode cX6_twin 79 = .ok (.if_icmp .ne 7, 3) := by decide +kernel
theorem dX6_twin_82 : decode cX6_twin 82 = .ok (.iconst (-1), 1) := by decide +kernel
theorem dX6_twin_83 : decode cX6_twin 83 = .ok (.goto 5, 3) := by decide +kernel
theorem dX6_twin_86 : decode cX6_twin 86 = .ok (.ldc 115, 2) := by decide +kernel
theorem dX6_twin_88 : decode cX6_twin 88 = .ok (.ireturn, 1) := by decide +kernel
theorem dX6_outcomes_0 : decode cX6_outcomes 0 = .ok (.iload_n 1, 1) := by decide +kernel
theorem dX6_outcomes_1 : decode cX6_outcomes 1 = .ok (.invokestatic 119, 3) := by decide +kernel
theorem dX6_outcomes_4 : decode cX6_outcomes 4 = .ok (.ifCond .ne 6, 3) := by decide +kernel
theorem dX6_outcomes_7 : decode cX6_outcomes 7 = .ok (.ldc 74, 2) := by decide +kernel
theorem dX6_outcomes_9 : decode cX6_outcomes 9 = .ok (.ireturn, 1) := by decide +kernel
theorem dX6_outcomes_10 : decode cX6_outcomes 10 = .ok (.aload_n 0, 1) := by decide +kernel
theorem dX6_outcomes_11 : decode cX6_outcomes 11 = .ok (.getfield 38, 3) := by decide +kernel
theorem dX6_outcomes_14 : decode cX6_outcomes 14 = .ok (.invokevirtual 154, 3) := by decide +kernel
theorem dX6_outcomes_17 : decode cX6_outcomes 17 = .ok (.aload_n 0, 1) := by decide +kernel
theorem dX6_outcomes_18 : decode cX6_outcomes 18 = .ok (.getfield 38, 3) := by decide +kernel
theorem dX6_outcomes_21 : decode cX6_outcomes 21 = .ok (.iload_n 1, 1) := by decide +kernel
theorem dX6_outcomes_22 : decode cX6_outcomes 22 = .ok (.invokevirtual 166, 3) := by decide +kernel
theorem dX6_outcomes_25 : decode cX6_outcomes 25 = .ok (.ireturn, 1) := by decide +kernel
theorem dX6_likes_0 : decode cX6_likes 0 = .ok (.iload_n 1, 1) := by decide +kernel
theorem dX6_likes_1 : decode cX6_likes 1 = .ok (.invokestatic 119, 3) := by decide +kernel
theorem dX6_likes_4 : decode cX6_likes 4 = .ok (.ifCond .eq 11, 3) := by decide +kernel
theorem dX6_likes_7 : decode cX6_likes 7 = .ok (.aload_n 0, 1) := by decide +kernel
theorem dX6_likes_8 : decode cX6_likes 8 = .ok (.iload_n 2, 1) := by decide +kernel
theorem dX6_likes_9 : decode cX6_likes 9 = .ok (.invokevirtual 122, 3) := by decide +kernel
theorem dX6_likes_12 : decode cX6_likes 12 = .ok (.ifCond .ne 6, 3) := by decide +kernel
theorem dX6_likes_15 : decode cX6_likes 15 = .ok (.ldc 74, 2) := by decide +kernel
theorem dX6_likes_17 : decode cX6_likes 17 = .ok (.ireturn, 1) := by decide +kernel
theorem dX6_likes_18 : decode cX6_likes 18 = .ok (.aload_n 0, 1) := by decide +kernel
theorem dX6_likes_19 : decode cX6_likes 19 = .ok (.getfield 38, 3) := by decide +kernel
theorem dX6_likes_22 : decode cX6_likes 22 = .ok (.invokevirtual 154, 3) := by decide +kernel
theorem dX6_likes_25 : decode cX6_likes 25 = .ok (.aload_n 0, 1) := by decide +kernel
theorem dX6_likes_26 : decode cX6_likes 26 = .ok (.getfield 38, 3) := by decide +kernel
theorem dX6_likes_29 : decode cX6_likes 29 = .ok (.iload_n 1, 1) := by decide +kernel
theorem dX6_likes_30 : decode cX6_likes 30 = .ok (.iload_n 2, 1) := by decide +kernel
theorem dX6_likes_31 : decode cX6_likes 31 = .ok (.invokestatic 125, 3) := by decide +kernel
theorem dX6_likes_34 : decode cX6_likes 34 = .ok (.invokevirtual 169, 3) := by decide +kernel
theorem dX6_likes_37 : decode cX6_likes 37 = .ok (.ireturn, 1) := by decide +kernel
theorem dX6_fewestDays_0 : decode cX6_fewestDays 0 = .ok (.iload_n 1, 1) := by decide +kernel
theorem dX6_fewestDays_1 : decode cX6_fewestDays 1 = .ok (.invokestatic 148, 3) := by decide +kernel
theorem dX6_fewestDays_4 : decode cX6_fewestDays 4 = .ok (.ifCond .eq 10, 3) := by decide +kernel
theorem dX6_fewestDays_7 : decode cX6_fewestDays 7 = .ok (.iload_n 2, 1) := by decide +kernel
theorem dX6_fewestDays_8 : decode cX6_fewestDays 8 = .ok (.invokestatic 148, 3) := by decide +kernel
theorem dX6_fewestDays_11 : decode cX6_fewestDays 11 = .ok (.ifCond .ne 6, 3) := by decide +kernel
theorem dX6_fewestDays_14 : decode cX6_fewestDays 14 = .ok (.ldc 74, 2) := by decide +kernel
theorem dX6_fewestDays_16 : decode cX6_fewestDays 16 = .ok (.ireturn, 1) := by decide +kernel
theorem dX6_fewestDays_17 : decode cX6_fewestDays 17 = .ok (.aload_n 0, 1) := by decide +kernel
theorem dX6_fewestDays_18 : decode cX6_fewestDays 18 = .ok (.getfield 38, 3) := by decide +kernel
theorem dX6_fewestDays_21 : decode cX6_fewestDays 21 = .ok (.invokevirtual 154, 3) := by decide +kernel
theorem dX6_fewestDays_24 : decode cX6_fewestDays 24 = .ok (.aload_n 0, 1) := by decide +kernel
theorem dX6_fewestDays_25 : decode cX6_fewestDays 25 = .ok (.getfield 38, 3) := by decide +kernel
theorem dX6_fewestDays_28 : decode cX6_fewestDays 28 = .ok (.iload_n 1, 1) := by decide +kernel
theorem dX6_fewestDays_29 : decode cX6_fewestDays 29 = .ok (.iconst 1, 1) := by decide +kernel
theorem dX6_fewestDays_30 : decode cX6_fewestDays 30 = .ok (.if_icmp .ne 7, 3) := by decide +kernel
theorem dX6_fewestDays_33 : decode cX6_fewestDays 33 = .ok (.iconst 1, 1) := by decide +kernel
theorem dX6_fewestDays_34 : decode cX6_fewestDays 34 = .ok (.goto 4, 3) := by decide +kernel
theorem dX6_fewestDays_37 : decode cX6_fewestDays 37 = .ok (.iconst 0, 1) := by decide +kernel
theorem dX6_fewestDays_38 : decode cX6_fewestDays 38 = .ok (.invokevirtual 172, 3) := by decide +kernel
theorem dX6_fewestDays_41 : decode cX6_fewestDays 41 = .ok (.iload_n 2, 1) := by decide +kernel
theorem dX6_fewestDays_42 : decode cX6_fewestDays 42 = .ok (.invokestatic 176, 3) := by decide +kernel
theorem dX6_fewestDays_45 : decode cX6_fewestDays 45 = .ok (.ireturn, 1) := by decide +kernel
theorem dX6_wanted_0 : decode cX6_wanted 0 = .ok (.aload_n 0, 1) := by decide +kernel
theorem dX6_wanted_1 : decode cX6_wanted 1 = .ok (.getfield 31, 3) := by decide +kernel
theorem dX6_wanted_4 : decode cX6_wanted 4 = .ok (.getfield 42, 3) := by decide +kernel
theorem dX6_wanted_7 : decode cX6_wanted 7 = .ok (.iload_n 1, 1) := by decide +kernel
theorem dX6_wanted_8 : decode cX6_wanted 8 = .ok (.invokevirtual 103, 3) := by decide +kernel
theorem dX6_wanted_11 : decode cX6_wanted 11 = .ok (.ifCond .eq 17, 3) := by decide +kernel
theorem dX6_wanted_14 : decode cX6_wanted 14 = .ok (.iload_n 2, 1) := by decide +kernel
theorem dX6_wanted_15 : decode cX6_wanted 15 = .ok (.invokestatic 119, 3) := by decide +kernel
theorem dX6_wanted_18 : decode cX6_wanted 18 = .ok (.ifCond .eq 10, 3) := by decide +kernel
theorem dX6_wanted_21 : decode cX6_wanted 21 = .ok (.iload_n 3, 1) := by decide +kernel
theorem dX6_wanted_22 : decode cX6_wanted 22 = .ok (.invokestatic 148, 3) := by decide +kernel
theorem dX6_wanted_25 : decode cX6_wanted 25 = .ok (.ifCond .ne 6, 3) := by decide +kernel
theorem dX6_wanted_28 : decode cX6_wanted 28 = .ok (.ldc 74, 2) := by decide +kernel
theorem dX6_wanted_30 : decode cX6_wanted 30 = .ok (.ireturn, 1) := by decide +kernel
theorem dX6_wanted_31 : decode cX6_wanted 31 = .ok (.aload_n 0, 1) := by decide +kernel
theorem dX6_wanted_32 : decode cX6_wanted 32 = .ok (.getfield 38, 3) := by decide +kernel
theorem dX6_wanted_35 : decode cX6_wanted 35 = .ok (.aload_n 0, 1) := by decide +kernel
theorem dX6_wanted_36 : decode cX6_wanted 36 = .ok (.getfield 31, 3) := by decide +kernel
theorem dX6_wanted_39 : decode cX6_wanted 39 = .ok (.getfield 42, 3) := by decide +kernel
theorem dX6_wanted_42 : decode cX6_wanted 42 = .ok (.iload_n 2, 1) := by decide +kernel
theorem dX6_wanted_43 : decode cX6_wanted 43 = .ok (.invokevirtual 132, 3) := by decide +kernel
theorem dX6_wanted_46 : decode cX6_wanted 46 = .ok (.iload_n 1, 1) := by decide +kernel
theorem dX6_wanted_47 : decode cX6_wanted 47 = .ok (.invokevirtual 179, 3) := by decide +kernel
theorem dX6_wanted_50 : decode cX6_wanted 50 = .ok (.istore 4, 2) := by decide +kernel
theorem dX6_wanted_52 : decode cX6_wanted 52 = .ok (.iload 4, 2) := by decide +kernel
theorem dX6_wanted_54 : decode cX6_wanted 54 = .ok (.iconst (-1), 1) := by decide +kernel
theorem dX6_wanted_55 : decode cX6_wanted 55 = .ok (.if_icmp .ne 8, 3) := by decide +kernel
theorem dX6_wanted_58 : decode cX6_wanted 58 = .ok (.ldc 115, 2) := by decide +kernel
theorem dX6_wanted_60 : decode cX6_wanted 60 = .ok (.goto 9, 3) := by decide +kernel
theorem dX6_wanted_63 : decode cX6_wanted 63 = .ok (.iload 4, 2) := by decide +kernel
theorem dX6_wanted_65 : decode cX6_wanted 65 = .ok (.iload_n 3, 1) := by decide +kernel
theorem dX6_wanted_66 : decode cX6_wanted 66 = .ok (.invokestatic 176, 3) := by decide +kernel
theorem dX6_wanted_69 : decode cX6_wanted 69 = .ok (.ireturn, 1) := by decide +kernel
theorem dX6_share_0 : decode cX6_share 0 = .ok (.iload_n 1, 1) := by decide +kernel
theorem dX6_share_1 : decode cX6_share 1 = .ok (.invokestatic 119, 3) := by decide +kernel
theorem dX6_share_4 : decode cX6_share 4 = .ok (.ifCond .ne 6, 3) := by decide +kernel
theorem dX6_share_7 : decode cX6_share 7 = .ok (.ldc 74, 2) := by decide +kernel
theorem dX6_share_9 : decode cX6_share 9 = .ok (.ireturn, 1) := by decide +kernel
theorem dX6_share_10 : decode cX6_share 10 = .ok (.aload_n 0, 1) := by decide +kernel
theorem dX6_share_11 : decode cX6_share 11 = .ok (.getfield 31, 3) := by decide +kernel
theorem dX6_share_14 : decode cX6_share 14 = .ok (.getfield 42, 3) := by decide +kernel
theorem dX6_share_17 : decode cX6_share 17 = .ok (.getfield 163, 3) := by decide +kernel
theorem dX6_share_20 : decode cX6_share 20 = .ok (.istore_n 2, 1) := by decide +kernel
theorem dX6_share_21 : decode cX6_share 21 = .ok (.iload_n 2, 1) := by decide +kernel
theorem dX6_share_22 : decode cX6_share 22 = .ok (.ifCond .ne 8, 3) := by decide +kernel
theorem dX6_share_25 : decode cX6_share 25 = .ok (.fconst 1, 1) := by decide +kernel
theorem dX6_share_26 : decode cX6_share 26 = .ok (.invokestatic 182, 3) := by decide +kernel
theorem dX6_share_29 : decode cX6_share 29 = .ok (.ireturn, 1) := by decide +kernel
theorem dX6_share_30 : decode cX6_share 30 = .ok (.aload_n 0, 1) := by decide +kernel
theorem dX6_share_31 : decode cX6_share 31 = .ok (.getfield 38, 3) := by decide +kernel
theorem dX6_share_34 : decode cX6_share 34 = .ok (.invokevirtual 154, 3) := by decide +kernel
theorem dX6_share_37 : decode cX6_share 37 = .ok (.iload_n 2, 1) := by decide +kernel
theorem dX6_share_38 : decode cX6_share 38 = .ok (.aload_n 0, 1) := by decide +kernel
theorem dX6_share_39 : decode cX6_share 39 = .ok (.getfield 38, 3) := by decide +kernel
theorem dX6_share_42 : decode cX6_share 42 = .ok (.iload_n 1, 1) := by decide +kernel
theorem dX6_share_43 : decode cX6_share 43 = .ok (.bipush 10, 2) := by decide +kernel
theorem dX6_share_45 : decode cX6_share 45 = .ok (.invokevirtual 169, 3) := by decide +kernel
theorem dX6_share_48 : decode cX6_share 48 = .ok (.sipush (-1025), 3) := by decide +kernel
theorem dX6_share_51 : decode cX6_share 51 = .ok (.iand, 1) := by decide +kernel
theorem dX6_share_52 : decode cX6_share 52 = .ok (.invokestatic 186, 3) := by decide +kernel
theorem dX6_share_55 : decode cX6_share 55 = .ok (.isub, 1) := by decide +kernel
theorem dX6_share_56 : decode cX6_share 56 = .ok (.istore_n 3, 1) := by decide +kernel
theorem dX6_share_57 : decode cX6_share 57 = .ok (.iload_n 3, 1) := by decide +kernel
theorem dX6_share_58 : decode cX6_share 58 = .ok (.i2f, 1) := by decide +kernel
theorem dX6_share_59 : decode cX6_share 59 = .ok (.iload_n 2, 1) := by decide +kernel
theorem dX6_share_60 : decode cX6_share 60 = .ok (.i2f, 1) := by decide +kernel
theorem dX6_share_61 : decode cX6_share 61 = .ok (.fdiv, 1) := by decide +kernel
theorem dX6_share_62 : decode cX6_share 62 = .ok (.invokestatic 182, 3) := by decide +kernel
theorem dX6_share_65 : decode cX6_share 65 = .ok (.ireturn, 1) := by decide +kernel
theorem dX6_plant_0 : decode cX6_plant 0 = .ok (.aload_n 0, 1) := by decide +kernel
theorem dX6_plant_1 : decode cX6_plant 1 = .ok (.iload_n 1, 1) := by decide +kernel
theorem dX6_plant_2 : decode cX6_plant 2 = .ok (.invokevirtual 122, 3) := by decide +kernel
theorem dX6_plant_5 : decode cX6_plant 5 = .ok (.ifCond .ne 6, 3) := by decide +kernel
theorem dX6_plant_8 : decode cX6_plant 8 = .ok (.ldc 74, 2) := by decide +kernel
theorem dX6_plant_10 : decode cX6_plant 10 = .ok (.ireturn, 1) := by decide +kernel
theorem dX6_plant_11 : decode cX6_plant 11 = .ok (.aload_n 0, 1) := by decide +kernel
theorem dX6_plant_12 : decode cX6_plant 12 = .ok (.getfield 12, 3) := by decide +kernel
theorem dX6_plant_15 : decode cX6_plant 15 = .ok (.aload_n 0, 1) := by decide +kernel
theorem dX6_plant_16 : decode cX6_plant 16 = .ok (.getfield 31, 3) := by decide +kernel
theorem dX6_plant_19 : decode cX6_plant 19 = .ok (.invokevirtual 50, 3) := by decide +kernel
theorem dX6_plant_22 : decode cX6_plant 22 = .ok (.aload_n 0, 1) := by decide +kernel
theorem dX6_plant_23 : decode cX6_plant 23 = .ok (.getfield 31, 3) := by decide +kernel
theorem dX6_plant_26 : decode cX6_plant 26 = .ok (.iload_n 1, 1) := by decide +kernel
theorem dX6_plant_27 : decode cX6_plant 27 = .ok (.invokestatic 125, 3) := by decide +kernel
theorem dX6_plant_30 : decode cX6_plant 30 = .ok (.putfield 191, 3) := by decide +kernel
theorem dX6_plant_33 : decode cX6_plant 33 = .ok (.aload_n 0, 1) := by decide +kernel
theorem dX6_plant_34 : decode cX6_plant 34 = .ok (.getfield 31, 3) := by decide +kernel
theorem dX6_plant_37 : decode cX6_plant 37 = .ok (.aload_n 0, 1) := by decide +kernel
theorem dX6_plant_38 : decode cX6_plant 38 = .ok (.getfield 31, 3) := by decide +kernel
theorem dX6_plant_41 : decode cX6_plant 41 = .ok (.getfield 42, 3) := by decide +kernel
theorem dX6_plant_44 : decode cX6_plant 44 = .ok (.invokevirtual 194, 3) := by decide +kernel
theorem dX6_plant_47 : decode cX6_plant 47 = .ok (.putfield 197, 3) := by decide +kernel
theorem dX6_plant_50 : decode cX6_plant 50 = .ok (.aload_n 0, 1) := by decide +kernel
theorem dX6_plant_51 : decode cX6_plant 51 = .ok (.getfield 31, 3) := by decide +kernel
theorem dX6_plant_54 : decode cX6_plant 54 = .ok (.getfield 197, 3) := by decide +kernel
theorem dX6_plant_57 : decode cX6_plant 57 = .ok (.invokestatic 186, 3) := by decide +kernel
theorem dX6_plant_60 : decode cX6_plant 60 = .ok (.ireturn, 1) := by decide +kernel
theorem dX6_test_0 : decode cX6_test 0 = .ok (.aload_n 0, 1) := by decide +kernel
theorem dX6_test_1 : decode cX6_test 1 = .ok (.getfield 12, 3) := by decide +kernel
theorem dX6_test_4 : decode cX6_test 4 = .ok (.aload_n 0, 1) := by decide +kernel
theorem dX6_test_5 : decode cX6_test 5 = .ok (.getfield 31, 3) := by decide +kernel
theorem dX6_test_8 : decode cX6_test 8 = .ok (.invokevirtual 50, 3) := by decide +kernel
theorem dX6_test_11 : decode cX6_test 11 = .ok (.aload_n 0, 1) := by decide +kernel
theorem dX6_test_12 : decode cX6_test 12 = .ok (.getfield 31, 3) := by decide +kernel
theorem dX6_test_15 : decode cX6_test 15 = .ok (.dup, 1) := by decide +kernel
theorem dX6_test_16 : decode cX6_test 16 = .ok (.getfield 200, 3) := by decide +kernel
theorem dX6_test_19 : decode cX6_test 19 = .ok (.iconst 1, 1) := by decide +kernel
theorem dX6_test_20 : decode cX6_test 20 = .ok (.iadd, 1) := by decide +kernel
theorem dX6_test_21 : decode cX6_test 21 = .ok (.putfield 200, 3) := by decide +kernel
theorem dX6_test_24 : decode cX6_test 24 = .ok (.aload_n 0, 1) := by decide +kernel
theorem dX6_test_25 : decode cX6_test 25 = .ok (.getfield 31, 3) := by decide +kernel
theorem dX6_test_28 : decode cX6_test 28 = .ok (.aload_n 0, 1) := by decide +kernel
theorem dX6_test_29 : decode cX6_test 29 = .ok (.getfield 38, 3) := by decide +kernel
theorem dX6_test_32 : decode cX6_test 32 = .ok (.aload_n 0, 1) := by decide +kernel
theorem dX6_test_33 : decode cX6_test 33 = .ok (.getfield 31, 3) := by decide +kernel
theorem dX6_test_36 : decode cX6_test 36 = .ok (.invokevirtual 95, 3) := by decide +kernel
theorem dX6_test_39 : decode cX6_test 39 = .ok (.aload_n 0, 1) := by decide +kernel
theorem dX6_test_40 : decode cX6_test 40 = .ok (.getfield 31, 3) := by decide +kernel
theorem dX6_test_43 : decode cX6_test 43 = .ok (.getfield 191, 3) := by decide +kernel
theorem dX6_test_46 : decode cX6_test 46 = .ok (.aload_n 0, 1) := by decide +kernel
theorem dX6_test_47 : decode cX6_test 47 = .ok (.getfield 31, 3) := by decide +kernel
theorem dX6_test_50 : decode cX6_test 50 = .ok (.getfield 197, 3) := by decide +kernel
theorem dX6_test_53 : decode cX6_test 53 = .ok (.invokevirtual 203, 3) := by decide +kernel
theorem dX6_test_56 : decode cX6_test 56 = .ok (.putfield 197, 3) := by decide +kernel
theorem dX6_test_59 : decode cX6_test 59 = .ok (.aload_n 0, 1) := by decide +kernel
theorem dX6_test_60 : decode cX6_test 60 = .ok (.getfield 31, 3) := by decide +kernel
theorem dX6_test_63 : decode cX6_test 63 = .ok (.getfield 197, 3) := by decide +kernel
theorem dX6_test_66 : decode cX6_test 66 = .ok (.invokestatic 186, 3) := by decide +kernel
theorem dX6_test_69 : decode cX6_test 69 = .ok (.ireturn, 1) := by decide +kernel
theorem dX6_vouch_0 : decode cX6_vouch 0 = .ok (.iload_n 1, 1) := by decide +kernel
theorem dX6_vouch_1 : decode cX6_vouch 1 = .ok (.invokestatic 70, 3) := by decide +kernel
theorem dX6_vouch_4 : decode cX6_vouch 4 = .ok (.ifCond .ne 6, 3) := by decide +kernel
theorem dX6_vouch_7 : decode cX6_vouch 7 = .ok (.ldc 74, 2) := by decide +kernel
theorem dX6_vouch_9 : decode cX6_vouch 9 = .ok (.ireturn, 1) := by decide +kernel
theorem dX6_vouch_10 : decode cX6_vouch 10 = .ok (.aload_n 0, 1) := by decide +kernel
theorem dX6_vouch_11 : decode cX6_vouch 11 = .ok (.getfield 31, 3) := by decide +kernel
theorem dX6_vouch_14 : decode cX6_vouch 14 = .ok (.invokevirtual 95, 3) := by decide +kernel
theorem dX6_vouch_17 : decode cX6_vouch 17 = .ok (.iload_n 1, 1) := by decide +kernel
theorem dX6_vouch_18 : decode cX6_vouch 18 = .ok (.invokestatic 99, 3) := by decide +kernel
theorem dX6_vouch_21 : decode cX6_vouch 21 = .ok (.ifCond .eq 6, 3) := by decide +kernel
theorem dX6_vouch_24 : decode cX6_vouch 24 = .ok (.ldc 206, 2) := by decide +kernel
theorem dX6_vouch_26 : decode cX6_vouch 26 = .ok (.ireturn, 1) := by decide +kernel
theorem dX6_vouch_27 : decode cX6_vouch 27 = .ok (.aload_n 0, 1) := by decide +kernel
theorem dX6_vouch_28 : decode cX6_vouch 28 = .ok (.getfield 31, 3) := by decide +kernel
theorem dX6_vouch_31 : decode cX6_vouch 31 = .ok (.getfield 207, 3) := by decide +kernel
theorem dX6_vouch_34 : decode cX6_vouch 34 = .ok (.ifCond .ne 6, 3) := by decide +kernel
theorem dX6_vouch_37 : decode cX6_vouch 37 = .ok (.ldc 210, 2) := by decide +kernel
theorem dX6_vouch_39 : decode cX6_vouch 39 = .ok (.ireturn, 1) := by decide +kernel
theorem dX6_vouch_40 : decode cX6_vouch 40 = .ok (.aload_n 0, 1) := by decide +kernel
theorem dX6_vouch_41 : decode cX6_vouch 41 = .ok (.getfield 12, 3) := by decide +kernel
theorem dX6_vouch_44 : decode cX6_vouch 44 = .ok (.aload_n 0, 1) := by decide +kernel
theorem dX6_vouch_45 : decode cX6_vouch 45 = .ok (.getfield 31, 3) := by decide +kernel
theorem dX6_vouch_48 : decode cX6_vouch 48 = .ok (.invokevirtual 50, 3) := by decide +kernel
theorem dX6_vouch_51 : decode cX6_vouch 51 = .ok (.aload_n 0, 1) := by decide +kernel
theorem dX6_vouch_52 : decode cX6_vouch 52 = .ok (.getfield 31, 3) := by decide +kernel
theorem dX6_vouch_55 : decode cX6_vouch 55 = .ok (.dup, 1) := by decide +kernel
theorem dX6_vouch_56 : decode cX6_vouch 56 = .ok (.getfield 211, 3) := by decide +kernel
theorem dX6_vouch_59 : decode cX6_vouch 59 = .ok (.iconst 1, 1) := by decide +kernel
theorem dX6_vouch_60 : decode cX6_vouch 60 = .ok (.iload_n 1, 1) := by decide +kernel
theorem dX6_vouch_61 : decode cX6_vouch 61 = .ok (.ishl, 1) := by decide +kernel
theorem dX6_vouch_62 : decode cX6_vouch 62 = .ok (.ior, 1) := by decide +kernel
theorem dX6_vouch_63 : decode cX6_vouch 63 = .ok (.putfield 211, 3) := by decide +kernel
theorem dX6_vouch_66 : decode cX6_vouch 66 = .ok (.aload_n 0, 1) := by decide +kernel
theorem dX6_vouch_67 : decode cX6_vouch 67 = .ok (.getfield 31, 3) := by decide +kernel
theorem dX6_vouch_70 : decode cX6_vouch 70 = .ok (.dup, 1) := by decide +kernel
theorem dX6_vouch_71 : decode cX6_vouch 71 = .ok (.getfield 207, 3) := by decide +kernel
theorem dX6_vouch_74 : decode cX6_vouch 74 = .ok (.iconst 1, 1) := by decide +kernel
theorem dX6_vouch_75 : decode cX6_vouch 75 = .ok (.isub, 1) := by decide +kernel
theorem dX6_vouch_76 : decode cX6_vouch 76 = .ok (.putfield 207, 3) := by decide +kernel
theorem dX6_vouch_79 : decode cX6_vouch 79 = .ok (.aload_n 0, 1) := by decide +kernel
theorem dX6_vouch_80 : decode cX6_vouch 80 = .ok (.getfield 31, 3) := by decide +kernel
theorem dX6_vouch_83 : decode cX6_vouch 83 = .ok (.getfield 207, 3) := by decide +kernel
theorem dX6_vouch_86 : decode cX6_vouch 86 = .ok (.ireturn, 1) := by decide +kernel
theorem dX6_vouchers_0 : decode cX6_vouchers 0 = .ok (.iload_n 1, 1) := by decide +kernel
theorem dX6_vouchers_1 : decode cX6_vouchers 1 = .ok (.ifCond .lt 9, 3) := by decide +kernel
theorem dX6_vouchers_4 : decode cX6_vouchers 4 = .ok (.iload_n 1, 1) := by decide +kernel
theorem dX6_vouchers_5 : decode cX6_vouchers 5 = .ok (.bipush 20, 2) := by decide +kernel
theorem dX6_vouchers_7 : decode cX6_vouchers 7 = .ok (.if_icmp .le 6, 3) := by decide +kernel
theorem dX6_vouchers_10 : decode cX6_vouchers 10 = .ok (.ldc 74, 2) := by decide +kernel
theorem dX6_vouchers_12 : decode cX6_vouchers 12 = .ok (.ireturn, 1) := by decide +kernel
theorem dX6_vouchers_13 : decode cX6_vouchers 13 = .ok (.aload_n 0, 1) := by decide +kernel
theorem dX6_vouchers_14 : decode cX6_vouchers 14 = .ok (.getfield 12, 3) := by decide +kernel
theorem dX6_vouchers_17 : decode cX6_vouchers 17 = .ok (.aload_n 0, 1) := by decide +kernel
theorem dX6_vouchers_18 : decode cX6_vouchers 18 = .ok (.getfield 31, 3) := by decide +kernel
theorem dX6_vouchers_21 : decode cX6_vouchers 21 = .ok (.invokevirtual 50, 3) := by decide +kernel
theorem dX6_vouchers_24 : decode cX6_vouchers 24 = .ok (.aload_n 0, 1) := by decide +kernel
theorem dX6_vouchers_25 : decode cX6_vouchers 25 = .ok (.getfield 31, 3) := by decide +kernel
theorem dX6_vouchers_28 : decode cX6_vouchers 28 = .ok (.getfield 207, 3) := by decide +kernel
theorem dX6_vouchers_31 : decode cX6_vouchers 31 = .ok (.istore_n 2, 1) := by decide +kernel
theorem dX6_vouchers_32 : decode cX6_vouchers 32 = .ok (.aload_n 0, 1) := by decide +kernel
theorem dX6_vouchers_33 : decode cX6_vouchers 33 = .ok (.getfield 31, 3) := by decide +kernel
theorem dX6_vouchers_36 : decode cX6_vouchers 36 = .ok (.iload_n 1, 1) := by decide +kernel
theorem dX6_vouchers_37 : decode cX6_vouchers 37 = .ok (.putfield 207, 3) := by decide +kernel
theorem dX6_vouchers_40 : decode cX6_vouchers 40 = .ok (.iload_n 2, 1) := by decide +kernel
theorem dX6_vouchers_41 : decode cX6_vouchers 41 = .ok (.ireturn, 1) := by decide +kernel
theorem dX6_pass_0 : decode cX6_pass 0 = .ok (.iload_n 1, 1) := by decide +kernel
theorem dX6_pass_1 : decode cX6_pass 1 = .ok (.iconst 1, 1) := by decide +kernel
theorem dX6_pass_2 : decode cX6_pass 2 = .ok (.if_icmp .lt 9, 3) := by decide +kernel
theorem dX6_pass_5 : decode cX6_pass 5 = .ok (.iload_n 1, 1) := by decide +kernel
theorem dX6_pass_6 : decode cX6_pass 6 = .ok (.bipush 60, 2) := by decide +kernel
theorem dX6_pass_8 : decode cX6_pass 8 = .ok (.if_icmp .le 6, 3) := by decide +kernel
theorem dX6_pass_11 : decode cX6_pass 11 = .ok (.ldc 74, 2) := by decide +kernel
theorem dX6_pass_13 : decode cX6_pass 13 = .ok (.ireturn, 1) := by decide +kernel
theorem dX6_pass_14 : decode cX6_pass 14 = .ok (.aload_n 0, 1) := by decide +kernel
theorem dX6_pass_15 : decode cX6_pass 15 = .ok (.getfield 31, 3) := by decide +kernel
theorem dX6_pass_18 : decode cX6_pass 18 = .ok (.getfield 214, 3) := by decide +kernel
theorem dX6_pass_21 : decode cX6_pass 21 = .ok (.iload_n 1, 1) := by decide +kernel
theorem dX6_pass_22 : decode cX6_pass 22 = .ok (.iadd, 1) := by decide +kernel
theorem dX6_pass_23 : decode cX6_pass 23 = .ok (.sipush 10000, 3) := by decide +kernel
theorem dX6_pass_26 : decode cX6_pass 26 = .ok (.if_icmp .le 6, 3) := by decide +kernel
theorem dX6_pass_29 : decode cX6_pass 29 = .ok (.ldc 210, 2) := by decide +kernel
theorem dX6_pass_31 : decode cX6_pass 31 = .ok (.ireturn, 1) := by decide +kernel
theorem dX6_pass_32 : decode cX6_pass 32 = .ok (.aload_n 0, 1) := by decide +kernel
theorem dX6_pass_33 : decode cX6_pass 33 = .ok (.getfield 12, 3) := by decide +kernel
theorem dX6_pass_36 : decode cX6_pass 36 = .ok (.aload_n 0, 1) := by decide +kernel
theorem dX6_pass_37 : decode cX6_pass 37 = .ok (.getfield 31, 3) := by decide +kernel
theorem dX6_pass_40 : decode cX6_pass 40 = .ok (.invokevirtual 50, 3) := by decide +kernel
theorem dX6_pass_43 : decode cX6_pass 43 = .ok (.aload_n 0, 1) := by decide +kernel
theorem dX6_pass_44 : decode cX6_pass 44 = .ok (.getfield 31, 3) := by decide +kernel
theorem dX6_pass_47 : decode cX6_pass 47 = .ok (.dup, 1) := by decide +kernel
theorem dX6_pass_48 : decode cX6_pass 48 = .ok (.getfield 214, 3) := by decide +kernel
theorem dX6_pass_51 : decode cX6_pass 51 = .ok (.iload_n 1, 1) := by decide +kernel
theorem dX6_pass_52 : decode cX6_pass 52 = .ok (.iadd, 1) := by decide +kernel
theorem dX6_pass_53 : decode cX6_pass 53 = .ok (.putfield 214, 3) := by decide +kernel
theorem dX6_pass_56 : decode cX6_pass 56 = .ok (.aload_n 0, 1) := by decide +kernel
theorem dX6_pass_57 : decode cX6_pass 57 = .ok (.getfield 31, 3) := by decide +kernel
theorem dX6_pass_60 : decode cX6_pass 60 = .ok (.iconst 0, 1) := by decide +kernel
theorem dX6_pass_61 : decode cX6_pass 61 = .ok (.putfield 211, 3) := by decide +kernel
theorem dX6_pass_64 : decode cX6_pass 64 = .ok (.aload_n 0, 1) := by decide +kernel
theorem dX6_pass_65 : decode cX6_pass 65 = .ok (.getfield 31, 3) := by decide +kernel
theorem dX6_pass_68 : decode cX6_pass 68 = .ok (.invokevirtual 217, 3) := by decide +kernel
theorem dX6_pass_71 : decode cX6_pass 71 = .ok (.ireturn, 1) := by decide +kernel
theorem dX6_suspects_0 : decode cX6_suspects 0 = .ok (.aload_n 0, 1) := by decide +kernel
theorem dX6_suspects_1 : decode cX6_suspects 1 = .ok (.getfield 31, 3) := by decide +kernel
theorem dX6_suspects_4 : decode cX6_suspects 4 = .ok (.getfield 197, 3) := by decide +kernel
theorem dX6_suspects_7 : decode cX6_suspects 7 = .ok (.ireturn, 1) := by decide +kernel
theorem dX6_bestDay_0 : decode cX6_bestDay 0 = .ok (.iload_n 1, 1) := by decide +kernel
theorem dX6_bestDay_1 : decode cX6_bestDay 1 = .ok (.invokestatic 148, 3) := by decide +kernel
theorem dX6_bestDay_4 : decode cX6_bestDay 4 = .ok (.ifCond .ne 6, 3) := by decide +kernel
theorem dX6_bestDay_7 : decode cX6_bestDay 7 = .ok (.ldc 74, 2) := by decide +kernel
theorem dX6_bestDay_9 : decode cX6_bestDay 9 = .ok (.ireturn, 1) := by decide +kernel
theorem dX6_bestDay_10 : decode cX6_bestDay 10 = .ok (.aload_n 0, 1) := by decide +kernel
theorem dX6_bestDay_11 : decode cX6_bestDay 11 = .ok (.getfield 38, 3) := by decide +kernel
theorem dX6_bestDay_14 : decode cX6_bestDay 14 = .ok (.invokevirtual 154, 3) := by decide +kernel
theorem dX6_bestDay_17 : decode cX6_bestDay 17 = .ok (.iconst (-1), 1) := by decide +kernel
theorem dX6_bestDay_18 : decode cX6_bestDay 18 = .ok (.istore_n 2, 1) := by decide +kernel
theorem dX6_bestDay_19 : decode cX6_bestDay 19 = .ok (.bipush 12, 2) := by decide +kernel
theorem dX6_bestDay_21 : decode cX6_bestDay 21 = .ok (.istore_n 3, 1) := by decide +kernel
theorem dX6_bestDay_22 : decode cX6_bestDay 22 = .ok (.iconst 0, 1) := by decide +kernel
theorem dX6_bestDay_23 : decode cX6_bestDay 23 = .ok (.istore 4, 2) := by decide +kernel
theorem dX6_bestDay_25 : decode cX6_bestDay 25 = .ok (.iload 4, 2) := by decide +kernel
theorem dX6_bestDay_27 : decode cX6_bestDay 27 = .ok (.bipush 7, 2) := by decide +kernel
theorem dX6_bestDay_29 : decode cX6_bestDay 29 = .ok (.if_icmp .ge 54, 3) := by decide +kernel
theorem dX6_bestDay_32 : decode cX6_bestDay 32 = .ok (.aload_n 0, 1) := by decide +kernel
theorem dX6_bestDay_33 : decode cX6_bestDay 33 = .ok (.getfield 31, 3) := by decide +kernel
theorem dX6_bestDay_36 : decode cX6_bestDay 36 = .ok (.invokevirtual 217, 3) := by decide +kernel
theorem dX6_bestDay_39 : decode cX6_bestDay 39 = .ok (.iload 4, 2) := by decide +kernel
theorem dX6_bestDay_41 : decode cX6_bestDay 41 = .ok (.iadd, 1) := by decide +kernel
theorem dX6_bestDay_42 : decode cX6_bestDay 42 = .ok (.bipush 7, 2) := by decide +kernel
theorem dX6_bestDay_44 : decode cX6_bestDay 44 = .ok (.irem, 1) := by decide +kernel
theorem dX6_bestDay_45 : decode cX6_bestDay 45 = .ok (.istore 5, 2) := by decide +kernel
theorem dX6_bestDay_47 : decode cX6_bestDay 47 = .ok (.aload_n 0, 1) := by decide +kernel
theorem dX6_bestDay_48 : decode cX6_bestDay 48 = .ok (.getfield 38, 3) := by decide +kernel
theorem dX6_bestDay_51 : decode cX6_bestDay 51 = .ok (.iload 5, 2) := by decide +kernel
theorem dX6_bestDay_53 : decode cX6_bestDay 53 = .ok (.aload_n 0, 1) := by decide +kernel
theorem dX6_bestDay_54 : decode cX6_bestDay 54 = .ok (.getfield 31, 3) := by decide +kernel
theorem dX6_bestDay_57 : decode cX6_bestDay 57 = .ok (.getfield 197, 3) := by decide +kernel
theorem dX6_bestDay_60 : decode cX6_bestDay 60 = .ok (.invokevirtual 220, 3) := by decide +kernel
theorem dX6_bestDay_63 : decode cX6_bestDay 63 = .ok (.istore 6, 2) := by decide +kernel
theorem dX6_bestDay_65 : decode cX6_bestDay 65 = .ok (.iload 6, 2) := by decide +kernel
theorem dX6_bestDay_67 : decode cX6_bestDay 67 = .ok (.iload_n 3, 1) := by decide +kernel
theorem dX6_bestDay_68 : decode cX6_bestDay 68 = .ok (.if_icmp .ge 9, 3) := by decide +kernel
theorem dX6_bestDay_71 : decode cX6_bestDay 71 = .ok (.iload 6, 2) := by decide +kernel
theorem dX6_bestDay_73 : decode cX6_bestDay 73 = .ok (.istore_n 3, 1) := by decide +kernel
theorem dX6_bestDay_74 : decode cX6_bestDay 74 = .ok (.iload 5, 2) := by decide +kernel
theorem dX6_bestDay_76 : decode cX6_bestDay 76 = .ok (.istore_n 2, 1) := by decide +kernel
theorem dX6_bestDay_77 : decode cX6_bestDay 77 = .ok (.iinc 4 1, 3) := by decide +kernel
theorem dX6_bestDay_80 : decode cX6_bestDay 80 = .ok (.goto (-55), 3) := by decide +kernel
theorem dX6_bestDay_83 : decode cX6_bestDay 83 = .ok (.iload_n 1, 1) := by decide +kernel
theorem dX6_bestDay_84 : decode cX6_bestDay 84 = .ok (.ifCond .ne 7, 3) := by decide +kernel
theorem dX6_bestDay_87 : decode cX6_bestDay 87 = .ok (.iload_n 2, 1) := by decide +kernel
theorem dX6_bestDay_88 : decode cX6_bestDay 88 = .ok (.goto 4, 3) := by decide +kernel
theorem dX6_bestDay_91 : decode cX6_bestDay 91 = .ok (.iload_n 3, 1) := by decide +kernel
theorem dX6_bestDay_92 : decode cX6_bestDay 92 = .ok (.ireturn, 1) := by decide +kernel
theorem dX6_file_0 : decode cX6_file 0 = .ok (.aload_n 0, 1) := by decide +kernel
theorem dX6_file_1 : decode cX6_file 1 = .ok (.getfield 31, 3) := by decide +kernel
theorem dX6_file_4 : decode cX6_file 4 = .ok (.getfield 42, 3) := by decide +kernel
theorem dX6_file_7 : decode cX6_file 7 = .ok (.iload_n 1, 1) := by decide +kernel
theorem dX6_file_8 : decode cX6_file 8 = .ok (.invokevirtual 103, 3) := by decide +kernel
theorem dX6_file_11 : decode cX6_file 11 = .ok (.ifCond .eq 12, 3) := by decide +kernel
theorem dX6_file_14 : decode cX6_file 14 = .ok (.iload_n 2, 1) := by decide +kernel
theorem dX6_file_15 : decode cX6_file 15 = .ok (.ifCond .lt 8, 3) := by decide +kernel
theorem dX6_file_18 : decode cX6_file 18 = .ok (.iload_n 2, 1) := by decide +kernel
theorem dX6_file_19 : decode cX6_file 19 = .ok (.iconst 5, 1) := by decide +kernel
theorem dX6_file_20 : decode cX6_file 20 = .ok (.if_icmp .lt 6, 3) := by decide +kernel
theorem dX6_file_23 : decode cX6_file 23 = .ok (.ldc 74, 2) := by decide +kernel
theorem dX6_file_25 : decode cX6_file 25 = .ok (.ireturn, 1) := by decide +kernel
theorem dX6_file_26 : decode cX6_file 26 = .ok (.aload_n 0, 1) := by decide +kernel
theorem dX6_file_27 : decode cX6_file 27 = .ok (.getfield 31, 3) := by decide +kernel
theorem dX6_file_30 : decode cX6_file 30 = .ok (.getfield 116, 3) := by decide +kernel
theorem dX6_file_33 : decode cX6_file 33 = .ok (.iload_n 1, 1) := by decide +kernel
theorem dX6_file_34 : decode cX6_file 34 = .ok (.iaload, 1) := by decide +kernel
theorem dX6_file_35 : decode cX6_file 35 = .ok (.iconst (-1), 1) := by decide +kernel
theorem dX6_file_36 : decode cX6_file 36 = .ok (.if_icmp .ne 19, 3) := by decide +kernel
theorem dX6_file_39 : decode cX6_file 39 = .ok (.aload_n 0, 1) := by decide +kernel
theorem dX6_file_40 : decode cX6_file 40 = .ok (.getfield 31, 3) := by decide +kernel
theorem dX6_file_43 : decode cX6_file 43 = .ok (.getfield 42, 3) := by decide +kernel
theorem dX6_file_46 : decode cX6_file 46 = .ok (.getfield 106, 3) := by decide +kernel
theorem dX6_file_49 : decode cX6_file 49 = .ok (.iload_n 1, 1) := by decide +kernel
theorem dX6_file_50 : decode cX6_file 50 = .ok (.iaload, 1) := by decide +kernel
theorem dX6_file_51 : decode cX6_file 51 = .ok (.iload_n 2, 1) := by decide +kernel
theorem dX6_file_52 : decode cX6_file 52 = .ok (.if_icmp .eq 6, 3) := by decide +kernel
theorem dX6_file_55 : decode cX6_file 55 = .ok (.ldc 206, 2) := by decide +kernel
theorem dX6_file_57 : decode cX6_file 57 = .ok (.ireturn, 1) := by decide +kernel
theorem dX6_file_58 : decode cX6_file 58 = .ok (.aload_n 0, 1) := by decide +kernel
theorem dX6_file_59 : decode cX6_file 59 = .ok (.getfield 31, 3) := by decide +kernel
theorem dX6_file_62 : decode cX6_file 62 = .ok (.iload_n 2, 1) := by decide +kernel
theorem dX6_file_63 : decode cX6_file 63 = .ok (.invokevirtual 223, 3) := by decide +kernel
theorem dX6_file_66 : decode cX6_file 66 = .ok (.iconst 3, 1) := by decide +kernel
theorem dX6_file_67 : decode cX6_file 67 = .ok (.if_icmp .lt 6, 3) := by decide +kernel
theorem dX6_file_70 : decode cX6_file 70 = .ok (.ldc 210, 2) := by decide +kernel
theorem dX6_file_72 : decode cX6_file 72 = .ok (.ireturn, 1) := by decide +kernel
theorem dX6_file_73 : decode cX6_file 73 = .ok (.aload_n 0, 1) := by decide +kernel
theorem dX6_file_74 : decode cX6_file 74 = .ok (.getfield 12, 3) := by decide +kernel
theorem dX6_file_77 : decode cX6_file 77 = .ok (.aload_n 0, 1) := by decide +kernel
theorem dX6_file_78 : decode cX6_file 78 = .ok (.getfield 31, 3) := by decide +kernel
theorem dX6_file_81 : decode cX6_file 81 = .ok (.invokevirtual 50, 3) := by decide +kernel
theorem dX6_file_84 : decode cX6_file 84 = .ok (.aload_n 0, 1) := by decide +kernel
theorem dX6_file_85 : decode cX6_file 85 = .ok (.getfield 31, 3) := by decide +kernel
theorem dX6_file_88 : decode cX6_file 88 = .ok (.getfield 116, 3) := by decide +kernel
theorem dX6_file_91 : decode cX6_file 91 = .ok (.iload_n 1, 1) := by decide +kernel
theorem dX6_file_92 : decode cX6_file 92 = .ok (.iload_n 2, 1) := by decide +kernel
theorem dX6_file_93 : decode cX6_file 93 = .ok (.iastore, 1) := by decide +kernel
theorem dX6_file_94 : decode cX6_file 94 = .ok (.aload_n 0, 1) := by decide +kernel
theorem dX6_file_95 : decode cX6_file 95 = .ok (.getfield 31, 3) := by decide +kernel
theorem dX6_file_98 : decode cX6_file 98 = .ok (.iload_n 2, 1) := by decide +kernel
theorem dX6_file_99 : decode cX6_file 99 = .ok (.invokevirtual 223, 3) := by decide +kernel
theorem dX6_file_102 : decode cX6_file 102 = .ok (.ireturn, 1) := by decide +kernel
theorem dX6_count_0 : decode cX6_count 0 = .ok (.iload_n 1, 1) := by decide +kernel
theorem dX6_count_1 : decode cX6_count 1 = .ok (.tableswitch 188 0 15 #[79, 90, 101, 112, 120, 128, 136, 147, 152, 160, 168, 176, 176, 176, 176, 176], 79) := by decide +kernel
theorem dX6_count_80 : decode cX6_count 80 = .ok (.aload_n 0, 1) := by decide +kernel
theorem dX6_count_81 : decode cX6_count 81 = .ok (.getfield 31, 3) := by decide +kernel
theorem dX6_count_84 : decode cX6_count 84 = .ok (.getfield 42, 3) := by decide +kernel
theorem dX6_count_87 : decode cX6_count 87 = .ok (.getfield 226, 3) := by decide +kernel
theorem dX6_count_90 : decode cX6_count 90 = .ok (.ireturn, 1) := by decide +kernel
theorem dX6_count_91 : decode cX6_count 91 = .ok (.aload_n 0, 1) := by decide +kernel
theorem dX6_count_92 : decode cX6_count 92 = .ok (.getfield 31, 3) := by decide +kernel
theorem dX6_count_95 : decode cX6_count 95 = .ok (.getfield 42, 3) := by decide +kernel
theorem dX6_count_98 : decode cX6_count 98 = .ok (.getfield 229, 3) := by decide +kernel
theorem dX6_count_101 : decode cX6_count 101 = .ok (.ireturn, 1) := by decide +kernel
theorem dX6_count_102 : decode cX6_count 102 = .ok (.aload_n 0, 1) := by decide +kernel
theorem dX6_count_103 : decode cX6_count 103 = .ok (.getfield 31, 3) := by decide +kernel
theorem dX6_count_106 : decode cX6_count 106 = .ok (.getfield 42, 3) := by decide +kernel
theorem dX6_count_109 : decode cX6_count 109 = .ok (.getfield 163, 3) := by decide +kernel
theorem dX6_count_112 : decode cX6_count 112 = .ok (.ireturn, 1) := by decide +kernel
theorem dX6_count_113 : decode cX6_count 113 = .ok (.aload_n 0, 1) := by decide +kernel
theorem dX6_count_114 : decode cX6_count 114 = .ok (.getfield 31, 3) := by decide +kernel
theorem dX6_count_117 : decode cX6_count 117 = .ok (.getfield 214, 3) := by decide +kernel
theorem dX6_count_120 : decode cX6_count 120 = .ok (.ireturn, 1) := by decide +kernel
theorem dX6_count_121 : decode cX6_count 121 = .ok (.aload_n 0, 1) := by decide +kernel
theorem dX6_count_122 : decode cX6_count 122 = .ok (.getfield 31, 3) := by decide +kernel
theorem dX6_count_125 : decode cX6_count 125 = .ok (.invokevirtual 217, 3) := by decide +kernel
theorem dX6_count_128 : decode cX6_count 128 = .ok (.ireturn, 1) := by decide +kernel
theorem dX6_count_129 : decode cX6_count 129 = .ok (.aload_n 0, 1) := by decide +kernel
theorem dX6_count_130 : decode cX6_count 130 = .ok (.getfield 31, 3) := by decide +kernel
theorem dX6_count_133 : decode cX6_count 133 = .ok (.getfield 207, 3) := by decide +kernel
theorem dX6_count_136 : decode cX6_count 136 = .ok (.ireturn, 1) := by decide +kernel
theorem dX6_count_137 : decode cX6_count 137 = .ok (.aload_n 0, 1) := by decide +kernel
theorem dX6_count_138 : decode cX6_count 138 = .ok (.getfield 31, 3) := by decide +kernel
theorem dX6_count_141 : decode cX6_count 141 = .ok (.invokevirtual 95, 3) := by decide +kernel
theorem dX6_count_144 : decode cX6_count 144 = .ok (.invokestatic 186, 3) := by decide +kernel
theorem dX6_count_147 : decode cX6_count 147 = .ok (.ireturn, 1) := by decide +kernel
theorem dX6_count_148 : decode cX6_count 148 = .ok (.aload_n 0, 1) := by decide +kernel
theorem dX6_count_149 : decode cX6_count 149 = .ok (.invokevirtual 232, 3) := by decide +kernel
theorem dX6_count_152 : decode cX6_count 152 = .ok (.ireturn, 1) := by decide +kernel
theorem dX6_count_153 : decode cX6_count 153 = .ok (.aload_n 0, 1) := by decide +kernel
theorem dX6_count_154 : decode cX6_count 154 = .ok (.getfield 31, 3) := by decide +kernel
theorem dX6_count_157 : decode cX6_count 157 = .ok (.getfield 200, 3) := by decide +kernel
theorem dX6_count_160 : decode cX6_count 160 = .ok (.ireturn, 1) := by decide +kernel
theorem dX6_count_161 : decode cX6_count 161 = .ok (.aload_n 0, 1) := by decide +kernel
theorem dX6_count_162 : decode cX6_count 162 = .ok (.getfield 12, 3) := by decide +kernel
theorem dX6_count_165 : decode cX6_count 165 = .ok (.getfield 235, 3) := by decide +kernel
theorem dX6_count_168 : decode cX6_count 168 = .ok (.ireturn, 1) := by decide +kernel
theorem dX6_count_169 : decode cX6_count 169 = .ok (.aload_n 0, 1) := by decide +kernel
theorem dX6_count_170 : decode cX6_count 170 = .ok (.getfield 19, 3) := by decide +kernel
theorem dX6_count_173 : decode cX6_count 173 = .ok (.getfield 238, 3) := by decide +kernel
theorem dX6_count_176 : decode cX6_count 176 = .ok (.ireturn, 1) := by decide +kernel
theorem dX6_count_177 : decode cX6_count 177 = .ok (.aload_n 0, 1) := by decide +kernel
theorem dX6_count_178 : decode cX6_count 178 = .ok (.getfield 31, 3) := by decide +kernel
theorem dX6_count_181 : decode cX6_count 181 = .ok (.iload_n 1, 1) := by decide +kernel
theorem dX6_count_182 : decode cX6_count 182 = .ok (.bipush 11, 2) := by decide +kernel
theorem dX6_count_184 : decode cX6_count 184 = .ok (.isub, 1) := by decide +kernel
theorem dX6_count_185 : decode cX6_count 185 = .ok (.invokevirtual 223, 3) := by decide +kernel
theorem dX6_count_188 : decode cX6_count 188 = .ok (.ireturn, 1) := by decide +kernel
theorem dX6_count_189 : decode cX6_count 189 = .ok (.ldc 74, 2) := by decide +kernel
theorem dX6_count_191 : decode cX6_count 191 = .ok (.ireturn, 1) := by decide +kernel
theorem dX6_undo_0 : decode cX6_undo 0 = .ok (.aload_n 0, 1) := by decide +kernel
theorem dX6_undo_1 : decode cX6_undo 1 = .ok (.getfield 12, 3) := by decide +kernel
theorem dX6_undo_4 : decode cX6_undo 4 = .ok (.getfield 235, 3) := by decide +kernel
theorem dX6_undo_7 : decode cX6_undo 7 = .ok (.ifCond .ne 6, 3) := by decide +kernel
theorem dX6_undo_10 : decode cX6_undo 10 = .ok (.ldc 206, 2) := by decide +kernel
theorem dX6_undo_12 : decode cX6_undo 12 = .ok (.ireturn, 1) := by decide +kernel
theorem dX6_undo_13 : decode cX6_undo 13 = .ok (.aload_n 0, 1) := by decide +kernel
theorem dX6_undo_14 : decode cX6_undo 14 = .ok (.getfield 12, 3) := by decide +kernel
theorem dX6_undo_17 : decode cX6_undo 17 = .ok (.aload_n 0, 1) := by decide +kernel
theorem dX6_undo_18 : decode cX6_undo 18 = .ok (.getfield 31, 3) := by decide +kernel
theorem dX6_undo_21 : decode cX6_undo 21 = .ok (.invokevirtual 241, 3) := by decide +kernel
theorem dX6_undo_24 : decode cX6_undo 24 = .ok (.aload_n 0, 1) := by decide +kernel
theorem dX6_undo_25 : decode cX6_undo 25 = .ok (.getfield 12, 3) := by decide +kernel
theorem dX6_undo_28 : decode cX6_undo 28 = .ok (.getfield 235, 3) := by decide +kernel
theorem dX6_undo_31 : decode cX6_undo 31 = .ok (.ireturn, 1) := by decide +kernel
theorem dX6_type_0 : decode cX6_type 0 = .ok (.iload_n 1, 1) := by decide +kernel
theorem dX6_type_1 : decode cX6_type 1 = .ok (.bipush 32, 2) := by decide +kernel
theorem dX6_type_3 : decode cX6_type 3 = .ok (.if_icmp .lt 9, 3) := by decide +kernel
theorem dX6_type_6 : decode cX6_type 6 = .ok (.iload_n 1, 1) := by decide +kernel
theorem dX6_type_7 : decode cX6_type 7 = .ok (.bipush 126, 2) := by decide +kernel
theorem dX6_type_9 : decode cX6_type 9 = .ok (.if_icmp .le 6, 3) := by decide +kernel
theorem dX6_type_12 : decode cX6_type 12 = .ok (.ldc 74, 2) := by decide +kernel
theorem dX6_type_14 : decode cX6_type 14 = .ok (.ireturn, 1) := by decide +kernel
theorem dX6_type_15 : decode cX6_type 15 = .ok (.aload_n 0, 1) := by decide +kernel
theorem dX6_type_16 : decode cX6_type 16 = .ok (.getfield 19, 3) := by decide +kernel
theorem dX6_type_19 : decode cX6_type 19 = .ok (.getfield 238, 3) := by decide +kernel
theorem dX6_type_22 : decode cX6_type 22 = .ok (.bipush 100, 2) := by decide +kernel
theorem dX6_type_24 : decode cX6_type 24 = .ok (.if_icmp .lt 6, 3) := by decide +kernel
theorem dX6_type_27 : decode cX6_type 27 = .ok (.ldc 210, 2) := by decide +kernel
theorem dX6_type_29 : decode cX6_type 29 = .ok (.ireturn, 1) := by decide +kernel
theorem dX6_type_30 : decode cX6_type 30 = .ok (.aload_n 0, 1) := by decide +kernel
theorem dX6_type_31 : decode cX6_type 31 = .ok (.getfield 19, 3) := by decide +kernel
theorem dX6_type_34 : decode cX6_type 34 = .ok (.iload_n 1, 1) := by decide +kernel
theorem dX6_type_35 : decode cX6_type 35 = .ok (.i2c, 1) := by decide +kernel
theorem dX6_type_36 : decode cX6_type 36 = .ok (.invokevirtual 244, 3) := by decide +kernel
theorem dX6_type_39 : decode cX6_type 39 = .ok (.aload_n 0, 1) := by decide +kernel
theorem dX6_type_40 : decode cX6_type 40 = .ok (.getfield 19, 3) := by decide +kernel
theorem dX6_type_43 : decode cX6_type 43 = .ok (.getfield 238, 3) := by decide +kernel
theorem dX6_type_46 : decode cX6_type 46 = .ok (.ireturn, 1) := by decide +kernel
theorem dX6_clearText_0 : decode cX6_clearText 0 = .ok (.aload_n 0, 1) := by decide +kernel
theorem dX6_clearText_1 : decode cX6_clearText 1 = .ok (.getfield 19, 3) := by decide +kernel
theorem dX6_clearText_4 : decode cX6_clearText 4 = .ok (.getfield 238, 3) := by decide +kernel
theorem dX6_clearText_7 : decode cX6_clearText 7 = .ok (.istore_n 1, 1) := by decide +kernel
theorem dX6_clearText_8 : decode cX6_clearText 8 = .ok (.aload_n 0, 1) := by decide +kernel
theorem dX6_clearText_9 : decode cX6_clearText 9 = .ok (.getfield 19, 3) := by decide +kernel
theorem dX6_clearText_12 : decode cX6_clearText 12 = .ok (.iconst 0, 1) := by decide +kernel
theorem dX6_clearText_13 : decode cX6_clearText 13 = .ok (.putfield 238, 3) := by decide +kernel
theorem dX6_clearText_16 : decode cX6_clearText 16 = .ok (.iload_n 1, 1) := by decide +kernel
theorem dX6_clearText_17 : decode cX6_clearText 17 = .ok (.ireturn, 1) := by decide +kernel
theorem dX6_place_0 : decode cX6_place 0 = .ok (.iload_n 1, 1) := by decide +kernel
theorem dX6_place_1 : decode cX6_place 1 = .ok (.invokestatic 148, 3) := by decide +kernel
theorem dX6_place_4 : decode cX6_place 4 = .ok (.ifCond .ne 6, 3) := by decide +kernel
theorem dX6_place_7 : decode cX6_place 7 = .ok (.ldc 74, 2) := by decide +kernel
theorem dX6_place_9 : decode cX6_place 9 = .ok (.ireturn, 1) := by decide +kernel
theorem dX6_place_10 : decode cX6_place 10 = .ok (.aload_n 0, 1) := by decide +kernel
theorem dX6_place_11 : decode cX6_place 11 = .ok (.getfield 19, 3) := by decide +kernel
theorem dX6_place_14 : decode cX6_place 14 = .ok (.aload_n 0, 1) := by decide +kernel
theorem dX6_place_15 : decode cX6_place 15 = .ok (.getfield 31, 3) := by decide +kernel
theorem dX6_place_18 : decode cX6_place 18 = .ok (.getfield 42, 3) := by decide +kernel
theorem dX6_place_21 : decode cX6_place 21 = .ok (.invokevirtual 248, 3) := by decide +kernel
theorem dX6_place_24 : decode cX6_place 24 = .ok (.aload_n 0, 1) := by decide +kernel
theorem dX6_place_25 : decode cX6_place 25 = .ok (.getfield 19, 3) := by decide +kernel
theorem dX6_place_28 : decode cX6_place 28 = .ok (.getfield 251, 3) := by decide +kernel
theorem dX6_place_31 : decode cX6_place 31 = .ok (.ifCond .ne 6, 3) := by decide +kernel
theorem dX6_place_34 : decode cX6_place 34 = .ok (.ldc 115, 2) := by decide +kernel
theorem dX6_place_36 : decode cX6_place 36 = .ok (.ireturn, 1) := by decide +kernel
theorem dX6_place_37 : decode cX6_place 37 = .ok (.iload_n 1, 1) := by decide +kernel
theorem dX6_place_38 : decode cX6_place 38 = .ok (.ifCond .ne 13, 3) := by decide +kernel
theorem dX6_place_41 : decode cX6_place 41 = .ok (.aload_n 0, 1) := by decide +kernel
theorem dX6_place_42 : decode cX6_place 42 = .ok (.getfield 19, 3) := by decide +kernel
theorem dX6_place_45 : decode cX6_place 45 = .ok (.getfield 254, 3) := by decide +kernel
theorem dX6_place_48 : decode cX6_place 48 = .ok (.goto 10, 3) := by decide +kernel
theorem dX6_place_51 : decode cX6_place 51 = .ok (.aload_n 0, 1) := by decide +kernel
theorem dX6_place_52 : decode cX6_place 52 = .ok (.getfield 19, 3) := by decide +kernel
theorem dX6_place_55 : decode cX6_place 55 = .ok (.getfield 251, 3) := by decide +kernel
theorem dX6_place_58 : decode cX6_place 58 = .ok (.ireturn, 1) := by decide +kernel
theorem dX6_run_0 : decode cX6_run 0 = .ok (.aload_n 0, 1) := by decide +kernel
theorem dX6_run_1 : decode cX6_run 1 = .ok (.getfield 19, 3) := by decide +kernel
theorem dX6_run_4 : decode cX6_run 4 = .ok (.aload_n 0, 1) := by decide +kernel
theorem dX6_run_5 : decode cX6_run 5 = .ok (.getfield 31, 3) := by decide +kernel
theorem dX6_run_8 : decode cX6_run 8 = .ok (.getfield 42, 3) := by decide +kernel
theorem dX6_run_11 : decode cX6_run 11 = .ok (.invokevirtual 248, 3) := by decide +kernel
theorem dX6_run_14 : decode cX6_run 14 = .ok (.aload_n 0, 1) := by decide +kernel
theorem dX6_run_15 : decode cX6_run 15 = .ok (.getfield 19, 3) := by decide +kernel
theorem dX6_run_18 : decode cX6_run 18 = .ok (.getfield 251, 3) := by decide +kernel
theorem dX6_run_21 : decode cX6_run 21 = .ok (.ifCond .eq 6, 3) := by decide +kernel
theorem dX6_run_24 : decode cX6_run 24 = .ok (.ldc 206, 2) := by decide +kernel
theorem dX6_run_26 : decode cX6_run 26 = .ok (.ireturn, 1) := by decide +kernel
theorem dX6_run_27 : decode cX6_run 27 = .ok (.aload_n 0, 1) := by decide +kernel
theorem dX6_run_28 : decode cX6_run 28 = .ok (.getfield 12, 3) := by decide +kernel
theorem dX6_run_31 : decode cX6_run 31 = .ok (.aload_n 0, 1) := by decide +kernel
theorem dX6_run_32 : decode cX6_run 32 = .ok (.getfield 31, 3) := by decide +kernel
theorem dX6_run_35 : decode cX6_run 35 = .ok (.invokevirtual 50, 3) := by decide +kernel
theorem dX6_run_38 : decode cX6_run 38 = .ok (.aload_n 0, 1) := by decide +kernel
theorem dX6_run_39 : decode cX6_run 39 = .ok (.getfield 31, 3) := by decide +kernel
theorem dX6_run_42 : decode cX6_run 42 = .ok (.getfield 42, 3) := by decide +kernel
theorem dX6_run_45 : decode cX6_run 45 = .ok (.aload_n 0, 1) := by decide +kernel
theorem dX6_run_46 : decode cX6_run 46 = .ok (.getfield 19, 3) := by decide +kernel
theorem dX6_run_49 : decode cX6_run 49 = .ok (.getfield 257, 3) := by decide +kernel
theorem dX6_run_52 : decode cX6_run 52 = .ok (.invokevirtual 260, 3) := by decide +kernel
theorem dX6_run_55 : decode cX6_run 55 = .ok (.aload_n 0, 1) := by decide +kernel
theorem dX6_run_56 : decode cX6_run 56 = .ok (.getfield 19, 3) := by decide +kernel
theorem dX6_run_59 : decode cX6_run 59 = .ok (.getfield 263, 3) := by decide +kernel
theorem dX6_run_62 : decode cX6_run 62 = .ok (.ireturn, 1) := by decide +kernel
theorem dX6_reachedNow_0 : decode cX6_reachedNow 0 = .ok (.aload_n 0, 1) := by decide +kernel
theorem dX6_reachedNow_1 : decode cX6_reachedNow 1 = .ok (.getfield 38, 3) := by decide +kernel
theorem dX6_reachedNow_4 : decode cX6_reachedNow 4 = .ok (.bipush 10, 2) := by decide +kernel
theorem dX6_reachedNow_6 : decode cX6_reachedNow 6 = .ok (.invokevirtual 128, 3) := by decide +kernel
theorem dX6_reachedNow_9 : decode cX6_reachedNow 9 = .ok (.astore_n 1, 1) := by decide +kernel
theorem dX6_reachedNow_10 : decode cX6_reachedNow 10 = .ok (.aload_n 1, 1) := by decide +kernel
theorem dX6_reachedNow_11 : decode cX6_reachedNow 11 = .ok (.aload_n 0, 1) := by decide +kernel
theorem dX6_reachedNow_12 : decode cX6_reachedNow 12 = .ok (.getfield 31, 3) := by decide +kernel
theorem dX6_reachedNow_15 : decode cX6_reachedNow 15 = .ok (.invokevirtual 95, 3) := by decide +kernel
theorem dX6_reachedNow_18 : decode cX6_reachedNow 18 = .ok (.invokevirtual 135, 3) := by decide +kernel
theorem dX6_reachedNow_21 : decode cX6_reachedNow 21 = .ok (.aload_n 1, 1) := by decide +kernel
theorem dX6_reachedNow_22 : decode cX6_reachedNow 22 = .ok (.getfield 141, 3) := by decide +kernel
theorem dX6_reachedNow_25 : decode cX6_reachedNow 25 = .ok (.invokestatic 186, 3) := by decide +kernel
theorem dX6_reachedNow_28 : decode cX6_reachedNow 28 = .ok (.ireturn, 1) := by decide +kernel
theorem dX6_isFaultOrNone_0 : decode cX6_isFaultOrNone 0 = .ok (.iload_n 1, 1) := by decide +kernel
theorem dX6_isFaultOrNone_1 : decode cX6_isFaultOrNone 1 = .ok (.iconst (-1), 1) := by decide +kernel
theorem dX6_isFaultOrNone_2 : decode cX6_isFaultOrNone 2 = .ok (.if_icmp .eq 17, 3) := by decide +kernel
theorem dX6_isFaultOrNone_5 : decode cX6_isFaultOrNone 5 = .ok (.aload_n 0, 1) := by decide +kernel
theorem dX6_isFaultOrNone_6 : decode cX6_isFaultOrNone 6 = .ok (.getfield 31, 3) := by decide +kernel
theorem dX6_isFaultOrNone_9 : decode cX6_isFaultOrNone 9 = .ok (.getfield 42, 3) := by decide +kernel
theorem dX6_isFaultOrNone_12 : decode cX6_isFaultOrNone 12 = .ok (.iload_n 1, 1) := by decide +kernel
theorem dX6_isFaultOrNone_13 : decode cX6_isFaultOrNone 13 = .ok (.invokevirtual 103, 3) := by decide +kernel
theorem dX6_isFaultOrNone_16 : decode cX6_isFaultOrNone 16 = .ok (.ifCond .eq 7, 3) := by decide +kernel
theorem dX6_isFaultOrNone_19 : decode cX6_isFaultOrNone 19 = .ok (.iconst 1, 1) := by decide +kernel
theorem dX6_isFaultOrNone_20 : decode cX6_isFaultOrNone 20 = .ok (.goto 4, 3) := by decide +kernel
theorem dX6_isFaultOrNone_23 : decode cX6_isFaultOrNone 23 = .ok (.iconst 0, 1) := by decide +kernel
theorem dX6_isFaultOrNone_24 : decode cX6_isFaultOrNone 24 = .ok (.ireturn, 1) := by decide +kernel
theorem dX6_suspectFor_0 : decode cX6_suspectFor 0 = .ok (.iload_n 0, 1) := by decide +kernel
theorem dX6_suspectFor_1 : decode cX6_suspectFor 1 = .ok (.iconst (-1), 1) := by decide +kernel
theorem dX6_suspectFor_2 : decode cX6_suspectFor 2 = .ok (.if_icmp .ne 8, 3) := by decide +kernel
theorem dX6_suspectFor_5 : decode cX6_suspectFor 5 = .ok (.bipush 10, 2) := by decide +kernel
theorem dX6_suspectFor_7 : decode cX6_suspectFor 7 = .ok (.goto 4, 3) := by decide +kernel
theorem dX6_suspectFor_10 : decode cX6_suspectFor 10 = .ok (.iload_n 0, 1) := by decide +kernel
theorem dX6_suspectFor_11 : decode cX6_suspectFor 11 = .ok (.ireturn, 1) := by decide +kernel
theorem dX6_foundOrNot_0 : decode cX6_foundOrNot 0 = .ok (.iload_n 0, 1) := by decide +kernel
theorem dX6_foundOrNot_1 : decode cX6_foundOrNot 1 = .ok (.iconst (-1), 1) := by decide +kernel
theorem dX6_foundOrNot_2 : decode cX6_foundOrNot 2 = .ok (.if_icmp .ne 8, 3) := by decide +kernel
theorem dX6_foundOrNot_5 : decode cX6_foundOrNot 5 = .ok (.ldc 115, 2) := by decide +kernel
theorem dX6_foundOrNot_7 : decode cX6_foundOrNot 7 = .ok (.goto 4, 3) := by decide +kernel
theorem dX6_foundOrNot_10 : decode cX6_foundOrNot 10 = .ok (.iload_n 0, 1) := by decide +kernel
theorem dX6_foundOrNot_11 : decode cX6_foundOrNot 11 = .ok (.ireturn, 1) := by decide +kernel
theorem dX6_sizeOrSet_0 : decode cX6_sizeOrSet 0 = .ok (.iload_n 1, 1) := by decide +kernel
theorem dX6_sizeOrSet_1 : decode cX6_sizeOrSet 1 = .ok (.ifCond .ne 10, 3) := by decide +kernel
theorem dX6_sizeOrSet_4 : decode cX6_sizeOrSet 4 = .ok (.iload_n 0, 1) := by decide +kernel
theorem dX6_sizeOrSet_5 : decode cX6_sizeOrSet 5 = .ok (.invokestatic 186, 3) := by decide +kernel
theorem dX6_sizeOrSet_8 : decode cX6_sizeOrSet 8 = .ok (.goto 4, 3) := by decide +kernel
theorem dX6_sizeOrSet_11 : decode cX6_sizeOrSet 11 = .ok (.iload_n 0, 1) := by decide +kernel
theorem dX6_sizeOrSet_12 : decode cX6_sizeOrSet 12 = .ok (.ireturn, 1) := by decide +kernel
theorem dX6_isPin_0 : decode cX6_isPin 0 = .ok (.iload_n 0, 1) := by decide +kernel
theorem dX6_isPin_1 : decode cX6_isPin 1 = .ok (.ifCond .lt 13, 3) := by decide +kernel
theorem dX6_isPin_4 : decode cX6_isPin 4 = .ok (.iload_n 0, 1) := by decide +kernel
theorem dX6_isPin_5 : decode cX6_isPin 5 = .ok (.bipush 16, 2) := by decide +kernel
theorem dX6_isPin_7 : decode cX6_isPin 7 = .ok (.if_icmp .ge 7, 3) := by decide +kernel
theorem dX6_isPin_10 : decode cX6_isPin 10 = .ok (.iconst 1, 1) := by decide +kernel
theorem dX6_isPin_11 : decode cX6_isPin 11 = .ok (.goto 4, 3) := by decide +kernel
theorem dX6_isPin_14 : decode cX6_isPin 14 = .ok (.iconst 0, 1) := by decide +kernel
theorem dX6_isPin_15 : decode cX6_isPin 15 = .ok (.ireturn, 1) := by decide +kernel
theorem dX6_isDay_0 : decode cX6_isDay 0 = .ok (.iload_n 0, 1) := by decide +kernel
theorem dX6_isDay_1 : decode cX6_isDay 1 = .ok (.ifCond .lt 13, 3) := by decide +kernel
theorem dX6_isDay_4 : decode cX6_isDay 4 = .ok (.iload_n 0, 1) := by decide +kernel
theorem dX6_isDay_5 : decode cX6_isDay 5 = .ok (.bipush 7, 2) := by decide +kernel
theorem dX6_isDay_7 : decode cX6_isDay 7 = .ok (.if_icmp .ge 7, 3) := by decide +kernel
theorem dX6_isDay_10 : decode cX6_isDay 10 = .ok (.iconst 1, 1) := by decide +kernel
theorem dX6_isDay_11 : decode cX6_isDay 11 = .ok (.goto 4, 3) := by decide +kernel
theorem dX6_isDay_14 : decode cX6_isDay 14 = .ok (.iconst 0, 1) := by decide +kernel
theorem dX6_isDay_15 : decode cX6_isDay 15 = .ok (.ireturn, 1) := by decide +kernel
theorem dX6_isZeroOrOne_0 : decode cX6_isZeroOrOne 0 = .ok (.iload_n 0, 1) := by decide +kernel
theorem dX6_isZeroOrOne_1 : decode cX6_isZeroOrOne 1 = .ok (.ifCond .eq 8, 3) := by decide +kernel
theorem dX6_isZeroOrOne_4 : decode cX6_isZeroOrOne 4 = .ok (.iload_n 0, 1) := by decide +kernel
theorem dX6_isZeroOrOne_5 : decode cX6_isZeroOrOne 5 = .ok (.iconst 1, 1) := by decide +kernel
theorem dX6_isZeroOrOne_6 : decode cX6_isZeroOrOne 6 = .ok (.if_icmp .ne 7, 3) := by decide +kernel
theorem dX6_isZeroOrOne_9 : decode cX6_isZeroOrOne 9 = .ok (.iconst 1, 1) := by decide +kernel
theorem dX6_isZeroOrOne_10 : decode cX6_isZeroOrOne 10 = .ok (.goto 4, 3) := by decide +kernel
theorem dX6_isZeroOrOne_13 : decode cX6_isZeroOrOne 13 = .ok (.iconst 0, 1) := by decide +kernel
theorem dX6_isZeroOrOne_14 : decode cX6_isZeroOrOne 14 = .ok (.ireturn, 1) := by decide +kernel
theorem dX6_hasBit_0 : decode cX6_hasBit 0 = .ok (.iload_n 0, 1) := by decide +kernel
theorem dX6_hasBit_1 : decode cX6_hasBit 1 = .ok (.iload_n 1, 1) := by decide +kernel
theorem dX6_hasBit_2 : decode cX6_hasBit 2 = .ok (.ishr, 1) := by decide +kernel
theorem dX6_hasBit_3 : decode cX6_hasBit 3 = .ok (.iconst 1, 1) := by decide +kernel
theorem dX6_hasBit_4 : decode cX6_hasBit 4 = .ok (.iand, 1) := by decide +kernel
theorem dX6_hasBit_5 : decode cX6_hasBit 5 = .ok (.iconst 1, 1) := by decide +kernel
theorem dX6_hasBit_6 : decode cX6_hasBit 6 = .ok (.if_icmp .ne 7, 3) := by decide +kernel
theorem dX6_hasBit_9 : decode cX6_hasBit 9 = .ok (.iconst 1, 1) := by decide +kernel
theorem dX6_hasBit_10 : decode cX6_hasBit 10 = .ok (.goto 4, 3) := by decide +kernel
theorem dX6_hasBit_13 : decode cX6_hasBit 13 = .ok (.iconst 0, 1) := by decide +kernel
theorem dX6_hasBit_14 : decode cX6_hasBit 14 = .ok (.ireturn, 1) := by decide +kernel
theorem dX6_bitsOf_0 : decode cX6_bitsOf 0 = .ok (.fload_n 0, 1) := by decide +kernel
theorem dX6_bitsOf_1 : decode cX6_bitsOf 1 = .ok (.fconst 0, 1) := by decide +kernel
theorem dX6_bitsOf_2 : decode cX6_bitsOf 2 = .ok (.fcmp .g, 1) := by decide +kernel
theorem dX6_bitsOf_3 : decode cX6_bitsOf 3 = .ok (.ifCond .gt 5, 3) := by decide +kernel
theorem dX6_bitsOf_6 : decode cX6_bitsOf 6 = .ok (.iconst 0, 1) := by decide +kernel
theorem dX6_bitsOf_7 : decode cX6_bitsOf 7 = .ok (.ireturn, 1) := by decide +kernel
theorem dX6_bitsOf_8 : decode cX6_bitsOf 8 = .ok (.fload_n 0, 1) := by decide +kernel
theorem dX6_bitsOf_9 : decode cX6_bitsOf 9 = .ok (.fstore_n 1, 1) := by decide +kernel
theorem dX6_bitsOf_10 : decode cX6_bitsOf 10 = .ok (.bipush 127, 2) := by decide +kernel
theorem dX6_bitsOf_12 : decode cX6_bitsOf 12 = .ok (.istore_n 2, 1) := by decide +kernel
theorem dX6_bitsOf_13 : decode cX6_bitsOf 13 = .ok (.fload_n 1, 1) := by decide +kernel
theorem dX6_bitsOf_14 : decode cX6_bitsOf 14 = .ok (.fconst 1, 1) := by decide +kernel
theorem dX6_bitsOf_15 : decode cX6_bitsOf 15 = .ok (.fcmp .g, 1) := by decide +kernel
theorem dX6_bitsOf_16 : decode cX6_bitsOf 16 = .ok (.ifCond .ge 18, 3) := by decide +kernel
theorem dX6_bitsOf_19 : decode cX6_bitsOf 19 = .ok (.iload_n 2, 1) := by decide +kernel
theorem dX6_bitsOf_20 : decode cX6_bitsOf 20 = .ok (.iconst 1, 1) := by decide +kernel
theorem dX6_bitsOf_21 : decode cX6_bitsOf 21 = .ok (.if_icmp .le 13, 3) := by decide +kernel
theorem dX6_bitsOf_24 : decode cX6_bitsOf 24 = .ok (.fload_n 1, 1) := by decide +kernel
theorem dX6_bitsOf_25 : decode cX6_bitsOf 25 = .ok (.fconst 2, 1) := by decide +kernel
theorem dX6_bitsOf_26 : decode cX6_bitsOf 26 = .ok (.fmul, 1) := by decide +kernel
theorem dX6_bitsOf_27 : decode cX6_bitsOf 27 = .ok (.fstore_n 1, 1) := by decide +kernel
theorem dX6_bitsOf_28 : decode cX6_bitsOf 28 = .ok (.iinc 2 (-1), 3) := by decide +kernel
theorem dX6_bitsOf_31 : decode cX6_bitsOf 31 = .ok (.goto (-18), 3) := by decide +kernel
theorem dX6_bitsOf_34 : decode cX6_bitsOf 34 = .ok (.iload_n 2, 1) := by decide +kernel
theorem dX6_bitsOf_35 : decode cX6_bitsOf 35 = .ok (.bipush 23, 2) := by decide +kernel
theorem dX6_bitsOf_37 : decode cX6_bitsOf 37 = .ok (.ishl, 1) := by decide +kernel
theorem dX6_bitsOf_38 : decode cX6_bitsOf 38 = .ok (.fload_n 1, 1) := by decide +kernel
theorem dX6_bitsOf_39 : decode cX6_bitsOf 39 = .ok (.fconst 1, 1) := by decide +kernel
theorem dX6_bitsOf_40 : decode cX6_bitsOf 40 = .ok (.fsub, 1) := by decide +kernel
theorem dX6_bitsOf_41 : decode cX6_bitsOf 41 = .ok (.ldc_w 266, 3) := by decide +kernel
theorem dX6_bitsOf_44 : decode cX6_bitsOf 44 = .ok (.fmul, 1) := by decide +kernel
theorem dX6_bitsOf_45 : decode cX6_bitsOf 45 = .ok (.f2i, 1) := by decide +kernel
theorem dX6_bitsOf_46 : decode cX6_bitsOf 46 = .ok (.iadd, 1) := by decide +kernel
theorem dX6_bitsOf_47 : decode cX6_bitsOf 47 = .ok (.ireturn, 1) := by decide +kernel
theorem dX7_init_0 : decode cX7_init 0 = .ok (.aload_n 0, 1) := by decide +kernel
theorem dX7_init_1 : decode cX7_init 1 = .ok (.invokespecial 1, 3) := by decide +kernel
theorem dX7_init_4 : decode cX7_init 4 = .ok (.aload_n 0, 1) := by decide +kernel
theorem dX7_init_5 : decode cX7_init 5 = .ok (.bipush 88, 2) := by decide +kernel
theorem dX7_init_7 : decode cX7_init 7 = .ok (.newarray .int, 2) := by decide +kernel
theorem dX7_init_9 : decode cX7_init 9 = .ok (.putfield 7, 3) := by decide +kernel
theorem dX7_init_12 : decode cX7_init 12 = .ok (.aload_n 0, 1) := by decide +kernel
theorem dX7_init_13 : decode cX7_init 13 = .ok (.sipush 352, 3) := by decide +kernel
theorem dX7_init_16 : decode cX7_init 16 = .ok (.newarray .int, 2) := by decide +kernel
theorem dX7_init_18 : decode cX7_init 18 = .ok (.putfield 13, 3) := by decide +kernel
theorem dX7_init_21 : decode cX7_init 21 = .ok (.aload_n 0, 1) := by decide +kernel
theorem dX7_init_22 : decode cX7_init 22 = .ok (.bipush 88, 2) := by decide +kernel
theorem dX7_init_24 : decode cX7_init 24 = .ok (.newarray .int, 2) := by decide +kernel
theorem dX7_init_26 : decode cX7_init 26 = .ok (.putfield 16, 3) := by decide +kernel
theorem dX7_init_29 : decode cX7_init 29 = .ok (.aload_n 0, 1) := by decide +kernel
theorem dX7_init_30 : decode cX7_init 30 = .ok (.sipush 363, 3) := by decide +kernel
theorem dX7_init_33 : decode cX7_init 33 = .ok (.newarray .int, 2) := by decide +kernel
theorem dX7_init_35 : decode cX7_init 35 = .ok (.putfield 19, 3) := by decide +kernel
theorem dX7_init_38 : decode cX7_init 38 = .ok (.aload_n 0, 1) := by decide +kernel
theorem dX7_init_39 : decode cX7_init 39 = .ok (.bipush 77, 2) := by decide +kernel
theorem dX7_init_41 : decode cX7_init 41 = .ok (.newarray .int, 2) := by decide +kernel
theorem dX7_init_43 : decode cX7_init 43 = .ok (.putfield 22, 3) := by decide +kernel
theorem dX7_init_46 : decode cX7_init 46 = .ok (.aload_n 0, 1) := by decide +kernel
theorem dX7_init_47 : decode cX7_init 47 = .ok (.bipush 100, 2) := by decide +kernel
theorem dX7_init_49 : decode cX7_init 49 = .ok (.newarray .int, 2) := by decide +kernel
theorem dX7_init_51 : decode cX7_init 51 = .ok (.putfield 25, 3) := by decide +kernel
theorem dX7_init_54 : decode cX7_init 54 = .ok (.aload_n 0, 1) := by decide +kernel
theorem dX7_init_55 : decode cX7_init 55 = .ok (.bipush 9, 2) := by decide +kernel
theorem dX7_init_57 : decode cX7_init 57 = .ok (.newarray .int, 2) := by decide +kernel
theorem dX7_init_59 : decode cX7_init 59 = .ok (.putfield 28, 3) := by decide +kernel
theorem dX7_init_62 : decode cX7_init 62 = .ok (.aload_n 0, 1) := by decide +kernel
theorem dX7_init_63 : decode cX7_init 63 = .ok (.getfield 7, 3) := by decide +kernel
theorem dX7_init_66 : decode cX7_init 66 = .ok (.iconst 4, 1) := by decide +kernel
theorem dX7_init_67 : decode cX7_init 67 = .ok (.iconst 3, 1) := by decide +kernel
theorem dX7_init_68 : decode cX7_init 68 = .ok (.iastore, 1) := by decide +kernel
theorem dX7_init_69 : decode cX7_init 69 = .ok (.aload_n 0, 1) := by decide +kernel
theorem dX7_init_70 : decode cX7_init 70 = .ok (.getfield 7, 3) := by decide +kernel
theorem dX7_init_73 : decode cX7_init 73 = .ok (.bipush 6, 2) := by decide +kernel
theorem dX7_init_75 : decode cX7_init 75 = .ok (.iconst (-1), 1) := by decide +kernel
theorem dX7_init_76 : decode cX7_init 76 = .ok (.iastore, 1) := by decide +kernel
theorem dX7_init_77 : decode cX7_init 77 = .ok (.aload_n 0, 1) := by decide +kernel
theorem dX7_init_78 : decode cX7_init 78 = .ok (.getfield 7, 3) := by decide +kernel
theorem dX7_init_81 : decode cX7_init 81 = .ok (.bipush 7, 2) := by decide +kernel
theorem dX7_init_83 : decode cX7_init 83 = .ok (.sipush 1024, 3) := by decide +kernel
theorem dX7_init_86 : decode cX7_init 86 = .ok (.iastore, 1) := by decide +kernel
theorem dX7_init_87 : decode cX7_init 87 = .ok (.iconst 0, 1) := by decide +kernel
theorem dX7_init_88 : decode cX7_init 88 = .ok (.istore_n 1, 1) := by decide +kernel
theorem dX7_init_89 : decode cX7_init 89 = .ok (.iload_n 1, 1) := by decide +kernel
theorem dX7_init_90 : decode cX7_init 90 = .ok (.bipush 10, 2) := by decide +kernel
theorem dX7_init_92 : decode cX7_init 92 = .ok (.if_icmp .ge 19, 3) := by decide +kernel
theorem dX7_init_95 : decode cX7_init 95 = .ok (.aload_n 0, 1) := by decide +kernel
theorem dX7_init_96 : decode cX7_init 96 = .ok (.getfield 7, 3) := by decide +kernel
theorem dX7_init_99 : decode cX7_init 99 = .ok (.bipush 62, 2) := by decide +kernel
theorem dX7_init_101 : decode cX7_init 101 = .ok (.iload_n 1, 1) := by decide +kernel
theorem dX7_init_102 : decode cX7_init 102 = .ok (.iadd, 1) := by decide +kernel
theorem dX7_init_103 : decode cX7_init 103 = .ok (.iconst (-1), 1) := by decide +kernel
theorem dX7_init_104 : decode cX7_init 104 = .ok (.iastore, 1) := by decide +kernel
theorem dX7_init_105 : decode cX7_init 105 = .ok (.iinc 1 1, 3) := by decide +kernel
theorem dX7_init_108 : decode cX7_init 108 = .ok (.goto (-19), 3) := by decide +kernel
theorem dX7_init_111 : decode cX7_init 111 = .ok (.return_, 1) := by decide +kernel
theorem dX7_isIn_0 : decode cX7_isIn 0 = .ok (.iload_n 0, 1) := by decide +kernel
theorem dX7_isIn_1 : decode cX7_isIn 1 = .ok (.iload_n 1, 1) := by decide +kernel
theorem dX7_isIn_2 : decode cX7_isIn 2 = .ok (.if_icmp .lt 12, 3) := by decide +kernel
theorem dX7_isIn_5 : decode cX7_isIn 5 = .ok (.iload_n 0, 1) := by decide +kernel
theorem dX7_isIn_6 : decode cX7_isIn 6 = .ok (.iload_n 2, 1) := by decide +kernel
theorem dX7_isIn_7 : decode cX7_isIn 7 = .ok (.if_icmp .gt 7, 3) := by decide +kernel
theorem dX7_isIn_10 : decode cX7_isIn 10 = .ok (.iconst 1, 1) := by decide +kernel
theorem dX7_isIn_11 : decode cX7_isIn 11 = .ok (.goto 4, 3) := by decide +kernel
theorem dX7_isIn_14 : decode cX7_isIn 14 = .ok (.iconst 0, 1) := by decide +kernel
theorem dX7_isIn_15 : decode cX7_isIn 15 = .ok (.ireturn, 1) := by decide +kernel
theorem dX7_has_0 : decode cX7_has 0 = .ok (.iload_n 0, 1) := by decide +kernel
theorem dX7_has_1 : decode cX7_has 1 = .ok (.iload_n 1, 1) := by decide +kernel
theorem dX7_has_2 : decode cX7_has 2 = .ok (.ishr, 1) := by decide +kernel
theorem dX7_has_3 : decode cX7_has 3 = .ok (.iconst 1, 1) := by decide +kernel
theorem dX7_has_4 : decode cX7_has 4 = .ok (.iand, 1) := by decide +kernel
theorem dX7_has_5 : decode cX7_has 5 = .ok (.iconst 1, 1) := by decide +kernel
theorem dX7_has_6 : decode cX7_has 6 = .ok (.if_icmp .ne 7, 3) := by decide +kernel
theorem dX7_has_9 : decode cX7_has 9 = .ok (.iconst 1, 1) := by decide +kernel
theorem dX7_has_10 : decode cX7_has 10 = .ok (.goto 4, 3) := by decide +kernel
theorem dX7_has_13 : decode cX7_has 13 = .ok (.iconst 0, 1) := by decide +kernel
theorem dX7_has_14 : decode cX7_has 14 = .ok (.ireturn, 1) := by decide +kernel
theorem dX7_ones_0 : decode cX7_ones 0 = .ok (.iconst 0, 1) := by decide +kernel
theorem dX7_ones_1 : decode cX7_ones 1 = .ok (.istore_n 1, 1) := by decide +kernel
theorem dX7_ones_2 : decode cX7_ones 2 = .ok (.iconst 0, 1) := by decide +kernel
theorem dX7_ones_3 : decode cX7_ones 3 = .ok (.istore_n 2, 1) := by decide +kernel
theorem dX7_ones_4 : decode cX7_ones 4 = .ok (.iload_n 2, 1) := by decide +kernel
theorem dX7_ones_5 : decode cX7_ones 5 = .ok (.bipush 16, 2) := by decide +kernel
theorem dX7_ones_7 : decode cX7_ones 7 = .ok (.if_icmp .ge 17, 3) := by decide +kernel
theorem dX7_ones_10 : decode cX7_ones 10 = .ok (.iload_n 1, 1) := by decide +kernel
theorem dX7_ones_11 : decode cX7_ones 11 = .ok (.iload_n 0, 1) := by decide +kernel
theorem dX7_ones_12 : decode cX7_ones 12 = .ok (.iload_n 2, 1) := by decide +kernel
theorem dX7_ones_13 : decode cX7_ones 13 = .ok (.ishr, 1) := by decide +kernel
theorem dX7_ones_14 : decode cX7_ones 14 = .ok (.iconst 1, 1) := by decide +kernel
theorem dX7_ones_15 : decode cX7_ones 15 = .ok (.iand, 1) := by decide +kernel
theorem dX7_ones_16 : decode cX7_ones 16 = .ok (.iadd, 1) := by decide +kernel
theorem dX7_ones_17 : decode cX7_ones 17 = .ok (.istore_n 1, 1) := by decide +kernel
theorem dX7_ones_18 : decode cX7_ones 18 = .ok (.iinc 2 1, 3) := by decide +kernel
theorem dX7_ones_21 : decode cX7_ones 21 = .ok (.goto (-17), 3) := by decide +kernel
theorem dX7_ones_24 : decode cX7_ones 24 = .ok (.iload_n 1, 1) := by decide +kernel
theorem dX7_ones_25 : decode cX7_ones 25 = .ok (.ireturn, 1) := by decide +kernel
theorem dX7_records_0 : decode cX7_records 0 = .ok (.aload_n 0, 1) := by decide +kernel
theorem dX7_records_1 : decode cX7_records 1 = .ok (.getfield 31, 3) := by decide +kernel
theorem dX7_records_4 : decode cX7_records 4 = .ok (.iconst 4, 1) := by decide +kernel
theorem dX7_records_5 : decode cX7_records 5 = .ok (.if_icmp .ne 43, 3) := by decide +kernel
theorem dX7_records_8 : decode cX7_records 8 = .ok (.iconst 0, 1) := by decide +kernel
theorem dX7_records_9 : decode cX7_records 9 = .ok (.istore_n 1, 1) := by decide +kernel
theorem dX7_records_10 : decode cX7_records 10 = .ok (.iload_n 1, 1) := by decide +kernel
theorem dX7_records_11 : decode cX7_records 11 = .ok (.sipush 264, 3) := by decide +kernel
theorem dX7_records_14 : decode cX7_records 14 = .ok (.if_icmp .ge 24, 3) := by decide +kernel
theorem dX7_records_17 : decode cX7_records 17 = .ok (.aload_n 0, 1) := by decide +kernel
theorem dX7_records_18 : decode cX7_records 18 = .ok (.getfield 13, 3) := by decide +kernel
theorem dX7_records_21 : decode cX7_records 21 = .ok (.iload_n 1, 1) := by decide +kernel
theorem dX7_records_22 : decode cX7_records 22 = .ok (.aload_n 0, 1) := by decide +kernel
theorem dX7_records_23 : decode cX7_records 23 = .ok (.getfield 13, 3) := by decide +kernel
theorem dX7_records_26 : decode cX7_records 26 = .ok (.iload_n 1, 1) := by decide +kernel
theorem dX7_records_27 : decode cX7_records 27 = .ok (.bipush 88, 2) := by decide +kernel
theorem dX7_records_29 : decode cX7_records 29 = .ok (.iadd, 1) := by decide +kernel
theorem dX7_records_30 : decode cX7_records 30 = .ok (.iaload, 1) := by decide +kernel
theorem dX7_records_31 : decode cX7_records 31 = .ok (.iastore, 1) := by decide +kernel
theorem dX7_records_32 : decode cX7_records 32 = .ok (.iinc 1 1, 3) := by decide +kernel
theorem dX7_records_35 : decode cX7_records 35 = .ok (.goto (-25), 3) := by decide +kernel
theorem dX7_records_38 : decode cX7_records 38 = .ok (.aload_n 0, 1) := by decide +kernel
theorem dX7_records_39 : decode cX7_records 39 = .ok (.dup, 1) := by decide +kernel
theorem dX7_records_40 : decode cX7_records 40 = .ok (.getfield 31, 3) := by decide +kernel
theorem dX7_records_43 : decode cX7_records 43 = .ok (.iconst 1, 1) := by decide +kernel
theorem dX7_records_44 : decode cX7_records 44 = .ok (.isub, 1) := by decide +kernel
theorem dX7_records_45 : decode cX7_records 45 = .ok (.putfield 31, 3) := by decide +kernel
theorem dX7_records_48 : decode cX7_records 48 = .ok (.iconst 0, 1) := by decide +kernel
theorem dX7_records_49 : decode cX7_records 49 = .ok (.istore_n 1, 1) := by decide +kernel
theorem dX7_records_50 : decode cX7_records 50 = .ok (.iload_n 1, 1) := by decide +kernel
theorem dX7_records_51 : decode cX7_records 51 = .ok (.bipush 88, 2) := by decide +kernel
theorem dX7_records_53 : decode cX7_records 53 = .ok (.if_icmp .ge 29, 3) := by decide +kernel
theorem dX7_records_56 : decode cX7_records 56 = .ok (.aload_n 0, 1) := by decide +kernel
theorem dX7_records_57 : decode cX7_records 57 = .ok (.getfield 13, 3) := by decide +kernel
theorem dX7_records_60 : decode cX7_records 60 = .ok (.aload_n 0, 1) := by decide +kernel
theorem dX7_records_61 : decode cX7_records 61 = .ok (.getfield 31, 3) := by decide +kernel
theorem dX7_records_64 : decode cX7_records 64 = .ok (.bipush 88, 2) := by decide +kernel
theorem dX7_records_66 : decode cX7_records 66 = .ok (.imul, 1) := by decide +kernel
theorem dX7_records_67 : decode cX7_records 67 = .ok (.iload_n 1, 1) := by decide +kernel
theorem dX7_records_68 : decode cX7_records 68 = .ok (.iadd, 1) := by decide +kernel
theorem dX7_records_69 : decode cX7_records 69 = .ok (.aload_n 0, 1) := by decide +kernel
theorem dX7_records_70 : decode cX7_records 70 = .ok (.getfield 7, 3) := by decide +kernel
theorem dX7_records_73 : decode cX7_records 73 = .ok (.iload_n 1, 1) := by decide +kernel
theorem dX7_records_74 : decode cX7_records 74 = .ok (.iaload, 1) := by decide +kernel
theorem dX7_records_75 : decode cX7_records 75 = .ok (.iastore, 1) := by decide +kernel
theorem dX7_records_76 : decode cX7_records 76 = .ok (.iinc 1 1, 3) := by decide +kernel
theorem dX7_records_79 : decode cX7_records 79 = .ok (.goto (-29), 3) := by decide +kernel
theorem dX7_records_82 : decode cX7_records 82 = .ok (.aload_n 0, 1) := by decide +kernel
theorem dX7_records_83 : decode cX7_records 83 = .ok (.dup, 1) := by decide +kernel
theorem dX7_records_84 : decode cX7_records 84 = .ok (.getfield 31, 3) := by decide +kernel
theorem dX7_records_87 : decode cX7_records 87 = .ok (.iconst 1, 1) := by decide +kernel
theorem dX7_records_88 : decode cX7_records 88 = .ok (.iadd, 1) := by decide +kernel
theorem dX7_records_89 : decode cX7_records 89 = .ok (.putfield 31, 3) := by decide +kernel
theorem dX7_records_92 : decode cX7_records 92 = .ok (.return_, 1) := by decide +kernel
theorem dX7_undo_0 : decode cX7_undo 0 = .ok (.aload_n 0, 1) := by decide +kernel
theorem dX7_undo_1 : decode cX7_undo 1 = .ok (.getfield 31, 3) := by decide +kernel
theorem dX7_undo_4 : decode cX7_undo 4 = .ok (.ifCond .ne 6, 3) := by decide +kernel
theorem dX7_undo_7 : decode cX7_undo 7 = .ok (.ldc 35, 2) := by decide +kernel
theorem dX7_undo_9 : decode cX7_undo 9 = .ok (.ireturn, 1) := by decide +kernel
theorem dX7_undo_10 : decode cX7_undo 10 = .ok (.aload_n 0, 1) := by decide +kernel
theorem dX7_undo_11 : decode cX7_undo 11 = .ok (.dup, 1) := by decide +kernel
theorem dX7_undo_12 : decode cX7_undo 12 = .ok (.getfield 31, 3) := by decide +kernel
theorem dX7_undo_15 : decode cX7_undo 15 = .ok (.iconst 1, 1) := by decide +kernel
theorem dX7_undo_16 : decode cX7_undo 16 = .ok (.isub, 1) := by decide +kernel
theorem dX7_undo_17 : decode cX7_undo 17 = .ok (.putfield 31, 3) := by decide +kernel
theorem dX7_undo_20 : decode cX7_undo 20 = .ok (.iconst 0, 1) := by decide +kernel
theorem dX7_undo_21 : decode cX7_undo 21 = .ok (.istore_n 1, 1) := by decide +kernel
theorem dX7_undo_22 : decode cX7_undo 22 = .ok (.iload_n 1, 1) := by decide +kernel
theorem dX7_undo_23 : decode cX7_undo 23 = .ok (.bipush 88, 2) := by decide +kernel
theorem dX7_undo_25 : decode cX7_undo 25 = .ok (.if_icmp .ge 29, 3) := by decide +kernel
theorem dX7_undo_28 : decode cX7_undo 28 = .ok (.aload_n 0, 1) := by decide +kernel
theorem dX7_undo_29 : decode cX7_undo 29 = .ok (.getfield 7, 3) := by decide +kernel
theorem dX7_undo_32 : decode cX7_undo 32 = .ok (.iload_n 1, 1) := by decide +kernel
theorem dX7_undo_33 : decode cX7_undo 33 = .ok (.aload_n 0, 1) := by decide +kernel
theorem dX7_undo_34 : decode cX7_undo 34 = .ok (.getfield 13, 3) := by decide +kernel
theorem dX7_undo_37 : decode cX7_undo 37 = .ok (.aload_n 0, 1) := by decide +kernel
theorem dX7_undo_38 : decode cX7_undo 38 = .ok (.getfield 31, 3) := by decide +kernel
theorem dX7_undo_41 : decode cX7_undo 41 = .ok (.bipush 88, 2) := by decide +kernel
theorem dX7_undo_43 : decode cX7_undo 43 = .ok (.imul, 1) := by decide +kernel
theorem dX7_undo_44 : decode cX7_undo 44 = .ok (.iload_n 1, 1) := by decide +kernel
theorem dX7_undo_45 : decode cX7_undo 45 = .ok (.iadd, 1) := by decide +kernel
theorem dX7_undo_46 : decode cX7_undo 46 = .ok (.iaload, 1) := by decide +kernel
theorem dX7_undo_47 : decode cX7_undo 47 = .ok (.iastore, 1) := by decide +kernel
theorem dX7_undo_48 : decode cX7_undo 48 = .ok (.iinc 1 1, 3) := by decide +kernel
theorem dX7_undo_51 : decode cX7_undo 51 = .ok (.goto (-29), 3) := by decide +kernel
theorem dX7_undo_54 : decode cX7_undo 54 = .ok (.aload_n 0, 1) := by decide +kernel
theorem dX7_undo_55 : decode cX7_undo 55 = .ok (.getfield 31, 3) := by decide +kernel
theorem dX7_undo_58 : decode cX7_undo 58 = .ok (.ireturn, 1) := by decide +kernel
theorem dX7_netOf_0 : decode cX7_netOf 0 = .ok (.iconst 0, 1) := by decide +kernel
theorem dX7_netOf_1 : decode cX7_netOf 1 = .ok (.istore_n 2, 1) := by decide +kernel
theorem dX7_netOf_2 : decode cX7_netOf 2 = .ok (.iload_n 2, 1) := by decide +kernel
theorem dX7_netOf_3 : decode cX7_netOf 3 = .ok (.aload_n 0, 1) := by decide +kernel
theorem dX7_netOf_4 : decode cX7_netOf 4 = .ok (.getfield 7, 3) := by decide +kernel
theorem dX7_netOf_7 : decode cX7_netOf 7 = .ok (.iconst 0, 1) := by decide +kernel
theorem dX7_netOf_8 : decode cX7_netOf 8 = .ok (.iaload, 1) := by decide +kernel
theorem dX7_netOf_9 : decode cX7_netOf 9 = .ok (.if_icmp .ge 27, 3) := by decide +kernel
theorem dX7_netOf_12 : decode cX7_netOf 12 = .ok (.aload_n 0, 1) := by decide +kernel
theorem dX7_netOf_13 : decode cX7_netOf 13 = .ok (.getfield 7, 3) := by decide +kernel
theorem dX7_netOf_16 : decode cX7_netOf 16 = .ok (.bipush 9, 2) := by decide +kernel
theorem dX7_netOf_18 : decode cX7_netOf 18 = .ok (.iload_n 2, 1) := by decide +kernel
theorem dX7_netOf_19 : decode cX7_netOf 19 = .ok (.iadd, 1) := by decide +kernel
theorem dX7_netOf_20 : decode cX7_netOf 20 = .ok (.iaload, 1) := by decide +kernel
theorem dX7_netOf_21 : decode cX7_netOf 21 = .ok (.iload_n 1, 1) := by decide +kernel
theorem dX7_netOf_22 : decode cX7_netOf 22 = .ok (.invokestatic 36, 3) := by decide +kernel
theorem dX7_netOf_25 : decode cX7_netOf 25 = .ok (.ifCond .eq 5, 3) := by decide +kernel
theorem dX7_netOf_28 : decode cX7_netOf 28 = .ok (.iload_n 2, 1) := by decide +kernel
theorem dX7_netOf_29 : decode cX7_netOf 29 = .ok (.ireturn, 1) := by decide +kernel
theorem dX7_netOf_30 : decode cX7_netOf 30 = .ok (.iinc 2 1, 3) := by decide +kernel
theorem dX7_netOf_33 : decode cX7_netOf 33 = .ok (.goto (-31), 3) := by decide +kernel
theorem dX7_netOf_36 : decode cX7_netOf 36 = .ok (.iconst (-1), 1) := by decide +kernel
theorem dX7_netOf_37 : decode cX7_netOf 37 = .ok (.ireturn, 1) := by decide +kernel
theorem dX7_roleOf_0 : decode cX7_roleOf 0 = .ok (.aload_n 0, 1) := by decide +kernel
theorem dX7_roleOf_1 : decode cX7_roleOf 1 = .ok (.getfield 7, 3) := by decide +kernel
theorem dX7_roleOf_4 : decode cX7_roleOf 4 = .ok (.bipush 17, 2) := by decide +kernel
theorem dX7_roleOf_6 : decode cX7_roleOf 6 = .ok (.iload_n 1, 1) := by decide +kernel
theorem dX7_roleOf_7 : decode cX7_roleOf 7 = .ok (.iadd, 1) := by decide +kernel
theorem dX7_roleOf_8 : decode cX7_roleOf 8 = .ok (.iaload, 1) := by decide +kernel
theorem dX7_roleOf_9 : decode cX7_roleOf 9 = .ok (.iload_n 2, 1) := by decide +kernel
theorem dX7_roleOf_10 : decode cX7_roleOf 10 = .ok (.if_icmp .ne 5, 3) := by decide +kernel
theorem dX7_roleOf_13 : decode cX7_roleOf 13 = .ok (.iconst 0, 1) := by decide +kernel
theorem dX7_roleOf_14 : decode cX7_roleOf 14 = .ok (.ireturn, 1) := by decide +kernel
theorem dX7_roleOf_15 : decode cX7_roleOf 15 = .ok (.aload_n 0, 1) := by decide +kernel
theorem dX7_roleOf_16 : decode cX7_roleOf 16 = .ok (.getfield 7, 3) := by decide +kernel
theorem dX7_roleOf_19 : decode cX7_roleOf 19 = .ok (.bipush 22, 2) := by decide +kernel
theorem dX7_roleOf_21 : decode cX7_roleOf 21 = .ok (.iload_n 1, 1) := by decide +kernel
theorem dX7_roleOf_22 : decode cX7_roleOf 22 = .ok (.iadd, 1) := by decide +kernel
theorem dX7_roleOf_23 : decode cX7_roleOf 23 = .ok (.iaload, 1) := by decide +kernel
theorem dX7_roleOf_24 : decode cX7_roleOf 24 = .ok (.iload_n 2, 1) := by decide +kernel
theorem dX7_roleOf_25 : decode cX7_roleOf 25 = .ok (.if_icmp .ne 5, 3) := by decide +kernel
theorem dX7_roleOf_28 : decode cX7_roleOf 28 = .ok (.iconst 1, 1) := by decide +kernel
theorem dX7_roleOf_29 : decode cX7_roleOf 29 = .ok (.ireturn, 1) := by decide +kernel
theorem dX7_roleOf_30 : decode cX7_roleOf 30 = .ok (.aload_n 0, 1) := by decide +kernel
theorem dX7_roleOf_31 : decode cX7_roleOf 31 = .ok (.getfield 7, 3) := by decide +kernel
theorem dX7_roleOf_34 : decode cX7_roleOf 34 = .ok (.bipush 27, 2) := by decide +kernel
theorem dX7_roleOf_36 : decode cX7_roleOf 36 = .ok (.iload_n 1, 1) := by decide +kernel
theorem dX7_roleOf_37 : decode cX7_roleOf 37 = .ok (.iadd, 1) := by decide +kernel
theorem dX7_roleOf_38 : decode cX7_roleOf 38 = .ok (.iaload, 1) := by decide +kernel
theorem dX7_roleOf_39 : decode cX7_roleOf 39 = .ok (.iload_n 2, 1) := by decide +kernel
theorem dX7_roleOf_40 : decode cX7_roleOf 40 = .ok (.invokestatic 36, 3) := by decide +kernel
theorem dX7_roleOf_43 : decode cX7_roleOf 43 = .ok (.ifCond .eq 7, 3) := by decide +kernel
theorem dX7_roleOf_46 : decode cX7_roleOf 46 = .ok (.iconst 2, 1) := by decide +kernel
theorem dX7_roleOf_47 : decode cX7_roleOf 47 = .ok (.goto 4, 3) := by decide +kernel
theorem dX7_roleOf_50 : decode cX7_roleOf 50 = .ok (.iconst (-1), 1) := by decide +kernel
theorem dX7_roleOf_51 : decode cX7_roleOf 51 = .ok (.ireturn, 1) := by decide +kernel
theorem dX7_chipOf_0 : decode cX7_chipOf 0 = .ok (.iconst 0, 1) := by decide +kernel
theorem dX7_chipOf_1 : decode cX7_chipOf 1 = .ok (.istore_n 2, 1) := by decide +kernel
theorem dX7_chipOf_2 : decode cX7_chipOf 2 = .ok (.iload_n 2, 1) := by decide +kernel
theorem dX7_chipOf_3 : decode cX7_chipOf 3 = .ok (.aload_n 0, 1) := by decide +kernel
theorem dX7_chipOf_4 : decode cX7_chipOf 4 = .ok (.getfield 7, 3) := by decide +kernel
theorem dX7_chipOf_7 : decode cX7_chipOf 7 = .ok (.iconst 1, 1) := by decide +kernel
theorem dX7_chipOf_8 : decode cX7_chipOf 8 = .ok (.iaload, 1) := by decide +kernel
theorem dX7_chipOf_9 : decode cX7_chipOf 9 = .ok (.if_icmp .ge 21, 3) := by decide +kernel
theorem dX7_chipOf_12 : decode cX7_chipOf 12 = .ok (.aload_n 0, 1) := by decide +kernel
theorem dX7_chipOf_13 : decode cX7_chipOf 13 = .ok (.iload_n 2, 1) := by decide +kernel
theorem dX7_chipOf_14 : decode cX7_chipOf 14 = .ok (.iload_n 1, 1) := by decide +kernel
theorem dX7_chipOf_15 : decode cX7_chipOf 15 = .ok (.invokevirtual 40, 3) := by decide +kernel
theorem dX7_chipOf_18 : decode cX7_chipOf 18 = .ok (.iconst (-1), 1) := by decide +kernel
theorem dX7_chipOf_19 : decode cX7_chipOf 19 = .ok (.if_icmp .eq 5, 3) := by decide +kernel
theorem dX7_chipOf_22 : decode cX7_chipOf 22 = .ok (.iload_n 2, 1) := by decide +kernel
theorem dX7_chipOf_23 : decode cX7_chipOf 23 = .ok (.ireturn, 1) := by decide +kernel
theorem dX7_chipOf_24 : decode cX7_chipOf 24 = .ok (.iinc 2 1, 3) := by decide +kernel
theorem dX7_chipOf_27 : decode cX7_chipOf 27 = .ok (.goto (-25), 3) := by decide +kernel
theorem dX7_chipOf_30 : decode cX7_chipOf 30 = .ok (.iconst (-1), 1) := by decide +kernel
theorem dX7_chipOf_31 : decode cX7_chipOf 31 = .ok (.ireturn, 1) := by decide +kernel
theorem dX7_checksNet_0 : decode cX7_checksNet 0 = .ok (.iload_n 1, 1) := by decide +kernel
theorem dX7_checksNet_1 : decode cX7_checksNet 1 = .ok (.iconst 0, 1) := by decide +kernel
theorem dX7_checksNet_2 : decode cX7_checksNet 2 = .ok (.ldc 44, 2) := by decide +kernel
theorem dX7_checksNet_4 : decode cX7_checksNet 4 = .ok (.invokestatic 45, 3) := by decide +kernel
theorem dX7_checksNet_7 : decode cX7_checksNet 7 = .ok (.ifCond .eq 15, 3) := by decide +kernel
theorem dX7_checksNet_10 : decode cX7_checksNet 10 = .ok (.iload_n 1, 1) := by decide +kernel
theorem dX7_checksNet_11 : decode cX7_checksNet 11 = .ok (.invokestatic 49, 3) := by decide +kernel
theorem dX7_checksNet_14 : decode cX7_checksNet 14 = .ok (.iconst 2, 1) := by decide +kernel
theorem dX7_checksNet_15 : decode cX7_checksNet 15 = .ok (.iconst 5, 1) := by decide +kernel
theorem dX7_checksNet_16 : decode cX7_checksNet 16 = .ok (.invokestatic 45, 3) := by decide +kernel
theorem dX7_checksNet_19 : decode cX7_checksNet 19 = .ok (.ifCond .ne 6, 3) := by decide +kernel
theorem dX7_checksNet_22 : decode cX7_checksNet 22 = .ok (.ldc 53, 2) := by decide +kernel
theorem dX7_checksNet_24 : decode cX7_checksNet 24 = .ok (.ireturn, 1) := by decide +kernel
theorem dX7_checksNet_25 : decode cX7_checksNet 25 = .ok (.iconst 0, 1) := by decide +kernel
theorem dX7_checksNet_26 : decode cX7_checksNet 26 = .ok (.istore_n 2, 1) := by decide +kernel
theorem dX7_checksNet_27 : decode cX7_checksNet 27 = .ok (.iload_n 2, 1) := by decide +kernel
theorem dX7_checksNet_28 : decode cX7_checksNet 28 = .ok (.bipush 16, 2) := by decide +kernel
theorem dX7_checksNet_30 : decode cX7_checksNet 30 = .ok (.if_icmp .ge 29, 3) := by decide +kernel
theorem dX7_checksNet_33 : decode cX7_checksNet 33 = .ok (.iload_n 1, 1) := by decide +kernel
theorem dX7_checksNet_34 : decode cX7_checksNet 34 = .ok (.iload_n 2, 1) := by decide +kernel
theorem dX7_checksNet_35 : decode cX7_checksNet 35 = .ok (.invokestatic 36, 3) := by decide +kernel
theorem dX7_checksNet_38 : decode cX7_checksNet 38 = .ok (.ifCond .eq 15, 3) := by decide +kernel
theorem dX7_checksNet_41 : decode cX7_checksNet 41 = .ok (.aload_n 0, 1) := by decide +kernel
theorem dX7_checksNet_42 : decode cX7_checksNet 42 = .ok (.iload_n 2, 1) := by decide +kernel
theorem dX7_checksNet_43 : decode cX7_checksNet 43 = .ok (.invokevirtual 54, 3) := by decide +kernel
theorem dX7_checksNet_46 : decode cX7_checksNet 46 = .ok (.iconst (-1), 1) := by decide +kernel
theorem dX7_checksNet_47 : decode cX7_checksNet 47 = .ok (.if_icmp .eq 6, 3) := by decide +kernel
theorem dX7_checksNet_50 : decode cX7_checksNet 50 = .ok (.ldc 35, 2) := by decide +kernel
theorem dX7_checksNet_52 : decode cX7_checksNet 52 = .ok (.ireturn, 1) := by decide +kernel
theorem dX7_checksNet_53 : decode cX7_checksNet 53 = .ok (.iinc 2 1, 3) := by decide +kernel
theorem dX7_checksNet_56 : decode cX7_checksNet 56 = .ok (.goto (-29), 3) := by decide +kernel
theorem dX7_checksNet_59 : decode cX7_checksNet 59 = .ok (.aload_n 0, 1) := by decide +kernel
theorem dX7_checksNet_60 : decode cX7_checksNet 60 = .ok (.getfield 7, 3) := by decide +kernel
theorem dX7_checksNet_63 : decode cX7_checksNet 63 = .ok (.iconst 0, 1) := by decide +kernel
theorem dX7_checksNet_64 : decode cX7_checksNet 64 = .ok (.iaload, 1) := by decide +kernel
theorem dX7_checksNet_65 : decode cX7_checksNet 65 = .ok (.bipush 8, 2) := by decide +kernel
theorem dX7_checksNet_67 : decode cX7_checksNet 67 = .ok (.if_icmp .ne 8, 3) := by decide +kernel
theorem dX7_checksNet_70 : decode cX7_checksNet 70 = .ok (.ldc 57, 2) := by decide +kernel
theorem dX7_checksNet_72 : decode cX7_checksNet 72 = .ok (.goto 4, 3) := by decide +kernel
theorem dX7_checksNet_75 : decode cX7_checksNet 75 = .ok (.iconst 0, 1) := by decide +kernel
theorem dX7_checksNet_76 : decode cX7_checksNet 76 = .ok (.ireturn, 1) := by decide +kernel
theorem dX7_addsNet_0 : decode cX7_addsNet 0 = .ok (.aload_n 0, 1) := by decide +kernel
theorem dX7_addsNet_1 : decode cX7_addsNet 1 = .ok (.getfield 7, 3) := by decide +kernel
theorem dX7_addsNet_4 : decode cX7_addsNet 4 = .ok (.bipush 9, 2) := by decide +kernel
theorem dX7_addsNet_6 : decode cX7_addsNet 6 = .ok (.aload_n 0, 1) := by decide +kernel
theorem dX7_addsNet_7 : decode cX7_addsNet 7 = .ok (.getfield 7, 3) := by decide +kernel
theorem dX7_addsNet_10 : decode cX7_addsNet 10 = .ok (.iconst 0, 1) := by decide +kernel
theorem dX7_addsNet_11 : decode cX7_addsNet 11 = .ok (.iaload, 1) := by decide +kernel
theorem dX7_addsNet_12 : decode cX7_addsNet 12 = .ok (.iadd, 1) := by decide +kernel
theorem dX7_addsNet_13 : decode cX7_addsNet 13 = .ok (.iload_n 1, 1) := by decide +kernel
theorem dX7_addsNet_14 : decode cX7_addsNet 14 = .ok (.iastore, 1) := by decide +kernel
theorem dX7_addsNet_15 : decode cX7_addsNet 15 = .ok (.aload_n 0, 1) := by decide +kernel
theorem dX7_addsNet_16 : decode cX7_addsNet 16 = .ok (.getfield 7, 3) := by decide +kernel
theorem dX7_addsNet_19 : decode cX7_addsNet 19 = .ok (.iconst 0, 1) := by decide +kernel
theorem dX7_addsNet_20 : decode cX7_addsNet 20 = .ok (.dup2, 1) := by decide +kernel
theorem dX7_addsNet_21 : decode cX7_addsNet 21 = .ok (.iaload, 1) := by decide +kernel
theorem dX7_addsNet_22 : decode cX7_addsNet 22 = .ok (.iconst 1, 1) := by decide +kernel
theorem dX7_addsNet_23 : decode cX7_addsNet 23 = .ok (.iadd, 1) := by decide +kernel
theorem dX7_addsNet_24 : decode cX7_addsNet 24 = .ok (.iastore, 1) := by decide +kernel
theorem dX7_addsNet_25 : decode cX7_addsNet 25 = .ok (.aload_n 0, 1) := by decide +kernel
theorem dX7_addsNet_26 : decode cX7_addsNet 26 = .ok (.getfield 7, 3) := by decide +kernel
theorem dX7_addsNet_29 : decode cX7_addsNet 29 = .ok (.iconst 0, 1) := by decide +kernel
theorem dX7_addsNet_30 : decode cX7_addsNet 30 = .ok (.iaload, 1) := by decide +kernel
theorem dX7_addsNet_31 : decode cX7_addsNet 31 = .ok (.iconst 1, 1) := by decide +kernel
theorem dX7_addsNet_32 : decode cX7_addsNet 32 = .ok (.isub, 1) := by decide +kernel
theorem dX7_addsNet_33 : decode cX7_addsNet 33 = .ok (.ireturn, 1) := by decide +kernel
theorem dX7_net_0 : decode cX7_net 0 = .ok (.aload_n 0, 1) := by decide +kernel
theorem dX7_net_1 : decode cX7_net 1 = .ok (.iload_n 1, 1) := by decide +kernel
theorem dX7_net_2 : decode cX7_net 2 = .ok (.invokevirtual 58, 3) := by decide +kernel
theorem dX7_net_5 : decode cX7_net 5 = .ok (.istore_n 2, 1) := by decide +kernel
theorem dX7_net_6 : decode cX7_net 6 = .ok (.iload_n 2, 1) := by decide +kernel
theorem dX7_net_7 : decode cX7_net 7 = .ok (.ifCond .eq 5, 3) := by decide +kernel
theorem dX7_net_10 : decode cX7_net 10 = .ok (.iload_n 2, 1) := by decide +kernel
theorem dX7_net_11 : decode cX7_net 11 = .ok (.ireturn, 1) := by decide +kernel
theorem dX7_net_12 : decode cX7_net 12 = .ok (.aload_n 0, 1) := by decide +kernel
theorem dX7_net_13 : decode cX7_net 13 = .ok (.invokevirtual 61, 3) := by decide +kernel
theorem dX7_net_16 : decode cX7_net 16 = .ok (.aload_n 0, 1) := by decide +kernel
theorem dX7_net_17 : decode cX7_net 17 = .ok (.iload_n 1, 1) := by decide +kernel
theorem dX7_net_18 : decode cX7_net 18 = .ok (.invokevirtual 64, 3) := by decide +kernel
theorem dX7_net_21 : decode cX7_net 21 = .ok (.ireturn, 1) := by decide +kernel
theorem dX7_checksChip_0 : decode cX7_checksChip 0 = .ok (.iload_n 1, 1) := by decide +kernel
theorem dX7_checksChip_1 : decode cX7_checksChip 1 = .ok (.iconst 0, 1) := by decide +kernel
theorem dX7_checksChip_2 : decode cX7_checksChip 2 = .ok (.bipush 15, 2) := by decide +kernel
theorem dX7_checksChip_4 : decode cX7_checksChip 4 = .ok (.invokestatic 45, 3) := by decide +kernel
theorem dX7_checksChip_7 : decode cX7_checksChip 7 = .ok (.ifCond .eq 18, 3) := by decide +kernel
theorem dX7_checksChip_10 : decode cX7_checksChip 10 = .ok (.iload_n 2, 1) := by decide +kernel
theorem dX7_checksChip_11 : decode cX7_checksChip 11 = .ok (.iconst 0, 1) := by decide +kernel
theorem dX7_checksChip_12 : decode cX7_checksChip 12 = .ok (.bipush 15, 2) := by decide +kernel
theorem dX7_checksChip_14 : decode cX7_checksChip 14 = .ok (.invokestatic 45, 3) := by decide +kernel
theorem dX7_checksChip_17 : decode cX7_checksChip 17 = .ok (.ifCond .eq 8, 3) := by decide +kernel
theorem dX7_checksChip_20 : decode cX7_checksChip 20 = .ok (.iload_n 1, 1) := by decide +kernel
theorem dX7_checksChip_21 : decode cX7_checksChip 21 = .ok (.iload_n 2, 1) := by decide +kernel
theorem dX7_checksChip_22 : decode cX7_checksChip 22 = .ok (.if_icmp .ne 6, 3) := by decide +kernel
theorem dX7_checksChip_25 : decode cX7_checksChip 25 = .ok (.ldc 53, 2) := by decide +kernel
theorem dX7_checksChip_27 : decode cX7_checksChip 27 = .ok (.ireturn, 1) := by decide +kernel
theorem dX7_checksChip_28 : decode cX7_checksChip 28 = .ok (.iload_n 3, 1) := by decide +kernel
theorem dX7_checksChip_29 : decode cX7_checksChip 29 = .ok (.iconst 0, 1) := by decide +kernel
