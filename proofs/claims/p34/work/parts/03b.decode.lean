theorem dX1_keep_31 : decode cX1_keep 31 = .ok (.iadd, 1) := by decide +kernel
theorem dX1_keep_32 : decode cX1_keep 32 = .ok (.putfield 23, 3) := by decide +kernel
theorem dX1_keep_35 : decode cX1_keep 35 = .ok (.return_, 1) := by decide +kernel
theorem dX1_dropOldest_0 : decode cX1_dropOldest 0 = .ok (.aload_n 0, 1) := by decide +kernel
theorem dX1_dropOldest_1 : decode cX1_dropOldest 1 = .ok (.getfield 11, 3) := by decide +kernel
theorem dX1_dropOldest_4 : decode cX1_dropOldest 4 = .ok (.iconst 0, 1) := by decide +kernel
theorem dX1_dropOldest_5 : decode cX1_dropOldest 5 = .ok (.aaload, 1) := by decide +kernel
theorem dX1_dropOldest_6 : decode cX1_dropOldest 6 = .ok (.astore_n 1, 1) := by decide +kernel
theorem dX1_dropOldest_7 : decode cX1_dropOldest 7 = .ok (.iconst 1, 1) := by decide +kernel
theorem dX1_dropOldest_8 : decode cX1_dropOldest 8 = .ok (.istore_n 2, 1) := by decide +kernel
theorem dX1_dropOldest_9 : decode cX1_dropOldest 9 = .ok (.iload_n 2, 1) := by decide +kernel
theorem dX1_dropOldest_10 : decode cX1_dropOldest 10 = .ok (.iconst 4, 1) := by decide +kernel
theorem dX1_dropOldest_11 : decode cX1_dropOldest 11 = .ok (.if_icmp .ge 23, 3) := by decide +kernel
theorem dX1_dropOldest_14 : decode cX1_dropOldest 14 = .ok (.aload_n 0, 1) := by decide +kernel
theorem dX1_dropOldest_15 : decode cX1_dropOldest 15 = .ok (.getfield 11, 3) := by decide +kernel
theorem dX1_dropOldest_18 : decode cX1_dropOldest 18 = .ok (.iload_n 2, 1) := by decide +kernel
theorem dX1_dropOldest_19 : decode cX1_dropOldest 19 = .ok (.iconst 1, 1) := by decide +kernel
theorem dX1_dropOldest_20 : decode cX1_dropOldest 20 = .ok (.isub, 1) := by decide +kernel
theorem dX1_dropOldest_21 : decode cX1_dropOldest 21 = .ok (.aload_n 0, 1) := by decide +kernel
theorem dX1_dropOldest_22 : decode cX1_dropOldest 22 = .ok (.getfield 11, 3) := by decide +kernel
theorem dX1_dropOldest_25 : decode cX1_dropOldest 25 = .ok (.iload_n 2, 1) := by decide +kernel
theorem dX1_dropOldest_26 : decode cX1_dropOldest 26 = .ok (.aaload, 1) := by decide +kernel
theorem dX1_dropOldest_27 : decode cX1_dropOldest 27 = .ok (.aastore, 1) := by decide +kernel
theorem dX1_dropOldest_28 : decode cX1_dropOldest 28 = .ok (.iinc 2 1, 3) := by decide +kernel
theorem dX1_dropOldest_31 : decode cX1_dropOldest 31 = .ok (.goto (-22), 3) := by decide +kernel
theorem dX1_dropOldest_34 : decode cX1_dropOldest 34 = .ok (.aload_n 0, 1) := by decide +kernel
theorem dX1_dropOldest_35 : decode cX1_dropOldest 35 = .ok (.getfield 11, 3) := by decide +kernel
theorem dX1_dropOldest_38 : decode cX1_dropOldest 38 = .ok (.iconst 3, 1) := by decide +kernel
theorem dX1_dropOldest_39 : decode cX1_dropOldest 39 = .ok (.aload_n 1, 1) := by decide +kernel
theorem dX1_dropOldest_40 : decode cX1_dropOldest 40 = .ok (.aastore, 1) := by decide +kernel
theorem dX1_dropOldest_41 : decode cX1_dropOldest 41 = .ok (.aload_n 0, 1) := by decide +kernel
theorem dX1_dropOldest_42 : decode cX1_dropOldest 42 = .ok (.iconst 3, 1) := by decide +kernel
theorem dX1_dropOldest_43 : decode cX1_dropOldest 43 = .ok (.putfield 23, 3) := by decide +kernel
theorem dX1_dropOldest_46 : decode cX1_dropOldest 46 = .ok (.return_, 1) := by decide +kernel
theorem dX1_restore_0 : decode cX1_restore 0 = .ok (.aload_n 0, 1) := by decide +kernel
theorem dX1_restore_1 : decode cX1_restore 1 = .ok (.getfield 23, 3) := by decide +kernel
theorem dX1_restore_4 : decode cX1_restore 4 = .ok (.ifCond .le 26, 3) := by decide +kernel
theorem dX1_restore_7 : decode cX1_restore 7 = .ok (.aload_n 0, 1) := by decide +kernel
theorem dX1_restore_8 : decode cX1_restore 8 = .ok (.dup, 1) := by decide +kernel
theorem dX1_restore_9 : decode cX1_restore 9 = .ok (.getfield 23, 3) := by decide +kernel
theorem dX1_restore_12 : decode cX1_restore 12 = .ok (.iconst 1, 1) := by decide +kernel
theorem dX1_restore_13 : decode cX1_restore 13 = .ok (.isub, 1) := by decide +kernel
theorem dX1_restore_14 : decode cX1_restore 14 = .ok (.putfield 23, 3) := by decide +kernel
theorem dX1_restore_17 : decode cX1_restore 17 = .ok (.aload_n 1, 1) := by decide +kernel
theorem dX1_restore_18 : decode cX1_restore 18 = .ok (.aload_n 0, 1) := by decide +kernel
theorem dX1_restore_19 : decode cX1_restore 19 = .ok (.getfield 11, 3) := by decide +kernel
theorem dX1_restore_22 : decode cX1_restore 22 = .ok (.aload_n 0, 1) := by decide +kernel
theorem dX1_restore_23 : decode cX1_restore 23 = .ok (.getfield 23, 3) := by decide +kernel
theorem dX1_restore_26 : decode cX1_restore 26 = .ok (.aaload, 1) := by decide +kernel
theorem dX1_restore_27 : decode cX1_restore 27 = .ok (.invokevirtual 30, 3) := by decide +kernel
theorem dX1_restore_30 : decode cX1_restore 30 = .ok (.return_, 1) := by decide +kernel
theorem dX2_init_0 : decode cX2_init 0 = .ok (.aload_n 0, 1) := by decide +kernel
theorem dX2_init_1 : decode cX2_init 1 = .ok (.invokespecial 3, 3) := by decide +kernel
theorem dX2_init_4 : decode cX2_init 4 = .ok (.aload_n 0, 1) := by decide +kernel
theorem dX2_init_5 : decode cX2_init 5 = .ok (.bipush 11, 2) := by decide +kernel
theorem dX2_init_7 : decode cX2_init 7 = .ok (.anewarray 9, 3) := by decide +kernel
theorem dX2_init_10 : decode cX2_init 10 = .ok (.putfield 11, 3) := by decide +kernel
theorem dX2_init_13 : decode cX2_init 13 = .ok (.aload_n 0, 1) := by decide +kernel
theorem dX2_init_14 : decode cX2_init 14 = .ok (.bipush 7, 2) := by decide +kernel
theorem dX2_init_16 : decode cX2_init 16 = .ok (.bipush 11, 2) := by decide +kernel
theorem dX2_init_18 : decode cX2_init 18 = .ok (.multianewarray 17 2, 4) := by decide +kernel
theorem dX2_init_22 : decode cX2_init 22 = .ok (.putfield 19, 3) := by decide +kernel
theorem dX2_init_25 : decode cX2_init 25 = .ok (.aload_n 0, 1) := by decide +kernel
theorem dX2_init_26 : decode cX2_init 26 = .ok (.bipush 55, 2) := by decide +kernel
theorem dX2_init_28 : decode cX2_init 28 = .ok (.newarray .int, 2) := by decide +kernel
theorem dX2_init_30 : decode cX2_init 30 = .ok (.putfield 22, 3) := by decide +kernel
theorem dX2_init_33 : decode cX2_init 33 = .ok (.aload_n 0, 1) := by decide +kernel
theorem dX2_init_34 : decode cX2_init 34 = .ok (.aload_n 1, 1) := by decide +kernel
theorem dX2_init_35 : decode cX2_init 35 = .ok (.putfield 26, 3) := by decide +kernel
theorem dX2_init_38 : decode cX2_init 38 = .ok (.iconst 0, 1) := by decide +kernel
theorem dX2_init_39 : decode cX2_init 39 = .ok (.istore_n 2, 1) := by decide +kernel
theorem dX2_init_40 : decode cX2_init 40 = .ok (.iload_n 2, 1) := by decide +kernel
theorem dX2_init_41 : decode cX2_init 41 = .ok (.bipush 11, 2) := by decide +kernel
theorem dX2_init_43 : decode cX2_init 43 = .ok (.if_icmp .ge 24, 3) := by decide +kernel
theorem dX2_init_46 : decode cX2_init 46 = .ok (.aload_n 0, 1) := by decide +kernel
theorem dX2_init_47 : decode cX2_init 47 = .ok (.getfield 11, 3) := by decide +kernel
theorem dX2_init_50 : decode cX2_init 50 = .ok (.iload_n 2, 1) := by decide +kernel
theorem dX2_init_51 : decode cX2_init 51 = .ok (.new 9, 3) := by decide +kernel
theorem dX2_init_54 : decode cX2_init 54 = .ok (.dup, 1) := by decide +kernel
theorem dX2_init_55 : decode cX2_init 55 = .ok (.aload_n 1, 1) := by decide +kernel
theorem dX2_init_56 : decode cX2_init 56 = .ok (.iload_n 2, 1) := by decide +kernel
theorem dX2_init_57 : decode cX2_init 57 = .ok (.invokespecial 30, 3) := by decide +kernel
theorem dX2_init_60 : decode cX2_init 60 = .ok (.aastore, 1) := by decide +kernel
theorem dX2_init_61 : decode cX2_init 61 = .ok (.iinc 2 1, 3) := by decide +kernel
theorem dX2_init_64 : decode cX2_init 64 = .ok (.goto (-24), 3) := by decide +kernel
theorem dX2_init_67 : decode cX2_init 67 = .ok (.return_, 1) := by decide +kernel
theorem dX2_suppose_0 : decode cX2_suppose 0 = .ok (.aload_n 0, 1) := by decide +kernel
theorem dX2_suppose_1 : decode cX2_suppose 1 = .ok (.getfield 11, 3) := by decide +kernel
theorem dX2_suppose_4 : decode cX2_suppose 4 = .ok (.iload_n 1, 1) := by decide +kernel
theorem dX2_suppose_5 : decode cX2_suppose 5 = .ok (.aaload, 1) := by decide +kernel
theorem dX2_suppose_6 : decode cX2_suppose 6 = .ok (.invokevirtual 33, 3) := by decide +kernel
theorem dX2_suppose_9 : decode cX2_suppose 9 = .ok (.aload_n 0, 1) := by decide +kernel
theorem dX2_suppose_10 : decode cX2_suppose 10 = .ok (.getfield 11, 3) := by decide +kernel
theorem dX2_suppose_13 : decode cX2_suppose 13 = .ok (.iload_n 1, 1) := by decide +kernel
theorem dX2_suppose_14 : decode cX2_suppose 14 = .ok (.aaload, 1) := by decide +kernel
theorem dX2_suppose_15 : decode cX2_suppose 15 = .ok (.areturn, 1) := by decide +kernel
theorem dX2_supposeAll_0 : decode cX2_supposeAll 0 = .ok (.iconst 0, 1) := by decide +kernel
theorem dX2_supposeAll_1 : decode cX2_supposeAll 1 = .ok (.istore_n 2, 1) := by decide +kernel
theorem dX2_supposeAll_2 : decode cX2_supposeAll 2 = .ok (.iload_n 2, 1) := by decide +kernel
theorem dX2_supposeAll_3 : decode cX2_supposeAll 3 = .ok (.bipush 11, 2) := by decide +kernel
theorem dX2_supposeAll_5 : decode cX2_supposeAll 5 = .ok (.if_icmp .ge 26, 3) := by decide +kernel
theorem dX2_supposeAll_8 : decode cX2_supposeAll 8 = .ok (.iload_n 1, 1) := by decide +kernel
theorem dX2_supposeAll_9 : decode cX2_supposeAll 9 = .ok (.iload_n 2, 1) := by decide +kernel
theorem dX2_supposeAll_10 : decode cX2_supposeAll 10 = .ok (.invokestatic 36, 3) := by decide +kernel
theorem dX2_supposeAll_13 : decode cX2_supposeAll 13 = .ok (.ifCond .eq 12, 3) := by decide +kernel
theorem dX2_supposeAll_16 : decode cX2_supposeAll 16 = .ok (.aload_n 0, 1) := by decide +kernel
theorem dX2_supposeAll_17 : decode cX2_supposeAll 17 = .ok (.getfield 11, 3) := by decide +kernel
theorem dX2_supposeAll_20 : decode cX2_supposeAll 20 = .ok (.iload_n 2, 1) := by decide +kernel
theorem dX2_supposeAll_21 : decode cX2_supposeAll 21 = .ok (.aaload, 1) := by decide +kernel
theorem dX2_supposeAll_22 : decode cX2_supposeAll 22 = .ok (.invokevirtual 33, 3) := by decide +kernel
theorem dX2_supposeAll_25 : decode cX2_supposeAll 25 = .ok (.iinc 2 1, 3) := by decide +kernel
theorem dX2_supposeAll_28 : decode cX2_supposeAll 28 = .ok (.goto (-26), 3) := by decide +kernel
theorem dX2_supposeAll_31 : decode cX2_supposeAll 31 = .ok (.return_, 1) := by decide +kernel
theorem dX2_probeAll_0 : decode cX2_probeAll 0 = .ok (.iconst 0, 1) := by decide +kernel
theorem dX2_probeAll_1 : decode cX2_probeAll 1 = .ok (.istore_n 3, 1) := by decide +kernel
theorem dX2_probeAll_2 : decode cX2_probeAll 2 = .ok (.iload_n 3, 1) := by decide +kernel
theorem dX2_probeAll_3 : decode cX2_probeAll 3 = .ok (.bipush 11, 2) := by decide +kernel
theorem dX2_probeAll_5 : decode cX2_probeAll 5 = .ok (.if_icmp .ge 27, 3) := by decide +kernel
theorem dX2_probeAll_8 : decode cX2_probeAll 8 = .ok (.iload_n 1, 1) := by decide +kernel
theorem dX2_probeAll_9 : decode cX2_probeAll 9 = .ok (.iload_n 3, 1) := by decide +kernel
theorem dX2_probeAll_10 : decode cX2_probeAll 10 = .ok (.invokestatic 36, 3) := by decide +kernel
theorem dX2_probeAll_13 : decode cX2_probeAll 13 = .ok (.ifCond .eq 13, 3) := by decide +kernel
theorem dX2_probeAll_16 : decode cX2_probeAll 16 = .ok (.aload_n 0, 1) := by decide +kernel
theorem dX2_probeAll_17 : decode cX2_probeAll 17 = .ok (.getfield 11, 3) := by decide +kernel
theorem dX2_probeAll_20 : decode cX2_probeAll 20 = .ok (.iload_n 3, 1) := by decide +kernel
theorem dX2_probeAll_21 : decode cX2_probeAll 21 = .ok (.aaload, 1) := by decide +kernel
theorem dX2_probeAll_22 : decode cX2_probeAll 22 = .ok (.iload_n 2, 1) := by decide +kernel
theorem dX2_probeAll_23 : decode cX2_probeAll 23 = .ok (.invokevirtual 40, 3) := by decide +kernel
theorem dX2_probeAll_26 : decode cX2_probeAll 26 = .ok (.iinc 3 1, 3) := by decide +kernel
theorem dX2_probeAll_29 : decode cX2_probeAll 29 = .ok (.goto (-27), 3) := by decide +kernel
theorem dX2_probeAll_32 : decode cX2_probeAll 32 = .ok (.return_, 1) := by decide +kernel
theorem dX2_probedLike_0 : decode cX2_probedLike 0 = .ok (.iconst 0, 1) := by decide +kernel
theorem dX2_probedLike_1 : decode cX2_probedLike 1 = .ok (.istore_n 3, 1) := by decide +kernel
theorem dX2_probedLike_2 : decode cX2_probedLike 2 = .ok (.iconst 0, 1) := by decide +kernel
theorem dX2_probedLike_3 : decode cX2_probedLike 3 = .ok (.istore 4, 2) := by decide +kernel
theorem dX2_probedLike_5 : decode cX2_probedLike 5 = .ok (.iload 4, 2) := by decide +kernel
theorem dX2_probedLike_7 : decode cX2_probedLike 7 = .ok (.bipush 11, 2) := by decide +kernel
theorem dX2_probedLike_9 : decode cX2_probedLike 9 = .ok (.if_icmp .ge 44, 3) := by decide +kernel
theorem dX2_probedLike_12 : decode cX2_probedLike 12 = .ok (.iload_n 2, 1) := by decide +kernel
theorem dX2_probedLike_13 : decode cX2_probedLike 13 = .ok (.iload 4, 2) := by decide +kernel
theorem dX2_probedLike_15 : decode cX2_probedLike 15 = .ok (.invokestatic 36, 3) := by decide +kernel
theorem dX2_probedLike_18 : decode cX2_probedLike 18 = .ok (.ifCond .eq 29, 3) := by decide +kernel
theorem dX2_probedLike_21 : decode cX2_probedLike 21 = .ok (.aload_n 0, 1) := by decide +kernel
theorem dX2_probedLike_22 : decode cX2_probedLike 22 = .ok (.getfield 11, 3) := by decide +kernel
theorem dX2_probedLike_25 : decode cX2_probedLike 25 = .ok (.iload_n 1, 1) := by decide +kernel
theorem dX2_probedLike_26 : decode cX2_probedLike 26 = .ok (.aaload, 1) := by decide +kernel
theorem dX2_probedLike_27 : decode cX2_probedLike 27 = .ok (.aload_n 0, 1) := by decide +kernel
theorem dX2_probedLike_28 : decode cX2_probedLike 28 = .ok (.getfield 11, 3) := by decide +kernel
theorem dX2_probedLike_31 : decode cX2_probedLike 31 = .ok (.iload 4, 2) := by decide +kernel
theorem dX2_probedLike_33 : decode cX2_probedLike 33 = .ok (.aaload, 1) := by decide +kernel
theorem dX2_probedLike_34 : decode cX2_probedLike 34 = .ok (.invokevirtual 44, 3) := by decide +kernel
theorem dX2_probedLike_37 : decode cX2_probedLike 37 = .ok (.ifCond .eq 10, 3) := by decide +kernel
theorem dX2_probedLike_40 : decode cX2_probedLike 40 = .ok (.iload_n 3, 1) := by decide +kernel
theorem dX2_probedLike_41 : decode cX2_probedLike 41 = .ok (.iconst 1, 1) := by decide +kernel
theorem dX2_probedLike_42 : decode cX2_probedLike 42 = .ok (.iload 4, 2) := by decide +kernel
theorem dX2_probedLike_44 : decode cX2_probedLike 44 = .ok (.ishl, 1) := by decide +kernel
theorem dX2_probedLike_45 : decode cX2_probedLike 45 = .ok (.ior, 1) := by decide +kernel
theorem dX2_probedLike_46 : decode cX2_probedLike 46 = .ok (.istore_n 3, 1) := by decide +kernel
theorem dX2_probedLike_47 : decode cX2_probedLike 47 = .ok (.iinc 4 1, 3) := by decide +kernel
theorem dX2_probedLike_50 : decode cX2_probedLike 50 = .ok (.goto (-45), 3) := by decide +kernel
theorem dX2_probedLike_53 : decode cX2_probedLike 53 = .ok (.iload_n 3, 1) := by decide +kernel
theorem dX2_probedLike_54 : decode cX2_probedLike 54 = .ok (.ireturn, 1) := by decide +kernel
theorem dX2_leftBy_0 : decode cX2_leftBy 0 = .ok (.aload_n 0, 1) := by decide +kernel
theorem dX2_leftBy_1 : decode cX2_leftBy 1 = .ok (.iload_n 3, 1) := by decide +kernel
theorem dX2_leftBy_2 : decode cX2_leftBy 2 = .ok (.iconst 1, 1) := by decide +kernel
theorem dX2_leftBy_3 : decode cX2_leftBy 3 = .ok (.iload_n 2, 1) := by decide +kernel
theorem dX2_leftBy_4 : decode cX2_leftBy 4 = .ok (.ishl, 1) := by decide +kernel
theorem dX2_leftBy_5 : decode cX2_leftBy 5 = .ok (.ior, 1) := by decide +kernel
theorem dX2_leftBy_6 : decode cX2_leftBy 6 = .ok (.invokevirtual 48, 3) := by decide +kernel
theorem dX2_leftBy_9 : decode cX2_leftBy 9 = .ok (.aload_n 0, 1) := by decide +kernel
theorem dX2_leftBy_10 : decode cX2_leftBy 10 = .ok (.iload_n 3, 1) := by decide +kernel
theorem dX2_leftBy_11 : decode cX2_leftBy 11 = .ok (.iconst 1, 1) := by decide +kernel
theorem dX2_leftBy_12 : decode cX2_leftBy 12 = .ok (.iload_n 2, 1) := by decide +kernel
theorem dX2_leftBy_13 : decode cX2_leftBy 13 = .ok (.ishl, 1) := by decide +kernel
theorem dX2_leftBy_14 : decode cX2_leftBy 14 = .ok (.ior, 1) := by decide +kernel
theorem dX2_leftBy_15 : decode cX2_leftBy 15 = .ok (.iload_n 1, 1) := by decide +kernel
theorem dX2_leftBy_16 : decode cX2_leftBy 16 = .ok (.invokevirtual 51, 3) := by decide +kernel
theorem dX2_leftBy_19 : decode cX2_leftBy 19 = .ok (.aload_n 0, 1) := by decide +kernel
theorem dX2_leftBy_20 : decode cX2_leftBy 20 = .ok (.iload_n 2, 1) := by decide +kernel
theorem dX2_leftBy_21 : decode cX2_leftBy 21 = .ok (.iload_n 3, 1) := by decide +kernel
theorem dX2_leftBy_22 : decode cX2_leftBy 22 = .ok (.invokevirtual 55, 3) := by decide +kernel
theorem dX2_leftBy_25 : decode cX2_leftBy 25 = .ok (.ireturn, 1) := by decide +kernel
theorem dX3_init_0 : decode cX3_init 0 = .ok (.aload_n 0, 1) := by decide +kernel
theorem dX3_init_1 : decode cX3_init 1 = .ok (.invokespecial 3, 3) := by decide +kernel
theorem dX3_init_4 : decode cX3_init 4 = .ok (.aload_n 0, 1) := by decide +kernel
theorem dX3_init_5 : decode cX3_init 5 = .ok (.new 9, 3) := by decide +kernel
theorem dX3_init_8 : decode cX3_init 8 = .ok (.dup, 1) := by decide +kernel
theorem dX3_init_9 : decode cX3_init 9 = .ok (.invokespecial 11, 3) := by decide +kernel
theorem dX3_init_12 : decode cX3_init 12 = .ok (.putfield 12, 3) := by decide +kernel
theorem dX3_init_15 : decode cX3_init 15 = .ok (.aload_n 0, 1) := by decide +kernel
theorem dX3_init_16 : decode cX3_init 16 = .ok (.bipush 100, 2) := by decide +kernel
theorem dX3_init_18 : decode cX3_init 18 = .ok (.newarray .char, 2) := by decide +kernel
theorem dX3_init_20 : decode cX3_init 20 = .ok (.putfield 18, 3) := by decide +kernel
theorem dX3_init_23 : decode cX3_init 23 = .ok (.aload_n 0, 1) := by decide +kernel
theorem dX3_init_24 : decode cX3_init 24 = .ok (.bipush 8, 2) := by decide +kernel
theorem dX3_init_26 : decode cX3_init 26 = .ok (.newarray .int, 2) := by decide +kernel
theorem dX3_init_28 : decode cX3_init 28 = .ok (.putfield 22, 3) := by decide +kernel
theorem dX3_init_31 : decode cX3_init 31 = .ok (.return_, 1) := by decide +kernel
theorem dX4_init_0 : decode cX4_init 0 = .ok (.aload_n 0, 1) := by decide +kernel
theorem dX4_init_1 : decode cX4_init 1 = .ok (.invokespecial 3, 3) := by decide +kernel
theorem dX4_init_4 : decode cX4_init 4 = .ok (.aload_n 0, 1) := by decide +kernel
theorem dX4_init_5 : decode cX4_init 5 = .ok (.bipush 10, 2) := by decide +kernel
theorem dX4_init_7 : decode cX4_init 7 = .ok (.newarray .int, 2) := by decide +kernel
theorem dX4_init_9 : decode cX4_init 9 = .ok (.putfield 9, 3) := by decide +kernel
theorem dX4_init_12 : decode cX4_init 12 = .ok (.aload_n 0, 1) := by decide +kernel
theorem dX4_init_13 : decode cX4_init 13 = .ok (.bipush 10, 2) := by decide +kernel
theorem dX4_init_15 : decode cX4_init 15 = .ok (.putfield 15, 3) := by decide +kernel
theorem dX4_init_18 : decode cX4_init 18 = .ok (.aload_n 0, 1) := by decide +kernel
theorem dX4_init_19 : decode cX4_init 19 = .ok (.sipush 1024, 3) := by decide +kernel
theorem dX4_init_22 : decode cX4_init 22 = .ok (.putfield 19, 3) := by decide +kernel
theorem dX4_init_25 : decode cX4_init 25 = .ok (.aload_n 0, 1) := by decide +kernel
theorem dX4_init_26 : decode cX4_init 26 = .ok (.iconst 3, 1) := by decide +kernel
theorem dX4_init_27 : decode cX4_init 27 = .ok (.putfield 22, 3) := by decide +kernel
theorem dX4_init_30 : decode cX4_init 30 = .ok (.aload_n 0, 1) := by decide +kernel
theorem dX4_init_31 : decode cX4_init 31 = .ok (.aload_n 1, 1) := by decide +kernel
theorem dX4_init_32 : decode cX4_init 32 = .ok (.putfield 25, 3) := by decide +kernel
theorem dX4_init_35 : decode cX4_init 35 = .ok (.aload_n 0, 1) := by decide +kernel
theorem dX4_init_36 : decode cX4_init 36 = .ok (.getfield 9, 3) := by decide +kernel
theorem dX4_init_39 : decode cX4_init 39 = .ok (.iconst (-1), 1) := by decide +kernel
theorem dX4_init_40 : decode cX4_init 40 = .ok (.invokestatic 29, 3) := by decide +kernel
theorem dX4_init_43 : decode cX4_init 43 = .ok (.return_, 1) := by decide +kernel
theorem dX4_copyFrom_0 : decode cX4_copyFrom 0 = .ok (.aload_n 0, 1) := by decide +kernel
theorem dX4_copyFrom_1 : decode cX4_copyFrom 1 = .ok (.getfield 25, 3) := by decide +kernel
theorem dX4_copyFrom_4 : decode cX4_copyFrom 4 = .ok (.aload_n 1, 1) := by decide +kernel
theorem dX4_copyFrom_5 : decode cX4_copyFrom 5 = .ok (.getfield 25, 3) := by decide +kernel
theorem dX4_copyFrom_8 : decode cX4_copyFrom 8 = .ok (.invokevirtual 35, 3) := by decide +kernel
theorem dX4_copyFrom_11 : decode cX4_copyFrom 11 = .ok (.aload_n 1, 1) := by decide +kernel
theorem dX4_copyFrom_12 : decode cX4_copyFrom 12 = .ok (.getfield 9, 3) := by decide +kernel
theorem dX4_copyFrom_15 : decode cX4_copyFrom 15 = .ok (.iconst 0, 1) := by decide +kernel
theorem dX4_copyFrom_16 : decode cX4_copyFrom 16 = .ok (.aload_n 0, 1) := by decide +kernel
theorem dX4_copyFrom_17 : decode cX4_copyFrom 17 = .ok (.getfield 9, 3) := by decide +kernel
theorem dX4_copyFrom_20 : decode cX4_copyFrom 20 = .ok (.iconst 0, 1) := by decide +kernel
theorem dX4_copyFrom_21 : decode cX4_copyFrom 21 = .ok (.bipush 10, 2) := by decide +kernel
theorem dX4_copyFrom_23 : decode cX4_copyFrom 23 = .ok (.invokestatic 41, 3) := by decide +kernel
theorem dX4_copyFrom_26 : decode cX4_copyFrom 26 = .ok (.aload_n 0, 1) := by decide +kernel
theorem dX4_copyFrom_27 : decode cX4_copyFrom 27 = .ok (.aload_n 1, 1) := by decide +kernel
theorem dX4_copyFrom_28 : decode cX4_copyFrom 28 = .ok (.getfield 47, 3) := by decide +kernel
theorem dX4_copyFrom_31 : decode cX4_copyFrom 31 = .ok (.putfield 47, 3) := by decide +kernel
theorem dX4_copyFrom_34 : decode cX4_copyFrom 34 = .ok (.aload_n 0, 1) := by decide +kernel
theorem dX4_copyFrom_35 : decode cX4_copyFrom 35 = .ok (.aload_n 1, 1) := by decide +kernel
theorem dX4_copyFrom_36 : decode cX4_copyFrom 36 = .ok (.getfield 15, 3) := by decide +kernel
theorem dX4_copyFrom_39 : decode cX4_copyFrom 39 = .ok (.putfield 15, 3) := by decide +kernel
theorem dX4_copyFrom_42 : decode cX4_copyFrom 42 = .ok (.aload_n 0, 1) := by decide +kernel
theorem dX4_copyFrom_43 : decode cX4_copyFrom 43 = .ok (.aload_n 1, 1) := by decide +kernel
theorem dX4_copyFrom_44 : decode cX4_copyFrom 44 = .ok (.getfield 19, 3) := by decide +kernel
theorem dX4_copyFrom_47 : decode cX4_copyFrom 47 = .ok (.putfield 19, 3) := by decide +kernel
theorem dX4_copyFrom_50 : decode cX4_copyFrom 50 = .ok (.aload_n 0, 1) := by decide +kernel
theorem dX4_copyFrom_51 : decode cX4_copyFrom 51 = .ok (.aload_n 1, 1) := by decide +kernel
theorem dX4_copyFrom_52 : decode cX4_copyFrom 52 = .ok (.getfield 22, 3) := by decide +kernel
theorem dX4_copyFrom_55 : decode cX4_copyFrom 55 = .ok (.putfield 22, 3) := by decide +kernel
theorem dX4_copyFrom_58 : decode cX4_copyFrom 58 = .ok (.aload_n 0, 1) := by decide +kernel
theorem dX4_copyFrom_59 : decode cX4_copyFrom 59 = .ok (.aload_n 1, 1) := by decide +kernel
theorem dX4_copyFrom_60 : decode cX4_copyFrom 60 = .ok (.getfield 50, 3) := by decide +kernel
theorem dX4_copyFrom_63 : decode cX4_copyFrom 63 = .ok (.putfield 50, 3) := by decide +kernel
theorem dX4_copyFrom_66 : decode cX4_copyFrom 66 = .ok (.aload_n 0, 1) := by decide +kernel
theorem dX4_copyFrom_67 : decode cX4_copyFrom 67 = .ok (.aload_n 1, 1) := by decide +kernel
theorem dX4_copyFrom_68 : decode cX4_copyFrom 68 = .ok (.getfield 53, 3) := by decide +kernel
theorem dX4_copyFrom_71 : decode cX4_copyFrom 71 = .ok (.putfield 53, 3) := by decide +kernel
theorem dX4_copyFrom_74 : decode cX4_copyFrom 74 = .ok (.return_, 1) := by decide +kernel
theorem dX4_weekday_0 : decode cX4_weekday 0 = .ok (.aload_n 0, 1) := by decide +kernel
theorem dX4_weekday_1 : decode cX4_weekday 1 = .ok (.getfield 47, 3) := by decide +kernel
theorem dX4_weekday_4 : decode cX4_weekday 4 = .ok (.bipush 7, 2) := by decide +kernel
theorem dX4_weekday_6 : decode cX4_weekday 6 = .ok (.irem, 1) := by decide +kernel
theorem dX4_weekday_7 : decode cX4_weekday 7 = .ok (.ireturn, 1) := by decide +kernel
theorem dX4_touchedNow_0 : decode cX4_touchedNow 0 = .ok (.aload_n 0, 1) := by decide +kernel
theorem dX4_touchedNow_1 : decode cX4_touchedNow 1 = .ok (.getfield 25, 3) := by decide +kernel
theorem dX4_touchedNow_4 : decode cX4_touchedNow 4 = .ok (.aload_n 0, 1) := by decide +kernel
theorem dX4_touchedNow_5 : decode cX4_touchedNow 5 = .ok (.invokevirtual 56, 3) := by decide +kernel
theorem dX4_touchedNow_8 : decode cX4_touchedNow 8 = .ok (.invokevirtual 60, 3) := by decide +kernel
theorem dX4_touchedNow_11 : decode cX4_touchedNow 11 = .ok (.aload_n 0, 1) := by decide +kernel
theorem dX4_touchedNow_12 : decode cX4_touchedNow 12 = .ok (.getfield 50, 3) := by decide +kernel
theorem dX4_touchedNow_15 : decode cX4_touchedNow 15 = .ok (.ior, 1) := by decide +kernel
theorem dX4_touchedNow_16 : decode cX4_touchedNow 16 = .ok (.ireturn, 1) := by decide +kernel
theorem dX4_filedIn_0 : decode cX4_filedIn 0 = .ok (.iconst 0, 1) := by decide +kernel
theorem dX4_filedIn_1 : decode cX4_filedIn 1 = .ok (.istore_n 2, 1) := by decide +kernel
theorem dX4_filedIn_2 : decode cX4_filedIn 2 = .ok (.iconst 0, 1) := by decide +kernel
theorem dX4_filedIn_3 : decode cX4_filedIn 3 = .ok (.istore_n 3, 1) := by decide +kernel
theorem dX4_filedIn_4 : decode cX4_filedIn 4 = .ok (.iload_n 3, 1) := by decide +kernel
theorem dX4_filedIn_5 : decode cX4_filedIn 5 = .ok (.aload_n 0, 1) := by decide +kernel
theorem dX4_filedIn_6 : decode cX4_filedIn 6 = .ok (.getfield 25, 3) := by decide +kernel
theorem dX4_filedIn_9 : decode cX4_filedIn 9 = .ok (.getfield 64, 3) := by decide +kernel
theorem dX4_filedIn_12 : decode cX4_filedIn 12 = .ok (.if_icmp .ge 22, 3) := by decide +kernel
theorem dX4_filedIn_15 : decode cX4_filedIn 15 = .ok (.aload_n 0, 1) := by decide +kernel
theorem dX4_filedIn_16 : decode cX4_filedIn 16 = .ok (.getfield 9, 3) := by decide +kernel
theorem dX4_filedIn_19 : decode cX4_filedIn 19 = .ok (.iload_n 3, 1) := by decide +kernel
theorem dX4_filedIn_20 : decode cX4_filedIn 20 = .ok (.iaload, 1) := by decide +kernel
theorem dX4_filedIn_21 : decode cX4_filedIn 21 = .ok (.iload_n 1, 1) := by decide +kernel
theorem dX4_filedIn_22 : decode cX4_filedIn 22 = .ok (.if_icmp .ne 6, 3) := by decide +kernel
theorem dX4_filedIn_25 : decode cX4_filedIn 25 = .ok (.iinc 2 1, 3) := by decide +kernel
theorem dX4_filedIn_28 : decode cX4_filedIn 28 = .ok (.iinc 3 1, 3) := by decide +kernel
theorem dX4_filedIn_31 : decode cX4_filedIn 31 = .ok (.goto (-27), 3) := by decide +kernel
theorem dX4_filedIn_34 : decode cX4_filedIn 34 = .ok (.iload_n 2, 1) := by decide +kernel
theorem dX4_filedIn_35 : decode cX4_filedIn 35 = .ok (.ireturn, 1) := by decide +kernel
theorem dX5_init_0 : decode cX5_init 0 = .ok (.aload_n 0, 1) := by decide +kernel
theorem dX5_init_1 : decode cX5_init 1 = .ok (.invokespecial 3, 3) := by decide +kernel
theorem dX5_init_4 : decode cX5_init 4 = .ok (.aload_n 0, 1) := by decide +kernel
theorem dX5_init_5 : decode cX5_init 5 = .ok (.bipush 16, 2) := by decide +kernel
theorem dX5_init_7 : decode cX5_init 7 = .ok (.newarray .int, 2) := by decide +kernel
theorem dX5_init_9 : decode cX5_init 9 = .ok (.putfield 9, 3) := by decide +kernel
theorem dX5_init_12 : decode cX5_init 12 = .ok (.aload_n 0, 1) := by decide +kernel
theorem dX5_init_13 : decode cX5_init 13 = .ok (.bipush 16, 2) := by decide +kernel
theorem dX5_init_15 : decode cX5_init 15 = .ok (.newarray .int, 2) := by decide +kernel
theorem dX5_init_17 : decode cX5_init 17 = .ok (.putfield 15, 3) := by decide +kernel
theorem dX5_init_20 : decode cX5_init 20 = .ok (.aload_n 0, 1) := by decide +kernel
theorem dX5_init_21 : decode cX5_init 21 = .ok (.aload_n 1, 1) := by decide +kernel
theorem dX5_init_22 : decode cX5_init 22 = .ok (.putfield 18, 3) := by decide +kernel
theorem dX5_init_25 : decode cX5_init 25 = .ok (.aload_n 0, 1) := by decide +kernel
theorem dX5_init_26 : decode cX5_init 26 = .ok (.iload_n 2, 1) := by decide +kernel
theorem dX5_init_27 : decode cX5_init 27 = .ok (.putfield 22, 3) := by decide +kernel
theorem dX5_init_30 : decode cX5_init 30 = .ok (.return_, 1) := by decide +kernel
theorem dX5_setUp_0 : decode cX5_setUp 0 = .ok (.aload_n 0, 1) := by decide +kernel
theorem dX5_setUp_1 : decode cX5_setUp 1 = .ok (.getfield 18, 3) := by decide +kernel
theorem dX5_setUp_4 : decode cX5_setUp 4 = .ok (.aload_n 0, 1) := by decide +kernel
theorem dX5_setUp_5 : decode cX5_setUp 5 = .ok (.getfield 22, 3) := by decide +kernel
theorem dX5_setUp_8 : decode cX5_setUp 8 = .ok (.invokevirtual 26, 3) := by decide +kernel
theorem dX5_setUp_11 : decode cX5_setUp 11 = .ok (.istore_n 1, 1) := by decide +kernel
theorem dX5_setUp_12 : decode cX5_setUp 12 = .ok (.iload_n 1, 1) := by decide +kernel
theorem dX5_setUp_13 : decode cX5_setUp 13 = .ok (.ifCond .eq 23, 3) := by decide +kernel
theorem dX5_setUp_16 : decode cX5_setUp 16 = .ok (.aload_n 0, 1) := by decide +kernel
theorem dX5_setUp_17 : decode cX5_setUp 17 = .ok (.getfield 18, 3) := by decide +kernel
theorem dX5_setUp_20 : decode cX5_setUp 20 = .ok (.getfield 32, 3) := by decide +kernel
theorem dX5_setUp_23 : decode cX5_setUp 23 = .ok (.aload_n 0, 1) := by decide +kernel
theorem dX5_setUp_24 : decode cX5_setUp 24 = .ok (.getfield 22, 3) := by decide +kernel
theorem dX5_setUp_27 : decode cX5_setUp 27 = .ok (.iaload, 1) := by decide +kernel
theorem dX5_setUp_28 : decode cX5_setUp 28 = .ok (.iconst 3, 1) := by decide +kernel
theorem dX5_setUp_29 : decode cX5_setUp 29 = .ok (.if_icmp .ne 7, 3) := by decide +kernel
theorem dX5_setUp_32 : decode cX5_setUp 32 = .ok (.iconst 1, 1) := by decide +kernel
theorem dX5_setUp_33 : decode cX5_setUp 33 = .ok (.goto 4, 3) := by decide +kernel
theorem dX5_setUp_36 : decode cX5_setUp 36 = .ok (.iconst 0, 1) := by decide +kernel
theorem dX5_setUp_37 : decode cX5_setUp 37 = .ok (.istore_n 2, 1) := by decide +kernel
theorem dX5_setUp_38 : decode cX5_setUp 38 = .ok (.iload_n 1, 1) := by decide +kernel
theorem dX5_setUp_39 : decode cX5_setUp 39 = .ok (.ifCond .eq 23, 3) := by decide +kernel
theorem dX5_setUp_42 : decode cX5_setUp 42 = .ok (.aload_n 0, 1) := by decide +kernel
theorem dX5_setUp_43 : decode cX5_setUp 43 = .ok (.getfield 18, 3) := by decide +kernel
theorem dX5_setUp_46 : decode cX5_setUp 46 = .ok (.getfield 32, 3) := by decide +kernel
theorem dX5_setUp_49 : decode cX5_setUp 49 = .ok (.aload_n 0, 1) := by decide +kernel
theorem dX5_setUp_50 : decode cX5_setUp 50 = .ok (.getfield 22, 3) := by decide +kernel
theorem dX5_setUp_53 : decode cX5_setUp 53 = .ok (.iaload, 1) := by decide +kernel
theorem dX5_setUp_54 : decode cX5_setUp 54 = .ok (.iconst 4, 1) := by decide +kernel
theorem dX5_setUp_55 : decode cX5_setUp 55 = .ok (.if_icmp .ne 7, 3) := by decide +kernel
theorem dX5_setUp_58 : decode cX5_setUp 58 = .ok (.iconst 1, 1) := by decide +kernel
theorem dX5_setUp_59 : decode cX5_setUp 59 = .ok (.goto 4, 3) := by decide +kernel
theorem dX5_setUp_62 : decode cX5_setUp 62 = .ok (.iconst 0, 1) := by decide +kernel
theorem dX5_setUp_63 : decode cX5_setUp 63 = .ok (.istore_n 3, 1) := by decide +kernel
theorem dX5_setUp_64 : decode cX5_setUp 64 = .ok (.aload_n 0, 1) := by decide +kernel
theorem dX5_setUp_65 : decode cX5_setUp 65 = .ok (.iload_n 2, 1) := by decide +kernel
theorem dX5_setUp_66 : decode cX5_setUp 66 = .ok (.ifCond .eq 26, 3) := by decide +kernel
theorem dX5_setUp_69 : decode cX5_setUp 69 = .ok (.aload_n 0, 1) := by decide +kernel
theorem dX5_setUp_70 : decode cX5_setUp 70 = .ok (.getfield 18, 3) := by decide +kernel
theorem dX5_setUp_73 : decode cX5_setUp 73 = .ok (.getfield 35, 3) := by decide +kernel
theorem dX5_setUp_76 : decode cX5_setUp 76 = .ok (.aload_n 0, 1) := by decide +kernel
theorem dX5_setUp_77 : decode cX5_setUp 77 = .ok (.getfield 18, 3) := by decide +kernel
theorem dX5_setUp_80 : decode cX5_setUp 80 = .ok (.getfield 38, 3) := by decide +kernel
theorem dX5_setUp_83 : decode cX5_setUp 83 = .ok (.aload_n 0, 1) := by decide +kernel
theorem dX5_setUp_84 : decode cX5_setUp 84 = .ok (.getfield 22, 3) := by decide +kernel
theorem dX5_setUp_87 : decode cX5_setUp 87 = .ok (.iaload, 1) := by decide +kernel
theorem dX5_setUp_88 : decode cX5_setUp 88 = .ok (.iaload, 1) := by decide +kernel
theorem dX5_setUp_89 : decode cX5_setUp 89 = .ok (.goto 4, 3) := by decide +kernel
theorem dX5_setUp_92 : decode cX5_setUp 92 = .ok (.iconst 0, 1) := by decide +kernel
theorem dX5_setUp_93 : decode cX5_setUp 93 = .ok (.putfield 41, 3) := by decide +kernel
theorem dX5_setUp_96 : decode cX5_setUp 96 = .ok (.aload_n 0, 1) := by decide +kernel
theorem dX5_setUp_97 : decode cX5_setUp 97 = .ok (.iload_n 3, 1) := by decide +kernel
theorem dX5_setUp_98 : decode cX5_setUp 98 = .ok (.ifCond .eq 20, 3) := by decide +kernel
theorem dX5_setUp_101 : decode cX5_setUp 101 = .ok (.iconst 1, 1) := by decide +kernel
theorem dX5_setUp_102 : decode cX5_setUp 102 = .ok (.aload_n 0, 1) := by decide +kernel
theorem dX5_setUp_103 : decode cX5_setUp 103 = .ok (.getfield 18, 3) := by decide +kernel
theorem dX5_setUp_106 : decode cX5_setUp 106 = .ok (.getfield 38, 3) := by decide +kernel
theorem dX5_setUp_109 : decode cX5_setUp 109 = .ok (.aload_n 0, 1) := by decide +kernel
theorem dX5_setUp_110 : decode cX5_setUp 110 = .ok (.getfield 22, 3) := by decide +kernel
theorem dX5_setUp_113 : decode cX5_setUp 113 = .ok (.iaload, 1) := by decide +kernel
theorem dX5_setUp_114 : decode cX5_setUp 114 = .ok (.ishl, 1) := by decide +kernel
theorem dX5_setUp_115 : decode cX5_setUp 115 = .ok (.goto 4, 3) := by decide +kernel
theorem dX5_setUp_118 : decode cX5_setUp 118 = .ok (.iconst 0, 1) := by decide +kernel
theorem dX5_setUp_119 : decode cX5_setUp 119 = .ok (.putfield 44, 3) := by decide +kernel
theorem dX5_setUp_122 : decode cX5_setUp 122 = .ok (.iconst 0, 1) := by decide +kernel
theorem dX5_setUp_123 : decode cX5_setUp 123 = .ok (.istore 4, 2) := by decide +kernel
theorem dX5_setUp_125 : decode cX5_setUp 125 = .ok (.iload 4, 2) := by decide +kernel
theorem dX5_setUp_127 : decode cX5_setUp 127 = .ok (.bipush 16, 2) := by decide +kernel
theorem dX5_setUp_129 : decode cX5_setUp 129 = .ok (.if_icmp .ge 35, 3) := by decide +kernel
theorem dX5_setUp_132 : decode cX5_setUp 132 = .ok (.aload_n 0, 1) := by decide +kernel
theorem dX5_setUp_133 : decode cX5_setUp 133 = .ok (.getfield 9, 3) := by decide +kernel
theorem dX5_setUp_136 : decode cX5_setUp 136 = .ok (.iload 4, 2) := by decide +kernel
theorem dX5_setUp_138 : decode cX5_setUp 138 = .ok (.aload_n 0, 1) := by decide +kernel
theorem dX5_setUp_139 : decode cX5_setUp 139 = .ok (.iload 4, 2) := by decide +kernel
theorem dX5_setUp_141 : decode cX5_setUp 141 = .ok (.invokevirtual 47, 3) := by decide +kernel
theorem dX5_setUp_144 : decode cX5_setUp 144 = .ok (.iastore, 1) := by decide +kernel
theorem dX5_setUp_145 : decode cX5_setUp 145 = .ok (.aload_n 0, 1) := by decide +kernel
theorem dX5_setUp_146 : decode cX5_setUp 146 = .ok (.getfield 15, 3) := by decide +kernel
theorem dX5_setUp_149 : decode cX5_setUp 149 = .ok (.iload 4, 2) := by decide +kernel
theorem dX5_setUp_151 : decode cX5_setUp 151 = .ok (.aload_n 0, 1) := by decide +kernel
theorem dX5_setUp_152 : decode cX5_setUp 152 = .ok (.iload 4, 2) := by decide +kernel
theorem dX5_setUp_154 : decode cX5_setUp 154 = .ok (.invokevirtual 51, 3) := by decide +kernel
theorem dX5_setUp_157 : decode cX5_setUp 157 = .ok (.iastore, 1) := by decide +kernel
theorem dX5_setUp_158 : decode cX5_setUp 158 = .ok (.iinc 4 1, 3) := by decide +kernel
theorem dX5_setUp_161 : decode cX5_setUp 161 = .ok (.goto (-36), 3) := by decide +kernel
theorem dX5_setUp_164 : decode cX5_setUp 164 = .ok (.return_, 1) := by decide +kernel
theorem dX5_linkingNet_0 : decode cX5_linkingNet 0 = .ok (.aload_n 0, 1) := by decide +kernel
theorem dX5_linkingNet_1 : decode cX5_linkingNet 1 = .ok (.getfield 18, 3) := by decide +kernel
theorem dX5_linkingNet_4 : decode cX5_linkingNet 4 = .ok (.getfield 54, 3) := by decide +kernel
theorem dX5_linkingNet_7 : decode cX5_linkingNet 7 = .ok (.iload_n 1, 1) := by decide +kernel
theorem dX5_linkingNet_8 : decode cX5_linkingNet 8 = .ok (.iaload, 1) := by decide +kernel
theorem dX5_linkingNet_9 : decode cX5_linkingNet 9 = .ok (.istore_n 2, 1) := by decide +kernel
theorem dX5_linkingNet_10 : decode cX5_linkingNet 10 = .ok (.iload_n 2, 1) := by decide +kernel
theorem dX5_linkingNet_11 : decode cX5_linkingNet 11 = .ok (.iconst (-1), 1) := by decide +kernel
theorem dX5_linkingNet_12 : decode cX5_linkingNet 12 = .ok (.if_icmp .eq 51, 3) := by decide +kernel
theorem dX5_linkingNet_15 : decode cX5_linkingNet 15 = .ok (.aload_n 0, 1) := by decide +kernel
theorem dX5_linkingNet_16 : decode cX5_linkingNet 16 = .ok (.getfield 18, 3) := by decide +kernel
theorem dX5_linkingNet_19 : decode cX5_linkingNet 19 = .ok (.aload_n 0, 1) := by decide +kernel
theorem dX5_linkingNet_20 : decode cX5_linkingNet 20 = .ok (.getfield 22, 3) := by decide +kernel
theorem dX5_linkingNet_23 : decode cX5_linkingNet 23 = .ok (.iconst 0, 1) := by decide +kernel
theorem dX5_linkingNet_24 : decode cX5_linkingNet 24 = .ok (.iload_n 1, 1) := by decide +kernel
theorem dX5_linkingNet_25 : decode cX5_linkingNet 25 = .ok (.invokevirtual 57, 3) := by decide +kernel
theorem dX5_linkingNet_28 : decode cX5_linkingNet 28 = .ok (.ifCond .ne 35, 3) := by decide +kernel
theorem dX5_linkingNet_31 : decode cX5_linkingNet 31 = .ok (.aload_n 0, 1) := by decide +kernel
theorem dX5_linkingNet_32 : decode cX5_linkingNet 32 = .ok (.getfield 18, 3) := by decide +kernel
theorem dX5_linkingNet_35 : decode cX5_linkingNet 35 = .ok (.aload_n 0, 1) := by decide +kernel
theorem dX5_linkingNet_36 : decode cX5_linkingNet 36 = .ok (.getfield 22, 3) := by decide +kernel
theorem dX5_linkingNet_39 : decode cX5_linkingNet 39 = .ok (.iconst 2, 1) := by decide +kernel
theorem dX5_linkingNet_40 : decode cX5_linkingNet 40 = .ok (.iload_n 2, 1) := by decide +kernel
theorem dX5_linkingNet_41 : decode cX5_linkingNet 41 = .ok (.invokevirtual 57, 3) := by decide +kernel
theorem dX5_linkingNet_44 : decode cX5_linkingNet 44 = .ok (.ifCond .ne 19, 3) := by decide +kernel
theorem dX5_linkingNet_47 : decode cX5_linkingNet 47 = .ok (.aload_n 0, 1) := by decide +kernel
theorem dX5_linkingNet_48 : decode cX5_linkingNet 48 = .ok (.getfield 18, 3) := by decide +kernel
theorem dX5_linkingNet_51 : decode cX5_linkingNet 51 = .ok (.aload_n 0, 1) := by decide +kernel
theorem dX5_linkingNet_52 : decode cX5_linkingNet 52 = .ok (.getfield 22, 3) := by decide +kernel
theorem dX5_linkingNet_55 : decode cX5_linkingNet 55 = .ok (.iconst 3, 1) := by decide +kernel
theorem dX5_linkingNet_56 : decode cX5_linkingNet 56 = .ok (.iload_n 2, 1) := by decide +kernel
theorem dX5_linkingNet_57 : decode cX5_linkingNet 57 = .ok (.invokevirtual 57, 3) := by decide +kernel
theorem dX5_linkingNet_60 : decode cX5_linkingNet 60 = .ok (.ifCond .eq 5, 3) := by decide +kernel
theorem dX5_linkingNet_63 : decode cX5_linkingNet 63 = .ok (.iconst 0, 1) := by decide +kernel
theorem dX5_linkingNet_64 : decode cX5_linkingNet 64 = .ok (.ireturn, 1) := by decide +kernel
theorem dX5_linkingNet_65 : decode cX5_linkingNet 65 = .ok (.iconst 1, 1) := by decide +kernel
theorem dX5_linkingNet_66 : decode cX5_linkingNet 66 = .ok (.iload_n 2, 1) := by decide +kernel
theorem dX5_linkingNet_67 : decode cX5_linkingNet 67 = .ok (.ishl, 1) := by decide +kernel
theorem dX5_linkingNet_68 : decode cX5_linkingNet 68 = .ok (.ireturn, 1) := by decide +kernel
theorem dX5_followers_0 : decode cX5_followers 0 = .ok (.aload_n 0, 1) := by decide +kernel
theorem dX5_followers_1 : decode cX5_followers 1 = .ok (.getfield 18, 3) := by decide +kernel
theorem dX5_followers_4 : decode cX5_followers 4 = .ok (.getfield 54, 3) := by decide +kernel
theorem dX5_followers_7 : decode cX5_followers 7 = .ok (.iload_n 1, 1) := by decide +kernel
theorem dX5_followers_8 : decode cX5_followers 8 = .ok (.iaload, 1) := by decide +kernel
theorem dX5_followers_9 : decode cX5_followers 9 = .ok (.istore_n 2, 1) := by decide +kernel
theorem dX5_followers_10 : decode cX5_followers 10 = .ok (.iload_n 2, 1) := by decide +kernel
theorem dX5_followers_11 : decode cX5_followers 11 = .ok (.iconst (-1), 1) := by decide +kernel
theorem dX5_followers_12 : decode cX5_followers 12 = .ok (.if_icmp .eq 19, 3) := by decide +kernel
theorem dX5_followers_15 : decode cX5_followers 15 = .ok (.aload_n 0, 1) := by decide +kernel
theorem dX5_followers_16 : decode cX5_followers 16 = .ok (.getfield 18, 3) := by decide +kernel
theorem dX5_followers_19 : decode cX5_followers 19 = .ok (.aload_n 0, 1) := by decide +kernel
theorem dX5_followers_20 : decode cX5_followers 20 = .ok (.getfield 22, 3) := by decide +kernel
theorem dX5_followers_23 : decode cX5_followers 23 = .ok (.iconst 0, 1) := by decide +kernel
theorem dX5_followers_24 : decode cX5_followers 24 = .ok (.iload_n 1, 1) := by decide +kernel
theorem dX5_followers_25 : decode cX5_followers 25 = .ok (.invokevirtual 57, 3) := by decide +kernel
theorem dX5_followers_28 : decode cX5_followers 28 = .ok (.ifCond .eq 7, 3) := by decide +kernel
theorem dX5_followers_31 : decode cX5_followers 31 = .ok (.iconst 1, 1) := by decide +kernel
theorem dX5_followers_32 : decode cX5_followers 32 = .ok (.iload_n 1, 1) := by decide +kernel
theorem dX5_followers_33 : decode cX5_followers 33 = .ok (.ishl, 1) := by decide +kernel
theorem dX5_followers_34 : decode cX5_followers 34 = .ok (.ireturn, 1) := by decide +kernel
theorem dX5_followers_35 : decode cX5_followers 35 = .ok (.aload_n 0, 1) := by decide +kernel
theorem dX5_followers_36 : decode cX5_followers 36 = .ok (.getfield 18, 3) := by decide +kernel
theorem dX5_followers_39 : decode cX5_followers 39 = .ok (.aload_n 0, 1) := by decide +kernel
theorem dX5_followers_40 : decode cX5_followers 40 = .ok (.getfield 22, 3) := by decide +kernel
theorem dX5_followers_43 : decode cX5_followers 43 = .ok (.iconst 2, 1) := by decide +kernel
theorem dX5_followers_44 : decode cX5_followers 44 = .ok (.iload_n 2, 1) := by decide +kernel
theorem dX5_followers_45 : decode cX5_followers 45 = .ok (.invokevirtual 57, 3) := by decide +kernel
theorem dX5_followers_48 : decode cX5_followers 48 = .ok (.ifCond .eq 5, 3) := by decide +kernel
theorem dX5_followers_51 : decode cX5_followers 51 = .ok (.iconst 0, 1) := by decide +kernel
theorem dX5_followers_52 : decode cX5_followers 52 = .ok (.ireturn, 1) := by decide +kernel
theorem dX5_followers_53 : decode cX5_followers 53 = .ok (.aload_n 0, 1) := by decide +kernel
theorem dX5_followers_54 : decode cX5_followers 54 = .ok (.getfield 18, 3) := by decide +kernel
theorem dX5_followers_57 : decode cX5_followers 57 = .ok (.aload_n 0, 1) := by decide +kernel
theorem dX5_followers_58 : decode cX5_followers 58 = .ok (.getfield 22, 3) := by decide +kernel
theorem dX5_followers_61 : decode cX5_followers 61 = .ok (.iload_n 2, 1) := by decide +kernel
theorem dX5_followers_62 : decode cX5_followers 62 = .ok (.invokevirtual 61, 3) := by decide +kernel
theorem dX5_followers_65 : decode cX5_followers 65 = .ok (.istore_n 3, 1) := by decide +kernel
theorem dX5_followers_66 : decode cX5_followers 66 = .ok (.iload_n 3, 1) := by decide +kernel
theorem dX5_followers_67 : decode cX5_followers 67 = .ok (.iconst (-1), 1) := by decide +kernel
theorem dX5_followers_68 : decode cX5_followers 68 = .ok (.if_icmp .ne 15, 3) := by decide +kernel
theorem dX5_followers_71 : decode cX5_followers 71 = .ok (.aload_n 0, 1) := by decide +kernel
theorem dX5_followers_72 : decode cX5_followers 72 = .ok (.getfield 18, 3) := by decide +kernel
theorem dX5_followers_75 : decode cX5_followers 75 = .ok (.getfield 35, 3) := by decide +kernel
theorem dX5_followers_78 : decode cX5_followers 78 = .ok (.iload_n 2, 1) := by decide +kernel
theorem dX5_followers_79 : decode cX5_followers 79 = .ok (.iaload, 1) := by decide +kernel
theorem dX5_followers_80 : decode cX5_followers 80 = .ok (.goto 22, 3) := by decide +kernel
theorem dX5_followers_83 : decode cX5_followers 83 = .ok (.aload_n 0, 1) := by decide +kernel
theorem dX5_followers_84 : decode cX5_followers 84 = .ok (.getfield 18, 3) := by decide +kernel
theorem dX5_followers_87 : decode cX5_followers 87 = .ok (.getfield 35, 3) := by decide +kernel
theorem dX5_followers_90 : decode cX5_followers 90 = .ok (.iload_n 2, 1) := by decide +kernel
theorem dX5_followers_91 : decode cX5_followers 91 = .ok (.iaload, 1) := by decide +kernel
theorem dX5_followers_92 : decode cX5_followers 92 = .ok (.aload_n 0, 1) := by decide +kernel
theorem dX5_followers_93 : decode cX5_followers 93 = .ok (.getfield 18, 3) := by decide +kernel
theorem dX5_followers_96 : decode cX5_followers 96 = .ok (.getfield 35, 3) := by decide +kernel
theorem dX5_followers_99 : decode cX5_followers 99 = .ok (.iload_n 3, 1) := by decide +kernel
theorem dX5_followers_100 : decode cX5_followers 100 = .ok (.iaload, 1) := by decide +kernel
theorem dX5_followers_101 : decode cX5_followers 101 = .ok (.ior, 1) := by decide +kernel
theorem dX5_followers_102 : decode cX5_followers 102 = .ok (.istore 4, 2) := by decide +kernel
theorem dX5_followers_104 : decode cX5_followers 104 = .ok (.aload_n 0, 1) := by decide +kernel
theorem dX5_followers_105 : decode cX5_followers 105 = .ok (.getfield 18, 3) := by decide +kernel
theorem dX5_followers_108 : decode cX5_followers 108 = .ok (.aload_n 0, 1) := by decide +kernel
theorem dX5_followers_109 : decode cX5_followers 109 = .ok (.getfield 22, 3) := by decide +kernel
theorem dX5_followers_112 : decode cX5_followers 112 = .ok (.invokevirtual 26, 3) := by decide +kernel
theorem dX5_followers_115 : decode cX5_followers 115 = .ok (.ifCond .eq 39, 3) := by decide +kernel
theorem dX5_followers_118 : decode cX5_followers 118 = .ok (.aload_n 0, 1) := by decide +kernel
theorem dX5_followers_119 : decode cX5_followers 119 = .ok (.getfield 18, 3) := by decide +kernel
theorem dX5_followers_122 : decode cX5_followers 122 = .ok (.getfield 32, 3) := by decide +kernel
theorem dX5_followers_125 : decode cX5_followers 125 = .ok (.aload_n 0, 1) := by decide +kernel
theorem dX5_followers_126 : decode cX5_followers 126 = .ok (.getfield 22, 3) := by decide +kernel
theorem dX5_followers_129 : decode cX5_followers 129 = .ok (.iaload, 1) := by decide +kernel
theorem dX5_followers_130 : decode cX5_followers 130 = .ok (.ifCond .ne 24, 3) := by decide +kernel
theorem dX5_followers_133 : decode cX5_followers 133 = .ok (.iload 4, 2) := by decide +kernel
theorem dX5_followers_135 : decode cX5_followers 135 = .ok (.iconst 1, 1) := by decide +kernel
theorem dX5_followers_136 : decode cX5_followers 136 = .ok (.aload_n 0, 1) := by decide +kernel
theorem dX5_followers_137 : decode cX5_followers 137 = .ok (.getfield 18, 3) := by decide +kernel
theorem dX5_followers_140 : decode cX5_followers 140 = .ok (.getfield 38, 3) := by decide +kernel
theorem dX5_followers_143 : decode cX5_followers 143 = .ok (.aload_n 0, 1) := by decide +kernel
theorem dX5_followers_144 : decode cX5_followers 144 = .ok (.getfield 22, 3) := by decide +kernel
theorem dX5_followers_147 : decode cX5_followers 147 = .ok (.iaload, 1) := by decide +kernel
theorem dX5_followers_148 : decode cX5_followers 148 = .ok (.ishl, 1) := by decide +kernel
theorem dX5_followers_149 : decode cX5_followers 149 = .ok (.iconst (-1), 1) := by decide +kernel
theorem dX5_followers_150 : decode cX5_followers 150 = .ok (.ixor, 1) := by decide +kernel
theorem dX5_followers_151 : decode cX5_followers 151 = .ok (.iand, 1) := by decide +kernel
theorem dX5_followers_152 : decode cX5_followers 152 = .ok (.istore 4, 2) := by decide +kernel
theorem dX5_followers_154 : decode cX5_followers 154 = .ok (.iload 4, 2) := by decide +kernel
theorem dX5_followers_156 : decode cX5_followers 156 = .ok (.ireturn, 1) := by decide +kernel
theorem dX5_scannedChips_0 : decode cX5_scannedChips 0 = .ok (.aload_n 0, 1) := by decide +kernel
theorem dX5_scannedChips_1 : decode cX5_scannedChips 1 = .ok (.iload_n 1, 1) := by decide +kernel
theorem dX5_scannedChips_2 : decode cX5_scannedChips 2 = .ok (.aload_n 0, 1) := by decide +kernel
theorem dX5_scannedChips_3 : decode cX5_scannedChips 3 = .ok (.getfield 18, 3) := by decide +kernel
theorem dX5_scannedChips_6 : decode cX5_scannedChips 6 = .ok (.getfield 65, 3) := by decide +kernel
theorem dX5_scannedChips_9 : decode cX5_scannedChips 9 = .ok (.aload_n 0, 1) := by decide +kernel
theorem dX5_scannedChips_10 : decode cX5_scannedChips 10 = .ok (.getfield 18, 3) := by decide +kernel
theorem dX5_scannedChips_13 : decode cX5_scannedChips 13 = .ok (.getfield 68, 3) := by decide +kernel
theorem dX5_scannedChips_16 : decode cX5_scannedChips 16 = .ok (.invokevirtual 71, 3) := by decide +kernel
theorem dX5_scannedChips_19 : decode cX5_scannedChips 19 = .ok (.istore_n 2, 1) := by decide +kernel
theorem dX5_scannedChips_20 : decode cX5_scannedChips 20 = .ok (.aload_n 0, 1) := by decide +kernel
theorem dX5_scannedChips_21 : decode cX5_scannedChips 21 = .ok (.iload_n 1, 1) := by decide +kernel
theorem dX5_scannedChips_22 : decode cX5_scannedChips 22 = .ok (.aload_n 0, 1) := by decide +kernel
theorem dX5_scannedChips_23 : decode cX5_scannedChips 23 = .ok (.getfield 18, 3) := by decide +kernel
theorem dX5_scannedChips_26 : decode cX5_scannedChips 26 = .ok (.getfield 68, 3) := by decide +kernel
theorem dX5_scannedChips_29 : decode cX5_scannedChips 29 = .ok (.aload_n 0, 1) := by decide +kernel
theorem dX5_scannedChips_30 : decode cX5_scannedChips 30 = .ok (.getfield 18, 3) := by decide +kernel
theorem dX5_scannedChips_33 : decode cX5_scannedChips 33 = .ok (.getfield 65, 3) := by decide +kernel
theorem dX5_scannedChips_36 : decode cX5_scannedChips 36 = .ok (.invokevirtual 71, 3) := by decide +kernel
theorem dX5_scannedChips_39 : decode cX5_scannedChips 39 = .ok (.istore_n 3, 1) := by decide +kernel
theorem dX5_scannedChips_40 : decode cX5_scannedChips 40 = .ok (.iload_n 2, 1) := by decide +kernel
theorem dX5_scannedChips_41 : decode cX5_scannedChips 41 = .ok (.iload_n 3, 1) := by decide +kernel
theorem dX5_scannedChips_42 : decode cX5_scannedChips 42 = .ok (.iand, 1) := by decide +kernel
theorem dX5_scannedChips_43 : decode cX5_scannedChips 43 = .ok (.ireturn, 1) := by decide +kernel
theorem dX5_spread_0 : decode cX5_spread 0 = .ok (.iconst 0, 1) := by decide +kernel
theorem dX5_spread_1 : decode cX5_spread 1 = .ok (.istore 4, 2) := by decide +kernel
theorem dX5_spread_3 : decode cX5_spread 3 = .ok (.iconst 0, 1) := by decide +kernel
theorem dX5_spread_4 : decode cX5_spread 4 = .ok (.istore 5, 2) := by decide +kernel
theorem dX5_spread_6 : decode cX5_spread 6 = .ok (.iconst 0, 1) := by decide +kernel
theorem dX5_spread_7 : decode cX5_spread 7 = .ok (.istore 6, 2) := by decide +kernel
theorem dX5_spread_9 : decode cX5_spread 9 = .ok (.iload 6, 2) := by decide +kernel
theorem dX5_spread_11 : decode cX5_spread 11 = .ok (.aload_n 0, 1) := by decide +kernel
theorem dX5_spread_12 : decode cX5_spread 12 = .ok (.getfield 18, 3) := by decide +kernel
theorem dX5_spread_15 : decode cX5_spread 15 = .ok (.getfield 75, 3) := by decide +kernel
theorem dX5_spread_18 : decode cX5_spread 18 = .ok (.if_icmp .ge 103, 3) := by decide +kernel
theorem dX5_spread_21 : decode cX5_spread 21 = .ok (.iconst 0, 1) := by decide +kernel
theorem dX5_spread_22 : decode cX5_spread 22 = .ok (.istore 7, 2) := by decide +kernel
theorem dX5_spread_24 : decode cX5_spread 24 = .ok (.iload 7, 2) := by decide +kernel
theorem dX5_spread_26 : decode cX5_spread 26 = .ok (.aload_n 0, 1) := by decide +kernel
theorem dX5_spread_27 : decode cX5_spread 27 = .ok (.getfield 18, 3) := by decide +kernel
theorem dX5_spread_30 : decode cX5_spread 30 = .ok (.getfield 75, 3) := by decide +kernel
theorem dX5_spread_33 : decode cX5_spread 33 = .ok (.if_icmp .ge 82, 3) := by decide +kernel
theorem dX5_spread_36 : decode cX5_spread 36 = .ok (.iload_n 1, 1) := by decide +kernel
theorem dX5_spread_37 : decode cX5_spread 37 = .ok (.aload_n 2, 1) := by decide +kernel
theorem dX5_spread_38 : decode cX5_spread 38 = .ok (.iload 7, 2) := by decide +kernel
theorem dX5_spread_40 : decode cX5_spread 40 = .ok (.iaload, 1) := by decide +kernel
theorem dX5_spread_41 : decode cX5_spread 41 = .ok (.invokestatic 78, 3) := by decide +kernel
theorem dX5_spread_44 : decode cX5_spread 44 = .ok (.ifCond .ne 18, 3) := by decide +kernel
theorem dX5_spread_47 : decode cX5_spread 47 = .ok (.aload_n 0, 1) := by decide +kernel
theorem dX5_spread_48 : decode cX5_spread 48 = .ok (.getfield 9, 3) := by decide +kernel
theorem dX5_spread_51 : decode cX5_spread 51 = .ok (.aload_n 2, 1) := by decide +kernel
theorem dX5_spread_52 : decode cX5_spread 52 = .ok (.iload 7, 2) := by decide +kernel
theorem dX5_spread_54 : decode cX5_spread 54 = .ok (.iaload, 1) := by decide +kernel
theorem dX5_spread_55 : decode cX5_spread 55 = .ok (.iaload, 1) := by decide +kernel
theorem dX5_spread_56 : decode cX5_spread 56 = .ok (.iload 5, 2) := by decide +kernel
theorem dX5_spread_58 : decode cX5_spread 58 = .ok (.iand, 1) := by decide +kernel
theorem dX5_spread_59 : decode cX5_spread 59 = .ok (.ifCond .eq 7, 3) := by decide +kernel
theorem dX5_spread_62 : decode cX5_spread 62 = .ok (.iconst 1, 1) := by decide +kernel
theorem dX5_spread_63 : decode cX5_spread 63 = .ok (.goto 4, 3) := by decide +kernel
theorem dX5_spread_66 : decode cX5_spread 66 = .ok (.iconst 0, 1) := by decide +kernel
theorem dX5_spread_67 : decode cX5_spread 67 = .ok (.istore 8, 2) := by decide +kernel
theorem dX5_spread_69 : decode cX5_spread 69 = .ok (.iload 8, 2) := by decide +kernel
theorem dX5_spread_71 : decode cX5_spread 71 = .ok (.ifCond .eq 38, 3) := by decide +kernel
theorem dX5_spread_74 : decode cX5_spread 74 = .ok (.aload_n 0, 1) := by decide +kernel
theorem dX5_spread_75 : decode cX5_spread 75 = .ok (.getfield 44, 3) := by decide +kernel
theorem dX5_spread_78 : decode cX5_spread 78 = .ok (.iload 7, 2) := by decide +kernel
theorem dX5_spread_80 : decode cX5_spread 80 = .ok (.invokestatic 78, 3) := by decide +kernel
theorem dX5_spread_83 : decode cX5_spread 83 = .ok (.ifCond .ne 26, 3) := by decide +kernel
theorem dX5_spread_86 : decode cX5_spread 86 = .ok (.iload 4, 2) := by decide +kernel
theorem dX5_spread_88 : decode cX5_spread 88 = .ok (.iconst 1, 1) := by decide +kernel
theorem dX5_spread_89 : decode cX5_spread 89 = .ok (.iload 7, 2) := by decide +kernel
theorem dX5_spread_91 : decode cX5_spread 91 = .ok (.ishl, 1) := by decide +kernel
theorem dX5_spread_92 : decode cX5_spread 92 = .ok (.ior, 1) := by decide +kernel
theorem dX5_spread_93 : decode cX5_spread 93 = .ok (.istore 4, 2) := by decide +kernel
theorem dX5_spread_95 : decode cX5_spread 95 = .ok (.iload 5, 2) := by decide +kernel
theorem dX5_spread_97 : decode cX5_spread 97 = .ok (.aload_n 0, 1) := by decide +kernel
theorem dX5_spread_98 : decode cX5_spread 98 = .ok (.getfield 9, 3) := by decide +kernel
theorem dX5_spread_101 : decode cX5_spread 101 = .ok (.aload_n 3, 1) := by decide +kernel
theorem dX5_spread_102 : decode cX5_spread 102 = .ok (.iload 7, 2) := by decide +kernel
theorem dX5_spread_104 : decode cX5_spread 104 = .ok (.iaload, 1) := by decide +kernel
theorem dX5_spread_105 : decode cX5_spread 105 = .ok (.iaload, 1) := by decide +kernel
theorem dX5_spread_106 : decode cX5_spread 106 = .ok (.ior, 1) := by decide +kernel
theorem dX5_spread_107 : decode cX5_spread 107 = .ok (.istore 5, 2) := by decide +kernel
theorem dX5_spread_109 : decode cX5_spread 109 = .ok (.iinc 7 1, 3) := by decide +kernel
theorem dX5_spread_112 : decode cX5_spread 112 = .ok (.goto (-88), 3) := by decide +kernel
theorem dX5_spread_115 : decode cX5_spread 115 = .ok (.iinc 6 1, 3) := by decide +kernel
theorem dX5_spread_118 : decode cX5_spread 118 = .ok (.goto (-109), 3) := by decide +kernel
theorem dX5_spread_121 : decode cX5_spread 121 = .ok (.iload 4, 2) := by decide +kernel
theorem dX5_spread_123 : decode cX5_spread 123 = .ok (.ireturn, 1) := by decide +kernel
theorem dX5_probe_0 : decode cX5_probe 0 = .ok (.aload_n 0, 1) := by decide +kernel
theorem dX5_probe_1 : decode cX5_probe 1 = .ok (.iload_n 1, 1) := by decide +kernel
theorem dX5_probe_2 : decode cX5_probe 2 = .ok (.invokevirtual 82, 3) := by decide +kernel
theorem dX5_probe_5 : decode cX5_probe 5 = .ok (.istore_n 2, 1) := by decide +kernel
theorem dX5_probe_6 : decode cX5_probe 6 = .ok (.aload_n 0, 1) := by decide +kernel
theorem dX5_probe_7 : decode cX5_probe 7 = .ok (.iload_n 1, 1) := by decide +kernel
theorem dX5_probe_8 : decode cX5_probe 8 = .ok (.putfield 85, 3) := by decide +kernel
theorem dX5_probe_11 : decode cX5_probe 11 = .ok (.iconst 0, 1) := by decide +kernel
theorem dX5_probe_12 : decode cX5_probe 12 = .ok (.istore_n 3, 1) := by decide +kernel
theorem dX5_probe_13 : decode cX5_probe 13 = .ok (.iload_n 3, 1) := by decide +kernel
theorem dX5_probe_14 : decode cX5_probe 14 = .ok (.aload_n 0, 1) := by decide +kernel
theorem dX5_probe_15 : decode cX5_probe 15 = .ok (.getfield 18, 3) := by decide +kernel
theorem dX5_probe_18 : decode cX5_probe 18 = .ok (.getfield 75, 3) := by decide +kernel
theorem dX5_probe_21 : decode cX5_probe 21 = .ok (.if_icmp .ge 35, 3) := by decide +kernel
theorem dX5_probe_24 : decode cX5_probe 24 = .ok (.iload_n 2, 1) := by decide +kernel
theorem dX5_probe_25 : decode cX5_probe 25 = .ok (.iload_n 3, 1) := by decide +kernel
