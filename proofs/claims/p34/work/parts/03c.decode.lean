theorem dX5_probe_26 : decode cX5_probe 26 = .ok (.invokestatic 78, 3) := by decide +kernel
theorem dX5_probe_29 : decode cX5_probe 29 = .ok (.ifCond .eq 21, 3) := by decide +kernel
theorem dX5_probe_32 : decode cX5_probe 32 = .ok (.aload_n 0, 1) := by decide +kernel
theorem dX5_probe_33 : decode cX5_probe 33 = .ok (.dup, 1) := by decide +kernel
theorem dX5_probe_34 : decode cX5_probe 34 = .ok (.getfield 85, 3) := by decide +kernel
theorem dX5_probe_37 : decode cX5_probe 37 = .ok (.aload_n 0, 1) := by decide +kernel
theorem dX5_probe_38 : decode cX5_probe 38 = .ok (.getfield 18, 3) := by decide +kernel
theorem dX5_probe_41 : decode cX5_probe 41 = .ok (.getfield 88, 3) := by decide +kernel
theorem dX5_probe_44 : decode cX5_probe 44 = .ok (.iload_n 3, 1) := by decide +kernel
theorem dX5_probe_45 : decode cX5_probe 45 = .ok (.iaload, 1) := by decide +kernel
theorem dX5_probe_46 : decode cX5_probe 46 = .ok (.ior, 1) := by decide +kernel
theorem dX5_probe_47 : decode cX5_probe 47 = .ok (.putfield 85, 3) := by decide +kernel
theorem dX5_probe_50 : decode cX5_probe 50 = .ok (.iinc 3 1, 3) := by decide +kernel
theorem dX5_probe_53 : decode cX5_probe 53 = .ok (.goto (-40), 3) := by decide +kernel
theorem dX5_probe_56 : decode cX5_probe 56 = .ok (.return_, 1) := by decide +kernel
theorem dX5_pinsAtOne_0 : decode cX5_pinsAtOne 0 = .ok (.iload_n 2, 1) := by decide +kernel
theorem dX5_pinsAtOne_1 : decode cX5_pinsAtOne 1 = .ok (.iconst 1, 1) := by decide +kernel
theorem dX5_pinsAtOne_2 : decode cX5_pinsAtOne 2 = .ok (.if_icmp .ne 17, 3) := by decide +kernel
theorem dX5_pinsAtOne_5 : decode cX5_pinsAtOne 5 = .ok (.aload_n 0, 1) := by decide +kernel
theorem dX5_pinsAtOne_6 : decode cX5_pinsAtOne 6 = .ok (.getfield 15, 3) := by decide +kernel
theorem dX5_pinsAtOne_9 : decode cX5_pinsAtOne 9 = .ok (.iload_n 1, 1) := by decide +kernel
theorem dX5_pinsAtOne_10 : decode cX5_pinsAtOne 10 = .ok (.iaload, 1) := by decide +kernel
theorem dX5_pinsAtOne_11 : decode cX5_pinsAtOne 11 = .ok (.aload_n 0, 1) := by decide +kernel
theorem dX5_pinsAtOne_12 : decode cX5_pinsAtOne 12 = .ok (.getfield 41, 3) := by decide +kernel
theorem dX5_pinsAtOne_15 : decode cX5_pinsAtOne 15 = .ok (.ior, 1) := by decide +kernel
theorem dX5_pinsAtOne_16 : decode cX5_pinsAtOne 16 = .ok (.goto 7, 3) := by decide +kernel
theorem dX5_pinsAtOne_19 : decode cX5_pinsAtOne 19 = .ok (.aload_n 0, 1) := by decide +kernel
theorem dX5_pinsAtOne_20 : decode cX5_pinsAtOne 20 = .ok (.getfield 41, 3) := by decide +kernel
theorem dX5_pinsAtOne_23 : decode cX5_pinsAtOne 23 = .ok (.istore_n 3, 1) := by decide +kernel
theorem dX5_pinsAtOne_24 : decode cX5_pinsAtOne 24 = .ok (.iload_n 3, 1) := by decide +kernel
theorem dX5_pinsAtOne_25 : decode cX5_pinsAtOne 25 = .ok (.aload_n 0, 1) := by decide +kernel
theorem dX5_pinsAtOne_26 : decode cX5_pinsAtOne 26 = .ok (.getfield 85, 3) := by decide +kernel
theorem dX5_pinsAtOne_29 : decode cX5_pinsAtOne 29 = .ok (.iand, 1) := by decide +kernel
theorem dX5_pinsAtOne_30 : decode cX5_pinsAtOne 30 = .ok (.ireturn, 1) := by decide +kernel
theorem dX5_sameOutcome_0 : decode cX5_sameOutcome 0 = .ok (.aload_n 0, 1) := by decide +kernel
theorem dX5_sameOutcome_1 : decode cX5_sameOutcome 1 = .ok (.getfield 85, 3) := by decide +kernel
theorem dX5_sameOutcome_4 : decode cX5_sameOutcome 4 = .ok (.aload_n 1, 1) := by decide +kernel
theorem dX5_sameOutcome_5 : decode cX5_sameOutcome 5 = .ok (.getfield 85, 3) := by decide +kernel
theorem dX5_sameOutcome_8 : decode cX5_sameOutcome 8 = .ok (.if_icmp .ne 24, 3) := by decide +kernel
theorem dX5_sameOutcome_11 : decode cX5_sameOutcome 11 = .ok (.aload_n 0, 1) := by decide +kernel
theorem dX5_sameOutcome_12 : decode cX5_sameOutcome 12 = .ok (.getfield 41, 3) := by decide +kernel
theorem dX5_sameOutcome_15 : decode cX5_sameOutcome 15 = .ok (.aload_n 0, 1) := by decide +kernel
theorem dX5_sameOutcome_16 : decode cX5_sameOutcome 16 = .ok (.getfield 85, 3) := by decide +kernel
theorem dX5_sameOutcome_19 : decode cX5_sameOutcome 19 = .ok (.iand, 1) := by decide +kernel
theorem dX5_sameOutcome_20 : decode cX5_sameOutcome 20 = .ok (.aload_n 1, 1) := by decide +kernel
theorem dX5_sameOutcome_21 : decode cX5_sameOutcome 21 = .ok (.getfield 41, 3) := by decide +kernel
theorem dX5_sameOutcome_24 : decode cX5_sameOutcome 24 = .ok (.aload_n 0, 1) := by decide +kernel
theorem dX5_sameOutcome_25 : decode cX5_sameOutcome 25 = .ok (.getfield 85, 3) := by decide +kernel
theorem dX5_sameOutcome_28 : decode cX5_sameOutcome 28 = .ok (.iand, 1) := by decide +kernel
theorem dX5_sameOutcome_29 : decode cX5_sameOutcome 29 = .ok (.if_icmp .eq 5, 3) := by decide +kernel
theorem dX5_sameOutcome_32 : decode cX5_sameOutcome 32 = .ok (.iconst 0, 1) := by decide +kernel
theorem dX5_sameOutcome_33 : decode cX5_sameOutcome 33 = .ok (.ireturn, 1) := by decide +kernel
theorem dX5_sameOutcome_34 : decode cX5_sameOutcome 34 = .ok (.iconst 0, 1) := by decide +kernel
theorem dX5_sameOutcome_35 : decode cX5_sameOutcome 35 = .ok (.istore_n 2, 1) := by decide +kernel
theorem dX5_sameOutcome_36 : decode cX5_sameOutcome 36 = .ok (.iload_n 2, 1) := by decide +kernel
theorem dX5_sameOutcome_37 : decode cX5_sameOutcome 37 = .ok (.bipush 16, 2) := by decide +kernel
theorem dX5_sameOutcome_39 : decode cX5_sameOutcome 39 = .ok (.if_icmp .ge 37, 3) := by decide +kernel
theorem dX5_sameOutcome_42 : decode cX5_sameOutcome 42 = .ok (.aload_n 0, 1) := by decide +kernel
theorem dX5_sameOutcome_43 : decode cX5_sameOutcome 43 = .ok (.getfield 85, 3) := by decide +kernel
theorem dX5_sameOutcome_46 : decode cX5_sameOutcome 46 = .ok (.iload_n 2, 1) := by decide +kernel
theorem dX5_sameOutcome_47 : decode cX5_sameOutcome 47 = .ok (.invokestatic 78, 3) := by decide +kernel
theorem dX5_sameOutcome_50 : decode cX5_sameOutcome 50 = .ok (.ifCond .eq 20, 3) := by decide +kernel
theorem dX5_sameOutcome_53 : decode cX5_sameOutcome 53 = .ok (.aload_n 0, 1) := by decide +kernel
theorem dX5_sameOutcome_54 : decode cX5_sameOutcome 54 = .ok (.iload_n 2, 1) := by decide +kernel
theorem dX5_sameOutcome_55 : decode cX5_sameOutcome 55 = .ok (.iconst 1, 1) := by decide +kernel
theorem dX5_sameOutcome_56 : decode cX5_sameOutcome 56 = .ok (.invokevirtual 91, 3) := by decide +kernel
theorem dX5_sameOutcome_59 : decode cX5_sameOutcome 59 = .ok (.aload_n 1, 1) := by decide +kernel
theorem dX5_sameOutcome_60 : decode cX5_sameOutcome 60 = .ok (.iload_n 2, 1) := by decide +kernel
theorem dX5_sameOutcome_61 : decode cX5_sameOutcome 61 = .ok (.iconst 1, 1) := by decide +kernel
theorem dX5_sameOutcome_62 : decode cX5_sameOutcome 62 = .ok (.invokevirtual 91, 3) := by decide +kernel
theorem dX5_sameOutcome_65 : decode cX5_sameOutcome 65 = .ok (.if_icmp .eq 5, 3) := by decide +kernel
theorem dX5_sameOutcome_68 : decode cX5_sameOutcome 68 = .ok (.iconst 0, 1) := by decide +kernel
theorem dX5_sameOutcome_69 : decode cX5_sameOutcome 69 = .ok (.ireturn, 1) := by decide +kernel
theorem dX5_sameOutcome_70 : decode cX5_sameOutcome 70 = .ok (.iinc 2 1, 3) := by decide +kernel
theorem dX5_sameOutcome_73 : decode cX5_sameOutcome 73 = .ok (.goto (-37), 3) := by decide +kernel
theorem dX5_sameOutcome_76 : decode cX5_sameOutcome 76 = .ok (.iconst 1, 1) := by decide +kernel
theorem dX5_sameOutcome_77 : decode cX5_sameOutcome 77 = .ok (.ireturn, 1) := by decide +kernel
theorem dX6_init_0 : decode cX6_init 0 = .ok (.aload_n 0, 1) := by decide +kernel
theorem dX6_init_1 : decode cX6_init 1 = .ok (.invokespecial 3, 3) := by decide +kernel
theorem dX6_init_4 : decode cX6_init 4 = .ok (.aload_n 0, 1) := by decide +kernel
theorem dX6_init_5 : decode cX6_init 5 = .ok (.new 9, 3) := by decide +kernel
theorem dX6_init_8 : decode cX6_init 8 = .ok (.dup, 1) := by decide +kernel
theorem dX6_init_9 : decode cX6_init 9 = .ok (.invokespecial 11, 3) := by decide +kernel
theorem dX6_init_12 : decode cX6_init 12 = .ok (.putfield 12, 3) := by decide +kernel
theorem dX6_init_15 : decode cX6_init 15 = .ok (.aload_n 0, 1) := by decide +kernel
theorem dX6_init_16 : decode cX6_init 16 = .ok (.new 16, 3) := by decide +kernel
theorem dX6_init_19 : decode cX6_init 19 = .ok (.dup, 1) := by decide +kernel
theorem dX6_init_20 : decode cX6_init 20 = .ok (.invokespecial 18, 3) := by decide +kernel
theorem dX6_init_23 : decode cX6_init 23 = .ok (.putfield 19, 3) := by decide +kernel
theorem dX6_init_26 : decode cX6_init 26 = .ok (.new 23, 3) := by decide +kernel
theorem dX6_init_29 : decode cX6_init 29 = .ok (.dup, 1) := by decide +kernel
theorem dX6_init_30 : decode cX6_init 30 = .ok (.invokespecial 25, 3) := by decide +kernel
theorem dX6_init_33 : decode cX6_init 33 = .ok (.astore_n 1, 1) := by decide +kernel
theorem dX6_init_34 : decode cX6_init 34 = .ok (.aload_n 0, 1) := by decide +kernel
theorem dX6_init_35 : decode cX6_init 35 = .ok (.new 26, 3) := by decide +kernel
theorem dX6_init_38 : decode cX6_init 38 = .ok (.dup, 1) := by decide +kernel
theorem dX6_init_39 : decode cX6_init 39 = .ok (.aload_n 1, 1) := by decide +kernel
theorem dX6_init_40 : decode cX6_init 40 = .ok (.invokespecial 28, 3) := by decide +kernel
theorem dX6_init_43 : decode cX6_init 43 = .ok (.putfield 31, 3) := by decide +kernel
theorem dX6_init_46 : decode cX6_init 46 = .ok (.aload_n 0, 1) := by decide +kernel
theorem dX6_init_47 : decode cX6_init 47 = .ok (.new 35, 3) := by decide +kernel
theorem dX6_init_50 : decode cX6_init 50 = .ok (.dup, 1) := by decide +kernel
theorem dX6_init_51 : decode cX6_init 51 = .ok (.aload_n 1, 1) := by decide +kernel
theorem dX6_init_52 : decode cX6_init 52 = .ok (.invokespecial 37, 3) := by decide +kernel
theorem dX6_init_55 : decode cX6_init 55 = .ok (.putfield 38, 3) := by decide +kernel
theorem dX6_init_58 : decode cX6_init 58 = .ok (.return_, 1) := by decide +kernel
theorem dX6_net_0 : decode cX6_net 0 = .ok (.aload_n 0, 1) := by decide +kernel
theorem dX6_net_1 : decode cX6_net 1 = .ok (.getfield 31, 3) := by decide +kernel
theorem dX6_net_4 : decode cX6_net 4 = .ok (.getfield 42, 3) := by decide +kernel
theorem dX6_net_7 : decode cX6_net 7 = .ok (.iload_n 1, 1) := by decide +kernel
theorem dX6_net_8 : decode cX6_net 8 = .ok (.invokevirtual 46, 3) := by decide +kernel
theorem dX6_net_11 : decode cX6_net 11 = .ok (.istore_n 2, 1) := by decide +kernel
theorem dX6_net_12 : decode cX6_net 12 = .ok (.iload_n 2, 1) := by decide +kernel
theorem dX6_net_13 : decode cX6_net 13 = .ok (.ifCond .eq 5, 3) := by decide +kernel
theorem dX6_net_16 : decode cX6_net 16 = .ok (.iload_n 2, 1) := by decide +kernel
theorem dX6_net_17 : decode cX6_net 17 = .ok (.ireturn, 1) := by decide +kernel
theorem dX6_net_18 : decode cX6_net 18 = .ok (.aload_n 0, 1) := by decide +kernel
theorem dX6_net_19 : decode cX6_net 19 = .ok (.getfield 12, 3) := by decide +kernel
theorem dX6_net_22 : decode cX6_net 22 = .ok (.aload_n 0, 1) := by decide +kernel
theorem dX6_net_23 : decode cX6_net 23 = .ok (.getfield 31, 3) := by decide +kernel
theorem dX6_net_26 : decode cX6_net 26 = .ok (.invokevirtual 50, 3) := by decide +kernel
theorem dX6_net_29 : decode cX6_net 29 = .ok (.aload_n 0, 1) := by decide +kernel
theorem dX6_net_30 : decode cX6_net 30 = .ok (.getfield 31, 3) := by decide +kernel
theorem dX6_net_33 : decode cX6_net 33 = .ok (.getfield 42, 3) := by decide +kernel
theorem dX6_net_36 : decode cX6_net 36 = .ok (.iload_n 1, 1) := by decide +kernel
theorem dX6_net_37 : decode cX6_net 37 = .ok (.invokevirtual 54, 3) := by decide +kernel
theorem dX6_net_40 : decode cX6_net 40 = .ok (.ireturn, 1) := by decide +kernel
theorem dX6_chip_0 : decode cX6_chip 0 = .ok (.aload_n 0, 1) := by decide +kernel
theorem dX6_chip_1 : decode cX6_chip 1 = .ok (.getfield 31, 3) := by decide +kernel
theorem dX6_chip_4 : decode cX6_chip 4 = .ok (.getfield 42, 3) := by decide +kernel
theorem dX6_chip_7 : decode cX6_chip 7 = .ok (.iload_n 1, 1) := by decide +kernel
theorem dX6_chip_8 : decode cX6_chip 8 = .ok (.iload_n 2, 1) := by decide +kernel
theorem dX6_chip_9 : decode cX6_chip 9 = .ok (.iload_n 3, 1) := by decide +kernel
theorem dX6_chip_10 : decode cX6_chip 10 = .ok (.invokevirtual 57, 3) := by decide +kernel
theorem dX6_chip_13 : decode cX6_chip 13 = .ok (.istore 4, 2) := by decide +kernel
theorem dX6_chip_15 : decode cX6_chip 15 = .ok (.iload 4, 2) := by decide +kernel
theorem dX6_chip_17 : decode cX6_chip 17 = .ok (.ifCond .eq 6, 3) := by decide +kernel
theorem dX6_chip_20 : decode cX6_chip 20 = .ok (.iload 4, 2) := by decide +kernel
theorem dX6_chip_22 : decode cX6_chip 22 = .ok (.ireturn, 1) := by decide +kernel
theorem dX6_chip_23 : decode cX6_chip 23 = .ok (.aload_n 0, 1) := by decide +kernel
theorem dX6_chip_24 : decode cX6_chip 24 = .ok (.getfield 12, 3) := by decide +kernel
theorem dX6_chip_27 : decode cX6_chip 27 = .ok (.aload_n 0, 1) := by decide +kernel
theorem dX6_chip_28 : decode cX6_chip 28 = .ok (.getfield 31, 3) := by decide +kernel
theorem dX6_chip_31 : decode cX6_chip 31 = .ok (.invokevirtual 50, 3) := by decide +kernel
theorem dX6_chip_34 : decode cX6_chip 34 = .ok (.aload_n 0, 1) := by decide +kernel
theorem dX6_chip_35 : decode cX6_chip 35 = .ok (.getfield 31, 3) := by decide +kernel
theorem dX6_chip_38 : decode cX6_chip 38 = .ok (.getfield 42, 3) := by decide +kernel
theorem dX6_chip_41 : decode cX6_chip 41 = .ok (.iload_n 1, 1) := by decide +kernel
theorem dX6_chip_42 : decode cX6_chip 42 = .ok (.iload_n 2, 1) := by decide +kernel
theorem dX6_chip_43 : decode cX6_chip 43 = .ok (.iload_n 3, 1) := by decide +kernel
theorem dX6_chip_44 : decode cX6_chip 44 = .ok (.invokevirtual 61, 3) := by decide +kernel
theorem dX6_chip_47 : decode cX6_chip 47 = .ok (.ireturn, 1) := by decide +kernel
theorem dX6_fault_0 : decode cX6_fault 0 = .ok (.aload_n 0, 1) := by decide +kernel
theorem dX6_fault_1 : decode cX6_fault 1 = .ok (.getfield 31, 3) := by decide +kernel
theorem dX6_fault_4 : decode cX6_fault 4 = .ok (.getfield 42, 3) := by decide +kernel
theorem dX6_fault_7 : decode cX6_fault 7 = .ok (.iload_n 1, 1) := by decide +kernel
theorem dX6_fault_8 : decode cX6_fault 8 = .ok (.iload_n 2, 1) := by decide +kernel
theorem dX6_fault_9 : decode cX6_fault 9 = .ok (.iload_n 3, 1) := by decide +kernel
theorem dX6_fault_10 : decode cX6_fault 10 = .ok (.invokevirtual 64, 3) := by decide +kernel
theorem dX6_fault_13 : decode cX6_fault 13 = .ok (.istore 4, 2) := by decide +kernel
theorem dX6_fault_15 : decode cX6_fault 15 = .ok (.iload 4, 2) := by decide +kernel
theorem dX6_fault_17 : decode cX6_fault 17 = .ok (.ifCond .eq 6, 3) := by decide +kernel
theorem dX6_fault_20 : decode cX6_fault 20 = .ok (.iload 4, 2) := by decide +kernel
theorem dX6_fault_22 : decode cX6_fault 22 = .ok (.ireturn, 1) := by decide +kernel
theorem dX6_fault_23 : decode cX6_fault 23 = .ok (.aload_n 0, 1) := by decide +kernel
theorem dX6_fault_24 : decode cX6_fault 24 = .ok (.getfield 12, 3) := by decide +kernel
theorem dX6_fault_27 : decode cX6_fault 27 = .ok (.aload_n 0, 1) := by decide +kernel
theorem dX6_fault_28 : decode cX6_fault 28 = .ok (.getfield 31, 3) := by decide +kernel
theorem dX6_fault_31 : decode cX6_fault 31 = .ok (.invokevirtual 50, 3) := by decide +kernel
theorem dX6_fault_34 : decode cX6_fault 34 = .ok (.aload_n 0, 1) := by decide +kernel
theorem dX6_fault_35 : decode cX6_fault 35 = .ok (.getfield 31, 3) := by decide +kernel
theorem dX6_fault_38 : decode cX6_fault 38 = .ok (.getfield 42, 3) := by decide +kernel
theorem dX6_fault_41 : decode cX6_fault 41 = .ok (.iload_n 1, 1) := by decide +kernel
theorem dX6_fault_42 : decode cX6_fault 42 = .ok (.iload_n 2, 1) := by decide +kernel
theorem dX6_fault_43 : decode cX6_fault 43 = .ok (.iload_n 3, 1) := by decide +kernel
theorem dX6_fault_44 : decode cX6_fault 44 = .ok (.invokevirtual 67, 3) := by decide +kernel
theorem dX6_fault_47 : decode cX6_fault 47 = .ok (.ireturn, 1) := by decide +kernel
theorem dX6_bless_0 : decode cX6_bless 0 = .ok (.iload_n 1, 1) := by decide +kernel
theorem dX6_bless_1 : decode cX6_bless 1 = .ok (.invokestatic 70, 3) := by decide +kernel
theorem dX6_bless_4 : decode cX6_bless 4 = .ok (.ifCond .eq 10, 3) := by decide +kernel
theorem dX6_bless_7 : decode cX6_bless 7 = .ok (.iload_n 2, 1) := by decide +kernel
theorem dX6_bless_8 : decode cX6_bless 8 = .ok (.bipush (-128), 2) := by decide +kernel
theorem dX6_bless_10 : decode cX6_bless 10 = .ok (.iand, 1) := by decide +kernel
theorem dX6_bless_11 : decode cX6_bless 11 = .ok (.ifCond .eq 6, 3) := by decide +kernel
theorem dX6_bless_14 : decode cX6_bless 14 = .ok (.ldc 74, 2) := by decide +kernel
theorem dX6_bless_16 : decode cX6_bless 16 = .ok (.ireturn, 1) := by decide +kernel
theorem dX6_bless_17 : decode cX6_bless 17 = .ok (.aload_n 0, 1) := by decide +kernel
theorem dX6_bless_18 : decode cX6_bless 18 = .ok (.getfield 12, 3) := by decide +kernel
theorem dX6_bless_21 : decode cX6_bless 21 = .ok (.aload_n 0, 1) := by decide +kernel
theorem dX6_bless_22 : decode cX6_bless 22 = .ok (.getfield 31, 3) := by decide +kernel
theorem dX6_bless_25 : decode cX6_bless 25 = .ok (.invokevirtual 50, 3) := by decide +kernel
theorem dX6_bless_28 : decode cX6_bless 28 = .ok (.aload_n 0, 1) := by decide +kernel
theorem dX6_bless_29 : decode cX6_bless 29 = .ok (.getfield 31, 3) := by decide +kernel
theorem dX6_bless_32 : decode cX6_bless 32 = .ok (.getfield 42, 3) := by decide +kernel
theorem dX6_bless_35 : decode cX6_bless 35 = .ok (.iload_n 1, 1) := by decide +kernel
theorem dX6_bless_36 : decode cX6_bless 36 = .ok (.iload_n 2, 1) := by decide +kernel
theorem dX6_bless_37 : decode cX6_bless 37 = .ok (.invokevirtual 75, 3) := by decide +kernel
theorem dX6_bless_40 : decode cX6_bless 40 = .ok (.ireturn, 1) := by decide +kernel
theorem dX6_pinOf_0 : decode cX6_pinOf 0 = .ok (.iload_n 1, 1) := by decide +kernel
theorem dX6_pinOf_1 : decode cX6_pinOf 1 = .ok (.invokestatic 70, 3) := by decide +kernel
theorem dX6_pinOf_4 : decode cX6_pinOf 4 = .ok (.ifCond .ne 6, 3) := by decide +kernel
theorem dX6_pinOf_7 : decode cX6_pinOf 7 = .ok (.ldc 74, 2) := by decide +kernel
theorem dX6_pinOf_9 : decode cX6_pinOf 9 = .ok (.ireturn, 1) := by decide +kernel
theorem dX6_pinOf_10 : decode cX6_pinOf 10 = .ok (.aload_n 0, 1) := by decide +kernel
theorem dX6_pinOf_11 : decode cX6_pinOf 11 = .ok (.getfield 31, 3) := by decide +kernel
theorem dX6_pinOf_14 : decode cX6_pinOf 14 = .ok (.getfield 42, 3) := by decide +kernel
theorem dX6_pinOf_17 : decode cX6_pinOf 17 = .ok (.astore_n 3, 1) := by decide +kernel
theorem dX6_pinOf_18 : decode cX6_pinOf 18 = .ok (.iload_n 2, 1) := by decide +kernel
theorem dX6_pinOf_19 : decode cX6_pinOf 19 = .ok (.tableswitch 88 0 4 #[33, 43, 52, 61, 68], 33) := by decide +kernel
theorem dX6_pinOf_52 : decode cX6_pinOf 52 = .ok (.aload_n 3, 1) := by decide +kernel
theorem dX6_pinOf_53 : decode cX6_pinOf 53 = .ok (.getfield 79, 3) := by decide +kernel
theorem dX6_pinOf_56 : decode cX6_pinOf 56 = .ok (.iload_n 1, 1) := by decide +kernel
theorem dX6_pinOf_57 : decode cX6_pinOf 57 = .ok (.iaload, 1) := by decide +kernel
theorem dX6_pinOf_58 : decode cX6_pinOf 58 = .ok (.invokestatic 83, 3) := by decide +kernel
theorem dX6_pinOf_61 : decode cX6_pinOf 61 = .ok (.ireturn, 1) := by decide +kernel
theorem dX6_pinOf_62 : decode cX6_pinOf 62 = .ok (.aload_n 3, 1) := by decide +kernel
theorem dX6_pinOf_63 : decode cX6_pinOf 63 = .ok (.iload_n 1, 1) := by decide +kernel
theorem dX6_pinOf_64 : decode cX6_pinOf 64 = .ok (.invokevirtual 86, 3) := by decide +kernel
theorem dX6_pinOf_67 : decode cX6_pinOf 67 = .ok (.invokestatic 83, 3) := by decide +kernel
theorem dX6_pinOf_70 : decode cX6_pinOf 70 = .ok (.ireturn, 1) := by decide +kernel
theorem dX6_pinOf_71 : decode cX6_pinOf 71 = .ok (.aload_n 3, 1) := by decide +kernel
theorem dX6_pinOf_72 : decode cX6_pinOf 72 = .ok (.iload_n 1, 1) := by decide +kernel
theorem dX6_pinOf_73 : decode cX6_pinOf 73 = .ok (.invokevirtual 89, 3) := by decide +kernel
theorem dX6_pinOf_76 : decode cX6_pinOf 76 = .ok (.invokestatic 83, 3) := by decide +kernel
theorem dX6_pinOf_79 : decode cX6_pinOf 79 = .ok (.ireturn, 1) := by decide +kernel
theorem dX6_pinOf_80 : decode cX6_pinOf 80 = .ok (.aload_n 3, 1) := by decide +kernel
theorem dX6_pinOf_81 : decode cX6_pinOf 81 = .ok (.getfield 92, 3) := by decide +kernel
theorem dX6_pinOf_84 : decode cX6_pinOf 84 = .ok (.iload_n 1, 1) := by decide +kernel
theorem dX6_pinOf_85 : decode cX6_pinOf 85 = .ok (.iaload, 1) := by decide +kernel
theorem dX6_pinOf_86 : decode cX6_pinOf 86 = .ok (.ireturn, 1) := by decide +kernel
theorem dX6_pinOf_87 : decode cX6_pinOf 87 = .ok (.aload_n 0, 1) := by decide +kernel
theorem dX6_pinOf_88 : decode cX6_pinOf 88 = .ok (.getfield 31, 3) := by decide +kernel
theorem dX6_pinOf_91 : decode cX6_pinOf 91 = .ok (.invokevirtual 95, 3) := by decide +kernel
theorem dX6_pinOf_94 : decode cX6_pinOf 94 = .ok (.iload_n 1, 1) := by decide +kernel
theorem dX6_pinOf_95 : decode cX6_pinOf 95 = .ok (.invokestatic 99, 3) := by decide +kernel
theorem dX6_pinOf_98 : decode cX6_pinOf 98 = .ok (.ifCond .eq 7, 3) := by decide +kernel
theorem dX6_pinOf_101 : decode cX6_pinOf 101 = .ok (.iconst 1, 1) := by decide +kernel
theorem dX6_pinOf_102 : decode cX6_pinOf 102 = .ok (.goto 4, 3) := by decide +kernel
theorem dX6_pinOf_105 : decode cX6_pinOf 105 = .ok (.iconst 0, 1) := by decide +kernel
theorem dX6_pinOf_106 : decode cX6_pinOf 106 = .ok (.ireturn, 1) := by decide +kernel
theorem dX6_pinOf_107 : decode cX6_pinOf 107 = .ok (.ldc 74, 2) := by decide +kernel
theorem dX6_pinOf_109 : decode cX6_pinOf 109 = .ok (.ireturn, 1) := by decide +kernel
theorem dX6_faultOf_0 : decode cX6_faultOf 0 = .ok (.aload_n 0, 1) := by decide +kernel
theorem dX6_faultOf_1 : decode cX6_faultOf 1 = .ok (.getfield 31, 3) := by decide +kernel
theorem dX6_faultOf_4 : decode cX6_faultOf 4 = .ok (.getfield 42, 3) := by decide +kernel
theorem dX6_faultOf_7 : decode cX6_faultOf 7 = .ok (.astore_n 3, 1) := by decide +kernel
theorem dX6_faultOf_8 : decode cX6_faultOf 8 = .ok (.aload_n 3, 1) := by decide +kernel
theorem dX6_faultOf_9 : decode cX6_faultOf 9 = .ok (.iload_n 1, 1) := by decide +kernel
theorem dX6_faultOf_10 : decode cX6_faultOf 10 = .ok (.invokevirtual 103, 3) := by decide +kernel
theorem dX6_faultOf_13 : decode cX6_faultOf 13 = .ok (.ifCond .ne 6, 3) := by decide +kernel
theorem dX6_faultOf_16 : decode cX6_faultOf 16 = .ok (.ldc 74, 2) := by decide +kernel
theorem dX6_faultOf_18 : decode cX6_faultOf 18 = .ok (.ireturn, 1) := by decide +kernel
theorem dX6_faultOf_19 : decode cX6_faultOf 19 = .ok (.iload_n 2, 1) := by decide +kernel
theorem dX6_faultOf_20 : decode cX6_faultOf 20 = .ok (.tableswitch 81 0 3 #[32, 39, 46, 68], 32) := by decide +kernel
theorem dX6_faultOf_52 : decode cX6_faultOf 52 = .ok (.aload_n 3, 1) := by decide +kernel
theorem dX6_faultOf_53 : decode cX6_faultOf 53 = .ok (.getfield 106, 3) := by decide +kernel
theorem dX6_faultOf_56 : decode cX6_faultOf 56 = .ok (.iload_n 1, 1) := by decide +kernel
theorem dX6_faultOf_57 : decode cX6_faultOf 57 = .ok (.iaload, 1) := by decide +kernel
theorem dX6_faultOf_58 : decode cX6_faultOf 58 = .ok (.ireturn, 1) := by decide +kernel
theorem dX6_faultOf_59 : decode cX6_faultOf 59 = .ok (.aload_n 3, 1) := by decide +kernel
theorem dX6_faultOf_60 : decode cX6_faultOf 60 = .ok (.getfield 109, 3) := by decide +kernel
theorem dX6_faultOf_63 : decode cX6_faultOf 63 = .ok (.iload_n 1, 1) := by decide +kernel
theorem dX6_faultOf_64 : decode cX6_faultOf 64 = .ok (.iaload, 1) := by decide +kernel
theorem dX6_faultOf_65 : decode cX6_faultOf 65 = .ok (.ireturn, 1) := by decide +kernel
theorem dX6_faultOf_66 : decode cX6_faultOf 66 = .ok (.aload_n 3, 1) := by decide +kernel
theorem dX6_faultOf_67 : decode cX6_faultOf 67 = .ok (.getfield 106, 3) := by decide +kernel
theorem dX6_faultOf_70 : decode cX6_faultOf 70 = .ok (.iload_n 1, 1) := by decide +kernel
theorem dX6_faultOf_71 : decode cX6_faultOf 71 = .ok (.iaload, 1) := by decide +kernel
theorem dX6_faultOf_72 : decode cX6_faultOf 72 = .ok (.iconst 1, 1) := by decide +kernel
theorem dX6_faultOf_73 : decode cX6_faultOf 73 = .ok (.if_icmp .ne 12, 3) := by decide +kernel
theorem dX6_faultOf_76 : decode cX6_faultOf 76 = .ok (.aload_n 3, 1) := by decide +kernel
theorem dX6_faultOf_77 : decode cX6_faultOf 77 = .ok (.getfield 112, 3) := by decide +kernel
theorem dX6_faultOf_80 : decode cX6_faultOf 80 = .ok (.iload_n 1, 1) := by decide +kernel
theorem dX6_faultOf_81 : decode cX6_faultOf 81 = .ok (.iaload, 1) := by decide +kernel
theorem dX6_faultOf_82 : decode cX6_faultOf 82 = .ok (.goto 5, 3) := by decide +kernel
theorem dX6_faultOf_85 : decode cX6_faultOf 85 = .ok (.ldc 115, 2) := by decide +kernel
theorem dX6_faultOf_87 : decode cX6_faultOf 87 = .ok (.ireturn, 1) := by decide +kernel
theorem dX6_faultOf_88 : decode cX6_faultOf 88 = .ok (.aload_n 0, 1) := by decide +kernel
theorem dX6_faultOf_89 : decode cX6_faultOf 89 = .ok (.getfield 31, 3) := by decide +kernel
theorem dX6_faultOf_92 : decode cX6_faultOf 92 = .ok (.getfield 116, 3) := by decide +kernel
theorem dX6_faultOf_95 : decode cX6_faultOf 95 = .ok (.iload_n 1, 1) := by decide +kernel
theorem dX6_faultOf_96 : decode cX6_faultOf 96 = .ok (.iaload, 1) := by decide +kernel
theorem dX6_faultOf_97 : decode cX6_faultOf 97 = .ok (.invokestatic 83, 3) := by decide +kernel
theorem dX6_faultOf_100 : decode cX6_faultOf 100 = .ok (.ireturn, 1) := by decide +kernel
theorem dX6_faultOf_101 : decode cX6_faultOf 101 = .ok (.ldc 74, 2) := by decide +kernel
theorem dX6_faultOf_103 : decode cX6_faultOf 103 = .ok (.ireturn, 1) := by decide +kernel
theorem dX6_plant_0 : decode cX6_plant 0 = .ok (.aload_n 0, 1) := by decide +kernel
theorem dX6_plant_1 : decode cX6_plant 1 = .ok (.iload_n 1, 1) := by decide +kernel
theorem dX6_plant_2 : decode cX6_plant 2 = .ok (.invokevirtual 122, 3) := by decide +kernel
theorem dX6_plant_5 : decode cX6_plant 5 = .ok (.ifCond .ne 6, 3) := by decide +kernel
theorem dX6_plant_8 : decode cX6_plant 8 = .ok (.ldc 74, 2) := by decide +kernel
theorem dX6_plant_10 : decode cX6_plant 10 = .ok (.ireturn, 1) := by decide +kernel
theorem dX6_plant_11 : decode cX6_plant 11 = .ok (.aload_n 0, 1) := by decide +kernel
theorem dX6_plant_12 : decode cX6_plant 12 = .ok (.getfield 12, 3) := by decide +kernel
theorem dX6_plant_15 : decode cX6_plant 15 = .ok (.aload_n 0, 1) := by decide +kernel
theorem dX6_plant_16 : decode cX6_plant 16 = .ok (.getfield 31, 3) := by decide +kernel
theorem dX6_plant_19 : decode cX6_plant 19 = .ok (.invokevirtual 50, 3) := by decide +kernel
theorem dX6_plant_22 : decode cX6_plant 22 = .ok (.aload_n 0, 1) := by decide +kernel
theorem dX6_plant_23 : decode cX6_plant 23 = .ok (.getfield 31, 3) := by decide +kernel
theorem dX6_plant_26 : decode cX6_plant 26 = .ok (.iload_n 1, 1) := by decide +kernel
theorem dX6_plant_27 : decode cX6_plant 27 = .ok (.invokestatic 125, 3) := by decide +kernel
theorem dX6_plant_30 : decode cX6_plant 30 = .ok (.putfield 191, 3) := by decide +kernel
theorem dX6_plant_33 : decode cX6_plant 33 = .ok (.aload_n 0, 1) := by decide +kernel
theorem dX6_plant_34 : decode cX6_plant 34 = .ok (.getfield 31, 3) := by decide +kernel
theorem dX6_plant_37 : decode cX6_plant 37 = .ok (.aload_n 0, 1) := by decide +kernel
theorem dX6_plant_38 : decode cX6_plant 38 = .ok (.getfield 31, 3) := by decide +kernel
theorem dX6_plant_41 : decode cX6_plant 41 = .ok (.getfield 42, 3) := by decide +kernel
theorem dX6_plant_44 : decode cX6_plant 44 = .ok (.invokevirtual 194, 3) := by decide +kernel
theorem dX6_plant_47 : decode cX6_plant 47 = .ok (.putfield 197, 3) := by decide +kernel
theorem dX6_plant_50 : decode cX6_plant 50 = .ok (.aload_n 0, 1) := by decide +kernel
theorem dX6_plant_51 : decode cX6_plant 51 = .ok (.getfield 31, 3) := by decide +kernel
theorem dX6_plant_54 : decode cX6_plant 54 = .ok (.getfield 197, 3) := by decide +kernel
theorem dX6_plant_57 : decode cX6_plant 57 = .ok (.invokestatic 186, 3) := by decide +kernel
theorem dX6_plant_60 : decode cX6_plant 60 = .ok (.ireturn, 1) := by decide +kernel
theorem dX6_test_0 : decode cX6_test 0 = .ok (.aload_n 0, 1) := by decide +kernel
theorem dX6_test_1 : decode cX6_test 1 = .ok (.getfield 12, 3) := by decide +kernel
theorem dX6_test_4 : decode cX6_test 4 = .ok (.aload_n 0, 1) := by decide +kernel
theorem dX6_test_5 : decode cX6_test 5 = .ok (.getfield 31, 3) := by decide +kernel
theorem dX6_test_8 : decode cX6_test 8 = .ok (.invokevirtual 50, 3) := by decide +kernel
theorem dX6_test_11 : decode cX6_test 11 = .ok (.aload_n 0, 1) := by decide +kernel
theorem dX6_test_12 : decode cX6_test 12 = .ok (.getfield 31, 3) := by decide +kernel
theorem dX6_test_15 : decode cX6_test 15 = .ok (.dup, 1) := by decide +kernel
theorem dX6_test_16 : decode cX6_test 16 = .ok (.getfield 200, 3) := by decide +kernel
theorem dX6_test_19 : decode cX6_test 19 = .ok (.iconst 1, 1) := by decide +kernel
theorem dX6_test_20 : decode cX6_test 20 = .ok (.iadd, 1) := by decide +kernel
theorem dX6_test_21 : decode cX6_test 21 = .ok (.putfield 200, 3) := by decide +kernel
theorem dX6_test_24 : decode cX6_test 24 = .ok (.aload_n 0, 1) := by decide +kernel
theorem dX6_test_25 : decode cX6_test 25 = .ok (.getfield 31, 3) := by decide +kernel
theorem dX6_test_28 : decode cX6_test 28 = .ok (.aload_n 0, 1) := by decide +kernel
theorem dX6_test_29 : decode cX6_test 29 = .ok (.getfield 38, 3) := by decide +kernel
theorem dX6_test_32 : decode cX6_test 32 = .ok (.aload_n 0, 1) := by decide +kernel
theorem dX6_test_33 : decode cX6_test 33 = .ok (.getfield 31, 3) := by decide +kernel
theorem dX6_test_36 : decode cX6_test 36 = .ok (.invokevirtual 95, 3) := by decide +kernel
theorem dX6_test_39 : decode cX6_test 39 = .ok (.aload_n 0, 1) := by decide +kernel
theorem dX6_test_40 : decode cX6_test 40 = .ok (.getfield 31, 3) := by decide +kernel
theorem dX6_test_43 : decode cX6_test 43 = .ok (.getfield 191, 3) := by decide +kernel
theorem dX6_test_46 : decode cX6_test 46 = .ok (.aload_n 0, 1) := by decide +kernel
theorem dX6_test_47 : decode cX6_test 47 = .ok (.getfield 31, 3) := by decide +kernel
theorem dX6_test_50 : decode cX6_test 50 = .ok (.getfield 197, 3) := by decide +kernel
theorem dX6_test_53 : decode cX6_test 53 = .ok (.invokevirtual 203, 3) := by decide +kernel
theorem dX6_test_56 : decode cX6_test 56 = .ok (.putfield 197, 3) := by decide +kernel
theorem dX6_test_59 : decode cX6_test 59 = .ok (.aload_n 0, 1) := by decide +kernel
theorem dX6_test_60 : decode cX6_test 60 = .ok (.getfield 31, 3) := by decide +kernel
theorem dX6_test_63 : decode cX6_test 63 = .ok (.getfield 197, 3) := by decide +kernel
theorem dX6_test_66 : decode cX6_test 66 = .ok (.invokestatic 186, 3) := by decide +kernel
theorem dX6_test_69 : decode cX6_test 69 = .ok (.ireturn, 1) := by decide +kernel
theorem dX6_vouch_0 : decode cX6_vouch 0 = .ok (.iload_n 1, 1) := by decide +kernel
theorem dX6_vouch_1 : decode cX6_vouch 1 = .ok (.invokestatic 70, 3) := by decide +kernel
theorem dX6_vouch_4 : decode cX6_vouch 4 = .ok (.ifCond .ne 6, 3) := by decide +kernel
theorem dX6_vouch_7 : decode cX6_vouch 7 = .ok (.ldc 74, 2) := by decide +kernel
theorem dX6_vouch_9 : decode cX6_vouch 9 = .ok (.ireturn, 1) := by decide +kernel
theorem dX6_vouch_10 : decode cX6_vouch 10 = .ok (.aload_n 0, 1) := by decide +kernel
theorem dX6_vouch_11 : decode cX6_vouch 11 = .ok (.getfield 31, 3) := by decide +kernel
theorem dX6_vouch_14 : decode cX6_vouch 14 = .ok (.invokevirtual 95, 3) := by decide +kernel
theorem dX6_vouch_17 : decode cX6_vouch 17 = .ok (.iload_n 1, 1) := by decide +kernel
theorem dX6_vouch_18 : decode cX6_vouch 18 = .ok (.invokestatic 99, 3) := by decide +kernel
theorem dX6_vouch_21 : decode cX6_vouch 21 = .ok (.ifCond .eq 6, 3) := by decide +kernel
theorem dX6_vouch_24 : decode cX6_vouch 24 = .ok (.ldc 206, 2) := by decide +kernel
theorem dX6_vouch_26 : decode cX6_vouch 26 = .ok (.ireturn, 1) := by decide +kernel
theorem dX6_vouch_27 : decode cX6_vouch 27 = .ok (.aload_n 0, 1) := by decide +kernel
theorem dX6_vouch_28 : decode cX6_vouch 28 = .ok (.getfield 31, 3) := by decide +kernel
theorem dX6_vouch_31 : decode cX6_vouch 31 = .ok (.getfield 207, 3) := by decide +kernel
theorem dX6_vouch_34 : decode cX6_vouch 34 = .ok (.ifCond .ne 6, 3) := by decide +kernel
theorem dX6_vouch_37 : decode cX6_vouch 37 = .ok (.ldc 210, 2) := by decide +kernel
theorem dX6_vouch_39 : decode cX6_vouch 39 = .ok (.ireturn, 1) := by decide +kernel
theorem dX6_vouch_40 : decode cX6_vouch 40 = .ok (.aload_n 0, 1) := by decide +kernel
theorem dX6_vouch_41 : decode cX6_vouch 41 = .ok (.getfield 12, 3) := by decide +kernel
theorem dX6_vouch_44 : decode cX6_vouch 44 = .ok (.aload_n 0, 1) := by decide +kernel
theorem dX6_vouch_45 : decode cX6_vouch 45 = .ok (.getfield 31, 3) := by decide +kernel
theorem dX6_vouch_48 : decode cX6_vouch 48 = .ok (.invokevirtual 50, 3) := by decide +kernel
theorem dX6_vouch_51 : decode cX6_vouch 51 = .ok (.aload_n 0, 1) := by decide +kernel
theorem dX6_vouch_52 : decode cX6_vouch 52 = .ok (.getfield 31, 3) := by decide +kernel
theorem dX6_vouch_55 : decode cX6_vouch 55 = .ok (.dup, 1) := by decide +kernel
theorem dX6_vouch_56 : decode cX6_vouch 56 = .ok (.getfield 211, 3) := by decide +kernel
theorem dX6_vouch_59 : decode cX6_vouch 59 = .ok (.iconst 1, 1) := by decide +kernel
theorem dX6_vouch_60 : decode cX6_vouch 60 = .ok (.iload_n 1, 1) := by decide +kernel
theorem dX6_vouch_61 : decode cX6_vouch 61 = .ok (.ishl, 1) := by decide +kernel
theorem dX6_vouch_62 : decode cX6_vouch 62 = .ok (.ior, 1) := by decide +kernel
theorem dX6_vouch_63 : decode cX6_vouch 63 = .ok (.putfield 211, 3) := by decide +kernel
theorem dX6_vouch_66 : decode cX6_vouch 66 = .ok (.aload_n 0, 1) := by decide +kernel
theorem dX6_vouch_67 : decode cX6_vouch 67 = .ok (.getfield 31, 3) := by decide +kernel
theorem dX6_vouch_70 : decode cX6_vouch 70 = .ok (.dup, 1) := by decide +kernel
theorem dX6_vouch_71 : decode cX6_vouch 71 = .ok (.getfield 207, 3) := by decide +kernel
theorem dX6_vouch_74 : decode cX6_vouch 74 = .ok (.iconst 1, 1) := by decide +kernel
theorem dX6_vouch_75 : decode cX6_vouch 75 = .ok (.isub, 1) := by decide +kernel
theorem dX6_vouch_76 : decode cX6_vouch 76 = .ok (.putfield 207, 3) := by decide +kernel
theorem dX6_vouch_79 : decode cX6_vouch 79 = .ok (.aload_n 0, 1) := by decide +kernel
theorem dX6_vouch_80 : decode cX6_vouch 80 = .ok (.getfield 31, 3) := by decide +kernel
theorem dX6_vouch_83 : decode cX6_vouch 83 = .ok (.getfield 207, 3) := by decide +kernel
theorem dX6_vouch_86 : decode cX6_vouch 86 = .ok (.ireturn, 1) := by decide +kernel
theorem dX6_vouchers_0 : decode cX6_vouchers 0 = .ok (.iload_n 1, 1) := by decide +kernel
theorem dX6_vouchers_1 : decode cX6_vouchers 1 = .ok (.ifCond .lt 9, 3) := by decide +kernel
theorem dX6_vouchers_4 : decode cX6_vouchers 4 = .ok (.iload_n 1, 1) := by decide +kernel
theorem dX6_vouchers_5 : decode cX6_vouchers 5 = .ok (.bipush 20, 2) := by decide +kernel
theorem dX6_vouchers_7 : decode cX6_vouchers 7 = .ok (.if_icmp .le 6, 3) := by decide +kernel
theorem dX6_vouchers_10 : decode cX6_vouchers 10 = .ok (.ldc 74, 2) := by decide +kernel
theorem dX6_vouchers_12 : decode cX6_vouchers 12 = .ok (.ireturn, 1) := by decide +kernel
theorem dX6_vouchers_13 : decode cX6_vouchers 13 = .ok (.aload_n 0, 1) := by decide +kernel
theorem dX6_vouchers_14 : decode cX6_vouchers 14 = .ok (.getfield 12, 3) := by decide +kernel
theorem dX6_vouchers_17 : decode cX6_vouchers 17 = .ok (.aload_n 0, 1) := by decide +kernel
theorem dX6_vouchers_18 : decode cX6_vouchers 18 = .ok (.getfield 31, 3) := by decide +kernel
theorem dX6_vouchers_21 : decode cX6_vouchers 21 = .ok (.invokevirtual 50, 3) := by decide +kernel
theorem dX6_vouchers_24 : decode cX6_vouchers 24 = .ok (.aload_n 0, 1) := by decide +kernel
theorem dX6_vouchers_25 : decode cX6_vouchers 25 = .ok (.getfield 31, 3) := by decide +kernel
theorem dX6_vouchers_28 : decode cX6_vouchers 28 = .ok (.getfield 207, 3) := by decide +kernel
theorem dX6_vouchers_31 : decode cX6_vouchers 31 = .ok (.istore_n 2, 1) := by decide +kernel
theorem dX6_vouchers_32 : decode cX6_vouchers 32 = .ok (.aload_n 0, 1) := by decide +kernel
theorem dX6_vouchers_33 : decode cX6_vouchers 33 = .ok (.getfield 31, 3) := by decide +kernel
theorem dX6_vouchers_36 : decode cX6_vouchers 36 = .ok (.iload_n 1, 1) := by decide +kernel
theorem dX6_vouchers_37 : decode cX6_vouchers 37 = .ok (.putfield 207, 3) := by decide +kernel
theorem dX6_vouchers_40 : decode cX6_vouchers 40 = .ok (.iload_n 2, 1) := by decide +kernel
theorem dX6_vouchers_41 : decode cX6_vouchers 41 = .ok (.ireturn, 1) := by decide +kernel
theorem dX6_pass_0 : decode cX6_pass 0 = .ok (.iload_n 1, 1) := by decide +kernel
theorem dX6_pass_1 : decode cX6_pass 1 = .ok (.iconst 1, 1) := by decide +kernel
theorem dX6_pass_2 : decode cX6_pass 2 = .ok (.if_icmp .lt 9, 3) := by decide +kernel
theorem dX6_pass_5 : decode cX6_pass 5 = .ok (.iload_n 1, 1) := by decide +kernel
theorem dX6_pass_6 : decode cX6_pass 6 = .ok (.bipush 60, 2) := by decide +kernel
theorem dX6_pass_8 : decode cX6_pass 8 = .ok (.if_icmp .le 6, 3) := by decide +kernel
theorem dX6_pass_11 : decode cX6_pass 11 = .ok (.ldc 74, 2) := by decide +kernel
theorem dX6_pass_13 : decode cX6_pass 13 = .ok (.ireturn, 1) := by decide +kernel
theorem dX6_pass_14 : decode cX6_pass 14 = .ok (.aload_n 0, 1) := by decide +kernel
theorem dX6_pass_15 : decode cX6_pass 15 = .ok (.getfield 31, 3) := by decide +kernel
theorem dX6_pass_18 : decode cX6_pass 18 = .ok (.getfield 214, 3) := by decide +kernel
theorem dX6_pass_21 : decode cX6_pass 21 = .ok (.iload_n 1, 1) := by decide +kernel
theorem dX6_pass_22 : decode cX6_pass 22 = .ok (.iadd, 1) := by decide +kernel
theorem dX6_pass_23 : decode cX6_pass 23 = .ok (.sipush 10000, 3) := by decide +kernel
theorem dX6_pass_26 : decode cX6_pass 26 = .ok (.if_icmp .le 6, 3) := by decide +kernel
theorem dX6_pass_29 : decode cX6_pass 29 = .ok (.ldc 210, 2) := by decide +kernel
theorem dX6_pass_31 : decode cX6_pass 31 = .ok (.ireturn, 1) := by decide +kernel
theorem dX6_pass_32 : decode cX6_pass 32 = .ok (.aload_n 0, 1) := by decide +kernel
theorem dX6_pass_33 : decode cX6_pass 33 = .ok (.getfield 12, 3) := by decide +kernel
theorem dX6_pass_36 : decode cX6_pass 36 = .ok (.aload_n 0, 1) := by decide +kernel
theorem dX6_pass_37 : decode cX6_pass 37 = .ok (.getfield 31, 3) := by decide +kernel
theorem dX6_pass_40 : decode cX6_pass 40 = .ok (.invokevirtual 50, 3) := by decide +kernel
theorem dX6_pass_43 : decode cX6_pass 43 = .ok (.aload_n 0, 1) := by decide +kernel
theorem dX6_pass_44 : decode cX6_pass 44 = .ok (.getfield 31, 3) := by decide +kernel
theorem dX6_pass_47 : decode cX6_pass 47 = .ok (.dup, 1) := by decide +kernel
theorem dX6_pass_48 : decode cX6_pass 48 = .ok (.getfield 214, 3) := by decide +kernel
theorem dX6_pass_51 : decode cX6_pass 51 = .ok (.iload_n 1, 1) := by decide +kernel
theorem dX6_pass_52 : decode cX6_pass 52 = .ok (.iadd, 1) := by decide +kernel
theorem dX6_pass_53 : decode cX6_pass 53 = .ok (.putfield 214, 3) := by decide +kernel
theorem dX6_pass_56 : decode cX6_pass 56 = .ok (.aload_n 0, 1) := by decide +kernel
theorem dX6_pass_57 : decode cX6_pass 57 = .ok (.getfield 31, 3) := by decide +kernel
theorem dX6_pass_60 : decode cX6_pass 60 = .ok (.iconst 0, 1) := by decide +kernel
theorem dX6_pass_61 : decode cX6_pass 61 = .ok (.putfield 211, 3) := by decide +kernel
theorem dX6_pass_64 : decode cX6_pass 64 = .ok (.aload_n 0, 1) := by decide +kernel
theorem dX6_pass_65 : decode cX6_pass 65 = .ok (.getfield 31, 3) := by decide +kernel
theorem dX6_pass_68 : decode cX6_pass 68 = .ok (.invokevirtual 217, 3) := by decide +kernel
theorem dX6_pass_71 : decode cX6_pass 71 = .ok (.ireturn, 1) := by decide +kernel
theorem dX6_suspects_0 : decode cX6_suspects 0 = .ok (.aload_n 0, 1) := by decide +kernel
theorem dX6_suspects_1 : decode cX6_suspects 1 = .ok (.getfield 31, 3) := by decide +kernel
theorem dX6_suspects_4 : decode cX6_suspects 4 = .ok (.getfield 197, 3) := by decide +kernel
theorem dX6_suspects_7 : decode cX6_suspects 7 = .ok (.ireturn, 1) := by decide +kernel
theorem dX6_file_0 : decode cX6_file 0 = .ok (.aload_n 0, 1) := by decide +kernel
theorem dX6_file_1 : decode cX6_file 1 = .ok (.getfield 31, 3) := by decide +kernel
theorem dX6_file_4 : decode cX6_file 4 = .ok (.getfield 42, 3) := by decide +kernel
theorem dX6_file_7 : decode cX6_file 7 = .ok (.iload_n 1, 1) := by decide +kernel
theorem dX6_file_8 : decode cX6_file 8 = .ok (.invokevirtual 103, 3) := by decide +kernel
theorem dX6_file_11 : decode cX6_file 11 = .ok (.ifCond .eq 12, 3) := by decide +kernel
theorem dX6_file_14 : decode cX6_file 14 = .ok (.iload_n 2, 1) := by decide +kernel
theorem dX6_file_15 : decode cX6_file 15 = .ok (.ifCond .lt 8, 3) := by decide +kernel
theorem dX6_file_18 : decode cX6_file 18 = .ok (.iload_n 2, 1) := by decide +kernel
theorem dX6_file_19 : decode cX6_file 19 = .ok (.iconst 5, 1) := by decide +kernel
theorem dX6_file_20 : decode cX6_file 20 = .ok (.if_icmp .lt 6, 3) := by decide +kernel
theorem dX6_file_23 : decode cX6_file 23 = .ok (.ldc 74, 2) := by decide +kernel
theorem dX6_file_25 : decode cX6_file 25 = .ok (.ireturn, 1) := by decide +kernel
theorem dX6_file_26 : decode cX6_file 26 = .ok (.aload_n 0, 1) := by decide +kernel
theorem dX6_file_27 : decode cX6_file 27 = .ok (.getfield 31, 3) := by decide +kernel
theorem dX6_file_30 : decode cX6_file 30 = .ok (.getfield 116, 3) := by decide +kernel
theorem dX6_file_33 : decode cX6_file 33 = .ok (.iload_n 1, 1) := by decide +kernel
theorem dX6_file_34 : decode cX6_file 34 = .ok (.iaload, 1) := by decide +kernel
theorem dX6_file_35 : decode cX6_file 35 = .ok (.iconst (-1), 1) := by decide +kernel
theorem dX6_file_36 : decode cX6_file 36 = .ok (.if_icmp .ne 19, 3) := by decide +kernel
theorem dX6_file_39 : decode cX6_file 39 = .ok (.aload_n 0, 1) := by decide +kernel
theorem dX6_file_40 : decode cX6_file 40 = .ok (.getfield 31, 3) := by decide +kernel
theorem dX6_file_43 : decode cX6_file 43 = .ok (.getfield 42, 3) := by decide +kernel
theorem dX6_file_46 : decode cX6_file 46 = .ok (.getfield 106, 3) := by decide +kernel
theorem dX6_file_49 : decode cX6_file 49 = .ok (.iload_n 1, 1) := by decide +kernel
theorem dX6_file_50 : decode cX6_file 50 = .ok (.iaload, 1) := by decide +kernel
theorem dX6_file_51 : decode cX6_file 51 = .ok (.iload_n 2, 1) := by decide +kernel
theorem dX6_file_52 : decode cX6_file 52 = .ok (.if_icmp .eq 6, 3) := by decide +kernel
theorem dX6_file_55 : decode cX6_file 55 = .ok (.ldc 206, 2) := by decide +kernel
theorem dX6_file_57 : decode cX6_file 57 = .ok (.ireturn, 1) := by decide +kernel
theorem dX6_file_58 : decode cX6_file 58 = .ok (.aload_n 0, 1) := by decide +kernel
theorem dX6_file_59 : decode cX6_file 59 = .ok (.getfield 31, 3) := by decide +kernel
theorem dX6_file_62 : decode cX6_file 62 = .ok (.iload_n 2, 1) := by decide +kernel
theorem dX6_file_63 : decode cX6_file 63 = .ok (.invokevirtual 223, 3) := by decide +kernel
theorem dX6_file_66 : decode cX6_file 66 = .ok (.iconst 3, 1) := by decide +kernel
theorem dX6_file_67 : decode cX6_file 67 = .ok (.if_icmp .lt 6, 3) := by decide +kernel
theorem dX6_file_70 : decode cX6_file 70 = .ok (.ldc 210, 2) := by decide +kernel
theorem dX6_file_72 : decode cX6_file 72 = .ok (.ireturn, 1) := by decide +kernel
theorem dX6_file_73 : decode cX6_file 73 = .ok (.aload_n 0, 1) := by decide +kernel
theorem dX6_file_74 : decode cX6_file 74 = .ok (.getfield 12, 3) := by decide +kernel
theorem dX6_file_77 : decode cX6_file 77 = .ok (.aload_n 0, 1) := by decide +kernel
theorem dX6_file_78 : decode cX6_file 78 = .ok (.getfield 31, 3) := by decide +kernel
theorem dX6_file_81 : decode cX6_file 81 = .ok (.invokevirtual 50, 3) := by decide +kernel
theorem dX6_file_84 : decode cX6_file 84 = .ok (.aload_n 0, 1) := by decide +kernel
theorem dX6_file_85 : decode cX6_file 85 = .ok (.getfield 31, 3) := by decide +kernel
theorem dX6_file_88 : decode cX6_file 88 = .ok (.getfield 116, 3) := by decide +kernel
theorem dX6_file_91 : decode cX6_file 91 = .ok (.iload_n 1, 1) := by decide +kernel
theorem dX6_file_92 : decode cX6_file 92 = .ok (.iload_n 2, 1) := by decide +kernel
theorem dX6_file_93 : decode cX6_file 93 = .ok (.iastore, 1) := by decide +kernel
theorem dX6_file_94 : decode cX6_file 94 = .ok (.aload_n 0, 1) := by decide +kernel
theorem dX6_file_95 : decode cX6_file 95 = .ok (.getfield 31, 3) := by decide +kernel
theorem dX6_file_98 : decode cX6_file 98 = .ok (.iload_n 2, 1) := by decide +kernel
theorem dX6_file_99 : decode cX6_file 99 = .ok (.invokevirtual 223, 3) := by decide +kernel
theorem dX6_file_102 : decode cX6_file 102 = .ok (.ireturn, 1) := by decide +kernel
theorem dX6_count_0 : decode cX6_count 0 = .ok (.iload_n 1, 1) := by decide +kernel
theorem dX6_count_1 : decode cX6_count 1 = .ok (.tableswitch 188 0 15 #[79, 90, 101, 112, 120, 128, 136, 147, 152, 160, 168, 176, 176, 176, 176, 176], 79) := by decide +kernel
theorem dX6_count_80 : decode cX6_count 80 = .ok (.aload_n 0, 1) := by decide +kernel
theorem dX6_count_81 : decode cX6_count 81 = .ok (.getfield 31, 3) := by decide +kernel
theorem dX6_count_84 : decode cX6_count 84 = .ok (.getfield 42, 3) := by decide +kernel
theorem dX6_count_87 : decode cX6_count 87 = .ok (.getfield 226, 3) := by decide +kernel
theorem dX6_count_90 : decode cX6_count 90 = .ok (.ireturn, 1) := by decide +kernel
theorem dX6_count_91 : decode cX6_count 91 = .ok (.aload_n 0, 1) := by decide +kernel
theorem dX6_count_92 : decode cX6_count 92 = .ok (.getfield 31, 3) := by decide +kernel
theorem dX6_count_95 : decode cX6_count 95 = .ok (.getfield 42, 3) := by decide +kernel
theorem dX6_count_98 : decode cX6_count 98 = .ok (.getfield 229, 3) := by decide +kernel
theorem dX6_count_101 : decode cX6_count 101 = .ok (.ireturn, 1) := by decide +kernel
theorem dX6_count_102 : decode cX6_count 102 = .ok (.aload_n 0, 1) := by decide +kernel
theorem dX6_count_103 : decode cX6_count 103 = .ok (.getfield 31, 3) := by decide +kernel
theorem dX6_count_106 : decode cX6_count 106 = .ok (.getfield 42, 3) := by decide +kernel
theorem dX6_count_109 : decode cX6_count 109 = .ok (.getfield 163, 3) := by decide +kernel
theorem dX6_count_112 : decode cX6_count 112 = .ok (.ireturn, 1) := by decide +kernel
theorem dX6_count_113 : decode cX6_count 113 = .ok (.aload_n 0, 1) := by decide +kernel
theorem dX6_count_114 : decode cX6_count 114 = .ok (.getfield 31, 3) := by decide +kernel
theorem dX6_count_117 : decode cX6_count 117 = .ok (.getfield 214, 3) := by decide +kernel
theorem dX6_count_120 : decode cX6_count 120 = .ok (.ireturn, 1) := by decide +kernel
theorem dX6_count_121 : decode cX6_count 121 = .ok (.aload_n 0, 1) := by decide +kernel
theorem dX6_count_122 : decode cX6_count 122 = .ok (.getfield 31, 3) := by decide +kernel
theorem dX6_count_125 : decode cX6_count 125 = .ok (.invokevirtual 217, 3) := by decide +kernel
theorem dX6_count_128 : decode cX6_count 128 = .ok (.ireturn, 1) := by decide +kernel
theorem dX6_count_129 : decode cX6_count 129 = .ok (.aload_n 0, 1) := by decide +kernel
theorem dX6_count_130 : decode cX6_count 130 = .ok (.getfield 31, 3) := by decide +kernel
theorem dX6_count_133 : decode cX6_count 133 = .ok (.getfield 207, 3) := by decide +kernel
theorem dX6_count_136 : decode cX6_count 136 = .ok (.ireturn, 1) := by decide +kernel
theorem dX6_count_137 : decode cX6_count 137 = .ok (.aload_n 0, 1) := by decide +kernel
theorem dX6_count_138 : decode cX6_count 138 = .ok (.getfield 31, 3) := by decide +kernel
theorem dX6_count_141 : decode cX6_count 141 = .ok (.invokevirtual 95, 3) := by decide +kernel
theorem dX6_count_144 : decode cX6_count 144 = .ok (.invokestatic 186, 3) := by decide +kernel
theorem dX6_count_147 : decode cX6_count 147 = .ok (.ireturn, 1) := by decide +kernel
theorem dX6_count_148 : decode cX6_count 148 = .ok (.aload_n 0, 1) := by decide +kernel
theorem dX6_count_149 : decode cX6_count 149 = .ok (.invokevirtual 232, 3) := by decide +kernel
theorem dX6_count_152 : decode cX6_count 152 = .ok (.ireturn, 1) := by decide +kernel
theorem dX6_count_153 : decode cX6_count 153 = .ok (.aload_n 0, 1) := by decide +kernel
theorem dX6_count_154 : decode cX6_count 154 = .ok (.getfield 31, 3) := by decide +kernel
theorem dX6_count_157 : decode cX6_count 157 = .ok (.getfield 200, 3) := by decide +kernel
theorem dX6_count_160 : decode cX6_count 160 = .ok (.ireturn, 1) := by decide +kernel
theorem dX6_count_161 : decode cX6_count 161 = .ok (.aload_n 0, 1) := by decide +kernel
theorem dX6_count_162 : decode cX6_count 162 = .ok (.getfield 12, 3) := by decide +kernel
theorem dX6_count_165 : decode cX6_count 165 = .ok (.getfield 235, 3) := by decide +kernel
theorem dX6_count_168 : decode cX6_count 168 = .ok (.ireturn, 1) := by decide +kernel
theorem dX6_count_169 : decode cX6_count 169 = .ok (.aload_n 0, 1) := by decide +kernel
theorem dX6_count_170 : decode cX6_count 170 = .ok (.getfield 19, 3) := by decide +kernel
theorem dX6_count_173 : decode cX6_count 173 = .ok (.getfield 238, 3) := by decide +kernel
theorem dX6_count_176 : decode cX6_count 176 = .ok (.ireturn, 1) := by decide +kernel
theorem dX6_count_177 : decode cX6_count 177 = .ok (.aload_n 0, 1) := by decide +kernel
theorem dX6_count_178 : decode cX6_count 178 = .ok (.getfield 31, 3) := by decide +kernel
theorem dX6_count_181 : decode cX6_count 181 = .ok (.iload_n 1, 1) := by decide +kernel
theorem dX6_count_182 : decode cX6_count 182 = .ok (.bipush 11, 2) := by decide +kernel
theorem dX6_count_184 : decode cX6_count 184 = .ok (.isub, 1) := by decide +kernel
theorem dX6_count_185 : decode cX6_count 185 = .ok (.invokevirtual 223, 3) := by decide +kernel
theorem dX6_count_188 : decode cX6_count 188 = .ok (.ireturn, 1) := by decide +kernel
theorem dX6_count_189 : decode cX6_count 189 = .ok (.ldc 74, 2) := by decide +kernel
theorem dX6_count_191 : decode cX6_count 191 = .ok (.ireturn, 1) := by decide +kernel
theorem dX6_undo_0 : decode cX6_undo 0 = .ok (.aload_n 0, 1) := by decide +kernel
theorem dX6_undo_1 : decode cX6_undo 1 = .ok (.getfield 12, 3) := by decide +kernel
theorem dX6_undo_4 : decode cX6_undo 4 = .ok (.getfield 235, 3) := by decide +kernel
theorem dX6_undo_7 : decode cX6_undo 7 = .ok (.ifCond .ne 6, 3) := by decide +kernel
theorem dX6_undo_10 : decode cX6_undo 10 = .ok (.ldc 206, 2) := by decide +kernel
theorem dX6_undo_12 : decode cX6_undo 12 = .ok (.ireturn, 1) := by decide +kernel
theorem dX6_undo_13 : decode cX6_undo 13 = .ok (.aload_n 0, 1) := by decide +kernel
theorem dX6_undo_14 : decode cX6_undo 14 = .ok (.getfield 12, 3) := by decide +kernel
theorem dX6_undo_17 : decode cX6_undo 17 = .ok (.aload_n 0, 1) := by decide +kernel
theorem dX6_undo_18 : decode cX6_undo 18 = .ok (.getfield 31, 3) := by decide +kernel
theorem dX6_undo_21 : decode cX6_undo 21 = .ok (.invokevirtual 241, 3) := by decide +kernel
theorem dX6_undo_24 : decode cX6_undo 24 = .ok (.aload_n 0, 1) := by decide +kernel
theorem dX6_undo_25 : decode cX6_undo 25 = .ok (.getfield 12, 3) := by decide +kernel
theorem dX6_undo_28 : decode cX6_undo 28 = .ok (.getfield 235, 3) := by decide +kernel
theorem dX6_undo_31 : decode cX6_undo 31 = .ok (.ireturn, 1) := by decide +kernel
theorem dX6_reachedNow_0 : decode cX6_reachedNow 0 = .ok (.aload_n 0, 1) := by decide +kernel
theorem dX6_reachedNow_1 : decode cX6_reachedNow 1 = .ok (.getfield 38, 3) := by decide +kernel
theorem dX6_reachedNow_4 : decode cX6_reachedNow 4 = .ok (.bipush 10, 2) := by decide +kernel
theorem dX6_reachedNow_6 : decode cX6_reachedNow 6 = .ok (.invokevirtual 128, 3) := by decide +kernel
theorem dX6_reachedNow_9 : decode cX6_reachedNow 9 = .ok (.astore_n 1, 1) := by decide +kernel
theorem dX6_reachedNow_10 : decode cX6_reachedNow 10 = .ok (.aload_n 1, 1) := by decide +kernel
theorem dX6_reachedNow_11 : decode cX6_reachedNow 11 = .ok (.aload_n 0, 1) := by decide +kernel
theorem dX6_reachedNow_12 : decode cX6_reachedNow 12 = .ok (.getfield 31, 3) := by decide +kernel
theorem dX6_reachedNow_15 : decode cX6_reachedNow 15 = .ok (.invokevirtual 95, 3) := by decide +kernel
theorem dX6_reachedNow_18 : decode cX6_reachedNow 18 = .ok (.invokevirtual 135, 3) := by decide +kernel
theorem dX6_reachedNow_21 : decode cX6_reachedNow 21 = .ok (.aload_n 1, 1) := by decide +kernel
theorem dX6_reachedNow_22 : decode cX6_reachedNow 22 = .ok (.getfield 141, 3) := by decide +kernel
theorem dX6_reachedNow_25 : decode cX6_reachedNow 25 = .ok (.invokestatic 186, 3) := by decide +kernel
theorem dX6_reachedNow_28 : decode cX6_reachedNow 28 = .ok (.ireturn, 1) := by decide +kernel
theorem dX6_isFaultOrNone_0 : decode cX6_isFaultOrNone 0 = .ok (.iload_n 1, 1) := by decide +kernel
theorem dX6_isFaultOrNone_1 : decode cX6_isFaultOrNone 1 = .ok (.iconst (-1), 1) := by decide +kernel
theorem dX6_isFaultOrNone_2 : decode cX6_isFaultOrNone 2 = .ok (.if_icmp .eq 17, 3) := by decide +kernel
theorem dX6_isFaultOrNone_5 : decode cX6_isFaultOrNone 5 = .ok (.aload_n 0, 1) := by decide +kernel
theorem dX6_isFaultOrNone_6 : decode cX6_isFaultOrNone 6 = .ok (.getfield 31, 3) := by decide +kernel
theorem dX6_isFaultOrNone_9 : decode cX6_isFaultOrNone 9 = .ok (.getfield 42, 3) := by decide +kernel
theorem dX6_isFaultOrNone_12 : decode cX6_isFaultOrNone 12 = .ok (.iload_n 1, 1) := by decide +kernel
theorem dX6_isFaultOrNone_13 : decode cX6_isFaultOrNone 13 = .ok (.invokevirtual 103, 3) := by decide +kernel
theorem dX6_isFaultOrNone_16 : decode cX6_isFaultOrNone 16 = .ok (.ifCond .eq 7, 3) := by decide +kernel
theorem dX6_isFaultOrNone_19 : decode cX6_isFaultOrNone 19 = .ok (.iconst 1, 1) := by decide +kernel
theorem dX6_isFaultOrNone_20 : decode cX6_isFaultOrNone 20 = .ok (.goto 4, 3) := by decide +kernel
theorem dX6_isFaultOrNone_23 : decode cX6_isFaultOrNone 23 = .ok (.iconst 0, 1) := by decide +kernel
theorem dX6_isFaultOrNone_24 : decode cX6_isFaultOrNone 24 = .ok (.ireturn, 1) := by decide +kernel
theorem dX6_suspectFor_0 : decode cX6_suspectFor 0 = .ok (.iload_n 0, 1) := by decide +kernel
theorem dX6_suspectFor_1 : decode cX6_suspectFor 1 = .ok (.iconst (-1), 1) := by decide +kernel
theorem dX6_suspectFor_2 : decode cX6_suspectFor 2 = .ok (.if_icmp .ne 8, 3) := by decide +kernel
theorem dX6_suspectFor_5 : decode cX6_suspectFor 5 = .ok (.bipush 10, 2) := by decide +kernel
theorem dX6_suspectFor_7 : decode cX6_suspectFor 7 = .ok (.goto 4, 3) := by decide +kernel
theorem dX6_suspectFor_10 : decode cX6_suspectFor 10 = .ok (.iload_n 0, 1) := by decide +kernel
theorem dX6_suspectFor_11 : decode cX6_suspectFor 11 = .ok (.ireturn, 1) := by decide +kernel
theorem dX6_foundOrNot_0 : decode cX6_foundOrNot 0 = .ok (.iload_n 0, 1) := by decide +kernel
theorem dX6_foundOrNot_1 : decode cX6_foundOrNot 1 = .ok (.iconst (-1), 1) := by decide +kernel
theorem dX6_foundOrNot_2 : decode cX6_foundOrNot 2 = .ok (.if_icmp .ne 8, 3) := by decide +kernel
theorem dX6_foundOrNot_5 : decode cX6_foundOrNot 5 = .ok (.ldc 115, 2) := by decide +kernel
theorem dX6_foundOrNot_7 : decode cX6_foundOrNot 7 = .ok (.goto 4, 3) := by decide +kernel
theorem dX6_foundOrNot_10 : decode cX6_foundOrNot 10 = .ok (.iload_n 0, 1) := by decide +kernel
theorem dX6_foundOrNot_11 : decode cX6_foundOrNot 11 = .ok (.ireturn, 1) := by decide +kernel
theorem dX6_isPin_0 : decode cX6_isPin 0 = .ok (.iload_n 0, 1) := by decide +kernel
theorem dX6_isPin_1 : decode cX6_isPin 1 = .ok (.ifCond .lt 13, 3) := by decide +kernel
theorem dX6_isPin_4 : decode cX6_isPin 4 = .ok (.iload_n 0, 1) := by decide +kernel
theorem dX6_isPin_5 : decode cX6_isPin 5 = .ok (.bipush 16, 2) := by decide +kernel
theorem dX6_isPin_7 : decode cX6_isPin 7 = .ok (.if_icmp .ge 7, 3) := by decide +kernel
theorem dX6_isPin_10 : decode cX6_isPin 10 = .ok (.iconst 1, 1) := by decide +kernel
