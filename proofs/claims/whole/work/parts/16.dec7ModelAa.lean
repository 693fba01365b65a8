theorem dX12_emit_0 : decode cX12_emit 0 = .ok (.aload_n 0, 1) := by decide +kernel
theorem dX12_emit_1 : decode cX12_emit 1 = .ok (.getfield 32, 3) := by decide +kernel
theorem dX12_emit_4 : decode cX12_emit 4 = .ok (.sipush 820, 3) := by decide +kernel
theorem dX12_emit_7 : decode cX12_emit 7 = .ok (.aload_n 0, 1) := by decide +kernel
theorem dX12_emit_8 : decode cX12_emit 8 = .ok (.getfield 29, 3) := by decide +kernel
theorem dX12_emit_11 : decode cX12_emit 11 = .ok (.iconst 1, 1) := by decide +kernel
theorem dX12_emit_12 : decode cX12_emit 12 = .ok (.iaload, 1) := by decide +kernel
theorem dX12_emit_13 : decode cX12_emit 13 = .ok (.iadd, 1) := by decide +kernel
theorem dX12_emit_14 : decode cX12_emit 14 = .ok (.iload_n 1, 1) := by decide +kernel
theorem dX12_emit_15 : decode cX12_emit 15 = .ok (.iastore, 1) := by decide +kernel
theorem dX12_emit_16 : decode cX12_emit 16 = .ok (.aload_n 0, 1) := by decide +kernel
theorem dX12_emit_17 : decode cX12_emit 17 = .ok (.getfield 29, 3) := by decide +kernel
theorem dX12_emit_20 : decode cX12_emit 20 = .ok (.iconst 1, 1) := by decide +kernel
theorem dX12_emit_21 : decode cX12_emit 21 = .ok (.dup2, 1) := by decide +kernel
theorem dX12_emit_22 : decode cX12_emit 22 = .ok (.iaload, 1) := by decide +kernel
theorem dX12_emit_23 : decode cX12_emit 23 = .ok (.iconst 1, 1) := by decide +kernel
theorem dX12_emit_24 : decode cX12_emit 24 = .ok (.iadd, 1) := by decide +kernel
theorem dX12_emit_25 : decode cX12_emit 25 = .ok (.iastore, 1) := by decide +kernel
theorem dX12_emit_26 : decode cX12_emit 26 = .ok (.iconst 1, 1) := by decide +kernel
theorem dX12_emit_27 : decode cX12_emit 27 = .ok (.ireturn, 1) := by decide +kernel
theorem dX12_clearDraft_0 : decode cX12_clearDraft 0 = .ok (.iconst 0, 1) := by decide +kernel
theorem dX12_clearDraft_1 : decode cX12_clearDraft 1 = .ok (.istore_n 1, 1) := by decide +kernel
theorem dX12_clearDraft_2 : decode cX12_clearDraft 2 = .ok (.iload_n 1, 1) := by decide +kernel
theorem dX12_clearDraft_3 : decode cX12_clearDraft 3 = .ok (.iconst 4, 1) := by decide +kernel
theorem dX12_clearDraft_4 : decode cX12_clearDraft 4 = .ok (.if_icmp .ge 19, 3) := by decide +kernel
theorem dX12_clearDraft_7 : decode cX12_clearDraft 7 = .ok (.aload_n 0, 1) := by decide +kernel
theorem dX12_clearDraft_8 : decode cX12_clearDraft 8 = .ok (.getfield 13, 3) := by decide +kernel
theorem dX12_clearDraft_11 : decode cX12_clearDraft 11 = .ok (.bipush 7, 2) := by decide +kernel
theorem dX12_clearDraft_13 : decode cX12_clearDraft 13 = .ok (.iload_n 1, 1) := by decide +kernel
theorem dX12_clearDraft_14 : decode cX12_clearDraft 14 = .ok (.iadd, 1) := by decide +kernel
theorem dX12_clearDraft_15 : decode cX12_clearDraft 15 = .ok (.iconst 0, 1) := by decide +kernel
theorem dX12_clearDraft_16 : decode cX12_clearDraft 16 = .ok (.iastore, 1) := by decide +kernel
theorem dX12_clearDraft_17 : decode cX12_clearDraft 17 = .ok (.iinc 1 1, 3) := by decide +kernel
theorem dX12_clearDraft_20 : decode cX12_clearDraft 20 = .ok (.goto (-18), 3) := by decide +kernel
theorem dX12_clearDraft_23 : decode cX12_clearDraft 23 = .ok (.aload_n 0, 1) := by decide +kernel
theorem dX12_clearDraft_24 : decode cX12_clearDraft 24 = .ok (.getfield 13, 3) := by decide +kernel
theorem dX12_clearDraft_27 : decode cX12_clearDraft 27 = .ok (.bipush 11, 2) := by decide +kernel
theorem dX12_clearDraft_29 : decode cX12_clearDraft 29 = .ok (.bipush 20, 2) := by decide +kernel
theorem dX12_clearDraft_31 : decode cX12_clearDraft 31 = .ok (.iastore, 1) := by decide +kernel
theorem dX12_clearDraft_32 : decode cX12_clearDraft 32 = .ok (.aload_n 0, 1) := by decide +kernel
theorem dX12_clearDraft_33 : decode cX12_clearDraft 33 = .ok (.getfield 13, 3) := by decide +kernel
theorem dX12_clearDraft_36 : decode cX12_clearDraft 36 = .ok (.bipush 12, 2) := by decide +kernel
theorem dX12_clearDraft_38 : decode cX12_clearDraft 38 = .ok (.iconst 2, 1) := by decide +kernel
theorem dX12_clearDraft_39 : decode cX12_clearDraft 39 = .ok (.iastore, 1) := by decide +kernel
theorem dX12_clearDraft_40 : decode cX12_clearDraft 40 = .ok (.aload_n 0, 1) := by decide +kernel
theorem dX12_clearDraft_41 : decode cX12_clearDraft 41 = .ok (.getfield 13, 3) := by decide +kernel
theorem dX12_clearDraft_44 : decode cX12_clearDraft 44 = .ok (.bipush 13, 2) := by decide +kernel
theorem dX12_clearDraft_46 : decode cX12_clearDraft 46 = .ok (.bipush 100, 2) := by decide +kernel
theorem dX12_clearDraft_48 : decode cX12_clearDraft 48 = .ok (.iastore, 1) := by decide +kernel
theorem dX12_clearDraft_49 : decode cX12_clearDraft 49 = .ok (.aload_n 0, 1) := by decide +kernel
theorem dX12_clearDraft_50 : decode cX12_clearDraft 50 = .ok (.getfield 29, 3) := by decide +kernel
theorem dX12_clearDraft_53 : decode cX12_clearDraft 53 = .ok (.iconst 1, 1) := by decide +kernel
theorem dX12_clearDraft_54 : decode cX12_clearDraft 54 = .ok (.iconst 0, 1) := by decide +kernel
theorem dX12_clearDraft_55 : decode cX12_clearDraft 55 = .ok (.iastore, 1) := by decide +kernel
theorem dX12_clearDraft_56 : decode cX12_clearDraft 56 = .ok (.aload_n 0, 1) := by decide +kernel
theorem dX12_clearDraft_57 : decode cX12_clearDraft 57 = .ok (.iconst 2, 1) := by decide +kernel
theorem dX12_clearDraft_58 : decode cX12_clearDraft 58 = .ok (.invokevirtual 90, 3) := by decide +kernel
theorem dX12_clearDraft_61 : decode cX12_clearDraft 61 = .ok (.pop, 1) := by decide +kernel
theorem dX12_clearDraft_62 : decode cX12_clearDraft 62 = .ok (.return_, 1) := by decide +kernel
theorem dX12_lifts_0 : decode cX12_lifts 0 = .ok (.iconst 0, 1) := by decide +kernel
theorem dX12_lifts_1 : decode cX12_lifts 1 = .ok (.istore_n 1, 1) := by decide +kernel
theorem dX12_lifts_2 : decode cX12_lifts 2 = .ok (.iload_n 1, 1) := by decide +kernel
theorem dX12_lifts_3 : decode cX12_lifts 3 = .ok (.aload_n 0, 1) := by decide +kernel
theorem dX12_lifts_4 : decode cX12_lifts 4 = .ok (.arraylength, 1) := by decide +kernel
theorem dX12_lifts_5 : decode cX12_lifts 5 = .ok (.iconst 2, 1) := by decide +kernel
theorem dX12_lifts_6 : decode cX12_lifts 6 = .ok (.idiv, 1) := by decide +kernel
theorem dX12_lifts_7 : decode cX12_lifts 7 = .ok (.if_icmp .ge 20, 3) := by decide +kernel
theorem dX12_lifts_10 : decode cX12_lifts 10 = .ok (.aload_n 0, 1) := by decide +kernel
theorem dX12_lifts_11 : decode cX12_lifts 11 = .ok (.iload_n 1, 1) := by decide +kernel
theorem dX12_lifts_12 : decode cX12_lifts 12 = .ok (.aload_n 0, 1) := by decide +kernel
theorem dX12_lifts_13 : decode cX12_lifts 13 = .ok (.aload_n 0, 1) := by decide +kernel
theorem dX12_lifts_14 : decode cX12_lifts 14 = .ok (.arraylength, 1) := by decide +kernel
theorem dX12_lifts_15 : decode cX12_lifts 15 = .ok (.iconst 2, 1) := by decide +kernel
theorem dX12_lifts_16 : decode cX12_lifts 16 = .ok (.idiv, 1) := by decide +kernel
theorem dX12_lifts_17 : decode cX12_lifts 17 = .ok (.iload_n 1, 1) := by decide +kernel
theorem dX12_lifts_18 : decode cX12_lifts 18 = .ok (.iadd, 1) := by decide +kernel
theorem dX12_lifts_19 : decode cX12_lifts 19 = .ok (.iaload, 1) := by decide +kernel
theorem dX12_lifts_20 : decode cX12_lifts 20 = .ok (.iastore, 1) := by decide +kernel
theorem dX12_lifts_21 : decode cX12_lifts 21 = .ok (.iinc 1 1, 3) := by decide +kernel
theorem dX12_lifts_24 : decode cX12_lifts 24 = .ok (.goto (-22), 3) := by decide +kernel
theorem dX12_lifts_27 : decode cX12_lifts 27 = .ok (.return_, 1) := by decide +kernel
theorem dX12_liftsAll_0 : decode cX12_liftsAll 0 = .ok (.aload_n 0, 1) := by decide +kernel
theorem dX12_liftsAll_1 : decode cX12_liftsAll 1 = .ok (.getfield 13, 3) := by decide +kernel
theorem dX12_liftsAll_4 : decode cX12_liftsAll 4 = .ok (.invokestatic 86, 3) := by decide +kernel
theorem dX12_liftsAll_7 : decode cX12_liftsAll 7 = .ok (.aload_n 0, 1) := by decide +kernel
theorem dX12_liftsAll_8 : decode cX12_liftsAll 8 = .ok (.getfield 17, 3) := by decide +kernel
theorem dX12_liftsAll_11 : decode cX12_liftsAll 11 = .ok (.invokestatic 86, 3) := by decide +kernel
theorem dX12_liftsAll_14 : decode cX12_liftsAll 14 = .ok (.aload_n 0, 1) := by decide +kernel
theorem dX12_liftsAll_15 : decode cX12_liftsAll 15 = .ok (.getfield 20, 3) := by decide +kernel
theorem dX12_liftsAll_18 : decode cX12_liftsAll 18 = .ok (.invokestatic 86, 3) := by decide +kernel
theorem dX12_liftsAll_21 : decode cX12_liftsAll 21 = .ok (.aload_n 0, 1) := by decide +kernel
theorem dX12_liftsAll_22 : decode cX12_liftsAll 22 = .ok (.getfield 23, 3) := by decide +kernel
theorem dX12_liftsAll_25 : decode cX12_liftsAll 25 = .ok (.invokestatic 86, 3) := by decide +kernel
theorem dX12_liftsAll_28 : decode cX12_liftsAll 28 = .ok (.aload_n 0, 1) := by decide +kernel
theorem dX12_liftsAll_29 : decode cX12_liftsAll 29 = .ok (.getfield 26, 3) := by decide +kernel
theorem dX12_liftsAll_32 : decode cX12_liftsAll 32 = .ok (.invokestatic 86, 3) := by decide +kernel
theorem dX12_liftsAll_35 : decode cX12_liftsAll 35 = .ok (.aload_n 0, 1) := by decide +kernel
theorem dX12_liftsAll_36 : decode cX12_liftsAll 36 = .ok (.getfield 29, 3) := by decide +kernel
theorem dX12_liftsAll_39 : decode cX12_liftsAll 39 = .ok (.invokestatic 86, 3) := by decide +kernel
theorem dX12_liftsAll_42 : decode cX12_liftsAll 42 = .ok (.aload_n 0, 1) := by decide +kernel
theorem dX12_liftsAll_43 : decode cX12_liftsAll 43 = .ok (.getfield 32, 3) := by decide +kernel
theorem dX12_liftsAll_46 : decode cX12_liftsAll 46 = .ok (.invokestatic 86, 3) := by decide +kernel
theorem dX12_liftsAll_49 : decode cX12_liftsAll 49 = .ok (.return_, 1) := by decide +kernel
theorem dX12_of_0 : decode cX12_of 0 = .ok (.bipush 14, 2) := by decide +kernel
theorem dX12_of_2 : decode cX12_of 2 = .ok (.bipush 6, 2) := by decide +kernel
theorem dX12_of_4 : decode cX12_of 4 = .ok (.iload_n 0, 1) := by decide +kernel
theorem dX12_of_5 : decode cX12_of 5 = .ok (.imul, 1) := by decide +kernel
theorem dX12_of_6 : decode cX12_of 6 = .ok (.iadd, 1) := by decide +kernel
theorem dX12_of_7 : decode cX12_of 7 = .ok (.iload_n 1, 1) := by decide +kernel
theorem dX12_of_8 : decode cX12_of 8 = .ok (.iadd, 1) := by decide +kernel
theorem dX12_of_9 : decode cX12_of 9 = .ok (.ireturn, 1) := by decide +kernel
theorem dX12_allCpu_0 : decode cX12_allCpu 0 = .ok (.iconst 0, 1) := by decide +kernel
theorem dX12_allCpu_1 : decode cX12_allCpu 1 = .ok (.istore_n 1, 1) := by decide +kernel
theorem dX12_allCpu_2 : decode cX12_allCpu 2 = .ok (.iconst 0, 1) := by decide +kernel
theorem dX12_allCpu_3 : decode cX12_allCpu 3 = .ok (.istore_n 2, 1) := by decide +kernel
theorem dX12_allCpu_4 : decode cX12_allCpu 4 = .ok (.iload_n 2, 1) := by decide +kernel
theorem dX12_allCpu_5 : decode cX12_allCpu 5 = .ok (.aload_n 0, 1) := by decide +kernel
theorem dX12_allCpu_6 : decode cX12_allCpu 6 = .ok (.getfield 13, 3) := by decide +kernel
theorem dX12_allCpu_9 : decode cX12_allCpu 9 = .ok (.iconst 0, 1) := by decide +kernel
theorem dX12_allCpu_10 : decode cX12_allCpu 10 = .ok (.iaload, 1) := by decide +kernel
theorem dX12_allCpu_11 : decode cX12_allCpu 11 = .ok (.if_icmp .ge 20, 3) := by decide +kernel
theorem dX12_allCpu_14 : decode cX12_allCpu 14 = .ok (.iload_n 1, 1) := by decide +kernel
theorem dX12_allCpu_15 : decode cX12_allCpu 15 = .ok (.aload_n 0, 1) := by decide +kernel
theorem dX12_allCpu_16 : decode cX12_allCpu 16 = .ok (.getfield 17, 3) := by decide +kernel
theorem dX12_allCpu_19 : decode cX12_allCpu 19 = .ok (.iconst 2, 1) := by decide +kernel
theorem dX12_allCpu_20 : decode cX12_allCpu 20 = .ok (.iload_n 2, 1) := by decide +kernel
theorem dX12_allCpu_21 : decode cX12_allCpu 21 = .ok (.imul, 1) := by decide +kernel
theorem dX12_allCpu_22 : decode cX12_allCpu 22 = .ok (.iaload, 1) := by decide +kernel
theorem dX12_allCpu_23 : decode cX12_allCpu 23 = .ok (.iadd, 1) := by decide +kernel
theorem dX12_allCpu_24 : decode cX12_allCpu 24 = .ok (.istore_n 1, 1) := by decide +kernel
theorem dX12_allCpu_25 : decode cX12_allCpu 25 = .ok (.iinc 2 1, 3) := by decide +kernel
theorem dX12_allCpu_28 : decode cX12_allCpu 28 = .ok (.goto (-24), 3) := by decide +kernel
theorem dX12_allCpu_31 : decode cX12_allCpu 31 = .ok (.iload_n 1, 1) := by decide +kernel
theorem dX12_allCpu_32 : decode cX12_allCpu 32 = .ok (.ireturn, 1) := by decide +kernel
theorem dX12_runs_0 : decode cX12_runs 0 = .ok (.aload_n 0, 1) := by decide +kernel
theorem dX12_runs_1 : decode cX12_runs 1 = .ok (.getfield 7, 3) := by decide +kernel
theorem dX12_runs_4 : decode cX12_runs 4 = .ok (.iload_n 1, 1) := by decide +kernel
theorem dX12_runs_5 : decode cX12_runs 5 = .ok (.iconst 0, 1) := by decide +kernel
theorem dX12_runs_6 : decode cX12_runs 6 = .ok (.invokestatic 238, 3) := by decide +kernel
theorem dX12_runs_9 : decode cX12_runs 9 = .ok (.laload, 1) := by decide +kernel
theorem dX12_runs_10 : decode cX12_runs 10 = .ok (.ldc2_w 256, 3) := by decide +kernel
theorem dX12_runs_13 : decode cX12_runs 13 = .ok (.lcmp, 1) := by decide +kernel
theorem dX12_runs_14 : decode cX12_runs 14 = .ok (.ifCond .eq 7, 3) := by decide +kernel
theorem dX12_runs_17 : decode cX12_runs 17 = .ok (.iconst 1, 1) := by decide +kernel
theorem dX12_runs_18 : decode cX12_runs 18 = .ok (.goto 4, 3) := by decide +kernel
theorem dX12_runs_21 : decode cX12_runs 21 = .ok (.iconst 0, 1) := by decide +kernel
theorem dX12_runs_22 : decode cX12_runs 22 = .ok (.ireturn, 1) := by decide +kernel
theorem dX12_its_0 : decode cX12_its 0 = .ok (.aload_n 0, 1) := by decide +kernel
theorem dX12_its_1 : decode cX12_its 1 = .ok (.getfield 7, 3) := by decide +kernel
theorem dX12_its_4 : decode cX12_its 4 = .ok (.iload_n 1, 1) := by decide +kernel
theorem dX12_its_5 : decode cX12_its 5 = .ok (.iload_n 2, 1) := by decide +kernel
theorem dX12_its_6 : decode cX12_its 6 = .ok (.invokestatic 238, 3) := by decide +kernel
theorem dX12_its_9 : decode cX12_its 9 = .ok (.laload, 1) := by decide +kernel
theorem dX12_its_10 : decode cX12_its 10 = .ok (.l2i, 1) := by decide +kernel
theorem dX12_its_11 : decode cX12_its 11 = .ok (.ireturn, 1) := by decide +kernel
theorem dX12_loadCpu_0 : decode cX12_loadCpu 0 = .ok (.iconst 0, 1) := by decide +kernel
theorem dX12_loadCpu_1 : decode cX12_loadCpu 1 = .ok (.istore_n 1, 1) := by decide +kernel
theorem dX12_loadCpu_2 : decode cX12_loadCpu 2 = .ok (.iconst 0, 1) := by decide +kernel
theorem dX12_loadCpu_3 : decode cX12_loadCpu 3 = .ok (.istore_n 2, 1) := by decide +kernel
theorem dX12_loadCpu_4 : decode cX12_loadCpu 4 = .ok (.iload_n 2, 1) := by decide +kernel
theorem dX12_loadCpu_5 : decode cX12_loadCpu 5 = .ok (.bipush 12, 2) := by decide +kernel
theorem dX12_loadCpu_7 : decode cX12_loadCpu 7 = .ok (.if_icmp .ge 37, 3) := by decide +kernel
theorem dX12_loadCpu_10 : decode cX12_loadCpu 10 = .ok (.iload_n 1, 1) := by decide +kernel
theorem dX12_loadCpu_11 : decode cX12_loadCpu 11 = .ok (.aload_n 0, 1) := by decide +kernel
theorem dX12_loadCpu_12 : decode cX12_loadCpu 12 = .ok (.iload_n 2, 1) := by decide +kernel
theorem dX12_loadCpu_13 : decode cX12_loadCpu 13 = .ok (.invokevirtual 264, 3) := by decide +kernel
theorem dX12_loadCpu_16 : decode cX12_loadCpu 16 = .ok (.ifCond .eq 19, 3) := by decide +kernel
theorem dX12_loadCpu_19 : decode cX12_loadCpu 19 = .ok (.aload_n 0, 1) := by decide +kernel
theorem dX12_loadCpu_20 : decode cX12_loadCpu 20 = .ok (.getfield 20, 3) := by decide +kernel
theorem dX12_loadCpu_23 : decode cX12_loadCpu 23 = .ok (.iconst 3, 1) := by decide +kernel
theorem dX12_loadCpu_24 : decode cX12_loadCpu 24 = .ok (.aload_n 0, 1) := by decide +kernel
theorem dX12_loadCpu_25 : decode cX12_loadCpu 25 = .ok (.iload_n 2, 1) := by decide +kernel
theorem dX12_loadCpu_26 : decode cX12_loadCpu 26 = .ok (.iconst 1, 1) := by decide +kernel
theorem dX12_loadCpu_27 : decode cX12_loadCpu 27 = .ok (.invokevirtual 242, 3) := by decide +kernel
theorem dX12_loadCpu_30 : decode cX12_loadCpu 30 = .ok (.imul, 1) := by decide +kernel
theorem dX12_loadCpu_31 : decode cX12_loadCpu 31 = .ok (.iaload, 1) := by decide +kernel
theorem dX12_loadCpu_32 : decode cX12_loadCpu 32 = .ok (.goto 4, 3) := by decide +kernel
theorem dX12_loadCpu_35 : decode cX12_loadCpu 35 = .ok (.iconst 0, 1) := by decide +kernel
theorem dX12_loadCpu_36 : decode cX12_loadCpu 36 = .ok (.iadd, 1) := by decide +kernel
theorem dX12_loadCpu_37 : decode cX12_loadCpu 37 = .ok (.istore_n 1, 1) := by decide +kernel
theorem dX12_loadCpu_38 : decode cX12_loadCpu 38 = .ok (.iinc 2 1, 3) := by decide +kernel
theorem dX12_loadCpu_41 : decode cX12_loadCpu 41 = .ok (.goto (-37), 3) := by decide +kernel
theorem dX12_loadCpu_44 : decode cX12_loadCpu 44 = .ok (.iload_n 1, 1) := by decide +kernel
theorem dX12_loadCpu_45 : decode cX12_loadCpu 45 = .ok (.ireturn, 1) := by decide +kernel
theorem dX12_setsPrices_0 : decode cX12_setsPrices 0 = .ok (.aload_n 0, 1) := by decide +kernel
theorem dX12_setsPrices_1 : decode cX12_setsPrices 1 = .ok (.invokevirtual 279, 3) := by decide +kernel
theorem dX12_setsPrices_4 : decode cX12_setsPrices 4 = .ok (.istore_n 1, 1) := by decide +kernel
theorem dX12_setsPrices_5 : decode cX12_setsPrices 5 = .ok (.iload_n 1, 1) := by decide +kernel
theorem dX12_setsPrices_6 : decode cX12_setsPrices 6 = .ok (.ifCond .ne 7, 3) := by decide +kernel
theorem dX12_setsPrices_9 : decode cX12_setsPrices 9 = .ok (.iconst 0, 1) := by decide +kernel
theorem dX12_setsPrices_10 : decode cX12_setsPrices 10 = .ok (.goto 12, 3) := by decide +kernel
theorem dX12_setsPrices_13 : decode cX12_setsPrices 13 = .ok (.bipush 100, 2) := by decide +kernel
theorem dX12_setsPrices_15 : decode cX12_setsPrices 15 = .ok (.aload_n 0, 1) := by decide +kernel
theorem dX12_setsPrices_16 : decode cX12_setsPrices 16 = .ok (.invokevirtual 282, 3) := by decide +kernel
theorem dX12_setsPrices_19 : decode cX12_setsPrices 19 = .ok (.imul, 1) := by decide +kernel
theorem dX12_setsPrices_20 : decode cX12_setsPrices 20 = .ok (.iload_n 1, 1) := by decide +kernel
theorem dX12_setsPrices_21 : decode cX12_setsPrices 21 = .ok (.idiv, 1) := by decide +kernel
theorem dX12_setsPrices_22 : decode cX12_setsPrices 22 = .ok (.istore_n 2, 1) := by decide +kernel
theorem dX12_setsPrices_23 : decode cX12_setsPrices 23 = .ok (.iconst 0, 1) := by decide +kernel
theorem dX12_setsPrices_24 : decode cX12_setsPrices 24 = .ok (.istore_n 3, 1) := by decide +kernel
theorem dX12_setsPrices_25 : decode cX12_setsPrices 25 = .ok (.iload_n 3, 1) := by decide +kernel
theorem dX12_setsPrices_26 : decode cX12_setsPrices 26 = .ok (.aload_n 0, 1) := by decide +kernel
theorem dX12_setsPrices_27 : decode cX12_setsPrices 27 = .ok (.getfield 13, 3) := by decide +kernel
theorem dX12_setsPrices_30 : decode cX12_setsPrices 30 = .ok (.iconst 1, 1) := by decide +kernel
theorem dX12_setsPrices_31 : decode cX12_setsPrices 31 = .ok (.iaload, 1) := by decide +kernel
theorem dX12_setsPrices_32 : decode cX12_setsPrices 32 = .ok (.if_icmp .ge 72, 3) := by decide +kernel
theorem dX12_setsPrices_35 : decode cX12_setsPrices 35 = .ok (.aload_n 0, 1) := by decide +kernel
theorem dX12_setsPrices_36 : decode cX12_setsPrices 36 = .ok (.getfield 20, 3) := by decide +kernel
theorem dX12_setsPrices_39 : decode cX12_setsPrices 39 = .ok (.iconst 3, 1) := by decide +kernel
theorem dX12_setsPrices_40 : decode cX12_setsPrices 40 = .ok (.iload_n 3, 1) := by decide +kernel
theorem dX12_setsPrices_41 : decode cX12_setsPrices 41 = .ok (.imul, 1) := by decide +kernel
theorem dX12_setsPrices_42 : decode cX12_setsPrices 42 = .ok (.iconst 2, 1) := by decide +kernel
theorem dX12_setsPrices_43 : decode cX12_setsPrices 43 = .ok (.iadd, 1) := by decide +kernel
theorem dX12_setsPrices_44 : decode cX12_setsPrices 44 = .ok (.iaload, 1) := by decide +kernel
theorem dX12_setsPrices_45 : decode cX12_setsPrices 45 = .ok (.istore 4, 2) := by decide +kernel
theorem dX12_setsPrices_47 : decode cX12_setsPrices 47 = .ok (.iload 4, 2) := by decide +kernel
theorem dX12_setsPrices_49 : decode cX12_setsPrices 49 = .ok (.aload_n 0, 1) := by decide +kernel
theorem dX12_setsPrices_50 : decode cX12_setsPrices 50 = .ok (.getfield 13, 3) := by decide +kernel
theorem dX12_setsPrices_53 : decode cX12_setsPrices 53 = .ok (.iconst 4, 1) := by decide +kernel
theorem dX12_setsPrices_54 : decode cX12_setsPrices 54 = .ok (.iaload, 1) := by decide +kernel
theorem dX12_setsPrices_55 : decode cX12_setsPrices 55 = .ok (.aload_n 0, 1) := by decide +kernel
theorem dX12_setsPrices_56 : decode cX12_setsPrices 56 = .ok (.getfield 13, 3) := by decide +kernel
theorem dX12_setsPrices_59 : decode cX12_setsPrices 59 = .ok (.bipush 6, 2) := by decide +kernel
theorem dX12_setsPrices_61 : decode cX12_setsPrices 61 = .ok (.iaload, 1) := by decide +kernel
theorem dX12_setsPrices_62 : decode cX12_setsPrices 62 = .ok (.iload_n 2, 1) := by decide +kernel
theorem dX12_setsPrices_63 : decode cX12_setsPrices 63 = .ok (.imul, 1) := by decide +kernel
theorem dX12_setsPrices_64 : decode cX12_setsPrices 64 = .ok (.bipush 100, 2) := by decide +kernel
theorem dX12_setsPrices_66 : decode cX12_setsPrices 66 = .ok (.idiv, 1) := by decide +kernel
theorem dX12_setsPrices_67 : decode cX12_setsPrices 67 = .ok (.iadd, 1) := by decide +kernel
theorem dX12_setsPrices_68 : decode cX12_setsPrices 68 = .ok (.imul, 1) := by decide +kernel
theorem dX12_setsPrices_69 : decode cX12_setsPrices 69 = .ok (.bipush 100, 2) := by decide +kernel
theorem dX12_setsPrices_71 : decode cX12_setsPrices 71 = .ok (.idiv, 1) := by decide +kernel
theorem dX12_setsPrices_72 : decode cX12_setsPrices 72 = .ok (.istore 5, 2) := by decide +kernel
theorem dX12_setsPrices_74 : decode cX12_setsPrices 74 = .ok (.aload_n 0, 1) := by decide +kernel
theorem dX12_setsPrices_75 : decode cX12_setsPrices 75 = .ok (.getfield 7, 3) := by decide +kernel
theorem dX12_setsPrices_78 : decode cX12_setsPrices 78 = .ok (.iconst 2, 1) := by decide +kernel
theorem dX12_setsPrices_79 : decode cX12_setsPrices 79 = .ok (.iload_n 3, 1) := by decide +kernel
theorem dX12_setsPrices_80 : decode cX12_setsPrices 80 = .ok (.iadd, 1) := by decide +kernel
theorem dX12_setsPrices_81 : decode cX12_setsPrices 81 = .ok (.iload 5, 2) := by decide +kernel
theorem dX12_setsPrices_83 : decode cX12_setsPrices 83 = .ok (.iload 4, 2) := by decide +kernel
theorem dX12_setsPrices_85 : decode cX12_setsPrices 85 = .ok (.if_icmp .ge 9, 3) := by decide +kernel
theorem dX12_setsPrices_88 : decode cX12_setsPrices 88 = .ok (.iload 5, 2) := by decide +kernel
theorem dX12_setsPrices_90 : decode cX12_setsPrices 90 = .ok (.i2l, 1) := by decide +kernel
theorem dX12_setsPrices_91 : decode cX12_setsPrices 91 = .ok (.goto 6, 3) := by decide +kernel
theorem dX12_setsPrices_94 : decode cX12_setsPrices 94 = .ok (.iload 4, 2) := by decide +kernel
theorem dX12_setsPrices_96 : decode cX12_setsPrices 96 = .ok (.i2l, 1) := by decide +kernel
theorem dX12_setsPrices_97 : decode cX12_setsPrices 97 = .ok (.lastore, 1) := by decide +kernel
theorem dX12_setsPrices_98 : decode cX12_setsPrices 98 = .ok (.iinc 3 1, 3) := by decide +kernel
theorem dX12_setsPrices_101 : decode cX12_setsPrices 101 = .ok (.goto (-76), 3) := by decide +kernel
theorem dX12_setsPrices_104 : decode cX12_setsPrices 104 = .ok (.return_, 1) := by decide +kernel
theorem dX12_begins_0 : decode cX12_begins 0 = .ok (.iconst 0, 1) := by decide +kernel
theorem dX12_begins_1 : decode cX12_begins 1 = .ok (.istore_n 1, 1) := by decide +kernel
theorem dX12_begins_2 : decode cX12_begins 2 = .ok (.iload_n 1, 1) := by decide +kernel
theorem dX12_begins_3 : decode cX12_begins 3 = .ok (.bipush 116, 2) := by decide +kernel
theorem dX12_begins_5 : decode cX12_begins 5 = .ok (.if_icmp .ge 16, 3) := by decide +kernel
theorem dX12_begins_8 : decode cX12_begins 8 = .ok (.aload_n 0, 1) := by decide +kernel
theorem dX12_begins_9 : decode cX12_begins 9 = .ok (.getfield 7, 3) := by decide +kernel
theorem dX12_begins_12 : decode cX12_begins 12 = .ok (.iload_n 1, 1) := by decide +kernel
theorem dX12_begins_13 : decode cX12_begins 13 = .ok (.lconst 0, 1) := by decide +kernel
theorem dX12_begins_14 : decode cX12_begins 14 = .ok (.lastore, 1) := by decide +kernel
theorem dX12_begins_15 : decode cX12_begins 15 = .ok (.iinc 1 1, 3) := by decide +kernel
theorem dX12_begins_18 : decode cX12_begins 18 = .ok (.goto (-16), 3) := by decide +kernel
theorem dX12_begins_21 : decode cX12_begins 21 = .ok (.iconst 0, 1) := by decide +kernel
theorem dX12_begins_22 : decode cX12_begins 22 = .ok (.istore_n 1, 1) := by decide +kernel
theorem dX12_begins_23 : decode cX12_begins 23 = .ok (.iload_n 1, 1) := by decide +kernel
theorem dX12_begins_24 : decode cX12_begins 24 = .ok (.bipush 12, 2) := by decide +kernel
theorem dX12_begins_26 : decode cX12_begins 26 = .ok (.if_icmp .ge 22, 3) := by decide +kernel
theorem dX12_begins_29 : decode cX12_begins 29 = .ok (.aload_n 0, 1) := by decide +kernel
theorem dX12_begins_30 : decode cX12_begins 30 = .ok (.getfield 7, 3) := by decide +kernel
theorem dX12_begins_33 : decode cX12_begins 33 = .ok (.iload_n 1, 1) := by decide +kernel
theorem dX12_begins_34 : decode cX12_begins 34 = .ok (.iconst 0, 1) := by decide +kernel
theorem dX12_begins_35 : decode cX12_begins 35 = .ok (.invokestatic 238, 3) := by decide +kernel
theorem dX12_begins_38 : decode cX12_begins 38 = .ok (.ldc2_w 256, 3) := by decide +kernel
theorem dX12_begins_41 : decode cX12_begins 41 = .ok (.lastore, 1) := by decide +kernel
theorem dX12_begins_42 : decode cX12_begins 42 = .ok (.iinc 1 1, 3) := by decide +kernel
theorem dX12_begins_45 : decode cX12_begins 45 = .ok (.goto (-22), 3) := by decide +kernel
theorem dX12_begins_48 : decode cX12_begins 48 = .ok (.aload_n 0, 1) := by decide +kernel
theorem dX12_begins_49 : decode cX12_begins 49 = .ok (.invokevirtual 258, 3) := by decide +kernel
theorem dX12_begins_52 : decode cX12_begins 52 = .ok (.aload_n 0, 1) := by decide +kernel
theorem dX12_begins_53 : decode cX12_begins 53 = .ok (.iconst 0, 1) := by decide +kernel
theorem dX12_begins_54 : decode cX12_begins 54 = .ok (.putfield 261, 3) := by decide +kernel
theorem dX12_begins_57 : decode cX12_begins 57 = .ok (.aload_n 0, 1) := by decide +kernel
theorem dX12_begins_58 : decode cX12_begins 58 = .ok (.getfield 70, 3) := by decide +kernel
theorem dX12_begins_61 : decode cX12_begins 61 = .ok (.iconst 0, 1) := by decide +kernel
theorem dX12_begins_62 : decode cX12_begins 62 = .ok (.iconst 0, 1) := by decide +kernel
theorem dX12_begins_63 : decode cX12_begins 63 = .ok (.bastore, 1) := by decide +kernel
theorem dX12_begins_64 : decode cX12_begins 64 = .ok (.aload_n 0, 1) := by decide +kernel
theorem dX12_begins_65 : decode cX12_begins 65 = .ok (.getfield 70, 3) := by decide +kernel
theorem dX12_begins_68 : decode cX12_begins 68 = .ok (.iconst 1, 1) := by decide +kernel
theorem dX12_begins_69 : decode cX12_begins 69 = .ok (.iconst 0, 1) := by decide +kernel
theorem dX12_begins_70 : decode cX12_begins 70 = .ok (.bastore, 1) := by decide +kernel
theorem dX12_begins_71 : decode cX12_begins 71 = .ok (.return_, 1) := by decide +kernel
theorem dX12_init_0 : decode cX12_init 0 = .ok (.aload_n 0, 1) := by decide +kernel
theorem dX12_init_1 : decode cX12_init 1 = .ok (.invokespecial 1, 3) := by decide +kernel
theorem dX12_init_4 : decode cX12_init 4 = .ok (.aload_n 0, 1) := by decide +kernel
theorem dX12_init_5 : decode cX12_init 5 = .ok (.bipush 116, 2) := by decide +kernel
theorem dX12_init_7 : decode cX12_init 7 = .ok (.newarray .long, 2) := by decide +kernel
theorem dX12_init_9 : decode cX12_init 9 = .ok (.putfield 7, 3) := by decide +kernel
theorem dX12_init_12 : decode cX12_init 12 = .ok (.aload_n 0, 1) := by decide +kernel
theorem dX12_init_13 : decode cX12_init 13 = .ok (.bipush 14, 2) := by decide +kernel
theorem dX12_init_15 : decode cX12_init 15 = .ok (.newarray .int, 2) := by decide +kernel
theorem dX12_init_17 : decode cX12_init 17 = .ok (.putfield 13, 3) := by decide +kernel
theorem dX12_init_20 : decode cX12_init 20 = .ok (.aload_n 0, 1) := by decide +kernel
theorem dX12_init_21 : decode cX12_init 21 = .ok (.bipush 32, 2) := by decide +kernel
theorem dX12_init_23 : decode cX12_init 23 = .ok (.newarray .int, 2) := by decide +kernel
theorem dX12_init_25 : decode cX12_init 25 = .ok (.putfield 17, 3) := by decide +kernel
theorem dX12_init_28 : decode cX12_init 28 = .ok (.aload_n 0, 1) := by decide +kernel
theorem dX12_init_29 : decode cX12_init 29 = .ok (.bipush 36, 2) := by decide +kernel
theorem dX12_init_31 : decode cX12_init 31 = .ok (.newarray .int, 2) := by decide +kernel
theorem dX12_init_33 : decode cX12_init 33 = .ok (.putfield 20, 3) := by decide +kernel
theorem dX12_init_36 : decode cX12_init 36 = .ok (.aload_n 0, 1) := by decide +kernel
theorem dX12_init_37 : decode cX12_init 37 = .ok (.bipush 12, 2) := by decide +kernel
theorem dX12_init_39 : decode cX12_init 39 = .ok (.newarray .int, 2) := by decide +kernel
theorem dX12_init_41 : decode cX12_init 41 = .ok (.putfield 23, 3) := by decide +kernel
theorem dX12_init_44 : decode cX12_init 44 = .ok (.aload_n 0, 1) := by decide +kernel
theorem dX12_init_45 : decode cX12_init 45 = .ok (.bipush 96, 2) := by decide +kernel
theorem dX12_init_47 : decode cX12_init 47 = .ok (.newarray .int, 2) := by decide +kernel
theorem dX12_init_49 : decode cX12_init 49 = .ok (.putfield 26, 3) := by decide +kernel
theorem dX12_init_52 : decode cX12_init 52 = .ok (.aload_n 0, 1) := by decide +kernel
theorem dX12_init_53 : decode cX12_init 53 = .ok (.iconst 2, 1) := by decide +kernel
theorem dX12_init_54 : decode cX12_init 54 = .ok (.newarray .int, 2) := by decide +kernel
theorem dX12_init_56 : decode cX12_init 56 = .ok (.putfield 29, 3) := by decide +kernel
theorem dX12_init_59 : decode cX12_init 59 = .ok (.aload_n 0, 1) := by decide +kernel
theorem dX12_init_60 : decode cX12_init 60 = .ok (.sipush 1640, 3) := by decide +kernel
theorem dX12_init_63 : decode cX12_init 63 = .ok (.newarray .int, 2) := by decide +kernel
theorem dX12_init_65 : decode cX12_init 65 = .ok (.putfield 32, 3) := by decide +kernel
theorem dX12_init_68 : decode cX12_init 68 = .ok (.aload_n 0, 1) := by decide +kernel
theorem dX12_init_69 : decode cX12_init 69 = .ok (.sipush 800, 3) := by decide +kernel
theorem dX12_init_72 : decode cX12_init 72 = .ok (.newarray .byte, 2) := by decide +kernel
theorem dX12_init_74 : decode cX12_init 74 = .ok (.putfield 35, 3) := by decide +kernel
theorem dX12_init_77 : decode cX12_init 77 = .ok (.aload_n 0, 1) := by decide +kernel
theorem dX12_init_78 : decode cX12_init 78 = .ok (.iconst (-1), 1) := by decide +kernel
theorem dX12_init_79 : decode cX12_init 79 = .ok (.putfield 39, 3) := by decide +kernel
theorem dX12_init_82 : decode cX12_init 82 = .ok (.aload_n 0, 1) := by decide +kernel
theorem dX12_init_83 : decode cX12_init 83 = .ok (.bipush 40, 2) := by decide +kernel
theorem dX12_init_85 : decode cX12_init 85 = .ok (.newarray .int, 2) := by decide +kernel
theorem dX12_init_87 : decode cX12_init 87 = .ok (.putfield 43, 3) := by decide +kernel
theorem dX12_init_90 : decode cX12_init 90 = .ok (.aload_n 0, 1) := by decide +kernel
theorem dX12_init_91 : decode cX12_init 91 = .ok (.sipush 4096, 3) := by decide +kernel
theorem dX12_init_94 : decode cX12_init 94 = .ok (.newarray .int, 2) := by decide +kernel
theorem dX12_init_96 : decode cX12_init 96 = .ok (.putfield 46, 3) := by decide +kernel
theorem dX12_init_99 : decode cX12_init 99 = .ok (.aload_n 0, 1) := by decide +kernel
theorem dX12_init_100 : decode cX12_init 100 = .ok (.sipush 4096, 3) := by decide +kernel
theorem dX12_init_103 : decode cX12_init 103 = .ok (.newarray .int, 2) := by decide +kernel
theorem dX12_init_105 : decode cX12_init 105 = .ok (.putfield 49, 3) := by decide +kernel
theorem dX12_init_108 : decode cX12_init 108 = .ok (.aload_n 0, 1) := by decide +kernel
theorem dX12_init_109 : decode cX12_init 109 = .ok (.sipush 4096, 3) := by decide +kernel
theorem dX12_init_112 : decode cX12_init 112 = .ok (.newarray .int, 2) := by decide +kernel
theorem dX12_init_114 : decode cX12_init 114 = .ok (.putfield 52, 3) := by decide +kernel
theorem dX12_init_117 : decode cX12_init 117 = .ok (.aload_n 0, 1) := by decide +kernel
theorem dX12_init_118 : decode cX12_init 118 = .ok (.sipush 4096, 3) := by decide +kernel
theorem dX12_init_121 : decode cX12_init 121 = .ok (.newarray .int, 2) := by decide +kernel
theorem dX12_init_123 : decode cX12_init 123 = .ok (.putfield 55, 3) := by decide +kernel
theorem dX12_init_126 : decode cX12_init 126 = .ok (.aload_n 0, 1) := by decide +kernel
theorem dX12_init_127 : decode cX12_init 127 = .ok (.bipush 12, 2) := by decide +kernel
theorem dX12_init_129 : decode cX12_init 129 = .ok (.newarray .int, 2) := by decide +kernel
theorem dX12_init_131 : decode cX12_init 131 = .ok (.putfield 58, 3) := by decide +kernel
theorem dX12_init_134 : decode cX12_init 134 = .ok (.aload_n 0, 1) := by decide +kernel
theorem dX12_init_135 : decode cX12_init 135 = .ok (.bipush 116, 2) := by decide +kernel
theorem dX12_init_137 : decode cX12_init 137 = .ok (.newarray .long, 2) := by decide +kernel
theorem dX12_init_139 : decode cX12_init 139 = .ok (.putfield 61, 3) := by decide +kernel
theorem dX12_init_142 : decode cX12_init 142 = .ok (.aload_n 0, 1) := by decide +kernel
theorem dX12_init_143 : decode cX12_init 143 = .ok (.sipush 1160, 3) := by decide +kernel
theorem dX12_init_146 : decode cX12_init 146 = .ok (.newarray .long, 2) := by decide +kernel
theorem dX12_init_148 : decode cX12_init 148 = .ok (.putfield 64, 3) := by decide +kernel
theorem dX12_init_151 : decode cX12_init 151 = .ok (.aload_n 0, 1) := by decide +kernel
theorem dX12_init_152 : decode cX12_init 152 = .ok (.sipush 232, 3) := by decide +kernel
theorem dX12_init_155 : decode cX12_init 155 = .ok (.newarray .long, 2) := by decide +kernel
theorem dX12_init_157 : decode cX12_init 157 = .ok (.putfield 67, 3) := by decide +kernel
theorem dX12_init_160 : decode cX12_init 160 = .ok (.aload_n 0, 1) := by decide +kernel
theorem dX12_init_161 : decode cX12_init 161 = .ok (.iconst 2, 1) := by decide +kernel
theorem dX12_init_162 : decode cX12_init 162 = .ok (.newarray .boolean, 2) := by decide +kernel
theorem dX12_init_164 : decode cX12_init 164 = .ok (.putfield 70, 3) := by decide +kernel
theorem dX12_init_167 : decode cX12_init 167 = .ok (.aload_n 0, 1) := by decide +kernel
theorem dX12_init_168 : decode cX12_init 168 = .ok (.invokevirtual 74, 3) := by decide +kernel
theorem dX12_init_171 : decode cX12_init 171 = .ok (.aload_n 0, 1) := by decide +kernel
theorem dX12_init_172 : decode cX12_init 172 = .ok (.invokevirtual 77, 3) := by decide +kernel
theorem dX12_init_175 : decode cX12_init 175 = .ok (.aload_n 0, 1) := by decide +kernel
theorem dX12_init_176 : decode cX12_init 176 = .ok (.invokevirtual 80, 3) := by decide +kernel
theorem dX12_init_179 : decode cX12_init 179 = .ok (.return_, 1) := by decide +kernel
theorem dX12_thrown_0 : decode cX12_thrown 0 = .ok (.aload_n 0, 1) := by decide +kernel
theorem dX12_thrown_1 : decode cX12_thrown 1 = .ok (.getfield 83, 3) := by decide +kernel
theorem dX12_thrown_4 : decode cX12_thrown 4 = .ok (.ireturn, 1) := by decide +kernel
theorem dX12_within_0 : decode cX12_within 0 = .ok (.lload_n 0, 1) := by decide +kernel
theorem dX12_within_1 : decode cX12_within 1 = .ok (.lload_n 2, 1) := by decide +kernel
theorem dX12_within_2 : decode cX12_within 2 = .ok (.lcmp, 1) := by decide +kernel
theorem dX12_within_3 : decode cX12_within 3 = .ok (.ifCond .lt 14, 3) := by decide +kernel
theorem dX12_within_6 : decode cX12_within 6 = .ok (.lload_n 0, 1) := by decide +kernel
theorem dX12_within_7 : decode cX12_within 7 = .ok (.lload 4, 2) := by decide +kernel
theorem dX12_within_9 : decode cX12_within 9 = .ok (.lcmp, 1) := by decide +kernel
theorem dX12_within_10 : decode cX12_within 10 = .ok (.ifCond .gt 7, 3) := by decide +kernel
theorem dX12_within_13 : decode cX12_within 13 = .ok (.iconst 1, 1) := by decide +kernel
theorem dX12_within_14 : decode cX12_within 14 = .ok (.goto 4, 3) := by decide +kernel
theorem dX12_within_17 : decode cX12_within 17 = .ok (.iconst 0, 1) := by decide +kernel
theorem dX12_within_18 : decode cX12_within 18 = .ok (.ireturn, 1) := by decide +kernel
theorem dX12_has_0 : decode cX12_has 0 = .ok (.iload_n 0, 1) := by decide +kernel
theorem dX12_has_1 : decode cX12_has 1 = .ok (.iload_n 1, 1) := by decide +kernel
theorem dX12_has_2 : decode cX12_has 2 = .ok (.ishr, 1) := by decide +kernel
theorem dX12_has_3 : decode cX12_has 3 = .ok (.iconst 1, 1) := by decide +kernel
theorem dX12_has_4 : decode cX12_has 4 = .ok (.iand, 1) := by decide +kernel
theorem dX12_has_5 : decode cX12_has 5 = .ok (.iconst 1, 1) := by decide +kernel
theorem dX12_has_6 : decode cX12_has 6 = .ok (.if_icmp .ne 7, 3) := by decide +kernel
theorem dX12_has_9 : decode cX12_has 9 = .ok (.iconst 1, 1) := by decide +kernel
theorem dX12_has_10 : decode cX12_has 10 = .ok (.goto 4, 3) := by decide +kernel
theorem dX12_has_13 : decode cX12_has 13 = .ok (.iconst 0, 1) := by decide +kernel
theorem dX12_has_14 : decode cX12_has 14 = .ok (.ireturn, 1) := by decide +kernel
theorem dX12_bits_0 : decode cX12_bits 0 = .ok (.iconst 0, 1) := by decide +kernel
theorem dX12_bits_1 : decode cX12_bits 1 = .ok (.istore_n 1, 1) := by decide +kernel
theorem dX12_bits_2 : decode cX12_bits 2 = .ok (.iload_n 0, 1) := by decide +kernel
theorem dX12_bits_3 : decode cX12_bits 3 = .ok (.istore_n 2, 1) := by decide +kernel
theorem dX12_bits_4 : decode cX12_bits 4 = .ok (.iload_n 2, 1) := by decide +kernel
theorem dX12_bits_5 : decode cX12_bits 5 = .ok (.ifCond .eq 15, 3) := by decide +kernel
theorem dX12_bits_8 : decode cX12_bits 8 = .ok (.iinc 1 1, 3) := by decide +kernel
theorem dX12_bits_11 : decode cX12_bits 11 = .ok (.iload_n 2, 1) := by decide +kernel
theorem dX12_bits_12 : decode cX12_bits 12 = .ok (.iload_n 2, 1) := by decide +kernel
theorem dX12_bits_13 : decode cX12_bits 13 = .ok (.iconst 1, 1) := by decide +kernel
theorem dX12_bits_14 : decode cX12_bits 14 = .ok (.isub, 1) := by decide +kernel
theorem dX12_bits_15 : decode cX12_bits 15 = .ok (.iand, 1) := by decide +kernel
theorem dX12_bits_16 : decode cX12_bits 16 = .ok (.istore_n 2, 1) := by decide +kernel
theorem dX12_bits_17 : decode cX12_bits 17 = .ok (.goto (-13), 3) := by decide +kernel
theorem dX12_bits_20 : decode cX12_bits 20 = .ok (.iload_n 1, 1) := by decide +kernel
theorem dX12_bits_21 : decode cX12_bits 21 = .ok (.ireturn, 1) := by decide +kernel
theorem dX12_throwsIf_0 : decode cX12_throwsIf 0 = .ok (.aload_n 0, 1) := by decide +kernel
theorem dX12_throwsIf_1 : decode cX12_throwsIf 1 = .ok (.getfield 83, 3) := by decide +kernel
theorem dX12_throwsIf_4 : decode cX12_throwsIf 4 = .ok (.ifCond .ne 12, 3) := by decide +kernel
theorem dX12_throwsIf_7 : decode cX12_throwsIf 7 = .ok (.iload_n 1, 1) := by decide +kernel
theorem dX12_throwsIf_8 : decode cX12_throwsIf 8 = .ok (.ifCond .eq 8, 3) := by decide +kernel
theorem dX12_throwsIf_11 : decode cX12_throwsIf 11 = .ok (.aload_n 0, 1) := by decide +kernel
theorem dX12_throwsIf_12 : decode cX12_throwsIf 12 = .ok (.iload_n 2, 1) := by decide +kernel
theorem dX12_throwsIf_13 : decode cX12_throwsIf 13 = .ok (.putfield 83, 3) := by decide +kernel
theorem dX12_throwsIf_16 : decode cX12_throwsIf 16 = .ok (.aload_n 0, 1) := by decide +kernel
theorem dX12_throwsIf_17 : decode cX12_throwsIf 17 = .ok (.getfield 83, 3) := by decide +kernel
theorem dX12_throwsIf_20 : decode cX12_throwsIf 20 = .ok (.ifCond .le 7, 3) := by decide +kernel
theorem dX12_throwsIf_23 : decode cX12_throwsIf 23 = .ok (.iconst 1, 1) := by decide +kernel
theorem dX12_throwsIf_24 : decode cX12_throwsIf 24 = .ok (.goto 4, 3) := by decide +kernel
theorem dX12_throwsIf_27 : decode cX12_throwsIf 27 = .ok (.iconst 0, 1) := by decide +kernel
theorem dX12_throwsIf_28 : decode cX12_throwsIf 28 = .ok (.ireturn, 1) := by decide +kernel
theorem dX12_bytesOf_0 : decode cX12_bytesOf 0 = .ok (.bipush 24, 2) := by decide +kernel
theorem dX12_bytesOf_2 : decode cX12_bytesOf 2 = .ok (.istore_n 2, 1) := by decide +kernel
theorem dX12_bytesOf_3 : decode cX12_bytesOf 3 = .ok (.iload_n 2, 1) := by decide +kernel
theorem dX12_bytesOf_4 : decode cX12_bytesOf 4 = .ok (.ifCond .lt 32, 3) := by decide +kernel
theorem dX12_bytesOf_7 : decode cX12_bytesOf 7 = .ok (.aload_n 0, 1) := by decide +kernel
theorem dX12_bytesOf_8 : decode cX12_bytesOf 8 = .ok (.getfield 35, 3) := by decide +kernel
theorem dX12_bytesOf_11 : decode cX12_bytesOf 11 = .ok (.aload_n 0, 1) := by decide +kernel
theorem dX12_bytesOf_12 : decode cX12_bytesOf 12 = .ok (.getfield 94, 3) := by decide +kernel
theorem dX12_bytesOf_15 : decode cX12_bytesOf 15 = .ok (.iload_n 1, 1) := by decide +kernel
theorem dX12_bytesOf_16 : decode cX12_bytesOf 16 = .ok (.iload_n 2, 1) := by decide +kernel
theorem dX12_bytesOf_17 : decode cX12_bytesOf 17 = .ok (.ishr, 1) := by decide +kernel
theorem dX12_bytesOf_18 : decode cX12_bytesOf 18 = .ok (.i2b, 1) := by decide +kernel
theorem dX12_bytesOf_19 : decode cX12_bytesOf 19 = .ok (.bastore, 1) := by decide +kernel
theorem dX12_bytesOf_20 : decode cX12_bytesOf 20 = .ok (.aload_n 0, 1) := by decide +kernel
theorem dX12_bytesOf_21 : decode cX12_bytesOf 21 = .ok (.dup, 1) := by decide +kernel
theorem dX12_bytesOf_22 : decode cX12_bytesOf 22 = .ok (.getfield 94, 3) := by decide +kernel
theorem dX12_bytesOf_25 : decode cX12_bytesOf 25 = .ok (.iconst 1, 1) := by decide +kernel
theorem dX12_bytesOf_26 : decode cX12_bytesOf 26 = .ok (.iadd, 1) := by decide +kernel
theorem dX12_bytesOf_27 : decode cX12_bytesOf 27 = .ok (.putfield 94, 3) := by decide +kernel
theorem dX12_bytesOf_30 : decode cX12_bytesOf 30 = .ok (.iinc 2 (-8), 3) := by decide +kernel
theorem dX12_bytesOf_33 : decode cX12_bytesOf 33 = .ok (.goto (-30), 3) := by decide +kernel
theorem dX12_bytesOf_36 : decode cX12_bytesOf 36 = .ok (.return_, 1) := by decide +kernel
theorem dX12_append_0 : decode cX12_append 0 = .ok (.aload_n 0, 1) := by decide +kernel
theorem dX12_append_1 : decode cX12_append 1 = .ok (.iconst 0, 1) := by decide +kernel
theorem dX12_append_2 : decode cX12_append 2 = .ok (.putfield 83, 3) := by decide +kernel
theorem dX12_append_5 : decode cX12_append 5 = .ok (.aload_n 0, 1) := by decide +kernel
theorem dX12_append_6 : decode cX12_append 6 = .ok (.getfield 94, 3) := by decide +kernel
theorem dX12_append_9 : decode cX12_append 9 = .ok (.bipush 20, 2) := by decide +kernel
theorem dX12_append_11 : decode cX12_append 11 = .ok (.iadd, 1) := by decide +kernel
theorem dX12_append_12 : decode cX12_append 12 = .ok (.sipush 800, 3) := by decide +kernel
theorem dX12_append_15 : decode cX12_append 15 = .ok (.if_icmp .le 5, 3) := by decide +kernel
theorem dX12_append_18 : decode cX12_append 18 = .ok (.iconst (-1), 1) := by decide +kernel
theorem dX12_append_19 : decode cX12_append 19 = .ok (.ireturn, 1) := by decide +kernel
theorem dX12_append_20 : decode cX12_append 20 = .ok (.aload_n 0, 1) := by decide +kernel
theorem dX12_append_21 : decode cX12_append 21 = .ok (.iload_n 1, 1) := by decide +kernel
theorem dX12_append_22 : decode cX12_append 22 = .ok (.invokevirtual 97, 3) := by decide +kernel
theorem dX12_append_25 : decode cX12_append 25 = .ok (.aload_n 0, 1) := by decide +kernel
theorem dX12_append_26 : decode cX12_append 26 = .ok (.iload_n 2, 1) := by decide +kernel
theorem dX12_append_27 : decode cX12_append 27 = .ok (.invokevirtual 97, 3) := by decide +kernel
theorem dX12_append_30 : decode cX12_append 30 = .ok (.aload_n 0, 1) := by decide +kernel
theorem dX12_append_31 : decode cX12_append 31 = .ok (.iload_n 3, 1) := by decide +kernel
theorem dX12_append_32 : decode cX12_append 32 = .ok (.invokevirtual 97, 3) := by decide +kernel
theorem dX12_append_35 : decode cX12_append 35 = .ok (.aload_n 0, 1) := by decide +kernel
theorem dX12_append_36 : decode cX12_append 36 = .ok (.iload 4, 2) := by decide +kernel
theorem dX12_append_38 : decode cX12_append 38 = .ok (.invokevirtual 97, 3) := by decide +kernel
theorem dX12_append_41 : decode cX12_append 41 = .ok (.aload_n 0, 1) := by decide +kernel
theorem dX12_append_42 : decode cX12_append 42 = .ok (.iload 5, 2) := by decide +kernel
theorem dX12_append_44 : decode cX12_append 44 = .ok (.invokevirtual 97, 3) := by decide +kernel
theorem dX12_append_47 : decode cX12_append 47 = .ok (.aload_n 0, 1) := by decide +kernel
theorem dX12_append_48 : decode cX12_append 48 = .ok (.getfield 94, 3) := by decide +kernel
theorem dX12_append_51 : decode cX12_append 51 = .ok (.ireturn, 1) := by decide +kernel
theorem dX12_byteAt_0 : decode cX12_byteAt 0 = .ok (.iload_n 1, 1) := by decide +kernel
theorem dX12_byteAt_1 : decode cX12_byteAt 1 = .ok (.aload_n 0, 1) := by decide +kernel
theorem dX12_byteAt_2 : decode cX12_byteAt 2 = .ok (.getfield 101, 3) := by decide +kernel
theorem dX12_byteAt_5 : decode cX12_byteAt 5 = .ok (.if_icmp .ge 16, 3) := by decide +kernel
theorem dX12_byteAt_8 : decode cX12_byteAt 8 = .ok (.aload_n 0, 1) := by decide +kernel
theorem dX12_byteAt_9 : decode cX12_byteAt 9 = .ok (.getfield 35, 3) := by decide +kernel
theorem dX12_byteAt_12 : decode cX12_byteAt 12 = .ok (.iload_n 1, 1) := by decide +kernel
theorem dX12_byteAt_13 : decode cX12_byteAt 13 = .ok (.baload, 1) := by decide +kernel
theorem dX12_byteAt_14 : decode cX12_byteAt 14 = .ok (.sipush 255, 3) := by decide +kernel
theorem dX12_byteAt_17 : decode cX12_byteAt 17 = .ok (.iand, 1) := by decide +kernel
theorem dX12_byteAt_18 : decode cX12_byteAt 18 = .ok (.goto 4, 3) := by decide +kernel
theorem dX12_byteAt_21 : decode cX12_byteAt 21 = .ok (.iconst (-1), 1) := by decide +kernel
theorem dX12_byteAt_22 : decode cX12_byteAt 22 = .ok (.ireturn, 1) := by decide +kernel
theorem dX12_isSign_0 : decode cX12_isSign 0 = .ok (.iload_n 0, 1) := by decide +kernel
theorem dX12_isSign_1 : decode cX12_isSign 1 = .ok (.bipush 59, 2) := by decide +kernel
theorem dX12_isSign_3 : decode cX12_isSign 3 = .ok (.if_icmp .eq 39, 3) := by decide +kernel
theorem dX12_isSign_6 : decode cX12_isSign 6 = .ok (.iload_n 0, 1) := by decide +kernel
theorem dX12_isSign_7 : decode cX12_isSign 7 = .ok (.bipush 40, 2) := by decide +kernel
theorem dX12_isSign_9 : decode cX12_isSign 9 = .ok (.if_icmp .eq 33, 3) := by decide +kernel
theorem dX12_isSign_12 : decode cX12_isSign 12 = .ok (.iload_n 0, 1) := by decide +kernel
theorem dX12_isSign_13 : decode cX12_isSign 13 = .ok (.bipush 41, 2) := by decide +kernel
theorem dX12_isSign_15 : decode cX12_isSign 15 = .ok (.if_icmp .eq 27, 3) := by decide +kernel
theorem dX12_isSign_18 : decode cX12_isSign 18 = .ok (.iload_n 0, 1) := by decide +kernel
theorem dX12_isSign_19 : decode cX12_isSign 19 = .ok (.bipush 43, 2) := by decide +kernel
theorem dX12_isSign_21 : decode cX12_isSign 21 = .ok (.if_icmp .eq 21, 3) := by decide +kernel
theorem dX12_isSign_24 : decode cX12_isSign 24 = .ok (.iload_n 0, 1) := by decide +kernel
theorem dX12_isSign_25 : decode cX12_isSign 25 = .ok (.bipush 45, 2) := by decide +kernel
theorem dX12_isSign_27 : decode cX12_isSign 27 = .ok (.if_icmp .eq 15, 3) := by decide +kernel
theorem dX12_isSign_30 : decode cX12_isSign 30 = .ok (.iload_n 0, 1) := by decide +kernel
theorem dX12_isSign_31 : decode cX12_isSign 31 = .ok (.bipush 42, 2) := by decide +kernel
theorem dX12_isSign_33 : decode cX12_isSign 33 = .ok (.if_icmp .eq 9, 3) := by decide +kernel
theorem dX12_isSign_36 : decode cX12_isSign 36 = .ok (.iload_n 0, 1) := by decide +kernel
theorem dX12_isSign_37 : decode cX12_isSign 37 = .ok (.bipush 47, 2) := by decide +kernel
theorem dX12_isSign_39 : decode cX12_isSign 39 = .ok (.if_icmp .ne 7, 3) := by decide +kernel
theorem dX12_isSign_42 : decode cX12_isSign 42 = .ok (.iconst 1, 1) := by decide +kernel
theorem dX12_isSign_43 : decode cX12_isSign 43 = .ok (.goto 4, 3) := by decide +kernel
theorem dX12_isSign_46 : decode cX12_isSign 46 = .ok (.iconst 0, 1) := by decide +kernel
theorem dX12_isSign_47 : decode cX12_isSign 47 = .ok (.ireturn, 1) := by decide +kernel
theorem dX12_advance_0 : decode cX12_advance 0 = .ok (.aload_n 0, 1) := by decide +kernel
theorem dX12_advance_1 : decode cX12_advance 1 = .ok (.aload_n 0, 1) := by decide +kernel
theorem dX12_advance_2 : decode cX12_advance 2 = .ok (.getfield 104, 3) := by decide +kernel
theorem dX12_advance_5 : decode cX12_advance 5 = .ok (.invokevirtual 107, 3) := by decide +kernel
theorem dX12_advance_8 : decode cX12_advance 8 = .ok (.bipush 32, 2) := by decide +kernel
theorem dX12_advance_10 : decode cX12_advance 10 = .ok (.if_icmp .eq 16, 3) := by decide +kernel
theorem dX12_advance_13 : decode cX12_advance 13 = .ok (.aload_n 0, 1) := by decide +kernel
theorem dX12_advance_14 : decode cX12_advance 14 = .ok (.aload_n 0, 1) := by decide +kernel
theorem dX12_advance_15 : decode cX12_advance 15 = .ok (.getfield 104, 3) := by decide +kernel
theorem dX12_advance_18 : decode cX12_advance 18 = .ok (.invokevirtual 107, 3) := by decide +kernel
theorem dX12_advance_21 : decode cX12_advance 21 = .ok (.bipush 10, 2) := by decide +kernel
theorem dX12_advance_23 : decode cX12_advance 23 = .ok (.if_icmp .ne 16, 3) := by decide +kernel
theorem dX12_advance_26 : decode cX12_advance 26 = .ok (.aload_n 0, 1) := by decide +kernel
theorem dX12_advance_27 : decode cX12_advance 27 = .ok (.dup, 1) := by decide +kernel
theorem dX12_advance_28 : decode cX12_advance 28 = .ok (.getfield 104, 3) := by decide +kernel
theorem dX12_advance_31 : decode cX12_advance 31 = .ok (.iconst 1, 1) := by decide +kernel
theorem dX12_advance_32 : decode cX12_advance 32 = .ok (.iadd, 1) := by decide +kernel
theorem dX12_advance_33 : decode cX12_advance 33 = .ok (.putfield 104, 3) := by decide +kernel
theorem dX12_advance_36 : decode cX12_advance 36 = .ok (.goto (-36), 3) := by decide +kernel
theorem dX12_advance_39 : decode cX12_advance 39 = .ok (.aload_n 0, 1) := by decide +kernel
theorem dX12_advance_40 : decode cX12_advance 40 = .ok (.aload_n 0, 1) := by decide +kernel
theorem dX12_advance_41 : decode cX12_advance 41 = .ok (.getfield 104, 3) := by decide +kernel
theorem dX12_advance_44 : decode cX12_advance 44 = .ok (.putfield 111, 3) := by decide +kernel
theorem dX12_advance_47 : decode cX12_advance 47 = .ok (.aload_n 0, 1) := by decide +kernel
theorem dX12_advance_48 : decode cX12_advance 48 = .ok (.iconst 0, 1) := by decide +kernel
theorem dX12_advance_49 : decode cX12_advance 49 = .ok (.putfield 114, 3) := by decide +kernel
theorem dX12_advance_52 : decode cX12_advance 52 = .ok (.aload_n 0, 1) := by decide +kernel
theorem dX12_advance_53 : decode cX12_advance 53 = .ok (.aload_n 0, 1) := by decide +kernel
theorem dX12_advance_54 : decode cX12_advance 54 = .ok (.getfield 104, 3) := by decide +kernel
theorem dX12_advance_57 : decode cX12_advance 57 = .ok (.invokevirtual 107, 3) := by decide +kernel
theorem dX12_advance_60 : decode cX12_advance 60 = .ok (.istore_n 1, 1) := by decide +kernel
theorem dX12_advance_61 : decode cX12_advance 61 = .ok (.iload_n 1, 1) := by decide +kernel
theorem dX12_advance_62 : decode cX12_advance 62 = .ok (.iconst (-1), 1) := by decide +kernel
theorem dX12_advance_63 : decode cX12_advance 63 = .ok (.if_icmp .ne 11, 3) := by decide +kernel
theorem dX12_advance_66 : decode cX12_advance 66 = .ok (.aload_n 0, 1) := by decide +kernel
theorem dX12_advance_67 : decode cX12_advance 67 = .ok (.iconst 0, 1) := by decide +kernel
theorem dX12_advance_68 : decode cX12_advance 68 = .ok (.putfield 117, 3) := by decide +kernel
theorem dX12_advance_71 : decode cX12_advance 71 = .ok (.goto 224, 3) := by decide +kernel
theorem dX12_advance_74 : decode cX12_advance 74 = .ok (.iload_n 1, 1) := by decide +kernel
theorem dX12_advance_75 : decode cX12_advance 75 = .ok (.i2l, 1) := by decide +kernel
theorem dX12_advance_76 : decode cX12_advance 76 = .ok (.ldc2_w 120, 3) := by decide +kernel
theorem dX12_advance_79 : decode cX12_advance 79 = .ok (.ldc2_w 122, 3) := by decide +kernel
theorem dX12_advance_82 : decode cX12_advance 82 = .ok (.invokestatic 124, 3) := by decide +kernel
theorem dX12_advance_85 : decode cX12_advance 85 = .ok (.ifCond .eq 63, 3) := by decide +kernel
theorem dX12_advance_88 : decode cX12_advance 88 = .ok (.aload_n 0, 1) := by decide +kernel
theorem dX12_advance_89 : decode cX12_advance 89 = .ok (.aload_n 0, 1) := by decide +kernel
theorem dX12_advance_90 : decode cX12_advance 90 = .ok (.getfield 104, 3) := by decide +kernel
theorem dX12_advance_93 : decode cX12_advance 93 = .ok (.invokevirtual 107, 3) := by decide +kernel
theorem dX12_advance_96 : decode cX12_advance 96 = .ok (.i2l, 1) := by decide +kernel
theorem dX12_advance_97 : decode cX12_advance 97 = .ok (.ldc2_w 120, 3) := by decide +kernel
theorem dX12_advance_100 : decode cX12_advance 100 = .ok (.ldc2_w 122, 3) := by decide +kernel
theorem dX12_advance_103 : decode cX12_advance 103 = .ok (.invokestatic 124, 3) := by decide +kernel
theorem dX12_advance_106 : decode cX12_advance 106 = .ok (.ifCond .eq 16, 3) := by decide +kernel
theorem dX12_advance_109 : decode cX12_advance 109 = .ok (.aload_n 0, 1) := by decide +kernel
theorem dX12_advance_110 : decode cX12_advance 110 = .ok (.dup, 1) := by decide +kernel
theorem dX12_advance_111 : decode cX12_advance 111 = .ok (.getfield 104, 3) := by decide +kernel
theorem dX12_advance_114 : decode cX12_advance 114 = .ok (.iconst 1, 1) := by decide +kernel
theorem dX12_advance_115 : decode cX12_advance 115 = .ok (.iadd, 1) := by decide +kernel
theorem dX12_advance_116 : decode cX12_advance 116 = .ok (.putfield 104, 3) := by decide +kernel
theorem dX12_advance_119 : decode cX12_advance 119 = .ok (.goto (-31), 3) := by decide +kernel
theorem dX12_advance_122 : decode cX12_advance 122 = .ok (.aload_n 0, 1) := by decide +kernel
theorem dX12_advance_123 : decode cX12_advance 123 = .ok (.aload_n 0, 1) := by decide +kernel
theorem dX12_advance_124 : decode cX12_advance 124 = .ok (.getfield 104, 3) := by decide +kernel
theorem dX12_advance_127 : decode cX12_advance 127 = .ok (.aload_n 0, 1) := by decide +kernel
theorem dX12_advance_128 : decode cX12_advance 128 = .ok (.getfield 111, 3) := by decide +kernel
theorem dX12_advance_131 : decode cX12_advance 131 = .ok (.isub, 1) := by decide +kernel
theorem dX12_advance_132 : decode cX12_advance 132 = .ok (.bipush 8, 2) := by decide +kernel
theorem dX12_advance_134 : decode cX12_advance 134 = .ok (.if_icmp .le 7, 3) := by decide +kernel
theorem dX12_advance_137 : decode cX12_advance 137 = .ok (.iconst 4, 1) := by decide +kernel
theorem dX12_advance_138 : decode cX12_advance 138 = .ok (.goto 4, 3) := by decide +kernel
theorem dX12_advance_141 : decode cX12_advance 141 = .ok (.iconst 1, 1) := by decide +kernel
theorem dX12_advance_142 : decode cX12_advance 142 = .ok (.putfield 117, 3) := by decide +kernel
theorem dX12_advance_145 : decode cX12_advance 145 = .ok (.goto 150, 3) := by decide +kernel
theorem dX12_advance_148 : decode cX12_advance 148 = .ok (.iload_n 1, 1) := by decide +kernel
theorem dX12_advance_149 : decode cX12_advance 149 = .ok (.i2l, 1) := by decide +kernel
theorem dX12_advance_150 : decode cX12_advance 150 = .ok (.ldc2_w 128, 3) := by decide +kernel
theorem dX12_advance_153 : decode cX12_advance 153 = .ok (.ldc2_w 130, 3) := by decide +kernel
theorem dX12_advance_156 : decode cX12_advance 156 = .ok (.invokestatic 124, 3) := by decide +kernel
theorem dX12_advance_159 : decode cX12_advance 159 = .ok (.ifCond .eq 105, 3) := by decide +kernel
theorem dX12_advance_162 : decode cX12_advance 162 = .ok (.aload_n 0, 1) := by decide +kernel
theorem dX12_advance_163 : decode cX12_advance 163 = .ok (.aload_n 0, 1) := by decide +kernel
theorem dX12_advance_164 : decode cX12_advance 164 = .ok (.getfield 104, 3) := by decide +kernel
theorem dX12_advance_167 : decode cX12_advance 167 = .ok (.invokevirtual 107, 3) := by decide +kernel
theorem dX12_advance_170 : decode cX12_advance 170 = .ok (.i2l, 1) := by decide +kernel
theorem dX12_advance_171 : decode cX12_advance 171 = .ok (.ldc2_w 128, 3) := by decide +kernel
theorem dX12_advance_174 : decode cX12_advance 174 = .ok (.ldc2_w 130, 3) := by decide +kernel
theorem dX12_advance_177 : decode cX12_advance 177 = .ok (.invokestatic 124, 3) := by decide +kernel
theorem dX12_advance_180 : decode cX12_advance 180 = .ok (.ifCond .eq 59, 3) := by decide +kernel
theorem dX12_advance_183 : decode cX12_advance 183 = .ok (.aload_n 0, 1) := by decide +kernel
theorem dX12_advance_184 : decode cX12_advance 184 = .ok (.aload_n 0, 1) := by decide +kernel
theorem dX12_advance_185 : decode cX12_advance 185 = .ok (.getfield 104, 3) := by decide +kernel
theorem dX12_advance_188 : decode cX12_advance 188 = .ok (.aload_n 0, 1) := by decide +kernel
theorem dX12_advance_189 : decode cX12_advance 189 = .ok (.getfield 111, 3) := by decide +kernel
theorem dX12_advance_192 : decode cX12_advance 192 = .ok (.isub, 1) := by decide +kernel
theorem dX12_advance_193 : decode cX12_advance 193 = .ok (.iconst 4, 1) := by decide +kernel
theorem dX12_advance_194 : decode cX12_advance 194 = .ok (.if_icmp .ge 25, 3) := by decide +kernel
theorem dX12_advance_197 : decode cX12_advance 197 = .ok (.bipush 10, 2) := by decide +kernel
theorem dX12_advance_199 : decode cX12_advance 199 = .ok (.aload_n 0, 1) := by decide +kernel
theorem dX12_advance_200 : decode cX12_advance 200 = .ok (.getfield 114, 3) := by decide +kernel
theorem dX12_advance_203 : decode cX12_advance 203 = .ok (.imul, 1) := by decide +kernel
theorem dX12_advance_204 : decode cX12_advance 204 = .ok (.aload_n 0, 1) := by decide +kernel
theorem dX12_advance_205 : decode cX12_advance 205 = .ok (.aload_n 0, 1) := by decide +kernel
theorem dX12_advance_206 : decode cX12_advance 206 = .ok (.getfield 104, 3) := by decide +kernel
theorem dX12_advance_209 : decode cX12_advance 209 = .ok (.invokevirtual 107, 3) := by decide +kernel
theorem dX12_advance_212 : decode cX12_advance 212 = .ok (.iadd, 1) := by decide +kernel
theorem dX12_advance_213 : decode cX12_advance 213 = .ok (.bipush 48, 2) := by decide +kernel
theorem dX12_advance_215 : decode cX12_advance 215 = .ok (.isub, 1) := by decide +kernel
theorem dX12_advance_216 : decode cX12_advance 216 = .ok (.goto 7, 3) := by decide +kernel
theorem dX12_advance_219 : decode cX12_advance 219 = .ok (.aload_n 0, 1) := by decide +kernel
theorem dX12_advance_220 : decode cX12_advance 220 = .ok (.getfield 114, 3) := by decide +kernel
theorem dX12_advance_223 : decode cX12_advance 223 = .ok (.putfield 114, 3) := by decide +kernel
theorem dX12_advance_226 : decode cX12_advance 226 = .ok (.aload_n 0, 1) := by decide +kernel
theorem dX12_advance_227 : decode cX12_advance 227 = .ok (.dup, 1) := by decide +kernel
theorem dX12_advance_228 : decode cX12_advance 228 = .ok (.getfield 104, 3) := by decide +kernel
theorem dX12_advance_231 : decode cX12_advance 231 = .ok (.iconst 1, 1) := by decide +kernel
theorem dX12_advance_232 : decode cX12_advance 232 = .ok (.iadd, 1) := by decide +kernel
theorem dX12_advance_233 : decode cX12_advance 233 = .ok (.putfield 104, 3) := by decide +kernel
theorem dX12_advance_236 : decode cX12_advance 236 = .ok (.goto (-74), 3) := by decide +kernel
theorem dX12_advance_239 : decode cX12_advance 239 = .ok (.aload_n 0, 1) := by decide +kernel
theorem dX12_advance_240 : decode cX12_advance 240 = .ok (.aload_n 0, 1) := by decide +kernel
theorem dX12_advance_241 : decode cX12_advance 241 = .ok (.getfield 104, 3) := by decide +kernel
theorem dX12_advance_244 : decode cX12_advance 244 = .ok (.aload_n 0, 1) := by decide +kernel
theorem dX12_advance_245 : decode cX12_advance 245 = .ok (.getfield 111, 3) := by decide +kernel
theorem dX12_advance_248 : decode cX12_advance 248 = .ok (.isub, 1) := by decide +kernel
theorem dX12_advance_249 : decode cX12_advance 249 = .ok (.iconst 4, 1) := by decide +kernel
theorem dX12_advance_250 : decode cX12_advance 250 = .ok (.if_icmp .le 7, 3) := by decide +kernel
theorem dX12_advance_253 : decode cX12_advance 253 = .ok (.iconst 4, 1) := by decide +kernel
theorem dX12_advance_254 : decode cX12_advance 254 = .ok (.goto 4, 3) := by decide +kernel
theorem dX12_advance_257 : decode cX12_advance 257 = .ok (.iconst 2, 1) := by decide +kernel
theorem dX12_advance_258 : decode cX12_advance 258 = .ok (.putfield 117, 3) := by decide +kernel
theorem dX12_advance_261 : decode cX12_advance 261 = .ok (.goto 34, 3) := by decide +kernel
theorem dX12_advance_264 : decode cX12_advance 264 = .ok (.aload_n 0, 1) := by decide +kernel
theorem dX12_advance_265 : decode cX12_advance 265 = .ok (.dup, 1) := by decide +kernel
theorem dX12_advance_266 : decode cX12_advance 266 = .ok (.getfield 104, 3) := by decide +kernel
theorem dX12_advance_269 : decode cX12_advance 269 = .ok (.iconst 1, 1) := by decide +kernel
theorem dX12_advance_270 : decode cX12_advance 270 = .ok (.iadd, 1) := by decide +kernel
theorem dX12_advance_271 : decode cX12_advance 271 = .ok (.putfield 104, 3) := by decide +kernel
theorem dX12_advance_274 : decode cX12_advance 274 = .ok (.aload_n 0, 1) := by decide +kernel
theorem dX12_advance_275 : decode cX12_advance 275 = .ok (.iload_n 1, 1) := by decide +kernel
theorem dX12_advance_276 : decode cX12_advance 276 = .ok (.putfield 114, 3) := by decide +kernel
theorem dX12_advance_279 : decode cX12_advance 279 = .ok (.aload_n 0, 1) := by decide +kernel
theorem dX12_advance_280 : decode cX12_advance 280 = .ok (.iload_n 1, 1) := by decide +kernel
theorem dX12_advance_281 : decode cX12_advance 281 = .ok (.invokestatic 132, 3) := by decide +kernel
theorem dX12_advance_284 : decode cX12_advance 284 = .ok (.ifCond .eq 7, 3) := by decide +kernel
theorem dX12_advance_287 : decode cX12_advance 287 = .ok (.iconst 3, 1) := by decide +kernel
theorem dX12_advance_288 : decode cX12_advance 288 = .ok (.goto 4, 3) := by decide +kernel
theorem dX12_advance_291 : decode cX12_advance 291 = .ok (.iconst 4, 1) := by decide +kernel
theorem dX12_advance_292 : decode cX12_advance 292 = .ok (.putfield 117, 3) := by decide +kernel
theorem dX12_advance_295 : decode cX12_advance 295 = .ok (.return_, 1) := by decide +kernel
theorem dX12_isWord_0 : decode cX12_isWord 0 = .ok (.aload_n 0, 1) := by decide +kernel
theorem dX12_isWord_1 : decode cX12_isWord 1 = .ok (.getfield 117, 3) := by decide +kernel
theorem dX12_isWord_4 : decode cX12_isWord 4 = .ok (.iconst 1, 1) := by decide +kernel
theorem dX12_isWord_5 : decode cX12_isWord 5 = .ok (.if_icmp .ne 23, 3) := by decide +kernel
theorem dX12_isWord_8 : decode cX12_isWord 8 = .ok (.aload_n 0, 1) := by decide +kernel
theorem dX12_isWord_9 : decode cX12_isWord 9 = .ok (.getfield 104, 3) := by decide +kernel
theorem dX12_isWord_12 : decode cX12_isWord 12 = .ok (.aload_n 0, 1) := by decide +kernel
theorem dX12_isWord_13 : decode cX12_isWord 13 = .ok (.getfield 111, 3) := by decide +kernel
theorem dX12_isWord_16 : decode cX12_isWord 16 = .ok (.isub, 1) := by decide +kernel
theorem dX12_isWord_17 : decode cX12_isWord 17 = .ok (.aload_n 1, 1) := by decide +kernel
theorem dX12_isWord_18 : decode cX12_isWord 18 = .ok (.invokevirtual 135, 3) := by decide +kernel
theorem dX12_isWord_21 : decode cX12_isWord 21 = .ok (.if_icmp .ne 7, 3) := by decide +kernel
theorem dX12_isWord_24 : decode cX12_isWord 24 = .ok (.iconst 1, 1) := by decide +kernel
theorem dX12_isWord_25 : decode cX12_isWord 25 = .ok (.goto 4, 3) := by decide +kernel
theorem dX12_isWord_28 : decode cX12_isWord 28 = .ok (.iconst 0, 1) := by decide +kernel
theorem dX12_isWord_29 : decode cX12_isWord 29 = .ok (.istore_n 2, 1) := by decide +kernel
theorem dX12_isWord_30 : decode cX12_isWord 30 = .ok (.iconst 0, 1) := by decide +kernel
theorem dX12_isWord_31 : decode cX12_isWord 31 = .ok (.istore_n 3, 1) := by decide +kernel
theorem dX12_isWord_32 : decode cX12_isWord 32 = .ok (.iload_n 3, 1) := by decide +kernel
theorem dX12_isWord_33 : decode cX12_isWord 33 = .ok (.aload_n 1, 1) := by decide +kernel
theorem dX12_isWord_34 : decode cX12_isWord 34 = .ok (.invokevirtual 135, 3) := by decide +kernel
theorem dX12_isWord_37 : decode cX12_isWord 37 = .ok (.if_icmp .ge 38, 3) := by decide +kernel
theorem dX12_isWord_40 : decode cX12_isWord 40 = .ok (.iload_n 2, 1) := by decide +kernel
theorem dX12_isWord_41 : decode cX12_isWord 41 = .ok (.ifCond .eq 34, 3) := by decide +kernel
theorem dX12_isWord_44 : decode cX12_isWord 44 = .ok (.aload_n 0, 1) := by decide +kernel
theorem dX12_isWord_45 : decode cX12_isWord 45 = .ok (.getfield 35, 3) := by decide +kernel
theorem dX12_isWord_48 : decode cX12_isWord 48 = .ok (.aload_n 0, 1) := by decide +kernel
theorem dX12_isWord_49 : decode cX12_isWord 49 = .ok (.getfield 111, 3) := by decide +kernel
theorem dX12_isWord_52 : decode cX12_isWord 52 = .ok (.iload_n 3, 1) := by decide +kernel
theorem dX12_isWord_53 : decode cX12_isWord 53 = .ok (.iadd, 1) := by decide +kernel
theorem dX12_isWord_54 : decode cX12_isWord 54 = .ok (.baload, 1) := by decide +kernel
theorem dX12_isWord_55 : decode cX12_isWord 55 = .ok (.aload_n 1, 1) := by decide +kernel
theorem dX12_isWord_56 : decode cX12_isWord 56 = .ok (.iload_n 3, 1) := by decide +kernel
theorem dX12_isWord_57 : decode cX12_isWord 57 = .ok (.invokevirtual 140, 3) := by decide +kernel
theorem dX12_isWord_60 : decode cX12_isWord 60 = .ok (.if_icmp .ne 7, 3) := by decide +kernel
theorem dX12_isWord_63 : decode cX12_isWord 63 = .ok (.iconst 1, 1) := by decide +kernel
theorem dX12_isWord_64 : decode cX12_isWord 64 = .ok (.goto 4, 3) := by decide +kernel
theorem dX12_isWord_67 : decode cX12_isWord 67 = .ok (.iconst 0, 1) := by decide +kernel
theorem dX12_isWord_68 : decode cX12_isWord 68 = .ok (.istore_n 2, 1) := by decide +kernel
theorem dX12_isWord_69 : decode cX12_isWord 69 = .ok (.iinc 3 1, 3) := by decide +kernel
theorem dX12_isWord_72 : decode cX12_isWord 72 = .ok (.goto (-40), 3) := by decide +kernel
theorem dX12_isWord_75 : decode cX12_isWord 75 = .ok (.iload_n 2, 1) := by decide +kernel
theorem dX12_isWord_76 : decode cX12_isWord 76 = .ok (.ireturn, 1) := by decide +kernel
theorem dX12_isSignHere_0 : decode cX12_isSignHere 0 = .ok (.aload_n 0, 1) := by decide +kernel
theorem dX12_isSignHere_1 : decode cX12_isSignHere 1 = .ok (.getfield 117, 3) := by decide +kernel
theorem dX12_isSignHere_4 : decode cX12_isSignHere 4 = .ok (.iconst 3, 1) := by decide +kernel
theorem dX12_isSignHere_5 : decode cX12_isSignHere 5 = .ok (.if_icmp .ne 15, 3) := by decide +kernel
theorem dX12_isSignHere_8 : decode cX12_isSignHere 8 = .ok (.aload_n 0, 1) := by decide +kernel
theorem dX12_isSignHere_9 : decode cX12_isSignHere 9 = .ok (.getfield 114, 3) := by decide +kernel
theorem dX12_isSignHere_12 : decode cX12_isSignHere 12 = .ok (.iload_n 1, 1) := by decide +kernel
theorem dX12_isSignHere_13 : decode cX12_isSignHere 13 = .ok (.if_icmp .ne 7, 3) := by decide +kernel
theorem dX12_isSignHere_16 : decode cX12_isSignHere 16 = .ok (.iconst 1, 1) := by decide +kernel
theorem dX12_isSignHere_17 : decode cX12_isSignHere 17 = .ok (.goto 4, 3) := by decide +kernel
theorem dX12_isSignHere_20 : decode cX12_isSignHere 20 = .ok (.iconst 0, 1) := by decide +kernel
theorem dX12_isSignHere_21 : decode cX12_isSignHere 21 = .ok (.ireturn, 1) := by decide +kernel
theorem dX12_fails_0 : decode cX12_fails 0 = .ok (.aload_n 0, 1) := by decide +kernel
theorem dX12_fails_1 : decode cX12_fails 1 = .ok (.getfield 144, 3) := by decide +kernel
theorem dX12_fails_4 : decode cX12_fails 4 = .ok (.ifCond .ne 16, 3) := by decide +kernel
theorem dX12_fails_7 : decode cX12_fails 7 = .ok (.aload_n 0, 1) := by decide +kernel
theorem dX12_fails_8 : decode cX12_fails 8 = .ok (.iload_n 1, 1) := by decide +kernel
theorem dX12_fails_9 : decode cX12_fails 9 = .ok (.putfield 144, 3) := by decide +kernel
theorem dX12_fails_12 : decode cX12_fails 12 = .ok (.aload_n 0, 1) := by decide +kernel
theorem dX12_fails_13 : decode cX12_fails 13 = .ok (.aload_n 0, 1) := by decide +kernel
theorem dX12_fails_14 : decode cX12_fails 14 = .ok (.getfield 111, 3) := by decide +kernel
theorem dX12_fails_17 : decode cX12_fails 17 = .ok (.putfield 39, 3) := by decide +kernel
theorem dX12_fails_20 : decode cX12_fails 20 = .ok (.iconst 0, 1) := by decide +kernel
theorem dX12_fails_21 : decode cX12_fails 21 = .ok (.ireturn, 1) := by decide +kernel
theorem dX12_takes_0 : decode cX12_takes 0 = .ok (.aload_n 0, 1) := by decide +kernel
theorem dX12_takes_1 : decode cX12_takes 1 = .ok (.getfield 117, 3) := by decide +kernel
theorem dX12_takes_4 : decode cX12_takes 4 = .ok (.iconst 2, 1) := by decide +kernel
theorem dX12_takes_5 : decode cX12_takes 5 = .ok (.if_icmp .eq 9, 3) := by decide +kernel
theorem dX12_takes_8 : decode cX12_takes 8 = .ok (.aload_n 0, 1) := by decide +kernel
theorem dX12_takes_9 : decode cX12_takes 9 = .ok (.iconst 1, 1) := by decide +kernel
theorem dX12_takes_10 : decode cX12_takes 10 = .ok (.invokevirtual 147, 3) := by decide +kernel
theorem dX12_takes_13 : decode cX12_takes 13 = .ok (.ireturn, 1) := by decide +kernel
theorem dX12_takes_14 : decode cX12_takes 14 = .ok (.aload_n 0, 1) := by decide +kernel
theorem dX12_takes_15 : decode cX12_takes 15 = .ok (.getfield 114, 3) := by decide +kernel
theorem dX12_takes_18 : decode cX12_takes 18 = .ok (.i2l, 1) := by decide +kernel
theorem dX12_takes_19 : decode cX12_takes 19 = .ok (.iload_n 1, 1) := by decide +kernel
theorem dX12_takes_20 : decode cX12_takes 20 = .ok (.i2l, 1) := by decide +kernel
theorem dX12_takes_21 : decode cX12_takes 21 = .ok (.iload_n 2, 1) := by decide +kernel
theorem dX12_takes_22 : decode cX12_takes 22 = .ok (.i2l, 1) := by decide +kernel
theorem dX12_takes_23 : decode cX12_takes 23 = .ok (.invokestatic 124, 3) := by decide +kernel
theorem dX12_takes_26 : decode cX12_takes 26 = .ok (.ifCond .ne 9, 3) := by decide +kernel
theorem dX12_takes_29 : decode cX12_takes 29 = .ok (.aload_n 0, 1) := by decide +kernel
theorem dX12_takes_30 : decode cX12_takes 30 = .ok (.iconst 3, 1) := by decide +kernel
theorem dX12_takes_31 : decode cX12_takes 31 = .ok (.invokevirtual 147, 3) := by decide +kernel
theorem dX12_takes_34 : decode cX12_takes 34 = .ok (.ireturn, 1) := by decide +kernel
theorem dX12_takes_35 : decode cX12_takes 35 = .ok (.aload_n 0, 1) := by decide +kernel
theorem dX12_takes_36 : decode cX12_takes 36 = .ok (.aload_n 0, 1) := by decide +kernel
theorem dX12_takes_37 : decode cX12_takes 37 = .ok (.getfield 114, 3) := by decide +kernel
theorem dX12_takes_40 : decode cX12_takes 40 = .ok (.putfield 150, 3) := by decide +kernel
theorem dX12_takes_43 : decode cX12_takes 43 = .ok (.aload_n 0, 1) := by decide +kernel
theorem dX12_takes_44 : decode cX12_takes 44 = .ok (.invokevirtual 153, 3) := by decide +kernel
theorem dX12_takes_47 : decode cX12_takes 47 = .ok (.iconst 1, 1) := by decide +kernel
theorem dX12_takes_48 : decode cX12_takes 48 = .ok (.ireturn, 1) := by decide +kernel
theorem dX12_starts_0 : decode cX12_starts 0 = .ok (.iload_n 2, 1) := by decide +kernel
theorem dX12_starts_1 : decode cX12_starts 1 = .ok (.ifCond .ne 9, 3) := by decide +kernel
theorem dX12_starts_4 : decode cX12_starts 4 = .ok (.aload_n 0, 1) := by decide +kernel
theorem dX12_starts_5 : decode cX12_starts 5 = .ok (.iload_n 1, 1) := by decide +kernel
theorem dX12_starts_6 : decode cX12_starts 6 = .ok (.invokevirtual 147, 3) := by decide +kernel
theorem dX12_starts_9 : decode cX12_starts 9 = .ok (.ireturn, 1) := by decide +kernel
theorem dX12_starts_10 : decode cX12_starts 10 = .ok (.aload_n 0, 1) := by decide +kernel
theorem dX12_starts_11 : decode cX12_starts 11 = .ok (.invokevirtual 153, 3) := by decide +kernel
theorem dX12_starts_14 : decode cX12_starts 14 = .ok (.iconst 1, 1) := by decide +kernel
theorem dX12_starts_15 : decode cX12_starts 15 = .ok (.ireturn, 1) := by decide +kernel
theorem dX12_once_0 : decode cX12_once 0 = .ok (.aload_n 0, 1) := by decide +kernel
theorem dX12_once_1 : decode cX12_once 1 = .ok (.iconst 2, 1) := by decide +kernel
theorem dX12_once_2 : decode cX12_once 2 = .ok (.aload_n 0, 1) := by decide +kernel
theorem dX12_once_3 : decode cX12_once 3 = .ok (.getfield 156, 3) := by decide +kernel
theorem dX12_once_6 : decode cX12_once 6 = .ok (.iload_n 1, 1) := by decide +kernel
theorem dX12_once_7 : decode cX12_once 7 = .ok (.invokestatic 159, 3) := by decide +kernel
theorem dX12_once_10 : decode cX12_once 10 = .ok (.ifCond .ne 7, 3) := by decide +kernel
theorem dX12_once_13 : decode cX12_once 13 = .ok (.iconst 1, 1) := by decide +kernel
theorem dX12_once_14 : decode cX12_once 14 = .ok (.goto 4, 3) := by decide +kernel
theorem dX12_once_17 : decode cX12_once 17 = .ok (.iconst 0, 1) := by decide +kernel
theorem dX12_once_18 : decode cX12_once 18 = .ok (.invokevirtual 163, 3) := by decide +kernel
theorem dX12_once_21 : decode cX12_once 21 = .ok (.ifCond .ne 5, 3) := by decide +kernel
theorem dX12_once_24 : decode cX12_once 24 = .ok (.iconst 0, 1) := by decide +kernel
theorem dX12_once_25 : decode cX12_once 25 = .ok (.ireturn, 1) := by decide +kernel
theorem dX12_once_26 : decode cX12_once 26 = .ok (.aload_n 0, 1) := by decide +kernel
theorem dX12_once_27 : decode cX12_once 27 = .ok (.dup, 1) := by decide +kernel
theorem dX12_once_28 : decode cX12_once 28 = .ok (.getfield 156, 3) := by decide +kernel
theorem dX12_once_31 : decode cX12_once 31 = .ok (.iconst 1, 1) := by decide +kernel
theorem dX12_once_32 : decode cX12_once 32 = .ok (.iload_n 1, 1) := by decide +kernel
theorem dX12_once_33 : decode cX12_once 33 = .ok (.ishl, 1) := by decide +kernel
theorem dX12_once_34 : decode cX12_once 34 = .ok (.ior, 1) := by decide +kernel
theorem dX12_once_35 : decode cX12_once 35 = .ok (.putfield 156, 3) := by decide +kernel
theorem dX12_once_38 : decode cX12_once 38 = .ok (.iconst 1, 1) := by decide +kernel
theorem dX12_once_39 : decode cX12_once 39 = .ok (.ireturn, 1) := by decide +kernel
theorem dX12_sets_0 : decode cX12_sets 0 = .ok (.aload_n 0, 1) := by decide +kernel
theorem dX12_sets_1 : decode cX12_sets 1 = .ok (.iload_n 2, 1) := by decide +kernel
theorem dX12_sets_2 : decode cX12_sets 2 = .ok (.iload_n 3, 1) := by decide +kernel
theorem dX12_sets_3 : decode cX12_sets 3 = .ok (.invokevirtual 167, 3) := by decide +kernel
theorem dX12_sets_6 : decode cX12_sets 6 = .ok (.ifCond .ne 5, 3) := by decide +kernel
theorem dX12_sets_9 : decode cX12_sets 9 = .ok (.iconst 0, 1) := by decide +kernel
theorem dX12_sets_10 : decode cX12_sets 10 = .ok (.ireturn, 1) := by decide +kernel
theorem dX12_sets_11 : decode cX12_sets 11 = .ok (.aload_n 0, 1) := by decide +kernel
theorem dX12_sets_12 : decode cX12_sets 12 = .ok (.getfield 13, 3) := by decide +kernel
theorem dX12_sets_15 : decode cX12_sets 15 = .ok (.bipush 7, 2) := by decide +kernel
theorem dX12_sets_17 : decode cX12_sets 17 = .ok (.iload_n 1, 1) := by decide +kernel
theorem dX12_sets_18 : decode cX12_sets 18 = .ok (.iadd, 1) := by decide +kernel
theorem dX12_sets_19 : decode cX12_sets 19 = .ok (.aload_n 0, 1) := by decide +kernel
theorem dX12_sets_20 : decode cX12_sets 20 = .ok (.getfield 150, 3) := by decide +kernel
theorem dX12_sets_23 : decode cX12_sets 23 = .ok (.iastore, 1) := by decide +kernel
theorem dX12_sets_24 : decode cX12_sets 24 = .ok (.iconst 1, 1) := by decide +kernel
theorem dX12_sets_25 : decode cX12_sets 25 = .ok (.ireturn, 1) := by decide +kernel
theorem dX12_closes_0 : decode cX12_closes 0 = .ok (.aload_n 0, 1) := by decide +kernel
theorem dX12_closes_1 : decode cX12_closes 1 = .ok (.iload_n 1, 1) := by decide +kernel
theorem dX12_closes_2 : decode cX12_closes 2 = .ok (.invokevirtual 170, 3) := by decide +kernel
theorem dX12_closes_5 : decode cX12_closes 5 = .ok (.ifCond .ne 9, 3) := by decide +kernel
theorem dX12_closes_8 : decode cX12_closes 8 = .ok (.aload_n 0, 1) := by decide +kernel
theorem dX12_closes_9 : decode cX12_closes 9 = .ok (.iconst 1, 1) := by decide +kernel
theorem dX12_closes_10 : decode cX12_closes 10 = .ok (.invokevirtual 147, 3) := by decide +kernel
theorem dX12_closes_13 : decode cX12_closes 13 = .ok (.ireturn, 1) := by decide +kernel
theorem dX12_closes_14 : decode cX12_closes 14 = .ok (.aload_n 0, 1) := by decide +kernel
theorem dX12_closes_15 : decode cX12_closes 15 = .ok (.invokevirtual 153, 3) := by decide +kernel
theorem dX12_closes_18 : decode cX12_closes 18 = .ok (.iconst 1, 1) := by decide +kernel
theorem dX12_closes_19 : decode cX12_closes 19 = .ok (.ireturn, 1) := by decide +kernel
theorem dX12_lays_0 : decode cX12_lays 0 = .ok (.aload_n 0, 1) := by decide +kernel
theorem dX12_lays_1 : decode cX12_lays 1 = .ok (.iload_n 3, 1) := by decide +kernel
theorem dX12_lays_2 : decode cX12_lays 2 = .ok (.iload 4, 2) := by decide +kernel
theorem dX12_lays_4 : decode cX12_lays 4 = .ok (.invokevirtual 167, 3) := by decide +kernel
theorem dX12_lays_7 : decode cX12_lays 7 = .ok (.ifCond .ne 5, 3) := by decide +kernel
theorem dX12_lays_10 : decode cX12_lays 10 = .ok (.iconst 0, 1) := by decide +kernel
theorem dX12_lays_11 : decode cX12_lays 11 = .ok (.ireturn, 1) := by decide +kernel
theorem dX12_lays_12 : decode cX12_lays 12 = .ok (.aload_n 1, 1) := by decide +kernel
theorem dX12_lays_13 : decode cX12_lays 13 = .ok (.aload_n 1, 1) := by decide +kernel
theorem dX12_lays_14 : decode cX12_lays 14 = .ok (.arraylength, 1) := by decide +kernel
theorem dX12_lays_15 : decode cX12_lays 15 = .ok (.iconst 2, 1) := by decide +kernel
theorem dX12_lays_16 : decode cX12_lays 16 = .ok (.idiv, 1) := by decide +kernel
theorem dX12_lays_17 : decode cX12_lays 17 = .ok (.iload_n 2, 1) := by decide +kernel
theorem dX12_lays_18 : decode cX12_lays 18 = .ok (.iadd, 1) := by decide +kernel
theorem dX12_lays_19 : decode cX12_lays 19 = .ok (.aload_n 0, 1) := by decide +kernel
theorem dX12_lays_20 : decode cX12_lays 20 = .ok (.getfield 150, 3) := by decide +kernel
theorem dX12_lays_23 : decode cX12_lays 23 = .ok (.iastore, 1) := by decide +kernel
theorem dX12_lays_24 : decode cX12_lays 24 = .ok (.iconst 1, 1) := by decide +kernel
theorem dX12_lays_25 : decode cX12_lays 25 = .ok (.ireturn, 1) := by decide +kernel
theorem dX12_reserveLine_0 : decode cX12_reserveLine 0 = .ok (.aload_n 0, 1) := by decide +kernel
theorem dX12_reserveLine_1 : decode cX12_reserveLine 1 = .ok (.aload_n 0, 1) := by decide +kernel
theorem dX12_reserveLine_2 : decode cX12_reserveLine 2 = .ok (.getfield 26, 3) := by decide +kernel
theorem dX12_reserveLine_5 : decode cX12_reserveLine 5 = .ok (.iload_n 1, 1) := by decide +kernel
theorem dX12_reserveLine_6 : decode cX12_reserveLine 6 = .ok (.iconst 0, 1) := by decide +kernel
theorem dX12_reserveLine_7 : decode cX12_reserveLine 7 = .ok (.aload_n 0, 1) := by decide +kernel
theorem dX12_reserveLine_8 : decode cX12_reserveLine 8 = .ok (.getfield 13, 3) := by decide +kernel
theorem dX12_reserveLine_11 : decode cX12_reserveLine 11 = .ok (.bipush 9, 2) := by decide +kernel
theorem dX12_reserveLine_13 : decode cX12_reserveLine 13 = .ok (.iaload, 1) := by decide +kernel
theorem dX12_reserveLine_14 : decode cX12_reserveLine 14 = .ok (.iconst 1, 1) := by decide +kernel
theorem dX12_reserveLine_15 : decode cX12_reserveLine 15 = .ok (.isub, 1) := by decide +kernel
theorem dX12_reserveLine_16 : decode cX12_reserveLine 16 = .ok (.invokevirtual 173, 3) := by decide +kernel
theorem dX12_reserveLine_19 : decode cX12_reserveLine 19 = .ok (.ifCond .eq 106, 3) := by decide +kernel
theorem dX12_reserveLine_22 : decode cX12_reserveLine 22 = .ok (.aload_n 0, 1) := by decide +kernel
theorem dX12_reserveLine_23 : decode cX12_reserveLine 23 = .ok (.aload_n 0, 1) := by decide +kernel
theorem dX12_reserveLine_24 : decode cX12_reserveLine 24 = .ok (.getfield 26, 3) := by decide +kernel
theorem dX12_reserveLine_27 : decode cX12_reserveLine 27 = .ok (.iload_n 1, 1) := by decide +kernel
theorem dX12_reserveLine_28 : decode cX12_reserveLine 28 = .ok (.iconst 1, 1) := by decide +kernel
theorem dX12_reserveLine_29 : decode cX12_reserveLine 29 = .ok (.iadd, 1) := by decide +kernel
theorem dX12_reserveLine_30 : decode cX12_reserveLine 30 = .ok (.iconst 0, 1) := by decide +kernel
theorem dX12_reserveLine_31 : decode cX12_reserveLine 31 = .ok (.aload_n 0, 1) := by decide +kernel
theorem dX12_reserveLine_32 : decode cX12_reserveLine 32 = .ok (.getfield 13, 3) := by decide +kernel
theorem dX12_reserveLine_35 : decode cX12_reserveLine 35 = .ok (.bipush 8, 2) := by decide +kernel
theorem dX12_reserveLine_37 : decode cX12_reserveLine 37 = .ok (.iaload, 1) := by decide +kernel
theorem dX12_reserveLine_38 : decode cX12_reserveLine 38 = .ok (.iconst 1, 1) := by decide +kernel
theorem dX12_reserveLine_39 : decode cX12_reserveLine 39 = .ok (.isub, 1) := by decide +kernel
theorem dX12_reserveLine_40 : decode cX12_reserveLine 40 = .ok (.invokevirtual 173, 3) := by decide +kernel
theorem dX12_reserveLine_43 : decode cX12_reserveLine 43 = .ok (.ifCond .eq 82, 3) := by decide +kernel
theorem dX12_reserveLine_46 : decode cX12_reserveLine 46 = .ok (.aload_n 0, 1) := by decide +kernel
theorem dX12_reserveLine_47 : decode cX12_reserveLine 47 = .ok (.aload_n 0, 1) := by decide +kernel
theorem dX12_reserveLine_48 : decode cX12_reserveLine 48 = .ok (.getfield 26, 3) := by decide +kernel
theorem dX12_reserveLine_51 : decode cX12_reserveLine 51 = .ok (.iload_n 1, 1) := by decide +kernel
theorem dX12_reserveLine_52 : decode cX12_reserveLine 52 = .ok (.iconst 2, 1) := by decide +kernel
theorem dX12_reserveLine_53 : decode cX12_reserveLine 53 = .ok (.iadd, 1) := by decide +kernel
theorem dX12_reserveLine_54 : decode cX12_reserveLine 54 = .ok (.iconst 1, 1) := by decide +kernel
theorem dX12_reserveLine_55 : decode cX12_reserveLine 55 = .ok (.bipush 9, 2) := by decide +kernel
theorem dX12_reserveLine_57 : decode cX12_reserveLine 57 = .ok (.invokevirtual 173, 3) := by decide +kernel
theorem dX12_reserveLine_60 : decode cX12_reserveLine 60 = .ok (.ifCond .eq 65, 3) := by decide +kernel
theorem dX12_reserveLine_63 : decode cX12_reserveLine 63 = .ok (.aload_n 0, 1) := by decide +kernel
theorem dX12_reserveLine_64 : decode cX12_reserveLine 64 = .ok (.aload_n 0, 1) := by decide +kernel
theorem dX12_reserveLine_65 : decode cX12_reserveLine 65 = .ok (.getfield 26, 3) := by decide +kernel
theorem dX12_reserveLine_68 : decode cX12_reserveLine 68 = .ok (.iload_n 1, 1) := by decide +kernel
theorem dX12_reserveLine_69 : decode cX12_reserveLine 69 = .ok (.iconst 3, 1) := by decide +kernel
theorem dX12_reserveLine_70 : decode cX12_reserveLine 70 = .ok (.iadd, 1) := by decide +kernel
theorem dX12_reserveLine_71 : decode cX12_reserveLine 71 = .ok (.iconst 0, 1) := by decide +kernel
theorem dX12_reserveLine_72 : decode cX12_reserveLine 72 = .ok (.sipush 9998, 3) := by decide +kernel
theorem dX12_reserveLine_75 : decode cX12_reserveLine 75 = .ok (.invokevirtual 173, 3) := by decide +kernel
theorem dX12_reserveLine_78 : decode cX12_reserveLine 78 = .ok (.ifCond .eq 47, 3) := by decide +kernel
theorem dX12_reserveLine_81 : decode cX12_reserveLine 81 = .ok (.aload_n 0, 1) := by decide +kernel
theorem dX12_reserveLine_82 : decode cX12_reserveLine 82 = .ok (.aload_n 0, 1) := by decide +kernel
theorem dX12_reserveLine_83 : decode cX12_reserveLine 83 = .ok (.getfield 26, 3) := by decide +kernel
theorem dX12_reserveLine_86 : decode cX12_reserveLine 86 = .ok (.iload_n 1, 1) := by decide +kernel
theorem dX12_reserveLine_87 : decode cX12_reserveLine 87 = .ok (.iconst 4, 1) := by decide +kernel
theorem dX12_reserveLine_88 : decode cX12_reserveLine 88 = .ok (.iadd, 1) := by decide +kernel
theorem dX12_reserveLine_89 : decode cX12_reserveLine 89 = .ok (.aload_n 0, 1) := by decide +kernel
theorem dX12_reserveLine_90 : decode cX12_reserveLine 90 = .ok (.getfield 150, 3) := by decide +kernel
theorem dX12_reserveLine_93 : decode cX12_reserveLine 93 = .ok (.iconst 1, 1) := by decide +kernel
theorem dX12_reserveLine_94 : decode cX12_reserveLine 94 = .ok (.iadd, 1) := by decide +kernel
theorem dX12_reserveLine_95 : decode cX12_reserveLine 95 = .ok (.sipush 9999, 3) := by decide +kernel
theorem dX12_reserveLine_98 : decode cX12_reserveLine 98 = .ok (.invokevirtual 173, 3) := by decide +kernel
theorem dX12_reserveLine_101 : decode cX12_reserveLine 101 = .ok (.ifCond .eq 24, 3) := by decide +kernel
theorem dX12_reserveLine_104 : decode cX12_reserveLine 104 = .ok (.aload_n 0, 1) := by decide +kernel
theorem dX12_reserveLine_105 : decode cX12_reserveLine 105 = .ok (.aload_n 0, 1) := by decide +kernel
theorem dX12_reserveLine_106 : decode cX12_reserveLine 106 = .ok (.getfield 26, 3) := by decide +kernel
theorem dX12_reserveLine_109 : decode cX12_reserveLine 109 = .ok (.iload_n 1, 1) := by decide +kernel
theorem dX12_reserveLine_110 : decode cX12_reserveLine 110 = .ok (.iconst 5, 1) := by decide +kernel
theorem dX12_reserveLine_111 : decode cX12_reserveLine 111 = .ok (.iadd, 1) := by decide +kernel
theorem dX12_reserveLine_112 : decode cX12_reserveLine 112 = .ok (.iconst 0, 1) := by decide +kernel
theorem dX12_reserveLine_113 : decode cX12_reserveLine 113 = .ok (.bipush 100, 2) := by decide +kernel
theorem dX12_reserveLine_115 : decode cX12_reserveLine 115 = .ok (.invokevirtual 173, 3) := by decide +kernel
theorem dX12_reserveLine_118 : decode cX12_reserveLine 118 = .ok (.ifCond .eq 7, 3) := by decide +kernel
theorem dX12_reserveLine_121 : decode cX12_reserveLine 121 = .ok (.iconst 1, 1) := by decide +kernel
theorem dX12_reserveLine_122 : decode cX12_reserveLine 122 = .ok (.goto 4, 3) := by decide +kernel
theorem dX12_reserveLine_125 : decode cX12_reserveLine 125 = .ok (.iconst 0, 1) := by decide +kernel
theorem dX12_reserveLine_126 : decode cX12_reserveLine 126 = .ok (.ireturn, 1) := by decide +kernel
theorem dX12_oneMore_0 : decode cX12_oneMore 0 = .ok (.aload_n 0, 1) := by decide +kernel
theorem dX12_oneMore_1 : decode cX12_oneMore 1 = .ok (.iconst 4, 1) := by decide +kernel
theorem dX12_oneMore_2 : decode cX12_oneMore 2 = .ok (.aload_n 0, 1) := by decide +kernel
theorem dX12_oneMore_3 : decode cX12_oneMore 3 = .ok (.getfield 13, 3) := by decide +kernel
theorem dX12_oneMore_6 : decode cX12_oneMore 6 = .ok (.bipush 7, 2) := by decide +kernel
theorem dX12_oneMore_8 : decode cX12_oneMore 8 = .ok (.iload_n 1, 1) := by decide +kernel
theorem dX12_oneMore_9 : decode cX12_oneMore 9 = .ok (.iadd, 1) := by decide +kernel
theorem dX12_oneMore_10 : decode cX12_oneMore 10 = .ok (.iaload, 1) := by decide +kernel
theorem dX12_oneMore_11 : decode cX12_oneMore 11 = .ok (.iload_n 2, 1) := by decide +kernel
theorem dX12_oneMore_12 : decode cX12_oneMore 12 = .ok (.if_icmp .ge 7, 3) := by decide +kernel
theorem dX12_oneMore_15 : decode cX12_oneMore 15 = .ok (.iconst 1, 1) := by decide +kernel
theorem dX12_oneMore_16 : decode cX12_oneMore 16 = .ok (.goto 4, 3) := by decide +kernel
theorem dX12_oneMore_19 : decode cX12_oneMore 19 = .ok (.iconst 0, 1) := by decide +kernel
theorem dX12_oneMore_20 : decode cX12_oneMore 20 = .ok (.invokevirtual 163, 3) := by decide +kernel
theorem dX12_oneMore_23 : decode cX12_oneMore 23 = .ok (.ireturn, 1) := by decide +kernel
theorem dX12_counts_0 : decode cX12_counts 0 = .ok (.aload_n 0, 1) := by decide +kernel
theorem dX12_counts_1 : decode cX12_counts 1 = .ok (.getfield 13, 3) := by decide +kernel
theorem dX12_counts_4 : decode cX12_counts 4 = .ok (.bipush 7, 2) := by decide +kernel
theorem dX12_counts_6 : decode cX12_counts 6 = .ok (.iload_n 1, 1) := by decide +kernel
theorem dX12_counts_7 : decode cX12_counts 7 = .ok (.iadd, 1) := by decide +kernel
theorem dX12_counts_8 : decode cX12_counts 8 = .ok (.dup2, 1) := by decide +kernel
theorem dX12_counts_9 : decode cX12_counts 9 = .ok (.iaload, 1) := by decide +kernel
theorem dX12_counts_10 : decode cX12_counts 10 = .ok (.iconst 1, 1) := by decide +kernel
theorem dX12_counts_11 : decode cX12_counts 11 = .ok (.iadd, 1) := by decide +kernel
theorem dX12_counts_12 : decode cX12_counts 12 = .ok (.iastore, 1) := by decide +kernel
theorem dX12_counts_13 : decode cX12_counts 13 = .ok (.iconst 1, 1) := by decide +kernel
theorem dX12_counts_14 : decode cX12_counts 14 = .ok (.ireturn, 1) := by decide +kernel
theorem dX12_nameHere_0 : decode cX12_nameHere 0 = .ok (.aload_n 0, 1) := by decide +kernel
theorem dX12_nameHere_1 : decode cX12_nameHere 1 = .ok (.ldc 226, 2) := by decide +kernel
theorem dX12_nameHere_3 : decode cX12_nameHere 3 = .ok (.invokevirtual 179, 3) := by decide +kernel
theorem dX12_nameHere_6 : decode cX12_nameHere 6 = .ok (.ifCond .eq 7, 3) := by decide +kernel
theorem dX12_nameHere_9 : decode cX12_nameHere 9 = .ok (.iconst 1, 1) := by decide +kernel
theorem dX12_nameHere_10 : decode cX12_nameHere 10 = .ok (.goto 43, 3) := by decide +kernel
theorem dX12_nameHere_13 : decode cX12_nameHere 13 = .ok (.aload_n 0, 1) := by decide +kernel
theorem dX12_nameHere_14 : decode cX12_nameHere 14 = .ok (.ldc 227, 2) := by decide +kernel
theorem dX12_nameHere_16 : decode cX12_nameHere 16 = .ok (.invokevirtual 179, 3) := by decide +kernel
theorem dX12_nameHere_19 : decode cX12_nameHere 19 = .ok (.ifCond .eq 7, 3) := by decide +kernel
theorem dX12_nameHere_22 : decode cX12_nameHere 22 = .ok (.iconst 2, 1) := by decide +kernel
theorem dX12_nameHere_23 : decode cX12_nameHere 23 = .ok (.goto 30, 3) := by decide +kernel
theorem dX12_nameHere_26 : decode cX12_nameHere 26 = .ok (.aload_n 0, 1) := by decide +kernel
theorem dX12_nameHere_27 : decode cX12_nameHere 27 = .ok (.ldc 228, 2) := by decide +kernel
theorem dX12_nameHere_29 : decode cX12_nameHere 29 = .ok (.invokevirtual 179, 3) := by decide +kernel
theorem dX12_nameHere_32 : decode cX12_nameHere 32 = .ok (.ifCond .eq 7, 3) := by decide +kernel
theorem dX12_nameHere_35 : decode cX12_nameHere 35 = .ok (.iconst 3, 1) := by decide +kernel
theorem dX12_nameHere_36 : decode cX12_nameHere 36 = .ok (.goto 17, 3) := by decide +kernel
theorem dX12_nameHere_39 : decode cX12_nameHere 39 = .ok (.aload_n 0, 1) := by decide +kernel
theorem dX12_nameHere_40 : decode cX12_nameHere 40 = .ok (.ldc 230, 2) := by decide +kernel
theorem dX12_nameHere_42 : decode cX12_nameHere 42 = .ok (.invokevirtual 179, 3) := by decide +kernel
theorem dX12_nameHere_45 : decode cX12_nameHere 45 = .ok (.ifCond .eq 7, 3) := by decide +kernel
theorem dX12_nameHere_48 : decode cX12_nameHere 48 = .ok (.iconst 4, 1) := by decide +kernel
theorem dX12_nameHere_49 : decode cX12_nameHere 49 = .ok (.goto 4, 3) := by decide +kernel
theorem dX12_nameHere_52 : decode cX12_nameHere 52 = .ok (.iconst 0, 1) := by decide +kernel
theorem dX12_nameHere_53 : decode cX12_nameHere 53 = .ok (.ireturn, 1) := by decide +kernel
theorem dX12_factor_0 : decode cX12_factor 0 = .ok (.aload_n 0, 1) := by decide +kernel
theorem dX12_factor_1 : decode cX12_factor 1 = .ok (.bipush 40, 2) := by decide +kernel
theorem dX12_factor_3 : decode cX12_factor 3 = .ok (.invokevirtual 170, 3) := by decide +kernel
theorem dX12_factor_6 : decode cX12_factor 6 = .ok (.ifCond .eq 70, 3) := by decide +kernel
theorem dX12_factor_9 : decode cX12_factor 9 = .ok (.aload_n 0, 1) := by decide +kernel
theorem dX12_factor_10 : decode cX12_factor 10 = .ok (.iconst 4, 1) := by decide +kernel
theorem dX12_factor_11 : decode cX12_factor 11 = .ok (.aload_n 0, 1) := by decide +kernel
theorem dX12_factor_12 : decode cX12_factor 12 = .ok (.getfield 213, 3) := by decide +kernel
theorem dX12_factor_15 : decode cX12_factor 15 = .ok (.iconst 5, 1) := by decide +kernel
theorem dX12_factor_16 : decode cX12_factor 16 = .ok (.if_icmp .ge 7, 3) := by decide +kernel
theorem dX12_factor_19 : decode cX12_factor 19 = .ok (.iconst 1, 1) := by decide +kernel
theorem dX12_factor_20 : decode cX12_factor 20 = .ok (.goto 4, 3) := by decide +kernel
theorem dX12_factor_23 : decode cX12_factor 23 = .ok (.iconst 0, 1) := by decide +kernel
theorem dX12_factor_24 : decode cX12_factor 24 = .ok (.invokevirtual 163, 3) := by decide +kernel
theorem dX12_factor_27 : decode cX12_factor 27 = .ok (.ifCond .ne 5, 3) := by decide +kernel
theorem dX12_factor_30 : decode cX12_factor 30 = .ok (.iconst 0, 1) := by decide +kernel
theorem dX12_factor_31 : decode cX12_factor 31 = .ok (.ireturn, 1) := by decide +kernel
theorem dX12_factor_32 : decode cX12_factor 32 = .ok (.aload_n 0, 1) := by decide +kernel
theorem dX12_factor_33 : decode cX12_factor 33 = .ok (.dup, 1) := by decide +kernel
theorem dX12_factor_34 : decode cX12_factor 34 = .ok (.getfield 213, 3) := by decide +kernel
theorem dX12_factor_37 : decode cX12_factor 37 = .ok (.iconst 1, 1) := by decide +kernel
theorem dX12_factor_38 : decode cX12_factor 38 = .ok (.iadd, 1) := by decide +kernel
theorem dX12_factor_39 : decode cX12_factor 39 = .ok (.putfield 213, 3) := by decide +kernel
theorem dX12_factor_42 : decode cX12_factor 42 = .ok (.aload_n 0, 1) := by decide +kernel
theorem dX12_factor_43 : decode cX12_factor 43 = .ok (.invokevirtual 216, 3) := by decide +kernel
theorem dX12_factor_46 : decode cX12_factor 46 = .ok (.ifCond .eq 16, 3) := by decide +kernel
theorem dX12_factor_49 : decode cX12_factor 49 = .ok (.aload_n 0, 1) := by decide +kernel
theorem dX12_factor_50 : decode cX12_factor 50 = .ok (.bipush 41, 2) := by decide +kernel
theorem dX12_factor_52 : decode cX12_factor 52 = .ok (.invokevirtual 232, 3) := by decide +kernel
theorem dX12_factor_55 : decode cX12_factor 55 = .ok (.ifCond .eq 7, 3) := by decide +kernel
theorem dX12_factor_58 : decode cX12_factor 58 = .ok (.iconst 1, 1) := by decide +kernel
theorem dX12_factor_59 : decode cX12_factor 59 = .ok (.goto 4, 3) := by decide +kernel
theorem dX12_factor_62 : decode cX12_factor 62 = .ok (.iconst 0, 1) := by decide +kernel
theorem dX12_factor_63 : decode cX12_factor 63 = .ok (.istore_n 1, 1) := by decide +kernel
theorem dX12_factor_64 : decode cX12_factor 64 = .ok (.aload_n 0, 1) := by decide +kernel
theorem dX12_factor_65 : decode cX12_factor 65 = .ok (.dup, 1) := by decide +kernel
theorem dX12_factor_66 : decode cX12_factor 66 = .ok (.getfield 213, 3) := by decide +kernel
theorem dX12_factor_69 : decode cX12_factor 69 = .ok (.iconst 1, 1) := by decide +kernel
theorem dX12_factor_70 : decode cX12_factor 70 = .ok (.isub, 1) := by decide +kernel
theorem dX12_factor_71 : decode cX12_factor 71 = .ok (.putfield 213, 3) := by decide +kernel
theorem dX12_factor_74 : decode cX12_factor 74 = .ok (.iload_n 1, 1) := by decide +kernel
theorem dX12_factor_75 : decode cX12_factor 75 = .ok (.ireturn, 1) := by decide +kernel
theorem dX12_factor_76 : decode cX12_factor 76 = .ok (.aload_n 0, 1) := by decide +kernel
theorem dX12_factor_77 : decode cX12_factor 77 = .ok (.getfield 117, 3) := by decide +kernel
theorem dX12_factor_80 : decode cX12_factor 80 = .ok (.iconst 2, 1) := by decide +kernel
theorem dX12_factor_81 : decode cX12_factor 81 = .ok (.if_icmp .ne 13, 3) := by decide +kernel
theorem dX12_factor_84 : decode cX12_factor 84 = .ok (.bipush 100, 2) := by decide +kernel
theorem dX12_factor_86 : decode cX12_factor 86 = .ok (.aload_n 0, 1) := by decide +kernel
theorem dX12_factor_87 : decode cX12_factor 87 = .ok (.getfield 114, 3) := by decide +kernel
theorem dX12_factor_90 : decode cX12_factor 90 = .ok (.iadd, 1) := by decide +kernel
theorem dX12_factor_91 : decode cX12_factor 91 = .ok (.goto 7, 3) := by decide +kernel
theorem dX12_factor_94 : decode cX12_factor 94 = .ok (.aload_n 0, 1) := by decide +kernel
theorem dX12_factor_95 : decode cX12_factor 95 = .ok (.invokevirtual 235, 3) := by decide +kernel
theorem dX12_factor_98 : decode cX12_factor 98 = .ok (.istore_n 1, 1) := by decide +kernel
theorem dX12_factor_99 : decode cX12_factor 99 = .ok (.iload_n 1, 1) := by decide +kernel
theorem dX12_factor_100 : decode cX12_factor 100 = .ok (.ifCond .ne 9, 3) := by decide +kernel
theorem dX12_factor_103 : decode cX12_factor 103 = .ok (.aload_n 0, 1) := by decide +kernel
theorem dX12_factor_104 : decode cX12_factor 104 = .ok (.iconst 1, 1) := by decide +kernel
theorem dX12_factor_105 : decode cX12_factor 105 = .ok (.invokevirtual 147, 3) := by decide +kernel
theorem dX12_factor_108 : decode cX12_factor 108 = .ok (.ireturn, 1) := by decide +kernel
theorem dX12_factor_109 : decode cX12_factor 109 = .ok (.aload_n 0, 1) := by decide +kernel
theorem dX12_factor_110 : decode cX12_factor 110 = .ok (.invokevirtual 153, 3) := by decide +kernel
theorem dX12_factor_113 : decode cX12_factor 113 = .ok (.aload_n 0, 1) := by decide +kernel
theorem dX12_factor_114 : decode cX12_factor 114 = .ok (.iload_n 1, 1) := by decide +kernel
theorem dX12_factor_115 : decode cX12_factor 115 = .ok (.invokevirtual 90, 3) := by decide +kernel
theorem dX12_factor_118 : decode cX12_factor 118 = .ok (.ireturn, 1) := by decide +kernel
theorem dX12_sum_0 : decode cX12_sum 0 = .ok (.aload_n 0, 1) := by decide +kernel
theorem dX12_sum_1 : decode cX12_sum 1 = .ok (.invokevirtual 220, 3) := by decide +kernel
theorem dX12_sum_4 : decode cX12_sum 4 = .ok (.ifCond .ne 5, 3) := by decide +kernel
theorem dX12_sum_7 : decode cX12_sum 7 = .ok (.iconst 0, 1) := by decide +kernel
theorem dX12_sum_8 : decode cX12_sum 8 = .ok (.ireturn, 1) := by decide +kernel
theorem dX12_sum_9 : decode cX12_sum 9 = .ok (.aload_n 0, 1) := by decide +kernel
theorem dX12_sum_10 : decode cX12_sum 10 = .ok (.bipush 43, 2) := by decide +kernel
theorem dX12_sum_12 : decode cX12_sum 12 = .ok (.invokevirtual 170, 3) := by decide +kernel
theorem dX12_sum_15 : decode cX12_sum 15 = .ok (.ifCond .ne 12, 3) := by decide +kernel
theorem dX12_sum_18 : decode cX12_sum 18 = .ok (.aload_n 0, 1) := by decide +kernel
theorem dX12_sum_19 : decode cX12_sum 19 = .ok (.bipush 45, 2) := by decide +kernel
theorem dX12_sum_21 : decode cX12_sum 21 = .ok (.invokevirtual 170, 3) := by decide +kernel
theorem dX12_sum_24 : decode cX12_sum 24 = .ok (.ifCond .eq 41, 3) := by decide +kernel
theorem dX12_sum_27 : decode cX12_sum 27 = .ok (.aload_n 0, 1) := by decide +kernel
theorem dX12_sum_28 : decode cX12_sum 28 = .ok (.getfield 114, 3) := by decide +kernel
theorem dX12_sum_31 : decode cX12_sum 31 = .ok (.bipush 43, 2) := by decide +kernel
theorem dX12_sum_33 : decode cX12_sum 33 = .ok (.if_icmp .ne 7, 3) := by decide +kernel
theorem dX12_sum_36 : decode cX12_sum 36 = .ok (.iconst (-1), 1) := by decide +kernel
theorem dX12_sum_37 : decode cX12_sum 37 = .ok (.goto 5, 3) := by decide +kernel
theorem dX12_sum_40 : decode cX12_sum 40 = .ok (.bipush (-2), 2) := by decide +kernel
theorem dX12_sum_42 : decode cX12_sum 42 = .ok (.istore_n 1, 1) := by decide +kernel
theorem dX12_sum_43 : decode cX12_sum 43 = .ok (.aload_n 0, 1) := by decide +kernel
theorem dX12_sum_44 : decode cX12_sum 44 = .ok (.invokevirtual 153, 3) := by decide +kernel
theorem dX12_sum_47 : decode cX12_sum 47 = .ok (.aload_n 0, 1) := by decide +kernel
theorem dX12_sum_48 : decode cX12_sum 48 = .ok (.invokevirtual 220, 3) := by decide +kernel
theorem dX12_sum_51 : decode cX12_sum 51 = .ok (.ifCond .ne 5, 3) := by decide +kernel
theorem dX12_sum_54 : decode cX12_sum 54 = .ok (.iconst 0, 1) := by decide +kernel
theorem dX12_sum_55 : decode cX12_sum 55 = .ok (.ireturn, 1) := by decide +kernel
theorem dX12_sum_56 : decode cX12_sum 56 = .ok (.aload_n 0, 1) := by decide +kernel
theorem dX12_sum_57 : decode cX12_sum 57 = .ok (.iload_n 1, 1) := by decide +kernel
theorem dX12_sum_58 : decode cX12_sum 58 = .ok (.invokevirtual 90, 3) := by decide +kernel
theorem dX12_sum_61 : decode cX12_sum 61 = .ok (.pop, 1) := by decide +kernel
theorem dX12_sum_62 : decode cX12_sum 62 = .ok (.goto (-53), 3) := by decide +kernel
theorem dX12_sum_65 : decode cX12_sum 65 = .ok (.iconst 1, 1) := by decide +kernel
theorem dX12_sum_66 : decode cX12_sum 66 = .ok (.ireturn, 1) := by decide +kernel
theorem dX12_term_0 : decode cX12_term 0 = .ok (.aload_n 0, 1) := by decide +kernel
theorem dX12_term_1 : decode cX12_term 1 = .ok (.invokevirtual 223, 3) := by decide +kernel
theorem dX12_term_4 : decode cX12_term 4 = .ok (.ifCond .ne 5, 3) := by decide +kernel
theorem dX12_term_7 : decode cX12_term 7 = .ok (.iconst 0, 1) := by decide +kernel
theorem dX12_term_8 : decode cX12_term 8 = .ok (.ireturn, 1) := by decide +kernel
theorem dX12_term_9 : decode cX12_term 9 = .ok (.aload_n 0, 1) := by decide +kernel
theorem dX12_term_10 : decode cX12_term 10 = .ok (.bipush 42, 2) := by decide +kernel
theorem dX12_term_12 : decode cX12_term 12 = .ok (.invokevirtual 170, 3) := by decide +kernel
theorem dX12_term_15 : decode cX12_term 15 = .ok (.ifCond .ne 12, 3) := by decide +kernel
theorem dX12_term_18 : decode cX12_term 18 = .ok (.aload_n 0, 1) := by decide +kernel
theorem dX12_term_19 : decode cX12_term 19 = .ok (.bipush 47, 2) := by decide +kernel
theorem dX12_term_21 : decode cX12_term 21 = .ok (.invokevirtual 170, 3) := by decide +kernel
theorem dX12_term_24 : decode cX12_term 24 = .ok (.ifCond .eq 42, 3) := by decide +kernel
theorem dX12_term_27 : decode cX12_term 27 = .ok (.aload_n 0, 1) := by decide +kernel
theorem dX12_term_28 : decode cX12_term 28 = .ok (.getfield 114, 3) := by decide +kernel
theorem dX12_term_31 : decode cX12_term 31 = .ok (.bipush 42, 2) := by decide +kernel
theorem dX12_term_33 : decode cX12_term 33 = .ok (.if_icmp .ne 8, 3) := by decide +kernel
theorem dX12_term_36 : decode cX12_term 36 = .ok (.bipush (-3), 2) := by decide +kernel
theorem dX12_term_38 : decode cX12_term 38 = .ok (.goto 5, 3) := by decide +kernel
theorem dX12_term_41 : decode cX12_term 41 = .ok (.bipush (-4), 2) := by decide +kernel
theorem dX12_term_43 : decode cX12_term 43 = .ok (.istore_n 1, 1) := by decide +kernel
theorem dX12_term_44 : decode cX12_term 44 = .ok (.aload_n 0, 1) := by decide +kernel
theorem dX12_term_45 : decode cX12_term 45 = .ok (.invokevirtual 153, 3) := by decide +kernel
theorem dX12_term_48 : decode cX12_term 48 = .ok (.aload_n 0, 1) := by decide +kernel
theorem dX12_term_49 : decode cX12_term 49 = .ok (.invokevirtual 223, 3) := by decide +kernel
theorem dX12_term_52 : decode cX12_term 52 = .ok (.ifCond .ne 5, 3) := by decide +kernel
theorem dX12_term_55 : decode cX12_term 55 = .ok (.iconst 0, 1) := by decide +kernel
theorem dX12_term_56 : decode cX12_term 56 = .ok (.ireturn, 1) := by decide +kernel
theorem dX12_term_57 : decode cX12_term 57 = .ok (.aload_n 0, 1) := by decide +kernel
theorem dX12_term_58 : decode cX12_term 58 = .ok (.iload_n 1, 1) := by decide +kernel
theorem dX12_term_59 : decode cX12_term 59 = .ok (.invokevirtual 90, 3) := by decide +kernel
theorem dX12_term_62 : decode cX12_term 62 = .ok (.pop, 1) := by decide +kernel
theorem dX12_term_63 : decode cX12_term 63 = .ok (.goto (-54), 3) := by decide +kernel
theorem dX12_term_66 : decode cX12_term 66 = .ok (.iconst 1, 1) := by decide +kernel
theorem dX12_term_67 : decode cX12_term 67 = .ok (.ireturn, 1) := by decide +kernel
theorem dX12_statement_0 : decode cX12_statement 0 = .ok (.aload_n 0, 1) := by decide +kernel
theorem dX12_statement_1 : decode cX12_statement 1 = .ok (.ldc 177, 2) := by decide +kernel
theorem dX12_statement_3 : decode cX12_statement 3 = .ok (.invokevirtual 179, 3) := by decide +kernel
theorem dX12_statement_6 : decode cX12_statement 6 = .ok (.ifCond .eq 70, 3) := by decide +kernel
theorem dX12_statement_9 : decode cX12_statement 9 = .ok (.iconst 2, 1) := by decide +kernel
theorem dX12_statement_10 : decode cX12_statement 10 = .ok (.aload_n 0, 1) := by decide +kernel
theorem dX12_statement_11 : decode cX12_statement 11 = .ok (.getfield 13, 3) := by decide +kernel
theorem dX12_statement_14 : decode cX12_statement 14 = .ok (.bipush 7, 2) := by decide +kernel
theorem dX12_statement_16 : decode cX12_statement 16 = .ok (.iaload, 1) := by decide +kernel
theorem dX12_statement_17 : decode cX12_statement 17 = .ok (.imul, 1) := by decide +kernel
theorem dX12_statement_18 : decode cX12_statement 18 = .ok (.istore_n 1, 1) := by decide +kernel
theorem dX12_statement_19 : decode cX12_statement 19 = .ok (.aload_n 0, 1) := by decide +kernel
theorem dX12_statement_20 : decode cX12_statement 20 = .ok (.iconst 0, 1) := by decide +kernel
theorem dX12_statement_21 : decode cX12_statement 21 = .ok (.bipush 8, 2) := by decide +kernel
theorem dX12_statement_23 : decode cX12_statement 23 = .ok (.invokevirtual 183, 3) := by decide +kernel
theorem dX12_statement_26 : decode cX12_statement 26 = .ok (.ifCond .eq 48, 3) := by decide +kernel
theorem dX12_statement_29 : decode cX12_statement 29 = .ok (.aload_n 0, 1) := by decide +kernel
theorem dX12_statement_30 : decode cX12_statement 30 = .ok (.aload_n 0, 1) := by decide +kernel
theorem dX12_statement_31 : decode cX12_statement 31 = .ok (.getfield 17, 3) := by decide +kernel
theorem dX12_statement_34 : decode cX12_statement 34 = .ok (.iload_n 1, 1) := by decide +kernel
theorem dX12_statement_35 : decode cX12_statement 35 = .ok (.iconst 1, 1) := by decide +kernel
theorem dX12_statement_36 : decode cX12_statement 36 = .ok (.bipush 64, 2) := by decide +kernel
theorem dX12_statement_38 : decode cX12_statement 38 = .ok (.invokevirtual 173, 3) := by decide +kernel
theorem dX12_statement_41 : decode cX12_statement 41 = .ok (.ifCond .eq 33, 3) := by decide +kernel
theorem dX12_statement_44 : decode cX12_statement 44 = .ok (.aload_n 0, 1) := by decide +kernel
theorem dX12_statement_45 : decode cX12_statement 45 = .ok (.aload_n 0, 1) := by decide +kernel
theorem dX12_statement_46 : decode cX12_statement 46 = .ok (.getfield 17, 3) := by decide +kernel
theorem dX12_statement_49 : decode cX12_statement 49 = .ok (.iload_n 1, 1) := by decide +kernel
theorem dX12_statement_50 : decode cX12_statement 50 = .ok (.iconst 1, 1) := by decide +kernel
theorem dX12_statement_51 : decode cX12_statement 51 = .ok (.iadd, 1) := by decide +kernel
theorem dX12_statement_52 : decode cX12_statement 52 = .ok (.iconst 1, 1) := by decide +kernel
theorem dX12_statement_53 : decode cX12_statement 53 = .ok (.sipush 256, 3) := by decide +kernel
theorem dX12_statement_56 : decode cX12_statement 56 = .ok (.invokevirtual 173, 3) := by decide +kernel
theorem dX12_statement_59 : decode cX12_statement 59 = .ok (.ifCond .eq 15, 3) := by decide +kernel
theorem dX12_statement_62 : decode cX12_statement 62 = .ok (.aload_n 0, 1) := by decide +kernel
theorem dX12_statement_63 : decode cX12_statement 63 = .ok (.iconst 0, 1) := by decide +kernel
theorem dX12_statement_64 : decode cX12_statement 64 = .ok (.invokevirtual 186, 3) := by decide +kernel
theorem dX12_statement_67 : decode cX12_statement 67 = .ok (.ifCond .eq 7, 3) := by decide +kernel
theorem dX12_statement_70 : decode cX12_statement 70 = .ok (.iconst 1, 1) := by decide +kernel
theorem dX12_statement_71 : decode cX12_statement 71 = .ok (.goto 4, 3) := by decide +kernel
theorem dX12_statement_74 : decode cX12_statement 74 = .ok (.iconst 0, 1) := by decide +kernel
theorem dX12_statement_75 : decode cX12_statement 75 = .ok (.ireturn, 1) := by decide +kernel
theorem dX12_statement_76 : decode cX12_statement 76 = .ok (.aload_n 0, 1) := by decide +kernel
theorem dX12_statement_77 : decode cX12_statement 77 = .ok (.ldc 189, 2) := by decide +kernel
theorem dX12_statement_79 : decode cX12_statement 79 = .ok (.invokevirtual 179, 3) := by decide +kernel
theorem dX12_statement_82 : decode cX12_statement 82 = .ok (.ifCond .eq 88, 3) := by decide +kernel
theorem dX12_statement_85 : decode cX12_statement 85 = .ok (.iconst 3, 1) := by decide +kernel
theorem dX12_statement_86 : decode cX12_statement 86 = .ok (.aload_n 0, 1) := by decide +kernel
theorem dX12_statement_87 : decode cX12_statement 87 = .ok (.getfield 13, 3) := by decide +kernel
theorem dX12_statement_90 : decode cX12_statement 90 = .ok (.bipush 8, 2) := by decide +kernel
theorem dX12_statement_92 : decode cX12_statement 92 = .ok (.iaload, 1) := by decide +kernel
theorem dX12_statement_93 : decode cX12_statement 93 = .ok (.imul, 1) := by decide +kernel
theorem dX12_statement_94 : decode cX12_statement 94 = .ok (.istore_n 1, 1) := by decide +kernel
theorem dX12_statement_95 : decode cX12_statement 95 = .ok (.aload_n 0, 1) := by decide +kernel
theorem dX12_statement_96 : decode cX12_statement 96 = .ok (.iconst 1, 1) := by decide +kernel
theorem dX12_statement_97 : decode cX12_statement 97 = .ok (.bipush 6, 2) := by decide +kernel
theorem dX12_statement_99 : decode cX12_statement 99 = .ok (.invokevirtual 183, 3) := by decide +kernel
theorem dX12_statement_102 : decode cX12_statement 102 = .ok (.ifCond .eq 66, 3) := by decide +kernel
theorem dX12_statement_105 : decode cX12_statement 105 = .ok (.aload_n 0, 1) := by decide +kernel
theorem dX12_statement_106 : decode cX12_statement 106 = .ok (.aload_n 0, 1) := by decide +kernel
theorem dX12_statement_107 : decode cX12_statement 107 = .ok (.getfield 20, 3) := by decide +kernel
theorem dX12_statement_110 : decode cX12_statement 110 = .ok (.iload_n 1, 1) := by decide +kernel
theorem dX12_statement_111 : decode cX12_statement 111 = .ok (.iconst 1, 1) := by decide +kernel
theorem dX12_statement_112 : decode cX12_statement 112 = .ok (.bipush 64, 2) := by decide +kernel
theorem dX12_statement_114 : decode cX12_statement 114 = .ok (.invokevirtual 173, 3) := by decide +kernel
theorem dX12_statement_117 : decode cX12_statement 117 = .ok (.ifCond .eq 51, 3) := by decide +kernel
theorem dX12_statement_120 : decode cX12_statement 120 = .ok (.aload_n 0, 1) := by decide +kernel
theorem dX12_statement_121 : decode cX12_statement 121 = .ok (.aload_n 0, 1) := by decide +kernel
theorem dX12_statement_122 : decode cX12_statement 122 = .ok (.getfield 20, 3) := by decide +kernel
theorem dX12_statement_125 : decode cX12_statement 125 = .ok (.iload_n 1, 1) := by decide +kernel
theorem dX12_statement_126 : decode cX12_statement 126 = .ok (.iconst 1, 1) := by decide +kernel
theorem dX12_statement_127 : decode cX12_statement 127 = .ok (.iadd, 1) := by decide +kernel
theorem dX12_statement_128 : decode cX12_statement 128 = .ok (.iconst 1, 1) := by decide +kernel
theorem dX12_statement_129 : decode cX12_statement 129 = .ok (.sipush 256, 3) := by decide +kernel
theorem dX12_statement_132 : decode cX12_statement 132 = .ok (.invokevirtual 173, 3) := by decide +kernel
theorem dX12_statement_135 : decode cX12_statement 135 = .ok (.ifCond .eq 33, 3) := by decide +kernel
theorem dX12_statement_138 : decode cX12_statement 138 = .ok (.aload_n 0, 1) := by decide +kernel
theorem dX12_statement_139 : decode cX12_statement 139 = .ok (.aload_n 0, 1) := by decide +kernel
theorem dX12_statement_140 : decode cX12_statement 140 = .ok (.getfield 20, 3) := by decide +kernel
theorem dX12_statement_143 : decode cX12_statement 143 = .ok (.iload_n 1, 1) := by decide +kernel
theorem dX12_statement_144 : decode cX12_statement 144 = .ok (.iconst 2, 1) := by decide +kernel
theorem dX12_statement_145 : decode cX12_statement 145 = .ok (.iadd, 1) := by decide +kernel
theorem dX12_statement_146 : decode cX12_statement 146 = .ok (.iconst 1, 1) := by decide +kernel
theorem dX12_statement_147 : decode cX12_statement 147 = .ok (.sipush 9999, 3) := by decide +kernel
theorem dX12_statement_150 : decode cX12_statement 150 = .ok (.invokevirtual 173, 3) := by decide +kernel
theorem dX12_statement_153 : decode cX12_statement 153 = .ok (.ifCond .eq 15, 3) := by decide +kernel
theorem dX12_statement_156 : decode cX12_statement 156 = .ok (.aload_n 0, 1) := by decide +kernel
theorem dX12_statement_157 : decode cX12_statement 157 = .ok (.iconst 1, 1) := by decide +kernel
theorem dX12_statement_158 : decode cX12_statement 158 = .ok (.invokevirtual 186, 3) := by decide +kernel
theorem dX12_statement_161 : decode cX12_statement 161 = .ok (.ifCond .eq 7, 3) := by decide +kernel
theorem dX12_statement_164 : decode cX12_statement 164 = .ok (.iconst 1, 1) := by decide +kernel
theorem dX12_statement_165 : decode cX12_statement 165 = .ok (.goto 4, 3) := by decide +kernel
theorem dX12_statement_168 : decode cX12_statement 168 = .ok (.iconst 0, 1) := by decide +kernel
theorem dX12_statement_169 : decode cX12_statement 169 = .ok (.ireturn, 1) := by decide +kernel
theorem dX12_statement_170 : decode cX12_statement 170 = .ok (.aload_n 0, 1) := by decide +kernel
theorem dX12_statement_171 : decode cX12_statement 171 = .ok (.ldc 191, 2) := by decide +kernel
theorem dX12_statement_173 : decode cX12_statement 173 = .ok (.invokevirtual 179, 3) := by decide +kernel
theorem dX12_statement_176 : decode cX12_statement 176 = .ok (.ifCond .eq 49, 3) := by decide +kernel
theorem dX12_statement_179 : decode cX12_statement 179 = .ok (.aload_n 0, 1) := by decide +kernel
theorem dX12_statement_180 : decode cX12_statement 180 = .ok (.iconst 2, 1) := by decide +kernel
theorem dX12_statement_181 : decode cX12_statement 181 = .ok (.bipush 6, 2) := by decide +kernel
theorem dX12_statement_183 : decode cX12_statement 183 = .ok (.invokevirtual 183, 3) := by decide +kernel
theorem dX12_statement_186 : decode cX12_statement 186 = .ok (.ifCond .eq 37, 3) := by decide +kernel
theorem dX12_statement_189 : decode cX12_statement 189 = .ok (.aload_n 0, 1) := by decide +kernel
theorem dX12_statement_190 : decode cX12_statement 190 = .ok (.aload_n 0, 1) := by decide +kernel
theorem dX12_statement_191 : decode cX12_statement 191 = .ok (.getfield 23, 3) := by decide +kernel
theorem dX12_statement_194 : decode cX12_statement 194 = .ok (.aload_n 0, 1) := by decide +kernel
theorem dX12_statement_195 : decode cX12_statement 195 = .ok (.getfield 13, 3) := by decide +kernel
theorem dX12_statement_198 : decode cX12_statement 198 = .ok (.bipush 9, 2) := by decide +kernel
theorem dX12_statement_200 : decode cX12_statement 200 = .ok (.iaload, 1) := by decide +kernel
theorem dX12_statement_201 : decode cX12_statement 201 = .ok (.iconst 0, 1) := by decide +kernel
theorem dX12_statement_202 : decode cX12_statement 202 = .ok (.sipush 9999, 3) := by decide +kernel
theorem dX12_statement_205 : decode cX12_statement 205 = .ok (.invokevirtual 173, 3) := by decide +kernel
theorem dX12_statement_208 : decode cX12_statement 208 = .ok (.ifCond .eq 15, 3) := by decide +kernel
theorem dX12_statement_211 : decode cX12_statement 211 = .ok (.aload_n 0, 1) := by decide +kernel
theorem dX12_statement_212 : decode cX12_statement 212 = .ok (.iconst 2, 1) := by decide +kernel
theorem dX12_statement_213 : decode cX12_statement 213 = .ok (.invokevirtual 186, 3) := by decide +kernel
theorem dX12_statement_216 : decode cX12_statement 216 = .ok (.ifCond .eq 7, 3) := by decide +kernel
theorem dX12_statement_219 : decode cX12_statement 219 = .ok (.iconst 1, 1) := by decide +kernel
theorem dX12_statement_220 : decode cX12_statement 220 = .ok (.goto 4, 3) := by decide +kernel
theorem dX12_statement_223 : decode cX12_statement 223 = .ok (.iconst 0, 1) := by decide +kernel
theorem dX12_statement_224 : decode cX12_statement 224 = .ok (.ireturn, 1) := by decide +kernel
theorem dX12_statement_225 : decode cX12_statement 225 = .ok (.aload_n 0, 1) := by decide +kernel
theorem dX12_statement_226 : decode cX12_statement 226 = .ok (.ldc 193, 2) := by decide +kernel
theorem dX12_statement_228 : decode cX12_statement 228 = .ok (.invokevirtual 179, 3) := by decide +kernel
theorem dX12_statement_231 : decode cX12_statement 231 = .ok (.ifCond .eq 44, 3) := by decide +kernel
theorem dX12_statement_234 : decode cX12_statement 234 = .ok (.aload_n 0, 1) := by decide +kernel
theorem dX12_statement_235 : decode cX12_statement 235 = .ok (.iconst 3, 1) := by decide +kernel
theorem dX12_statement_236 : decode cX12_statement 236 = .ok (.bipush 8, 2) := by decide +kernel
theorem dX12_statement_238 : decode cX12_statement 238 = .ok (.invokevirtual 183, 3) := by decide +kernel
theorem dX12_statement_241 : decode cX12_statement 241 = .ok (.ifCond .eq 32, 3) := by decide +kernel
theorem dX12_statement_244 : decode cX12_statement 244 = .ok (.aload_n 0, 1) := by decide +kernel
theorem dX12_statement_245 : decode cX12_statement 245 = .ok (.bipush 6, 2) := by decide +kernel
theorem dX12_statement_247 : decode cX12_statement 247 = .ok (.aload_n 0, 1) := by decide +kernel
theorem dX12_statement_248 : decode cX12_statement 248 = .ok (.getfield 13, 3) := by decide +kernel
theorem dX12_statement_251 : decode cX12_statement 251 = .ok (.bipush 10, 2) := by decide +kernel
theorem dX12_statement_253 : decode cX12_statement 253 = .ok (.iaload, 1) := by decide +kernel
theorem dX12_statement_254 : decode cX12_statement 254 = .ok (.imul, 1) := by decide +kernel
theorem dX12_statement_255 : decode cX12_statement 255 = .ok (.invokevirtual 195, 3) := by decide +kernel
theorem dX12_statement_258 : decode cX12_statement 258 = .ok (.ifCond .eq 15, 3) := by decide +kernel
theorem dX12_statement_261 : decode cX12_statement 261 = .ok (.aload_n 0, 1) := by decide +kernel
theorem dX12_statement_262 : decode cX12_statement 262 = .ok (.iconst 3, 1) := by decide +kernel
theorem dX12_statement_263 : decode cX12_statement 263 = .ok (.invokevirtual 186, 3) := by decide +kernel
theorem dX12_statement_266 : decode cX12_statement 266 = .ok (.ifCond .eq 7, 3) := by decide +kernel
theorem dX12_statement_269 : decode cX12_statement 269 = .ok (.iconst 1, 1) := by decide +kernel
theorem dX12_statement_270 : decode cX12_statement 270 = .ok (.goto 4, 3) := by decide +kernel
theorem dX12_statement_273 : decode cX12_statement 273 = .ok (.iconst 0, 1) := by decide +kernel
theorem dX12_statement_274 : decode cX12_statement 274 = .ok (.ireturn, 1) := by decide +kernel
theorem dX12_statement_275 : decode cX12_statement 275 = .ok (.aload_n 0, 1) := by decide +kernel
theorem dX12_statement_276 : decode cX12_statement 276 = .ok (.ldc 198, 2) := by decide +kernel
theorem dX12_statement_278 : decode cX12_statement 278 = .ok (.invokevirtual 179, 3) := by decide +kernel
theorem dX12_statement_281 : decode cX12_statement 281 = .ok (.ifCond .eq 28, 3) := by decide +kernel
theorem dX12_statement_284 : decode cX12_statement 284 = .ok (.aload_n 0, 1) := by decide +kernel
theorem dX12_statement_285 : decode cX12_statement 285 = .ok (.iconst 0, 1) := by decide +kernel
theorem dX12_statement_286 : decode cX12_statement 286 = .ok (.invokevirtual 200, 3) := by decide +kernel
theorem dX12_statement_289 : decode cX12_statement 289 = .ok (.ifCond .eq 18, 3) := by decide +kernel
theorem dX12_statement_292 : decode cX12_statement 292 = .ok (.aload_n 0, 1) := by decide +kernel
theorem dX12_statement_293 : decode cX12_statement 293 = .ok (.iconst 4, 1) := by decide +kernel
theorem dX12_statement_294 : decode cX12_statement 294 = .ok (.iconst 1, 1) := by decide +kernel
theorem dX12_statement_295 : decode cX12_statement 295 = .ok (.bipush 100, 2) := by decide +kernel
theorem dX12_statement_297 : decode cX12_statement 297 = .ok (.invokevirtual 203, 3) := by decide +kernel
theorem dX12_statement_300 : decode cX12_statement 300 = .ok (.ifCond .eq 7, 3) := by decide +kernel
theorem dX12_statement_303 : decode cX12_statement 303 = .ok (.iconst 1, 1) := by decide +kernel
theorem dX12_statement_304 : decode cX12_statement 304 = .ok (.goto 4, 3) := by decide +kernel
theorem dX12_statement_307 : decode cX12_statement 307 = .ok (.iconst 0, 1) := by decide +kernel
theorem dX12_statement_308 : decode cX12_statement 308 = .ok (.ireturn, 1) := by decide +kernel
theorem dX12_statement_309 : decode cX12_statement 309 = .ok (.aload_n 0, 1) := by decide +kernel
theorem dX12_statement_310 : decode cX12_statement 310 = .ok (.ldc 207, 2) := by decide +kernel
theorem dX12_statement_312 : decode cX12_statement 312 = .ok (.invokevirtual 179, 3) := by decide +kernel
theorem dX12_statement_315 : decode cX12_statement 315 = .ok (.ifCond .eq 28, 3) := by decide +kernel
theorem dX12_statement_318 : decode cX12_statement 318 = .ok (.aload_n 0, 1) := by decide +kernel
theorem dX12_statement_319 : decode cX12_statement 319 = .ok (.iconst 1, 1) := by decide +kernel
theorem dX12_statement_320 : decode cX12_statement 320 = .ok (.invokevirtual 200, 3) := by decide +kernel
theorem dX12_statement_323 : decode cX12_statement 323 = .ok (.ifCond .eq 18, 3) := by decide +kernel
theorem dX12_statement_326 : decode cX12_statement 326 = .ok (.aload_n 0, 1) := by decide +kernel
theorem dX12_statement_327 : decode cX12_statement 327 = .ok (.iconst 5, 1) := by decide +kernel
theorem dX12_statement_328 : decode cX12_statement 328 = .ok (.iconst 0, 1) := by decide +kernel
theorem dX12_statement_329 : decode cX12_statement 329 = .ok (.bipush 48, 2) := by decide +kernel
theorem dX12_statement_331 : decode cX12_statement 331 = .ok (.invokevirtual 203, 3) := by decide +kernel
theorem dX12_statement_334 : decode cX12_statement 334 = .ok (.ifCond .eq 7, 3) := by decide +kernel
theorem dX12_statement_337 : decode cX12_statement 337 = .ok (.iconst 1, 1) := by decide +kernel
theorem dX12_statement_338 : decode cX12_statement 338 = .ok (.goto 4, 3) := by decide +kernel
theorem dX12_statement_341 : decode cX12_statement 341 = .ok (.iconst 0, 1) := by decide +kernel
theorem dX12_statement_342 : decode cX12_statement 342 = .ok (.ireturn, 1) := by decide +kernel
theorem dX12_statement_343 : decode cX12_statement 343 = .ok (.aload_n 0, 1) := by decide +kernel
theorem dX12_statement_344 : decode cX12_statement 344 = .ok (.ldc 209, 2) := by decide +kernel
theorem dX12_statement_346 : decode cX12_statement 346 = .ok (.invokevirtual 179, 3) := by decide +kernel
theorem dX12_statement_349 : decode cX12_statement 349 = .ok (.ifCond .eq 30, 3) := by decide +kernel
theorem dX12_statement_352 : decode cX12_statement 352 = .ok (.aload_n 0, 1) := by decide +kernel
theorem dX12_statement_353 : decode cX12_statement 353 = .ok (.iconst 2, 1) := by decide +kernel
theorem dX12_statement_354 : decode cX12_statement 354 = .ok (.invokevirtual 200, 3) := by decide +kernel
theorem dX12_statement_357 : decode cX12_statement 357 = .ok (.ifCond .eq 20, 3) := by decide +kernel
theorem dX12_statement_360 : decode cX12_statement 360 = .ok (.aload_n 0, 1) := by decide +kernel
theorem dX12_statement_361 : decode cX12_statement 361 = .ok (.bipush 6, 2) := by decide +kernel
theorem dX12_statement_363 : decode cX12_statement 363 = .ok (.iconst 0, 1) := by decide +kernel
theorem dX12_statement_364 : decode cX12_statement 364 = .ok (.sipush 400, 3) := by decide +kernel
theorem dX12_statement_367 : decode cX12_statement 367 = .ok (.invokevirtual 203, 3) := by decide +kernel
theorem dX12_statement_370 : decode cX12_statement 370 = .ok (.ifCond .eq 7, 3) := by decide +kernel
theorem dX12_statement_373 : decode cX12_statement 373 = .ok (.iconst 1, 1) := by decide +kernel
theorem dX12_statement_374 : decode cX12_statement 374 = .ok (.goto 4, 3) := by decide +kernel
theorem dX12_statement_377 : decode cX12_statement 377 = .ok (.iconst 0, 1) := by decide +kernel
theorem dX12_statement_378 : decode cX12_statement 378 = .ok (.ireturn, 1) := by decide +kernel
theorem dX12_statement_379 : decode cX12_statement 379 = .ok (.aload_n 0, 1) := by decide +kernel
theorem dX12_statement_380 : decode cX12_statement 380 = .ok (.ldc 211, 2) := by decide +kernel
theorem dX12_statement_382 : decode cX12_statement 382 = .ok (.invokevirtual 179, 3) := by decide +kernel
theorem dX12_statement_385 : decode cX12_statement 385 = .ok (.ifCond .ne 9, 3) := by decide +kernel
theorem dX12_statement_388 : decode cX12_statement 388 = .ok (.aload_n 0, 1) := by decide +kernel
theorem dX12_statement_389 : decode cX12_statement 389 = .ok (.iconst 1, 1) := by decide +kernel
theorem dX12_statement_390 : decode cX12_statement 390 = .ok (.invokevirtual 147, 3) := by decide +kernel
theorem dX12_statement_393 : decode cX12_statement 393 = .ok (.ireturn, 1) := by decide +kernel
theorem dX12_statement_394 : decode cX12_statement 394 = .ok (.aload_n 0, 1) := by decide +kernel
theorem dX12_statement_395 : decode cX12_statement 395 = .ok (.getfield 29, 3) := by decide +kernel
theorem dX12_statement_398 : decode cX12_statement 398 = .ok (.iconst 1, 1) := by decide +kernel
theorem dX12_statement_399 : decode cX12_statement 399 = .ok (.iconst 0, 1) := by decide +kernel
theorem dX12_statement_400 : decode cX12_statement 400 = .ok (.iastore, 1) := by decide +kernel
theorem dX12_statement_401 : decode cX12_statement 401 = .ok (.aload_n 0, 1) := by decide +kernel
theorem dX12_statement_402 : decode cX12_statement 402 = .ok (.iconst 0, 1) := by decide +kernel
theorem dX12_statement_403 : decode cX12_statement 403 = .ok (.putfield 213, 3) := by decide +kernel
theorem dX12_statement_406 : decode cX12_statement 406 = .ok (.aload_n 0, 1) := by decide +kernel
theorem dX12_statement_407 : decode cX12_statement 407 = .ok (.iconst 3, 1) := by decide +kernel
theorem dX12_statement_408 : decode cX12_statement 408 = .ok (.invokevirtual 200, 3) := by decide +kernel
theorem dX12_statement_411 : decode cX12_statement 411 = .ok (.ifCond .eq 14, 3) := by decide +kernel
theorem dX12_statement_414 : decode cX12_statement 414 = .ok (.aload_n 0, 1) := by decide +kernel
theorem dX12_statement_415 : decode cX12_statement 415 = .ok (.invokevirtual 216, 3) := by decide +kernel
theorem dX12_statement_418 : decode cX12_statement 418 = .ok (.ifCond .eq 7, 3) := by decide +kernel
theorem dX12_statement_421 : decode cX12_statement 421 = .ok (.iconst 1, 1) := by decide +kernel
theorem dX12_statement_422 : decode cX12_statement 422 = .ok (.goto 4, 3) := by decide +kernel
theorem dX12_statement_425 : decode cX12_statement 425 = .ok (.iconst 0, 1) := by decide +kernel
theorem dX12_statement_426 : decode cX12_statement 426 = .ok (.ireturn, 1) := by decide +kernel
theorem dX12_joined_0 : decode cX12_joined 0 = .ok (.iload_n 0, 1) := by decide +kernel
theorem dX12_joined_1 : decode cX12_joined 1 = .ok (.tableswitch 39 (-3) (-1) #[35, 31, 27], 27) := by decide +kernel
theorem dX12_joined_28 : decode cX12_joined 28 = .ok (.iload_n 1, 1) := by decide +kernel
theorem dX12_joined_29 : decode cX12_joined 29 = .ok (.iload_n 2, 1) := by decide +kernel
theorem dX12_joined_30 : decode cX12_joined 30 = .ok (.iadd, 1) := by decide +kernel
theorem dX12_joined_31 : decode cX12_joined 31 = .ok (.ireturn, 1) := by decide +kernel
theorem dX12_joined_32 : decode cX12_joined 32 = .ok (.iload_n 1, 1) := by decide +kernel
theorem dX12_joined_33 : decode cX12_joined 33 = .ok (.iload_n 2, 1) := by decide +kernel
theorem dX12_joined_34 : decode cX12_joined 34 = .ok (.isub, 1) := by decide +kernel
theorem dX12_joined_35 : decode cX12_joined 35 = .ok (.ireturn, 1) := by decide +kernel
theorem dX12_joined_36 : decode cX12_joined 36 = .ok (.iload_n 1, 1) := by decide +kernel
theorem dX12_joined_37 : decode cX12_joined 37 = .ok (.iload_n 2, 1) := by decide +kernel
theorem dX12_joined_38 : decode cX12_joined 38 = .ok (.imul, 1) := by decide +kernel
theorem dX12_joined_39 : decode cX12_joined 39 = .ok (.ireturn, 1) := by decide +kernel
theorem dX12_joined_40 : decode cX12_joined 40 = .ok (.iload_n 2, 1) := by decide +kernel
theorem dX12_joined_41 : decode cX12_joined 41 = .ok (.ifCond .ne 7, 3) := by decide +kernel
theorem dX12_joined_44 : decode cX12_joined 44 = .ok (.iconst 0, 1) := by decide +kernel
theorem dX12_joined_45 : decode cX12_joined 45 = .ok (.goto 6, 3) := by decide +kernel
theorem dX12_joined_48 : decode cX12_joined 48 = .ok (.iload_n 1, 1) := by decide +kernel
theorem dX12_joined_49 : decode cX12_joined 49 = .ok (.iload_n 2, 1) := by decide +kernel
theorem dX12_joined_50 : decode cX12_joined 50 = .ok (.idiv, 1) := by decide +kernel
theorem dX12_joined_51 : decode cX12_joined 51 = .ok (.ireturn, 1) := by decide +kernel
theorem dX12_costOf_0 : decode cX12_costOf 0 = .ok (.iconst 0, 1) := by decide +kernel
theorem dX12_costOf_1 : decode cX12_costOf 1 = .ok (.istore_n 2, 1) := by decide +kernel
theorem dX12_costOf_2 : decode cX12_costOf 2 = .ok (.iconst 0, 1) := by decide +kernel
theorem dX12_costOf_3 : decode cX12_costOf 3 = .ok (.istore_n 3, 1) := by decide +kernel
theorem dX12_costOf_4 : decode cX12_costOf 4 = .ok (.iload_n 3, 1) := by decide +kernel
theorem dX12_costOf_5 : decode cX12_costOf 5 = .ok (.aload_n 0, 1) := by decide +kernel
theorem dX12_costOf_6 : decode cX12_costOf 6 = .ok (.getfield 29, 3) := by decide +kernel
theorem dX12_costOf_9 : decode cX12_costOf 9 = .ok (.iconst 0, 1) := by decide +kernel
theorem dX12_costOf_10 : decode cX12_costOf 10 = .ok (.iaload, 1) := by decide +kernel
theorem dX12_costOf_11 : decode cX12_costOf 11 = .ok (.if_icmp .ge 124, 3) := by decide +kernel
theorem dX12_costOf_14 : decode cX12_costOf 14 = .ok (.aload_n 0, 1) := by decide +kernel
theorem dX12_costOf_15 : decode cX12_costOf 15 = .ok (.getfield 32, 3) := by decide +kernel
theorem dX12_costOf_18 : decode cX12_costOf 18 = .ok (.iload_n 3, 1) := by decide +kernel
theorem dX12_costOf_19 : decode cX12_costOf 19 = .ok (.iaload, 1) := by decide +kernel
theorem dX12_costOf_20 : decode cX12_costOf 20 = .ok (.istore 4, 2) := by decide +kernel
theorem dX12_costOf_22 : decode cX12_costOf 22 = .ok (.iload 4, 2) := by decide +kernel
theorem dX12_costOf_24 : decode cX12_costOf 24 = .ok (.ifCond .le 75, 3) := by decide +kernel
theorem dX12_costOf_27 : decode cX12_costOf 27 = .ok (.aload_n 0, 1) := by decide +kernel
theorem dX12_costOf_28 : decode cX12_costOf 28 = .ok (.getfield 43, 3) := by decide +kernel
theorem dX12_costOf_31 : decode cX12_costOf 31 = .ok (.iload_n 2, 1) := by decide +kernel
theorem dX12_costOf_32 : decode cX12_costOf 32 = .ok (.iload 4, 2) := by decide +kernel
theorem dX12_costOf_34 : decode cX12_costOf 34 = .ok (.bipush 100, 2) := by decide +kernel
theorem dX12_costOf_36 : decode cX12_costOf 36 = .ok (.if_icmp .lt 11, 3) := by decide +kernel
theorem dX12_costOf_39 : decode cX12_costOf 39 = .ok (.iload 4, 2) := by decide +kernel
theorem dX12_costOf_41 : decode cX12_costOf 41 = .ok (.bipush 100, 2) := by decide +kernel
theorem dX12_costOf_43 : decode cX12_costOf 43 = .ok (.isub, 1) := by decide +kernel
theorem dX12_costOf_44 : decode cX12_costOf 44 = .ok (.goto 48, 3) := by decide +kernel
theorem dX12_costOf_47 : decode cX12_costOf 47 = .ok (.iload 4, 2) := by decide +kernel
theorem dX12_costOf_49 : decode cX12_costOf 49 = .ok (.iconst 4, 1) := by decide +kernel
theorem dX12_costOf_50 : decode cX12_costOf 50 = .ok (.if_icmp .ne 24, 3) := by decide +kernel
theorem dX12_costOf_53 : decode cX12_costOf 53 = .ok (.aload_n 0, 1) := by decide +kernel
theorem dX12_costOf_54 : decode cX12_costOf 54 = .ok (.getfield 7, 3) := by decide +kernel
theorem dX12_costOf_57 : decode cX12_costOf 57 = .ok (.iconst 0, 1) := by decide +kernel
theorem dX12_costOf_58 : decode cX12_costOf 58 = .ok (.laload, 1) := by decide +kernel
theorem dX12_costOf_59 : decode cX12_costOf 59 = .ok (.aload_n 0, 1) := by decide +kernel
theorem dX12_costOf_60 : decode cX12_costOf 60 = .ok (.getfield 7, 3) := by decide +kernel
theorem dX12_costOf_63 : decode cX12_costOf 63 = .ok (.iload_n 1, 1) := by decide +kernel
theorem dX12_costOf_64 : decode cX12_costOf 64 = .ok (.iconst 5, 1) := by decide +kernel
theorem dX12_costOf_65 : decode cX12_costOf 65 = .ok (.invokestatic 238, 3) := by decide +kernel
theorem dX12_costOf_68 : decode cX12_costOf 68 = .ok (.laload, 1) := by decide +kernel
theorem dX12_costOf_69 : decode cX12_costOf 69 = .ok (.lsub, 1) := by decide +kernel
theorem dX12_costOf_70 : decode cX12_costOf 70 = .ok (.l2i, 1) := by decide +kernel
theorem dX12_costOf_71 : decode cX12_costOf 71 = .ok (.goto 21, 3) := by decide +kernel
theorem dX12_costOf_74 : decode cX12_costOf 74 = .ok (.aload_n 0, 1) := by decide +kernel
theorem dX12_costOf_75 : decode cX12_costOf 75 = .ok (.getfield 20, 3) := by decide +kernel
theorem dX12_costOf_78 : decode cX12_costOf 78 = .ok (.iconst 3, 1) := by decide +kernel
theorem dX12_costOf_79 : decode cX12_costOf 79 = .ok (.aload_n 0, 1) := by decide +kernel
theorem dX12_costOf_80 : decode cX12_costOf 80 = .ok (.iload_n 1, 1) := by decide +kernel
theorem dX12_costOf_81 : decode cX12_costOf 81 = .ok (.iconst 1, 1) := by decide +kernel
theorem dX12_costOf_82 : decode cX12_costOf 82 = .ok (.invokevirtual 242, 3) := by decide +kernel
theorem dX12_costOf_85 : decode cX12_costOf 85 = .ok (.imul, 1) := by decide +kernel
theorem dX12_costOf_86 : decode cX12_costOf 86 = .ok (.iload 4, 2) := by decide +kernel
theorem dX12_costOf_88 : decode cX12_costOf 88 = .ok (.iadd, 1) := by decide +kernel
theorem dX12_costOf_89 : decode cX12_costOf 89 = .ok (.iconst 1, 1) := by decide +kernel
theorem dX12_costOf_90 : decode cX12_costOf 90 = .ok (.isub, 1) := by decide +kernel
theorem dX12_costOf_91 : decode cX12_costOf 91 = .ok (.iaload, 1) := by decide +kernel
theorem dX12_costOf_92 : decode cX12_costOf 92 = .ok (.iastore, 1) := by decide +kernel
theorem dX12_costOf_93 : decode cX12_costOf 93 = .ok (.iinc 2 1, 3) := by decide +kernel
theorem dX12_costOf_96 : decode cX12_costOf 96 = .ok (.goto 33, 3) := by decide +kernel
theorem dX12_costOf_99 : decode cX12_costOf 99 = .ok (.iinc 2 (-1), 3) := by decide +kernel
theorem dX12_costOf_102 : decode cX12_costOf 102 = .ok (.aload_n 0, 1) := by decide +kernel
theorem dX12_costOf_103 : decode cX12_costOf 103 = .ok (.getfield 43, 3) := by decide +kernel
theorem dX12_costOf_106 : decode cX12_costOf 106 = .ok (.iload_n 2, 1) := by decide +kernel
theorem dX12_costOf_107 : decode cX12_costOf 107 = .ok (.iconst 1, 1) := by decide +kernel
theorem dX12_costOf_108 : decode cX12_costOf 108 = .ok (.isub, 1) := by decide +kernel
theorem dX12_costOf_109 : decode cX12_costOf 109 = .ok (.iload 4, 2) := by decide +kernel
theorem dX12_costOf_111 : decode cX12_costOf 111 = .ok (.aload_n 0, 1) := by decide +kernel
theorem dX12_costOf_112 : decode cX12_costOf 112 = .ok (.getfield 43, 3) := by decide +kernel
theorem dX12_costOf_115 : decode cX12_costOf 115 = .ok (.iload_n 2, 1) := by decide +kernel
theorem dX12_costOf_116 : decode cX12_costOf 116 = .ok (.iconst 1, 1) := by decide +kernel
theorem dX12_costOf_117 : decode cX12_costOf 117 = .ok (.isub, 1) := by decide +kernel
theorem dX12_costOf_118 : decode cX12_costOf 118 = .ok (.iaload, 1) := by decide +kernel
theorem dX12_costOf_119 : decode cX12_costOf 119 = .ok (.aload_n 0, 1) := by decide +kernel
theorem dX12_costOf_120 : decode cX12_costOf 120 = .ok (.getfield 43, 3) := by decide +kernel
theorem dX12_costOf_123 : decode cX12_costOf 123 = .ok (.iload_n 2, 1) := by decide +kernel
theorem dX12_costOf_124 : decode cX12_costOf 124 = .ok (.iaload, 1) := by decide +kernel
theorem dX12_costOf_125 : decode cX12_costOf 125 = .ok (.invokestatic 245, 3) := by decide +kernel
theorem dX12_costOf_128 : decode cX12_costOf 128 = .ok (.iastore, 1) := by decide +kernel
theorem dX12_costOf_129 : decode cX12_costOf 129 = .ok (.iinc 3 1, 3) := by decide +kernel
theorem dX12_costOf_132 : decode cX12_costOf 132 = .ok (.goto (-128), 3) := by decide +kernel
theorem dX12_costOf_135 : decode cX12_costOf 135 = .ok (.aload_n 0, 1) := by decide +kernel
theorem dX12_costOf_136 : decode cX12_costOf 136 = .ok (.getfield 43, 3) := by decide +kernel
theorem dX12_costOf_139 : decode cX12_costOf 139 = .ok (.iconst 0, 1) := by decide +kernel
theorem dX12_costOf_140 : decode cX12_costOf 140 = .ok (.iaload, 1) := by decide +kernel
theorem dX12_costOf_141 : decode cX12_costOf 141 = .ok (.ifCond .ge 7, 3) := by decide +kernel
theorem dX12_costOf_144 : decode cX12_costOf 144 = .ok (.iconst 0, 1) := by decide +kernel
theorem dX12_costOf_145 : decode cX12_costOf 145 = .ok (.goto 9, 3) := by decide +kernel
theorem dX12_costOf_148 : decode cX12_costOf 148 = .ok (.aload_n 0, 1) := by decide +kernel
theorem dX12_costOf_149 : decode cX12_costOf 149 = .ok (.getfield 43, 3) := by decide +kernel
theorem dX12_costOf_152 : decode cX12_costOf 152 = .ok (.iconst 0, 1) := by decide +kernel
theorem dX12_costOf_153 : decode cX12_costOf 153 = .ok (.iaload, 1) := by decide +kernel
theorem dX12_costOf_154 : decode cX12_costOf 154 = .ok (.ireturn, 1) := by decide +kernel
theorem dX12_parse_0 : decode cX12_parse 0 = .ok (.aload_n 0, 1) := by decide +kernel
theorem dX12_parse_1 : decode cX12_parse 1 = .ok (.iconst 0, 1) := by decide +kernel
theorem dX12_parse_2 : decode cX12_parse 2 = .ok (.putfield 83, 3) := by decide +kernel
theorem dX12_parse_5 : decode cX12_parse 5 = .ok (.aload_n 0, 1) := by decide +kernel
theorem dX12_parse_6 : decode cX12_parse 6 = .ok (.iload_n 1, 1) := by decide +kernel
theorem dX12_parse_7 : decode cX12_parse 7 = .ok (.i2l, 1) := by decide +kernel
theorem dX12_parse_8 : decode cX12_parse 8 = .ok (.lconst 0, 1) := by decide +kernel
theorem dX12_parse_9 : decode cX12_parse 9 = .ok (.aload_n 0, 1) := by decide +kernel
theorem dX12_parse_10 : decode cX12_parse 10 = .ok (.getfield 94, 3) := by decide +kernel
theorem dX12_parse_13 : decode cX12_parse 13 = .ok (.i2l, 1) := by decide +kernel
theorem dX12_parse_14 : decode cX12_parse 14 = .ok (.invokestatic 124, 3) := by decide +kernel
theorem dX12_parse_17 : decode cX12_parse 17 = .ok (.ifCond .ne 7, 3) := by decide +kernel
theorem dX12_parse_20 : decode cX12_parse 20 = .ok (.iconst 1, 1) := by decide +kernel
theorem dX12_parse_21 : decode cX12_parse 21 = .ok (.goto 4, 3) := by decide +kernel
theorem dX12_parse_24 : decode cX12_parse 24 = .ok (.iconst 0, 1) := by decide +kernel
theorem dX12_parse_25 : decode cX12_parse 25 = .ok (.iconst 1, 1) := by decide +kernel
theorem dX12_parse_26 : decode cX12_parse 26 = .ok (.invokevirtual 249, 3) := by decide +kernel
theorem dX12_parse_29 : decode cX12_parse 29 = .ok (.ifCond .eq 5, 3) := by decide +kernel
theorem dX12_parse_32 : decode cX12_parse 32 = .ok (.iconst 0, 1) := by decide +kernel
theorem dX12_parse_33 : decode cX12_parse 33 = .ok (.ireturn, 1) := by decide +kernel
theorem dX12_parse_34 : decode cX12_parse 34 = .ok (.aload_n 0, 1) := by decide +kernel
theorem dX12_parse_35 : decode cX12_parse 35 = .ok (.iload_n 1, 1) := by decide +kernel
theorem dX12_parse_36 : decode cX12_parse 36 = .ok (.putfield 101, 3) := by decide +kernel
theorem dX12_parse_39 : decode cX12_parse 39 = .ok (.aload_n 0, 1) := by decide +kernel
theorem dX12_parse_40 : decode cX12_parse 40 = .ok (.iconst 0, 1) := by decide +kernel
theorem dX12_parse_41 : decode cX12_parse 41 = .ok (.putfield 94, 3) := by decide +kernel
theorem dX12_parse_44 : decode cX12_parse 44 = .ok (.aload_n 0, 1) := by decide +kernel
theorem dX12_parse_45 : decode cX12_parse 45 = .ok (.iconst 0, 1) := by decide +kernel
theorem dX12_parse_46 : decode cX12_parse 46 = .ok (.putfield 104, 3) := by decide +kernel
theorem dX12_parse_49 : decode cX12_parse 49 = .ok (.aload_n 0, 1) := by decide +kernel
theorem dX12_parse_50 : decode cX12_parse 50 = .ok (.iconst 0, 1) := by decide +kernel
theorem dX12_parse_51 : decode cX12_parse 51 = .ok (.putfield 144, 3) := by decide +kernel
theorem dX12_parse_54 : decode cX12_parse 54 = .ok (.aload_n 0, 1) := by decide +kernel
theorem dX12_parse_55 : decode cX12_parse 55 = .ok (.iconst (-1), 1) := by decide +kernel
theorem dX12_parse_56 : decode cX12_parse 56 = .ok (.putfield 39, 3) := by decide +kernel
theorem dX12_parse_59 : decode cX12_parse 59 = .ok (.aload_n 0, 1) := by decide +kernel
theorem dX12_parse_60 : decode cX12_parse 60 = .ok (.iconst 0, 1) := by decide +kernel
theorem dX12_parse_61 : decode cX12_parse 61 = .ok (.putfield 156, 3) := by decide +kernel
theorem dX12_parse_64 : decode cX12_parse 64 = .ok (.aload_n 0, 1) := by decide +kernel
theorem dX12_parse_65 : decode cX12_parse 65 = .ok (.invokevirtual 74, 3) := by decide +kernel
