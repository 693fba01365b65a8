theorem dX12_drainTo_2 : decode cX12_drainTo 2 = .ok (.invokevirtual 289, 3) := by decide +kernel
theorem dX12_drainTo_5 : decode cX12_drainTo 5 = .ok (.ifCond .ne 11, 3) := by decide +kernel
theorem dX12_drainTo_8 : decode cX12_drainTo 8 = .ok (.aload_n 0, 1) := by decide +kernel
theorem dX12_drainTo_9 : decode cX12_drainTo 9 = .ok (.iload_n 2, 1) := by decide +kernel
theorem dX12_drainTo_10 : decode cX12_drainTo 10 = .ok (.invokevirtual 304, 3) := by decide +kernel
theorem dX12_drainTo_13 : decode cX12_drainTo 13 = .ok (.ifCond .eq 5, 3) := by decide +kernel
theorem dX12_drainTo_16 : decode cX12_drainTo 16 = .ok (.iconst 0, 1) := by decide +kernel
theorem dX12_drainTo_17 : decode cX12_drainTo 17 = .ok (.ireturn, 1) := by decide +kernel
theorem dX12_drainTo_18 : decode cX12_drainTo 18 = .ok (.aload_n 0, 1) := by decide +kernel
theorem dX12_drainTo_19 : decode cX12_drainTo 19 = .ok (.iload_n 1, 1) := by decide +kernel
theorem dX12_drainTo_20 : decode cX12_drainTo 20 = .ok (.invokevirtual 292, 3) := by decide +kernel
theorem dX12_drainTo_23 : decode cX12_drainTo 23 = .ok (.istore_n 3, 1) := by decide +kernel
theorem dX12_drainTo_24 : decode cX12_drainTo 24 = .ok (.aload_n 0, 1) := by decide +kernel
theorem dX12_drainTo_25 : decode cX12_drainTo 25 = .ok (.iload_n 3, 1) := by decide +kernel
theorem dX12_drainTo_26 : decode cX12_drainTo 26 = .ok (.iload_n 2, 1) := by decide +kernel
theorem dX12_drainTo_27 : decode cX12_drainTo 27 = .ok (.invokestatic 159, 3) := by decide +kernel
theorem dX12_drainTo_30 : decode cX12_drainTo 30 = .ok (.ifCond .eq 11, 3) := by decide +kernel
theorem dX12_drainTo_33 : decode cX12_drainTo 33 = .ok (.iload_n 3, 1) := by decide +kernel
theorem dX12_drainTo_34 : decode cX12_drainTo 34 = .ok (.invokestatic 347, 3) := by decide +kernel
theorem dX12_drainTo_37 : decode cX12_drainTo 37 = .ok (.iconst 5, 1) := by decide +kernel
theorem dX12_drainTo_38 : decode cX12_drainTo 38 = .ok (.if_icmp .le 7, 3) := by decide +kernel
theorem dX12_drainTo_41 : decode cX12_drainTo 41 = .ok (.iconst 1, 1) := by decide +kernel
theorem dX12_drainTo_42 : decode cX12_drainTo 42 = .ok (.goto 4, 3) := by decide +kernel
theorem dX12_drainTo_45 : decode cX12_drainTo 45 = .ok (.iconst 0, 1) := by decide +kernel
theorem dX12_drainTo_46 : decode cX12_drainTo 46 = .ok (.iconst 2, 1) := by decide +kernel
theorem dX12_drainTo_47 : decode cX12_drainTo 47 = .ok (.invokevirtual 249, 3) := by decide +kernel
theorem dX12_drainTo_50 : decode cX12_drainTo 50 = .ok (.ifCond .eq 5, 3) := by decide +kernel
theorem dX12_drainTo_53 : decode cX12_drainTo 53 = .ok (.iconst 0, 1) := by decide +kernel
theorem dX12_drainTo_54 : decode cX12_drainTo 54 = .ok (.ireturn, 1) := by decide +kernel
theorem dX12_drainTo_55 : decode cX12_drainTo 55 = .ok (.aload_n 0, 1) := by decide +kernel
theorem dX12_drainTo_56 : decode cX12_drainTo 56 = .ok (.iload_n 1, 1) := by decide +kernel
theorem dX12_drainTo_57 : decode cX12_drainTo 57 = .ok (.iload_n 3, 1) := by decide +kernel
theorem dX12_drainTo_58 : decode cX12_drainTo 58 = .ok (.iconst 0, 1) := by decide +kernel
theorem dX12_drainTo_59 : decode cX12_drainTo 59 = .ok (.invokevirtual 353, 3) := by decide +kernel
theorem dX12_drainTo_62 : decode cX12_drainTo 62 = .ok (.ifCond .eq 12, 3) := by decide +kernel
theorem dX12_drainTo_65 : decode cX12_drainTo 65 = .ok (.aload_n 0, 1) := by decide +kernel
theorem dX12_drainTo_66 : decode cX12_drainTo 66 = .ok (.getfield 58, 3) := by decide +kernel
theorem dX12_drainTo_69 : decode cX12_drainTo 69 = .ok (.iload_n 2, 1) := by decide +kernel
theorem dX12_drainTo_70 : decode cX12_drainTo 70 = .ok (.iaload, 1) := by decide +kernel
theorem dX12_drainTo_71 : decode cX12_drainTo 71 = .ok (.goto 4, 3) := by decide +kernel
theorem dX12_drainTo_74 : decode cX12_drainTo 74 = .ok (.iconst (-1), 1) := by decide +kernel
theorem dX12_drainTo_75 : decode cX12_drainTo 75 = .ok (.ireturn, 1) := by decide +kernel
theorem dX12_beginsOne_0 : decode cX12_beginsOne 0 = .ok (.iconst 0, 1) := by decide +kernel
theorem dX12_beginsOne_1 : decode cX12_beginsOne 1 = .ok (.istore 5, 2) := by decide +kernel
theorem dX12_beginsOne_3 : decode cX12_beginsOne 3 = .ok (.aload_n 0, 1) := by decide +kernel
theorem dX12_beginsOne_4 : decode cX12_beginsOne 4 = .ok (.iload 5, 2) := by decide +kernel
theorem dX12_beginsOne_6 : decode cX12_beginsOne 6 = .ok (.invokevirtual 264, 3) := by decide +kernel
theorem dX12_beginsOne_9 : decode cX12_beginsOne 9 = .ok (.ifCond .eq 9, 3) := by decide +kernel
theorem dX12_beginsOne_12 : decode cX12_beginsOne 12 = .ok (.iinc 5 1, 3) := by decide +kernel
theorem dX12_beginsOne_15 : decode cX12_beginsOne 15 = .ok (.goto (-12), 3) := by decide +kernel
theorem dX12_beginsOne_18 : decode cX12_beginsOne 18 = .ok (.aload_n 0, 1) := by decide +kernel
theorem dX12_beginsOne_19 : decode cX12_beginsOne 19 = .ok (.getfield 7, 3) := by decide +kernel
theorem dX12_beginsOne_22 : decode cX12_beginsOne 22 = .ok (.iload 5, 2) := by decide +kernel
theorem dX12_beginsOne_24 : decode cX12_beginsOne 24 = .ok (.iconst 0, 1) := by decide +kernel
theorem dX12_beginsOne_25 : decode cX12_beginsOne 25 = .ok (.invokestatic 238, 3) := by decide +kernel
theorem dX12_beginsOne_28 : decode cX12_beginsOne 28 = .ok (.iload_n 1, 1) := by decide +kernel
theorem dX12_beginsOne_29 : decode cX12_beginsOne 29 = .ok (.i2l, 1) := by decide +kernel
theorem dX12_beginsOne_30 : decode cX12_beginsOne 30 = .ok (.lastore, 1) := by decide +kernel
theorem dX12_beginsOne_31 : decode cX12_beginsOne 31 = .ok (.aload_n 0, 1) := by decide +kernel
theorem dX12_beginsOne_32 : decode cX12_beginsOne 32 = .ok (.getfield 7, 3) := by decide +kernel
theorem dX12_beginsOne_35 : decode cX12_beginsOne 35 = .ok (.iload 5, 2) := by decide +kernel
theorem dX12_beginsOne_37 : decode cX12_beginsOne 37 = .ok (.iconst 1, 1) := by decide +kernel
theorem dX12_beginsOne_38 : decode cX12_beginsOne 38 = .ok (.invokestatic 238, 3) := by decide +kernel
theorem dX12_beginsOne_41 : decode cX12_beginsOne 41 = .ok (.iload_n 2, 1) := by decide +kernel
theorem dX12_beginsOne_42 : decode cX12_beginsOne 42 = .ok (.i2l, 1) := by decide +kernel
theorem dX12_beginsOne_43 : decode cX12_beginsOne 43 = .ok (.lastore, 1) := by decide +kernel
theorem dX12_beginsOne_44 : decode cX12_beginsOne 44 = .ok (.aload_n 0, 1) := by decide +kernel
theorem dX12_beginsOne_45 : decode cX12_beginsOne 45 = .ok (.getfield 7, 3) := by decide +kernel
theorem dX12_beginsOne_48 : decode cX12_beginsOne 48 = .ok (.iload 5, 2) := by decide +kernel
theorem dX12_beginsOne_50 : decode cX12_beginsOne 50 = .ok (.iconst 2, 1) := by decide +kernel
theorem dX12_beginsOne_51 : decode cX12_beginsOne 51 = .ok (.invokestatic 238, 3) := by decide +kernel
theorem dX12_beginsOne_54 : decode cX12_beginsOne 54 = .ok (.iload_n 3, 1) := by decide +kernel
theorem dX12_beginsOne_55 : decode cX12_beginsOne 55 = .ok (.i2l, 1) := by decide +kernel
theorem dX12_beginsOne_56 : decode cX12_beginsOne 56 = .ok (.lastore, 1) := by decide +kernel
theorem dX12_beginsOne_57 : decode cX12_beginsOne 57 = .ok (.aload_n 0, 1) := by decide +kernel
theorem dX12_beginsOne_58 : decode cX12_beginsOne 58 = .ok (.getfield 7, 3) := by decide +kernel
theorem dX12_beginsOne_61 : decode cX12_beginsOne 61 = .ok (.iload 5, 2) := by decide +kernel
theorem dX12_beginsOne_63 : decode cX12_beginsOne 63 = .ok (.iconst 3, 1) := by decide +kernel
theorem dX12_beginsOne_64 : decode cX12_beginsOne 64 = .ok (.invokestatic 238, 3) := by decide +kernel
theorem dX12_beginsOne_67 : decode cX12_beginsOne 67 = .ok (.iload 4, 2) := by decide +kernel
theorem dX12_beginsOne_69 : decode cX12_beginsOne 69 = .ok (.i2l, 1) := by decide +kernel
theorem dX12_beginsOne_70 : decode cX12_beginsOne 70 = .ok (.lastore, 1) := by decide +kernel
theorem dX12_beginsOne_71 : decode cX12_beginsOne 71 = .ok (.aload_n 0, 1) := by decide +kernel
theorem dX12_beginsOne_72 : decode cX12_beginsOne 72 = .ok (.getfield 7, 3) := by decide +kernel
theorem dX12_beginsOne_75 : decode cX12_beginsOne 75 = .ok (.iload 5, 2) := by decide +kernel
theorem dX12_beginsOne_77 : decode cX12_beginsOne 77 = .ok (.iconst 4, 1) := by decide +kernel
theorem dX12_beginsOne_78 : decode cX12_beginsOne 78 = .ok (.invokestatic 238, 3) := by decide +kernel
theorem dX12_beginsOne_81 : decode cX12_beginsOne 81 = .ok (.ldc2_w 256, 3) := by decide +kernel
theorem dX12_beginsOne_84 : decode cX12_beginsOne 84 = .ok (.lastore, 1) := by decide +kernel
theorem dX12_beginsOne_85 : decode cX12_beginsOne 85 = .ok (.aload_n 0, 1) := by decide +kernel
theorem dX12_beginsOne_86 : decode cX12_beginsOne 86 = .ok (.getfield 7, 3) := by decide +kernel
theorem dX12_beginsOne_89 : decode cX12_beginsOne 89 = .ok (.iload 5, 2) := by decide +kernel
theorem dX12_beginsOne_91 : decode cX12_beginsOne 91 = .ok (.iconst 5, 1) := by decide +kernel
theorem dX12_beginsOne_92 : decode cX12_beginsOne 92 = .ok (.invokestatic 238, 3) := by decide +kernel
theorem dX12_beginsOne_95 : decode cX12_beginsOne 95 = .ok (.aload_n 0, 1) := by decide +kernel
theorem dX12_beginsOne_96 : decode cX12_beginsOne 96 = .ok (.getfield 7, 3) := by decide +kernel
theorem dX12_beginsOne_99 : decode cX12_beginsOne 99 = .ok (.iconst 0, 1) := by decide +kernel
theorem dX12_beginsOne_100 : decode cX12_beginsOne 100 = .ok (.laload, 1) := by decide +kernel
theorem dX12_beginsOne_101 : decode cX12_beginsOne 101 = .ok (.lastore, 1) := by decide +kernel
theorem dX12_beginsOne_102 : decode cX12_beginsOne 102 = .ok (.iload 5, 2) := by decide +kernel
theorem dX12_beginsOne_104 : decode cX12_beginsOne 104 = .ok (.ireturn, 1) := by decide +kernel
theorem dX12_beginsRequest_0 : decode cX12_beginsRequest 0 = .ok (.aload_n 0, 1) := by decide +kernel
theorem dX12_beginsRequest_1 : decode cX12_beginsRequest 1 = .ok (.getfield 7, 3) := by decide +kernel
theorem dX12_beginsRequest_4 : decode cX12_beginsRequest 4 = .ok (.bipush 86, 2) := by decide +kernel
theorem dX12_beginsRequest_6 : decode cX12_beginsRequest 6 = .ok (.iconst 3, 1) := by decide +kernel
theorem dX12_beginsRequest_7 : decode cX12_beginsRequest 7 = .ok (.iload_n 1, 1) := by decide +kernel
theorem dX12_beginsRequest_8 : decode cX12_beginsRequest 8 = .ok (.imul, 1) := by decide +kernel
theorem dX12_beginsRequest_9 : decode cX12_beginsRequest 9 = .ok (.iadd, 1) := by decide +kernel
theorem dX12_beginsRequest_10 : decode cX12_beginsRequest 10 = .ok (.laload, 1) := by decide +kernel
theorem dX12_beginsRequest_11 : decode cX12_beginsRequest 11 = .ok (.l2i, 1) := by decide +kernel
theorem dX12_beginsRequest_12 : decode cX12_beginsRequest 12 = .ok (.istore_n 2, 1) := by decide +kernel
theorem dX12_beginsRequest_13 : decode cX12_beginsRequest 13 = .ok (.aload_n 0, 1) := by decide +kernel
theorem dX12_beginsRequest_14 : decode cX12_beginsRequest 14 = .ok (.getfield 7, 3) := by decide +kernel
theorem dX12_beginsRequest_17 : decode cX12_beginsRequest 17 = .ok (.bipush 86, 2) := by decide +kernel
theorem dX12_beginsRequest_19 : decode cX12_beginsRequest 19 = .ok (.iconst 3, 1) := by decide +kernel
theorem dX12_beginsRequest_20 : decode cX12_beginsRequest 20 = .ok (.iload_n 1, 1) := by decide +kernel
theorem dX12_beginsRequest_21 : decode cX12_beginsRequest 21 = .ok (.imul, 1) := by decide +kernel
theorem dX12_beginsRequest_22 : decode cX12_beginsRequest 22 = .ok (.iadd, 1) := by decide +kernel
theorem dX12_beginsRequest_23 : decode cX12_beginsRequest 23 = .ok (.iconst 1, 1) := by decide +kernel
theorem dX12_beginsRequest_24 : decode cX12_beginsRequest 24 = .ok (.iadd, 1) := by decide +kernel
theorem dX12_beginsRequest_25 : decode cX12_beginsRequest 25 = .ok (.laload, 1) := by decide +kernel
theorem dX12_beginsRequest_26 : decode cX12_beginsRequest 26 = .ok (.l2i, 1) := by decide +kernel
theorem dX12_beginsRequest_27 : decode cX12_beginsRequest 27 = .ok (.istore_n 3, 1) := by decide +kernel
theorem dX12_beginsRequest_28 : decode cX12_beginsRequest 28 = .ok (.aload_n 0, 1) := by decide +kernel
theorem dX12_beginsRequest_29 : decode cX12_beginsRequest 29 = .ok (.iload_n 1, 1) := by decide +kernel
theorem dX12_beginsRequest_30 : decode cX12_beginsRequest 30 = .ok (.invokevirtual 307, 3) := by decide +kernel
theorem dX12_beginsRequest_33 : decode cX12_beginsRequest 33 = .ok (.istore 4, 2) := by decide +kernel
theorem dX12_beginsRequest_35 : decode cX12_beginsRequest 35 = .ok (.aload_n 0, 1) := by decide +kernel
theorem dX12_beginsRequest_36 : decode cX12_beginsRequest 36 = .ok (.iload_n 3, 1) := by decide +kernel
theorem dX12_beginsRequest_37 : decode cX12_beginsRequest 37 = .ok (.invokevirtual 298, 3) := by decide +kernel
theorem dX12_beginsRequest_40 : decode cX12_beginsRequest 40 = .ok (.istore 5, 2) := by decide +kernel
theorem dX12_beginsRequest_42 : decode cX12_beginsRequest 42 = .ok (.iload 4, 2) := by decide +kernel
theorem dX12_beginsRequest_44 : decode cX12_beginsRequest 44 = .ok (.i2l, 1) := by decide +kernel
theorem dX12_beginsRequest_45 : decode cX12_beginsRequest 45 = .ok (.aload_n 0, 1) := by decide +kernel
theorem dX12_beginsRequest_46 : decode cX12_beginsRequest 46 = .ok (.getfield 7, 3) := by decide +kernel
theorem dX12_beginsRequest_49 : decode cX12_beginsRequest 49 = .ok (.iconst 2, 1) := by decide +kernel
theorem dX12_beginsRequest_50 : decode cX12_beginsRequest 50 = .ok (.iload_n 3, 1) := by decide +kernel
theorem dX12_beginsRequest_51 : decode cX12_beginsRequest 51 = .ok (.iadd, 1) := by decide +kernel
theorem dX12_beginsRequest_52 : decode cX12_beginsRequest 52 = .ok (.laload, 1) := by decide +kernel
theorem dX12_beginsRequest_53 : decode cX12_beginsRequest 53 = .ok (.lcmp, 1) := by decide +kernel
theorem dX12_beginsRequest_54 : decode cX12_beginsRequest 54 = .ok (.ifCond .lt 21, 3) := by decide +kernel
theorem dX12_beginsRequest_57 : decode cX12_beginsRequest 57 = .ok (.aload_n 0, 1) := by decide +kernel
theorem dX12_beginsRequest_58 : decode cX12_beginsRequest 58 = .ok (.invokevirtual 301, 3) := by decide +kernel
theorem dX12_beginsRequest_61 : decode cX12_beginsRequest 61 = .ok (.invokestatic 347, 3) := by decide +kernel
theorem dX12_beginsRequest_64 : decode cX12_beginsRequest 64 = .ok (.bipush 12, 2) := by decide +kernel
theorem dX12_beginsRequest_66 : decode cX12_beginsRequest 66 = .ok (.if_icmp .eq 9, 3) := by decide +kernel
theorem dX12_beginsRequest_69 : decode cX12_beginsRequest 69 = .ok (.iload 5, 2) := by decide +kernel
theorem dX12_beginsRequest_71 : decode cX12_beginsRequest 71 = .ok (.iconst (-1), 1) := by decide +kernel
theorem dX12_beginsRequest_72 : decode cX12_beginsRequest 72 = .ok (.if_icmp .ne 5, 3) := by decide +kernel
theorem dX12_beginsRequest_75 : decode cX12_beginsRequest 75 = .ok (.iconst 0, 1) := by decide +kernel
theorem dX12_beginsRequest_76 : decode cX12_beginsRequest 76 = .ok (.ireturn, 1) := by decide +kernel
theorem dX12_beginsRequest_77 : decode cX12_beginsRequest 77 = .ok (.aload_n 0, 1) := by decide +kernel
theorem dX12_beginsRequest_78 : decode cX12_beginsRequest 78 = .ok (.iload_n 2, 1) := by decide +kernel
theorem dX12_beginsRequest_79 : decode cX12_beginsRequest 79 = .ok (.iload_n 3, 1) := by decide +kernel
theorem dX12_beginsRequest_80 : decode cX12_beginsRequest 80 = .ok (.iload 5, 2) := by decide +kernel
theorem dX12_beginsRequest_82 : decode cX12_beginsRequest 82 = .ok (.iload 4, 2) := by decide +kernel
theorem dX12_beginsRequest_84 : decode cX12_beginsRequest 84 = .ok (.invokevirtual 362, 3) := by decide +kernel
theorem dX12_beginsRequest_87 : decode cX12_beginsRequest 87 = .ok (.pop, 1) := by decide +kernel
theorem dX12_beginsRequest_88 : decode cX12_beginsRequest 88 = .ok (.aload_n 0, 1) := by decide +kernel
theorem dX12_beginsRequest_89 : decode cX12_beginsRequest 89 = .ok (.iload_n 1, 1) := by decide +kernel
theorem dX12_beginsRequest_90 : decode cX12_beginsRequest 90 = .ok (.invokevirtual 366, 3) := by decide +kernel
theorem dX12_beginsRequest_93 : decode cX12_beginsRequest 93 = .ok (.iconst 1, 1) := by decide +kernel
theorem dX12_beginsRequest_94 : decode cX12_beginsRequest 94 = .ok (.ireturn, 1) := by decide +kernel
theorem dX12_hour_0 : decode cX12_hour 0 = .ok (.iconst 0, 1) := by decide +kernel
theorem dX12_hour_1 : decode cX12_hour 1 = .ok (.istore_n 1, 1) := by decide +kernel
theorem dX12_hour_2 : decode cX12_hour 2 = .ok (.iload_n 1, 1) := by decide +kernel
theorem dX12_hour_3 : decode cX12_hour 3 = .ok (.aload_n 0, 1) := by decide +kernel
theorem dX12_hour_4 : decode cX12_hour 4 = .ok (.getfield 13, 3) := by decide +kernel
theorem dX12_hour_7 : decode cX12_hour 7 = .ok (.iconst 2, 1) := by decide +kernel
theorem dX12_hour_8 : decode cX12_hour 8 = .ok (.iaload, 1) := by decide +kernel
theorem dX12_hour_9 : decode cX12_hour 9 = .ok (.if_icmp .ge 27, 3) := by decide +kernel
theorem dX12_hour_12 : decode cX12_hour 12 = .ok (.aload_n 0, 1) := by decide +kernel
theorem dX12_hour_13 : decode cX12_hour 13 = .ok (.getfield 7, 3) := by decide +kernel
theorem dX12_hour_16 : decode cX12_hour 16 = .ok (.bipush 8, 2) := by decide +kernel
theorem dX12_hour_18 : decode cX12_hour 18 = .ok (.iload_n 1, 1) := by decide +kernel
theorem dX12_hour_19 : decode cX12_hour 19 = .ok (.iadd, 1) := by decide +kernel
theorem dX12_hour_20 : decode cX12_hour 20 = .ok (.dup2, 1) := by decide +kernel
theorem dX12_hour_21 : decode cX12_hour 21 = .ok (.laload, 1) := by decide +kernel
theorem dX12_hour_22 : decode cX12_hour 22 = .ok (.aload_n 0, 1) := by decide +kernel
theorem dX12_hour_23 : decode cX12_hour 23 = .ok (.iload_n 1, 1) := by decide +kernel
theorem dX12_hour_24 : decode cX12_hour 24 = .ok (.invokevirtual 332, 3) := by decide +kernel
theorem dX12_hour_27 : decode cX12_hour 27 = .ok (.i2l, 1) := by decide +kernel
theorem dX12_hour_28 : decode cX12_hour 28 = .ok (.ladd, 1) := by decide +kernel
theorem dX12_hour_29 : decode cX12_hour 29 = .ok (.lastore, 1) := by decide +kernel
theorem dX12_hour_30 : decode cX12_hour 30 = .ok (.iinc 1 1, 3) := by decide +kernel
theorem dX12_hour_33 : decode cX12_hour 33 = .ok (.goto (-31), 3) := by decide +kernel
theorem dX12_hour_36 : decode cX12_hour 36 = .ok (.aload_n 0, 1) := by decide +kernel
theorem dX12_hour_37 : decode cX12_hour 37 = .ok (.getfield 7, 3) := by decide +kernel
theorem dX12_hour_40 : decode cX12_hour 40 = .ok (.iconst 0, 1) := by decide +kernel
theorem dX12_hour_41 : decode cX12_hour 41 = .ok (.dup2, 1) := by decide +kernel
theorem dX12_hour_42 : decode cX12_hour 42 = .ok (.laload, 1) := by decide +kernel
theorem dX12_hour_43 : decode cX12_hour 43 = .ok (.lconst 1, 1) := by decide +kernel
theorem dX12_hour_44 : decode cX12_hour 44 = .ok (.ladd, 1) := by decide +kernel
theorem dX12_hour_45 : decode cX12_hour 45 = .ok (.lastore, 1) := by decide +kernel
theorem dX12_hour_46 : decode cX12_hour 46 = .ok (.aload_n 0, 1) := by decide +kernel
theorem dX12_hour_47 : decode cX12_hour 47 = .ok (.iconst 0, 1) := by decide +kernel
theorem dX12_hour_48 : decode cX12_hour 48 = .ok (.putfield 356, 3) := by decide +kernel
theorem dX12_hour_51 : decode cX12_hour 51 = .ok (.iconst 0, 1) := by decide +kernel
theorem dX12_hour_52 : decode cX12_hour 52 = .ok (.istore_n 1, 1) := by decide +kernel
theorem dX12_hour_53 : decode cX12_hour 53 = .ok (.iload_n 1, 1) := by decide +kernel
theorem dX12_hour_54 : decode cX12_hour 54 = .ok (.bipush 12, 2) := by decide +kernel
theorem dX12_hour_56 : decode cX12_hour 56 = .ok (.if_icmp .ge 72, 3) := by decide +kernel
theorem dX12_hour_59 : decode cX12_hour 59 = .ok (.aload_n 0, 1) := by decide +kernel
theorem dX12_hour_60 : decode cX12_hour 60 = .ok (.iload_n 1, 1) := by decide +kernel
theorem dX12_hour_61 : decode cX12_hour 61 = .ok (.invokevirtual 264, 3) := by decide +kernel
theorem dX12_hour_64 : decode cX12_hour 64 = .ok (.ifCond .eq 58, 3) := by decide +kernel
theorem dX12_hour_67 : decode cX12_hour 67 = .ok (.aload_n 0, 1) := by decide +kernel
theorem dX12_hour_68 : decode cX12_hour 68 = .ok (.iload_n 1, 1) := by decide +kernel
theorem dX12_hour_69 : decode cX12_hour 69 = .ok (.iconst 4, 1) := by decide +kernel
theorem dX12_hour_70 : decode cX12_hour 70 = .ok (.invokevirtual 242, 3) := by decide +kernel
theorem dX12_hour_73 : decode cX12_hour 73 = .ok (.iconst (-1), 1) := by decide +kernel
theorem dX12_hour_74 : decode cX12_hour 74 = .ok (.if_icmp .eq 48, 3) := by decide +kernel
theorem dX12_hour_77 : decode cX12_hour 77 = .ok (.aload_n 0, 1) := by decide +kernel
theorem dX12_hour_78 : decode cX12_hour 78 = .ok (.getfield 7, 3) := by decide +kernel
theorem dX12_hour_81 : decode cX12_hour 81 = .ok (.iload_n 1, 1) := by decide +kernel
theorem dX12_hour_82 : decode cX12_hour 82 = .ok (.iconst 4, 1) := by decide +kernel
theorem dX12_hour_83 : decode cX12_hour 83 = .ok (.invokestatic 238, 3) := by decide +kernel
theorem dX12_hour_86 : decode cX12_hour 86 = .ok (.laload, 1) := by decide +kernel
theorem dX12_hour_87 : decode cX12_hour 87 = .ok (.aload_n 0, 1) := by decide +kernel
theorem dX12_hour_88 : decode cX12_hour 88 = .ok (.getfield 7, 3) := by decide +kernel
theorem dX12_hour_91 : decode cX12_hour 91 = .ok (.iconst 0, 1) := by decide +kernel
theorem dX12_hour_92 : decode cX12_hour 92 = .ok (.laload, 1) := by decide +kernel
theorem dX12_hour_93 : decode cX12_hour 93 = .ok (.lcmp, 1) := by decide +kernel
theorem dX12_hour_94 : decode cX12_hour 94 = .ok (.ifCond .gt 28, 3) := by decide +kernel
theorem dX12_hour_97 : decode cX12_hour 97 = .ok (.aload_n 0, 1) := by decide +kernel
theorem dX12_hour_98 : decode cX12_hour 98 = .ok (.getfield 7, 3) := by decide +kernel
theorem dX12_hour_101 : decode cX12_hour 101 = .ok (.iload_n 1, 1) := by decide +kernel
theorem dX12_hour_102 : decode cX12_hour 102 = .ok (.iconst 0, 1) := by decide +kernel
theorem dX12_hour_103 : decode cX12_hour 103 = .ok (.invokestatic 238, 3) := by decide +kernel
theorem dX12_hour_106 : decode cX12_hour 106 = .ok (.ldc2_w 256, 3) := by decide +kernel
theorem dX12_hour_109 : decode cX12_hour 109 = .ok (.lastore, 1) := by decide +kernel
theorem dX12_hour_110 : decode cX12_hour 110 = .ok (.aload_n 0, 1) := by decide +kernel
theorem dX12_hour_111 : decode cX12_hour 111 = .ok (.dup, 1) := by decide +kernel
theorem dX12_hour_112 : decode cX12_hour 112 = .ok (.getfield 356, 3) := by decide +kernel
theorem dX12_hour_115 : decode cX12_hour 115 = .ok (.iconst 1, 1) := by decide +kernel
theorem dX12_hour_116 : decode cX12_hour 116 = .ok (.iload_n 1, 1) := by decide +kernel
theorem dX12_hour_117 : decode cX12_hour 117 = .ok (.ishl, 1) := by decide +kernel
theorem dX12_hour_118 : decode cX12_hour 118 = .ok (.ior, 1) := by decide +kernel
theorem dX12_hour_119 : decode cX12_hour 119 = .ok (.putfield 356, 3) := by decide +kernel
theorem dX12_hour_122 : decode cX12_hour 122 = .ok (.iinc 1 1, 3) := by decide +kernel
theorem dX12_hour_125 : decode cX12_hour 125 = .ok (.goto (-72), 3) := by decide +kernel
theorem dX12_hour_128 : decode cX12_hour 128 = .ok (.aload_n 0, 1) := by decide +kernel
theorem dX12_hour_129 : decode cX12_hour 129 = .ok (.invokevirtual 258, 3) := by decide +kernel
theorem dX12_hour_132 : decode cX12_hour 132 = .ok (.iconst 0, 1) := by decide +kernel
theorem dX12_hour_133 : decode cX12_hour 133 = .ok (.istore_n 1, 1) := by decide +kernel
theorem dX12_hour_134 : decode cX12_hour 134 = .ok (.iload_n 1, 1) := by decide +kernel
theorem dX12_hour_135 : decode cX12_hour 135 = .ok (.bipush 12, 2) := by decide +kernel
theorem dX12_hour_137 : decode cX12_hour 137 = .ok (.if_icmp .ge 127, 3) := by decide +kernel
theorem dX12_hour_140 : decode cX12_hour 140 = .ok (.aload_n 0, 1) := by decide +kernel
theorem dX12_hour_141 : decode cX12_hour 141 = .ok (.iload_n 1, 1) := by decide +kernel
theorem dX12_hour_142 : decode cX12_hour 142 = .ok (.invokevirtual 264, 3) := by decide +kernel
theorem dX12_hour_145 : decode cX12_hour 145 = .ok (.ifCond .eq 113, 3) := by decide +kernel
theorem dX12_hour_148 : decode cX12_hour 148 = .ok (.aload_n 0, 1) := by decide +kernel
theorem dX12_hour_149 : decode cX12_hour 149 = .ok (.iload_n 1, 1) := by decide +kernel
theorem dX12_hour_150 : decode cX12_hour 150 = .ok (.iconst 3, 1) := by decide +kernel
theorem dX12_hour_151 : decode cX12_hour 151 = .ok (.invokevirtual 242, 3) := by decide +kernel
theorem dX12_hour_154 : decode cX12_hour 154 = .ok (.iconst (-1), 1) := by decide +kernel
theorem dX12_hour_155 : decode cX12_hour 155 = .ok (.if_icmp .eq 103, 3) := by decide +kernel
theorem dX12_hour_158 : decode cX12_hour 158 = .ok (.aload_n 0, 1) := by decide +kernel
theorem dX12_hour_159 : decode cX12_hour 159 = .ok (.getfield 7, 3) := by decide +kernel
theorem dX12_hour_162 : decode cX12_hour 162 = .ok (.iload_n 1, 1) := by decide +kernel
theorem dX12_hour_163 : decode cX12_hour 163 = .ok (.iconst 3, 1) := by decide +kernel
theorem dX12_hour_164 : decode cX12_hour 164 = .ok (.invokestatic 238, 3) := by decide +kernel
theorem dX12_hour_167 : decode cX12_hour 167 = .ok (.laload, 1) := by decide +kernel
theorem dX12_hour_168 : decode cX12_hour 168 = .ok (.aload_n 0, 1) := by decide +kernel
theorem dX12_hour_169 : decode cX12_hour 169 = .ok (.getfield 7, 3) := by decide +kernel
theorem dX12_hour_172 : decode cX12_hour 172 = .ok (.iconst 2, 1) := by decide +kernel
theorem dX12_hour_173 : decode cX12_hour 173 = .ok (.aload_n 0, 1) := by decide +kernel
theorem dX12_hour_174 : decode cX12_hour 174 = .ok (.iload_n 1, 1) := by decide +kernel
theorem dX12_hour_175 : decode cX12_hour 175 = .ok (.iconst 1, 1) := by decide +kernel
theorem dX12_hour_176 : decode cX12_hour 176 = .ok (.invokevirtual 242, 3) := by decide +kernel
theorem dX12_hour_179 : decode cX12_hour 179 = .ok (.iadd, 1) := by decide +kernel
theorem dX12_hour_180 : decode cX12_hour 180 = .ok (.laload, 1) := by decide +kernel
theorem dX12_hour_181 : decode cX12_hour 181 = .ok (.lcmp, 1) := by decide +kernel
theorem dX12_hour_182 : decode cX12_hour 182 = .ok (.ifCond .ge 7, 3) := by decide +kernel
theorem dX12_hour_185 : decode cX12_hour 185 = .ok (.iconst 1, 1) := by decide +kernel
theorem dX12_hour_186 : decode cX12_hour 186 = .ok (.goto 4, 3) := by decide +kernel
theorem dX12_hour_189 : decode cX12_hour 189 = .ok (.iconst 0, 1) := by decide +kernel
theorem dX12_hour_190 : decode cX12_hour 190 = .ok (.istore_n 2, 1) := by decide +kernel
theorem dX12_hour_191 : decode cX12_hour 191 = .ok (.aload_n 0, 1) := by decide +kernel
theorem dX12_hour_192 : decode cX12_hour 192 = .ok (.iload_n 1, 1) := by decide +kernel
theorem dX12_hour_193 : decode cX12_hour 193 = .ok (.iconst 4, 1) := by decide +kernel
theorem dX12_hour_194 : decode cX12_hour 194 = .ok (.invokevirtual 242, 3) := by decide +kernel
theorem dX12_hour_197 : decode cX12_hour 197 = .ok (.iconst (-1), 1) := by decide +kernel
theorem dX12_hour_198 : decode cX12_hour 198 = .ok (.if_icmp .ne 7, 3) := by decide +kernel
theorem dX12_hour_201 : decode cX12_hour 201 = .ok (.iconst 1, 1) := by decide +kernel
theorem dX12_hour_202 : decode cX12_hour 202 = .ok (.goto 4, 3) := by decide +kernel
theorem dX12_hour_205 : decode cX12_hour 205 = .ok (.iconst 0, 1) := by decide +kernel
theorem dX12_hour_206 : decode cX12_hour 206 = .ok (.istore_n 3, 1) := by decide +kernel
theorem dX12_hour_207 : decode cX12_hour 207 = .ok (.aload_n 0, 1) := by decide +kernel
theorem dX12_hour_208 : decode cX12_hour 208 = .ok (.getfield 7, 3) := by decide +kernel
theorem dX12_hour_211 : decode cX12_hour 211 = .ok (.iload_n 1, 1) := by decide +kernel
theorem dX12_hour_212 : decode cX12_hour 212 = .ok (.iconst 4, 1) := by decide +kernel
theorem dX12_hour_213 : decode cX12_hour 213 = .ok (.invokestatic 238, 3) := by decide +kernel
theorem dX12_hour_216 : decode cX12_hour 216 = .ok (.iload_n 2, 1) := by decide +kernel
theorem dX12_hour_217 : decode cX12_hour 217 = .ok (.ifCond .ne 9, 3) := by decide +kernel
theorem dX12_hour_220 : decode cX12_hour 220 = .ok (.ldc2_w 256, 3) := by decide +kernel
theorem dX12_hour_223 : decode cX12_hour 223 = .ok (.goto 34, 3) := by decide +kernel
theorem dX12_hour_226 : decode cX12_hour 226 = .ok (.iload_n 3, 1) := by decide +kernel
theorem dX12_hour_227 : decode cX12_hour 227 = .ok (.ifCond .eq 20, 3) := by decide +kernel
theorem dX12_hour_230 : decode cX12_hour 230 = .ok (.aload_n 0, 1) := by decide +kernel
theorem dX12_hour_231 : decode cX12_hour 231 = .ok (.getfield 7, 3) := by decide +kernel
theorem dX12_hour_234 : decode cX12_hour 234 = .ok (.iconst 0, 1) := by decide +kernel
theorem dX12_hour_235 : decode cX12_hour 235 = .ok (.laload, 1) := by decide +kernel
theorem dX12_hour_236 : decode cX12_hour 236 = .ok (.aload_n 0, 1) := by decide +kernel
theorem dX12_hour_237 : decode cX12_hour 237 = .ok (.getfield 13, 3) := by decide +kernel
theorem dX12_hour_240 : decode cX12_hour 240 = .ok (.iconst 5, 1) := by decide +kernel
theorem dX12_hour_241 : decode cX12_hour 241 = .ok (.iaload, 1) := by decide +kernel
theorem dX12_hour_242 : decode cX12_hour 242 = .ok (.i2l, 1) := by decide +kernel
theorem dX12_hour_243 : decode cX12_hour 243 = .ok (.ladd, 1) := by decide +kernel
theorem dX12_hour_244 : decode cX12_hour 244 = .ok (.goto 13, 3) := by decide +kernel
theorem dX12_hour_247 : decode cX12_hour 247 = .ok (.aload_n 0, 1) := by decide +kernel
theorem dX12_hour_248 : decode cX12_hour 248 = .ok (.getfield 7, 3) := by decide +kernel
theorem dX12_hour_251 : decode cX12_hour 251 = .ok (.iload_n 1, 1) := by decide +kernel
theorem dX12_hour_252 : decode cX12_hour 252 = .ok (.iconst 4, 1) := by decide +kernel
theorem dX12_hour_253 : decode cX12_hour 253 = .ok (.invokestatic 238, 3) := by decide +kernel
theorem dX12_hour_256 : decode cX12_hour 256 = .ok (.laload, 1) := by decide +kernel
theorem dX12_hour_257 : decode cX12_hour 257 = .ok (.lastore, 1) := by decide +kernel
theorem dX12_hour_258 : decode cX12_hour 258 = .ok (.iinc 1 1, 3) := by decide +kernel
theorem dX12_hour_261 : decode cX12_hour 261 = .ok (.goto (-127), 3) := by decide +kernel
theorem dX12_hour_264 : decode cX12_hour 264 = .ok (.iconst 0, 1) := by decide +kernel
theorem dX12_hour_265 : decode cX12_hour 265 = .ok (.istore_n 1, 1) := by decide +kernel
theorem dX12_hour_266 : decode cX12_hour 266 = .ok (.aload_n 0, 1) := by decide +kernel
theorem dX12_hour_267 : decode cX12_hour 267 = .ok (.iload_n 1, 1) := by decide +kernel
theorem dX12_hour_268 : decode cX12_hour 268 = .ok (.invokevirtual 310, 3) := by decide +kernel
theorem dX12_hour_271 : decode cX12_hour 271 = .ok (.istore_n 2, 1) := by decide +kernel
theorem dX12_hour_272 : decode cX12_hour 272 = .ok (.iload_n 2, 1) := by decide +kernel
theorem dX12_hour_273 : decode cX12_hour 273 = .ok (.iconst (-1), 1) := by decide +kernel
theorem dX12_hour_274 : decode cX12_hour 274 = .ok (.if_icmp .eq 23, 3) := by decide +kernel
theorem dX12_hour_277 : decode cX12_hour 277 = .ok (.aload_n 0, 1) := by decide +kernel
theorem dX12_hour_278 : decode cX12_hour 278 = .ok (.iload_n 2, 1) := by decide +kernel
theorem dX12_hour_279 : decode cX12_hour 279 = .ok (.invokevirtual 359, 3) := by decide +kernel
theorem dX12_hour_282 : decode cX12_hour 282 = .ok (.ifCond .ne 6, 3) := by decide +kernel
theorem dX12_hour_285 : decode cX12_hour 285 = .ok (.iinc 1 1, 3) := by decide +kernel
theorem dX12_hour_288 : decode cX12_hour 288 = .ok (.aload_n 0, 1) := by decide +kernel
theorem dX12_hour_289 : decode cX12_hour 289 = .ok (.iload_n 1, 1) := by decide +kernel
theorem dX12_hour_290 : decode cX12_hour 290 = .ok (.invokevirtual 310, 3) := by decide +kernel
theorem dX12_hour_293 : decode cX12_hour 293 = .ok (.istore_n 2, 1) := by decide +kernel
theorem dX12_hour_294 : decode cX12_hour 294 = .ok (.goto (-22), 3) := by decide +kernel
theorem dX12_hour_297 : decode cX12_hour 297 = .ok (.return_, 1) := by decide +kernel
theorem dX12_copies_0 : decode cX12_copies 0 = .ok (.iconst 0, 1) := by decide +kernel
theorem dX12_copies_1 : decode cX12_copies 1 = .ok (.istore 5, 2) := by decide +kernel
theorem dX12_copies_3 : decode cX12_copies 3 = .ok (.iload 5, 2) := by decide +kernel
theorem dX12_copies_5 : decode cX12_copies 5 = .ok (.iload 4, 2) := by decide +kernel
theorem dX12_copies_7 : decode cX12_copies 7 = .ok (.if_icmp .ge 21, 3) := by decide +kernel
theorem dX12_copies_10 : decode cX12_copies 10 = .ok (.aload_n 2, 1) := by decide +kernel
theorem dX12_copies_11 : decode cX12_copies 11 = .ok (.iload_n 3, 1) := by decide +kernel
theorem dX12_copies_12 : decode cX12_copies 12 = .ok (.iload 5, 2) := by decide +kernel
theorem dX12_copies_14 : decode cX12_copies 14 = .ok (.iadd, 1) := by decide +kernel
theorem dX12_copies_15 : decode cX12_copies 15 = .ok (.aload_n 0, 1) := by decide +kernel
theorem dX12_copies_16 : decode cX12_copies 16 = .ok (.iload_n 1, 1) := by decide +kernel
theorem dX12_copies_17 : decode cX12_copies 17 = .ok (.iload 5, 2) := by decide +kernel
theorem dX12_copies_19 : decode cX12_copies 19 = .ok (.iadd, 1) := by decide +kernel
theorem dX12_copies_20 : decode cX12_copies 20 = .ok (.laload, 1) := by decide +kernel
theorem dX12_copies_21 : decode cX12_copies 21 = .ok (.lastore, 1) := by decide +kernel
theorem dX12_copies_22 : decode cX12_copies 22 = .ok (.iinc 5 1, 3) := by decide +kernel
theorem dX12_copies_25 : decode cX12_copies 25 = .ok (.goto (-22), 3) := by decide +kernel
theorem dX12_copies_28 : decode cX12_copies 28 = .ok (.return_, 1) := by decide +kernel
theorem dX12_priceAfter_0 : decode cX12_priceAfter 0 = .ok (.aload_n 0, 1) := by decide +kernel
theorem dX12_priceAfter_1 : decode cX12_priceAfter 1 = .ok (.iload_n 1, 1) := by decide +kernel
theorem dX12_priceAfter_2 : decode cX12_priceAfter 2 = .ok (.invokevirtual 295, 3) := by decide +kernel
theorem dX12_priceAfter_5 : decode cX12_priceAfter 5 = .ok (.ifCond .ne 28, 3) := by decide +kernel
theorem dX12_priceAfter_8 : decode cX12_priceAfter 8 = .ok (.aload_n 0, 1) := by decide +kernel
theorem dX12_priceAfter_9 : decode cX12_priceAfter 9 = .ok (.iload_n 2, 1) := by decide +kernel
theorem dX12_priceAfter_10 : decode cX12_priceAfter 10 = .ok (.i2l, 1) := by decide +kernel
theorem dX12_priceAfter_11 : decode cX12_priceAfter 11 = .ok (.lconst 0, 1) := by decide +kernel
theorem dX12_priceAfter_12 : decode cX12_priceAfter 12 = .ok (.ldc2_w 369, 3) := by decide +kernel
theorem dX12_priceAfter_15 : decode cX12_priceAfter 15 = .ok (.invokestatic 124, 3) := by decide +kernel
theorem dX12_priceAfter_18 : decode cX12_priceAfter 18 = .ok (.ifCond .ne 7, 3) := by decide +kernel
theorem dX12_priceAfter_21 : decode cX12_priceAfter 21 = .ok (.iconst 1, 1) := by decide +kernel
theorem dX12_priceAfter_22 : decode cX12_priceAfter 22 = .ok (.goto 4, 3) := by decide +kernel
theorem dX12_priceAfter_25 : decode cX12_priceAfter 25 = .ok (.iconst 0, 1) := by decide +kernel
theorem dX12_priceAfter_26 : decode cX12_priceAfter 26 = .ok (.iconst 2, 1) := by decide +kernel
theorem dX12_priceAfter_27 : decode cX12_priceAfter 27 = .ok (.invokevirtual 249, 3) := by decide +kernel
theorem dX12_priceAfter_30 : decode cX12_priceAfter 30 = .ok (.ifCond .eq 5, 3) := by decide +kernel
theorem dX12_priceAfter_33 : decode cX12_priceAfter 33 = .ok (.iconst 0, 1) := by decide +kernel
theorem dX12_priceAfter_34 : decode cX12_priceAfter 34 = .ok (.ireturn, 1) := by decide +kernel
theorem dX12_priceAfter_35 : decode cX12_priceAfter 35 = .ok (.aload_n 0, 1) := by decide +kernel
theorem dX12_priceAfter_36 : decode cX12_priceAfter 36 = .ok (.getfield 7, 3) := by decide +kernel
theorem dX12_priceAfter_39 : decode cX12_priceAfter 39 = .ok (.iconst 0, 1) := by decide +kernel
theorem dX12_priceAfter_40 : decode cX12_priceAfter 40 = .ok (.aload_n 0, 1) := by decide +kernel
theorem dX12_priceAfter_41 : decode cX12_priceAfter 41 = .ok (.getfield 61, 3) := by decide +kernel
theorem dX12_priceAfter_44 : decode cX12_priceAfter 44 = .ok (.iconst 0, 1) := by decide +kernel
theorem dX12_priceAfter_45 : decode cX12_priceAfter 45 = .ok (.bipush 116, 2) := by decide +kernel
theorem dX12_priceAfter_47 : decode cX12_priceAfter 47 = .ok (.invokestatic 371, 3) := by decide +kernel
theorem dX12_priceAfter_50 : decode cX12_priceAfter 50 = .ok (.iconst 0, 1) := by decide +kernel
theorem dX12_priceAfter_51 : decode cX12_priceAfter 51 = .ok (.istore_n 3, 1) := by decide +kernel
theorem dX12_priceAfter_52 : decode cX12_priceAfter 52 = .ok (.iload_n 3, 1) := by decide +kernel
theorem dX12_priceAfter_53 : decode cX12_priceAfter 53 = .ok (.iload_n 2, 1) := by decide +kernel
theorem dX12_priceAfter_54 : decode cX12_priceAfter 54 = .ok (.if_icmp .ge 13, 3) := by decide +kernel
theorem dX12_priceAfter_57 : decode cX12_priceAfter 57 = .ok (.aload_n 0, 1) := by decide +kernel
theorem dX12_priceAfter_58 : decode cX12_priceAfter 58 = .ok (.invokevirtual 375, 3) := by decide +kernel
theorem dX12_priceAfter_61 : decode cX12_priceAfter 61 = .ok (.iinc 3 1, 3) := by decide +kernel
theorem dX12_priceAfter_64 : decode cX12_priceAfter 64 = .ok (.goto (-12), 3) := by decide +kernel
theorem dX12_priceAfter_67 : decode cX12_priceAfter 67 = .ok (.aload_n 0, 1) := by decide +kernel
theorem dX12_priceAfter_68 : decode cX12_priceAfter 68 = .ok (.getfield 7, 3) := by decide +kernel
theorem dX12_priceAfter_71 : decode cX12_priceAfter 71 = .ok (.iconst 2, 1) := by decide +kernel
theorem dX12_priceAfter_72 : decode cX12_priceAfter 72 = .ok (.iload_n 1, 1) := by decide +kernel
theorem dX12_priceAfter_73 : decode cX12_priceAfter 73 = .ok (.iadd, 1) := by decide +kernel
theorem dX12_priceAfter_74 : decode cX12_priceAfter 74 = .ok (.laload, 1) := by decide +kernel
theorem dX12_priceAfter_75 : decode cX12_priceAfter 75 = .ok (.l2i, 1) := by decide +kernel
theorem dX12_priceAfter_76 : decode cX12_priceAfter 76 = .ok (.istore_n 3, 1) := by decide +kernel
theorem dX12_priceAfter_77 : decode cX12_priceAfter 77 = .ok (.aload_n 0, 1) := by decide +kernel
theorem dX12_priceAfter_78 : decode cX12_priceAfter 78 = .ok (.getfield 61, 3) := by decide +kernel
theorem dX12_priceAfter_81 : decode cX12_priceAfter 81 = .ok (.iconst 0, 1) := by decide +kernel
theorem dX12_priceAfter_82 : decode cX12_priceAfter 82 = .ok (.aload_n 0, 1) := by decide +kernel
theorem dX12_priceAfter_83 : decode cX12_priceAfter 83 = .ok (.getfield 7, 3) := by decide +kernel
theorem dX12_priceAfter_86 : decode cX12_priceAfter 86 = .ok (.iconst 0, 1) := by decide +kernel
theorem dX12_priceAfter_87 : decode cX12_priceAfter 87 = .ok (.bipush 116, 2) := by decide +kernel
theorem dX12_priceAfter_89 : decode cX12_priceAfter 89 = .ok (.invokestatic 371, 3) := by decide +kernel
theorem dX12_priceAfter_92 : decode cX12_priceAfter 92 = .ok (.iload_n 3, 1) := by decide +kernel
theorem dX12_priceAfter_93 : decode cX12_priceAfter 93 = .ok (.ireturn, 1) := by decide +kernel
theorem dX12_evictedAfter_0 : decode cX12_evictedAfter 0 = .ok (.aload_n 0, 1) := by decide +kernel
theorem dX12_evictedAfter_1 : decode cX12_evictedAfter 1 = .ok (.iload_n 1, 1) := by decide +kernel
theorem dX12_evictedAfter_2 : decode cX12_evictedAfter 2 = .ok (.invokevirtual 304, 3) := by decide +kernel
theorem dX12_evictedAfter_5 : decode cX12_evictedAfter 5 = .ok (.ifCond .eq 5, 3) := by decide +kernel
theorem dX12_evictedAfter_8 : decode cX12_evictedAfter 8 = .ok (.iconst 0, 1) := by decide +kernel
theorem dX12_evictedAfter_9 : decode cX12_evictedAfter 9 = .ok (.ireturn, 1) := by decide +kernel
theorem dX12_evictedAfter_10 : decode cX12_evictedAfter 10 = .ok (.aload_n 0, 1) := by decide +kernel
theorem dX12_evictedAfter_11 : decode cX12_evictedAfter 11 = .ok (.getfield 7, 3) := by decide +kernel
theorem dX12_evictedAfter_14 : decode cX12_evictedAfter 14 = .ok (.iconst 0, 1) := by decide +kernel
theorem dX12_evictedAfter_15 : decode cX12_evictedAfter 15 = .ok (.aload_n 0, 1) := by decide +kernel
theorem dX12_evictedAfter_16 : decode cX12_evictedAfter 16 = .ok (.getfield 61, 3) := by decide +kernel
theorem dX12_evictedAfter_19 : decode cX12_evictedAfter 19 = .ok (.iconst 0, 1) := by decide +kernel
theorem dX12_evictedAfter_20 : decode cX12_evictedAfter 20 = .ok (.bipush 116, 2) := by decide +kernel
theorem dX12_evictedAfter_22 : decode cX12_evictedAfter 22 = .ok (.invokestatic 371, 3) := by decide +kernel
theorem dX12_evictedAfter_25 : decode cX12_evictedAfter 25 = .ok (.iconst (-1), 1) := by decide +kernel
theorem dX12_evictedAfter_26 : decode cX12_evictedAfter 26 = .ok (.istore_n 2, 1) := by decide +kernel
theorem dX12_evictedAfter_27 : decode cX12_evictedAfter 27 = .ok (.iconst 1, 1) := by decide +kernel
theorem dX12_evictedAfter_28 : decode cX12_evictedAfter 28 = .ok (.istore_n 3, 1) := by decide +kernel
theorem dX12_evictedAfter_29 : decode cX12_evictedAfter 29 = .ok (.iload_n 3, 1) := by decide +kernel
theorem dX12_evictedAfter_30 : decode cX12_evictedAfter 30 = .ok (.sipush 200, 3) := by decide +kernel
theorem dX12_evictedAfter_33 : decode cX12_evictedAfter 33 = .ok (.if_icmp .gt 35, 3) := by decide +kernel
theorem dX12_evictedAfter_36 : decode cX12_evictedAfter 36 = .ok (.iload_n 2, 1) := by decide +kernel
theorem dX12_evictedAfter_37 : decode cX12_evictedAfter 37 = .ok (.iconst (-1), 1) := by decide +kernel
theorem dX12_evictedAfter_38 : decode cX12_evictedAfter 38 = .ok (.if_icmp .ne 30, 3) := by decide +kernel
theorem dX12_evictedAfter_41 : decode cX12_evictedAfter 41 = .ok (.aload_n 0, 1) := by decide +kernel
theorem dX12_evictedAfter_42 : decode cX12_evictedAfter 42 = .ok (.invokevirtual 375, 3) := by decide +kernel
theorem dX12_evictedAfter_45 : decode cX12_evictedAfter 45 = .ok (.aload_n 0, 1) := by decide +kernel
theorem dX12_evictedAfter_46 : decode cX12_evictedAfter 46 = .ok (.getfield 356, 3) := by decide +kernel
theorem dX12_evictedAfter_49 : decode cX12_evictedAfter 49 = .ok (.iload_n 1, 1) := by decide +kernel
theorem dX12_evictedAfter_50 : decode cX12_evictedAfter 50 = .ok (.invokestatic 159, 3) := by decide +kernel
theorem dX12_evictedAfter_53 : decode cX12_evictedAfter 53 = .ok (.ifCond .eq 7, 3) := by decide +kernel
theorem dX12_evictedAfter_56 : decode cX12_evictedAfter 56 = .ok (.iload_n 3, 1) := by decide +kernel
theorem dX12_evictedAfter_57 : decode cX12_evictedAfter 57 = .ok (.goto 4, 3) := by decide +kernel
theorem dX12_evictedAfter_60 : decode cX12_evictedAfter 60 = .ok (.iconst (-1), 1) := by decide +kernel
theorem dX12_evictedAfter_61 : decode cX12_evictedAfter 61 = .ok (.istore_n 2, 1) := by decide +kernel
theorem dX12_evictedAfter_62 : decode cX12_evictedAfter 62 = .ok (.iinc 3 1, 3) := by decide +kernel
theorem dX12_evictedAfter_65 : decode cX12_evictedAfter 65 = .ok (.goto (-36), 3) := by decide +kernel
theorem dX12_evictedAfter_68 : decode cX12_evictedAfter 68 = .ok (.aload_n 0, 1) := by decide +kernel
theorem dX12_evictedAfter_69 : decode cX12_evictedAfter 69 = .ok (.getfield 61, 3) := by decide +kernel
theorem dX12_evictedAfter_72 : decode cX12_evictedAfter 72 = .ok (.iconst 0, 1) := by decide +kernel
theorem dX12_evictedAfter_73 : decode cX12_evictedAfter 73 = .ok (.aload_n 0, 1) := by decide +kernel
theorem dX12_evictedAfter_74 : decode cX12_evictedAfter 74 = .ok (.getfield 7, 3) := by decide +kernel
theorem dX12_evictedAfter_77 : decode cX12_evictedAfter 77 = .ok (.iconst 0, 1) := by decide +kernel
theorem dX12_evictedAfter_78 : decode cX12_evictedAfter 78 = .ok (.bipush 116, 2) := by decide +kernel
theorem dX12_evictedAfter_80 : decode cX12_evictedAfter 80 = .ok (.invokestatic 371, 3) := by decide +kernel
theorem dX12_evictedAfter_83 : decode cX12_evictedAfter 83 = .ok (.iload_n 2, 1) := by decide +kernel
theorem dX12_evictedAfter_84 : decode cX12_evictedAfter 84 = .ok (.ireturn, 1) := by decide +kernel
theorem dX12_keeps_0 : decode cX12_keeps 0 = .ok (.aload_n 0, 1) := by decide +kernel
theorem dX12_keeps_1 : decode cX12_keeps 1 = .ok (.getfield 261, 3) := by decide +kernel
theorem dX12_keeps_4 : decode cX12_keeps 4 = .ok (.bipush 10, 2) := by decide +kernel
theorem dX12_keeps_6 : decode cX12_keeps 6 = .ok (.if_icmp .ne 34, 3) := by decide +kernel
theorem dX12_keeps_9 : decode cX12_keeps 9 = .ok (.aload_n 0, 1) := by decide +kernel
theorem dX12_keeps_10 : decode cX12_keeps 10 = .ok (.dup, 1) := by decide +kernel
theorem dX12_keeps_11 : decode cX12_keeps 11 = .ok (.getfield 261, 3) := by decide +kernel
theorem dX12_keeps_14 : decode cX12_keeps 14 = .ok (.iconst 1, 1) := by decide +kernel
theorem dX12_keeps_15 : decode cX12_keeps 15 = .ok (.isub, 1) := by decide +kernel
theorem dX12_keeps_16 : decode cX12_keeps 16 = .ok (.putfield 261, 3) := by decide +kernel
theorem dX12_keeps_19 : decode cX12_keeps 19 = .ok (.aload_n 0, 1) := by decide +kernel
theorem dX12_keeps_20 : decode cX12_keeps 20 = .ok (.getfield 64, 3) := by decide +kernel
theorem dX12_keeps_23 : decode cX12_keeps 23 = .ok (.bipush 116, 2) := by decide +kernel
theorem dX12_keeps_25 : decode cX12_keeps 25 = .ok (.aload_n 0, 1) := by decide +kernel
theorem dX12_keeps_26 : decode cX12_keeps 26 = .ok (.getfield 64, 3) := by decide +kernel
theorem dX12_keeps_29 : decode cX12_keeps 29 = .ok (.iconst 0, 1) := by decide +kernel
theorem dX12_keeps_30 : decode cX12_keeps 30 = .ok (.bipush 116, 2) := by decide +kernel
theorem dX12_keeps_32 : decode cX12_keeps 32 = .ok (.aload_n 0, 1) := by decide +kernel
theorem dX12_keeps_33 : decode cX12_keeps 33 = .ok (.getfield 261, 3) := by decide +kernel
theorem dX12_keeps_36 : decode cX12_keeps 36 = .ok (.imul, 1) := by decide +kernel
theorem dX12_keeps_37 : decode cX12_keeps 37 = .ok (.invokestatic 371, 3) := by decide +kernel
theorem dX12_keeps_40 : decode cX12_keeps 40 = .ok (.aload_n 0, 1) := by decide +kernel
theorem dX12_keeps_41 : decode cX12_keeps 41 = .ok (.getfield 7, 3) := by decide +kernel
theorem dX12_keeps_44 : decode cX12_keeps 44 = .ok (.iconst 0, 1) := by decide +kernel
theorem dX12_keeps_45 : decode cX12_keeps 45 = .ok (.aload_n 0, 1) := by decide +kernel
theorem dX12_keeps_46 : decode cX12_keeps 46 = .ok (.getfield 64, 3) := by decide +kernel
theorem dX12_keeps_49 : decode cX12_keeps 49 = .ok (.bipush 116, 2) := by decide +kernel
theorem dX12_keeps_51 : decode cX12_keeps 51 = .ok (.aload_n 0, 1) := by decide +kernel
theorem dX12_keeps_52 : decode cX12_keeps 52 = .ok (.getfield 261, 3) := by decide +kernel
theorem dX12_keeps_55 : decode cX12_keeps 55 = .ok (.imul, 1) := by decide +kernel
theorem dX12_keeps_56 : decode cX12_keeps 56 = .ok (.bipush 116, 2) := by decide +kernel
theorem dX12_keeps_58 : decode cX12_keeps 58 = .ok (.invokestatic 371, 3) := by decide +kernel
theorem dX12_keeps_61 : decode cX12_keeps 61 = .ok (.aload_n 0, 1) := by decide +kernel
theorem dX12_keeps_62 : decode cX12_keeps 62 = .ok (.dup, 1) := by decide +kernel
theorem dX12_keeps_63 : decode cX12_keeps 63 = .ok (.getfield 261, 3) := by decide +kernel
theorem dX12_keeps_66 : decode cX12_keeps 66 = .ok (.iconst 1, 1) := by decide +kernel
theorem dX12_keeps_67 : decode cX12_keeps 67 = .ok (.iadd, 1) := by decide +kernel
theorem dX12_keeps_68 : decode cX12_keeps 68 = .ok (.putfield 261, 3) := by decide +kernel
theorem dX12_keeps_71 : decode cX12_keeps 71 = .ok (.return_, 1) := by decide +kernel
theorem dX12_pass_0 : decode cX12_pass 0 = .ok (.aload_n 0, 1) := by decide +kernel
theorem dX12_pass_1 : decode cX12_pass 1 = .ok (.iconst 0, 1) := by decide +kernel
theorem dX12_pass_2 : decode cX12_pass 2 = .ok (.putfield 83, 3) := by decide +kernel
theorem dX12_pass_5 : decode cX12_pass 5 = .ok (.aload_n 0, 1) := by decide +kernel
theorem dX12_pass_6 : decode cX12_pass 6 = .ok (.iload_n 1, 1) := by decide +kernel
theorem dX12_pass_7 : decode cX12_pass 7 = .ok (.i2l, 1) := by decide +kernel
theorem dX12_pass_8 : decode cX12_pass 8 = .ok (.lconst 1, 1) := by decide +kernel
theorem dX12_pass_9 : decode cX12_pass 9 = .ok (.ldc2_w 378, 3) := by decide +kernel
theorem dX12_pass_12 : decode cX12_pass 12 = .ok (.invokestatic 124, 3) := by decide +kernel
theorem dX12_pass_15 : decode cX12_pass 15 = .ok (.ifCond .ne 7, 3) := by decide +kernel
theorem dX12_pass_18 : decode cX12_pass 18 = .ok (.iconst 1, 1) := by decide +kernel
theorem dX12_pass_19 : decode cX12_pass 19 = .ok (.goto 4, 3) := by decide +kernel
theorem dX12_pass_22 : decode cX12_pass 22 = .ok (.iconst 0, 1) := by decide +kernel
theorem dX12_pass_23 : decode cX12_pass 23 = .ok (.iconst 1, 1) := by decide +kernel
theorem dX12_pass_24 : decode cX12_pass 24 = .ok (.invokevirtual 249, 3) := by decide +kernel
theorem dX12_pass_27 : decode cX12_pass 27 = .ok (.ifCond .ne 32, 3) := by decide +kernel
theorem dX12_pass_30 : decode cX12_pass 30 = .ok (.aload_n 0, 1) := by decide +kernel
theorem dX12_pass_31 : decode cX12_pass 31 = .ok (.aload_n 0, 1) := by decide +kernel
theorem dX12_pass_32 : decode cX12_pass 32 = .ok (.getfield 7, 3) := by decide +kernel
theorem dX12_pass_35 : decode cX12_pass 35 = .ok (.iconst 0, 1) := by decide +kernel
theorem dX12_pass_36 : decode cX12_pass 36 = .ok (.laload, 1) := by decide +kernel
theorem dX12_pass_37 : decode cX12_pass 37 = .ok (.iload_n 1, 1) := by decide +kernel
theorem dX12_pass_38 : decode cX12_pass 38 = .ok (.i2l, 1) := by decide +kernel
theorem dX12_pass_39 : decode cX12_pass 39 = .ok (.ladd, 1) := by decide +kernel
theorem dX12_pass_40 : decode cX12_pass 40 = .ok (.ldc2_w 380, 3) := by decide +kernel
theorem dX12_pass_43 : decode cX12_pass 43 = .ok (.lcmp, 1) := by decide +kernel
theorem dX12_pass_44 : decode cX12_pass 44 = .ok (.ifCond .le 7, 3) := by decide +kernel
theorem dX12_pass_47 : decode cX12_pass 47 = .ok (.iconst 1, 1) := by decide +kernel
theorem dX12_pass_48 : decode cX12_pass 48 = .ok (.goto 4, 3) := by decide +kernel
theorem dX12_pass_51 : decode cX12_pass 51 = .ok (.iconst 0, 1) := by decide +kernel
theorem dX12_pass_52 : decode cX12_pass 52 = .ok (.iconst 2, 1) := by decide +kernel
theorem dX12_pass_53 : decode cX12_pass 53 = .ok (.invokevirtual 249, 3) := by decide +kernel
theorem dX12_pass_56 : decode cX12_pass 56 = .ok (.ifCond .eq 5, 3) := by decide +kernel
theorem dX12_pass_59 : decode cX12_pass 59 = .ok (.iconst 0, 1) := by decide +kernel
theorem dX12_pass_60 : decode cX12_pass 60 = .ok (.ireturn, 1) := by decide +kernel
theorem dX12_pass_61 : decode cX12_pass 61 = .ok (.aload_n 0, 1) := by decide +kernel
theorem dX12_pass_62 : decode cX12_pass 62 = .ok (.invokevirtual 382, 3) := by decide +kernel
theorem dX12_pass_65 : decode cX12_pass 65 = .ok (.iconst 0, 1) := by decide +kernel
theorem dX12_pass_66 : decode cX12_pass 66 = .ok (.istore_n 2, 1) := by decide +kernel
theorem dX12_pass_67 : decode cX12_pass 67 = .ok (.iconst 0, 1) := by decide +kernel
theorem dX12_pass_68 : decode cX12_pass 68 = .ok (.istore_n 3, 1) := by decide +kernel
theorem dX12_pass_69 : decode cX12_pass 69 = .ok (.iload_n 3, 1) := by decide +kernel
theorem dX12_pass_70 : decode cX12_pass 70 = .ok (.iload_n 1, 1) := by decide +kernel
theorem dX12_pass_71 : decode cX12_pass 71 = .ok (.if_icmp .ge 23, 3) := by decide +kernel
theorem dX12_pass_74 : decode cX12_pass 74 = .ok (.aload_n 0, 1) := by decide +kernel
theorem dX12_pass_75 : decode cX12_pass 75 = .ok (.invokevirtual 375, 3) := by decide +kernel
theorem dX12_pass_78 : decode cX12_pass 78 = .ok (.iload_n 2, 1) := by decide +kernel
theorem dX12_pass_79 : decode cX12_pass 79 = .ok (.aload_n 0, 1) := by decide +kernel
theorem dX12_pass_80 : decode cX12_pass 80 = .ok (.getfield 356, 3) := by decide +kernel
theorem dX12_pass_83 : decode cX12_pass 83 = .ok (.invokestatic 347, 3) := by decide +kernel
theorem dX12_pass_86 : decode cX12_pass 86 = .ok (.iadd, 1) := by decide +kernel
theorem dX12_pass_87 : decode cX12_pass 87 = .ok (.istore_n 2, 1) := by decide +kernel
theorem dX12_pass_88 : decode cX12_pass 88 = .ok (.iinc 3 1, 3) := by decide +kernel
theorem dX12_pass_91 : decode cX12_pass 91 = .ok (.goto (-22), 3) := by decide +kernel
theorem dX12_pass_94 : decode cX12_pass 94 = .ok (.iload_n 2, 1) := by decide +kernel
theorem dX12_pass_95 : decode cX12_pass 95 = .ok (.ireturn, 1) := by decide +kernel
theorem dX12_launch_0 : decode cX12_launch 0 = .ok (.aload_n 0, 1) := by decide +kernel
theorem dX12_launch_1 : decode cX12_launch 1 = .ok (.iload_n 1, 1) := by decide +kernel
theorem dX12_launch_2 : decode cX12_launch 2 = .ok (.invokevirtual 329, 3) := by decide +kernel
theorem dX12_launch_5 : decode cX12_launch 5 = .ok (.ifCond .ne 53, 3) := by decide +kernel
theorem dX12_launch_8 : decode cX12_launch 8 = .ok (.aload_n 0, 1) := by decide +kernel
theorem dX12_launch_9 : decode cX12_launch 9 = .ok (.iload_n 2, 1) := by decide +kernel
theorem dX12_launch_10 : decode cX12_launch 10 = .ok (.invokevirtual 295, 3) := by decide +kernel
theorem dX12_launch_13 : decode cX12_launch 13 = .ok (.ifCond .ne 45, 3) := by decide +kernel
theorem dX12_launch_16 : decode cX12_launch 16 = .ok (.aload_n 0, 1) := by decide +kernel
theorem dX12_launch_17 : decode cX12_launch 17 = .ok (.aload_n 0, 1) := by decide +kernel
theorem dX12_launch_18 : decode cX12_launch 18 = .ok (.iload_n 1, 1) := by decide +kernel
theorem dX12_launch_19 : decode cX12_launch 19 = .ok (.invokevirtual 337, 3) := by decide +kernel
theorem dX12_launch_22 : decode cX12_launch 22 = .ok (.ifCond .ne 24, 3) := by decide +kernel
theorem dX12_launch_25 : decode cX12_launch 25 = .ok (.aload_n 0, 1) := by decide +kernel
theorem dX12_launch_26 : decode cX12_launch 26 = .ok (.invokevirtual 301, 3) := by decide +kernel
theorem dX12_launch_29 : decode cX12_launch 29 = .ok (.invokestatic 347, 3) := by decide +kernel
theorem dX12_launch_32 : decode cX12_launch 32 = .ok (.bipush 12, 2) := by decide +kernel
theorem dX12_launch_34 : decode cX12_launch 34 = .ok (.if_icmp .eq 12, 3) := by decide +kernel
theorem dX12_launch_37 : decode cX12_launch 37 = .ok (.aload_n 0, 1) := by decide +kernel
theorem dX12_launch_38 : decode cX12_launch 38 = .ok (.iload_n 2, 1) := by decide +kernel
theorem dX12_launch_39 : decode cX12_launch 39 = .ok (.invokevirtual 298, 3) := by decide +kernel
theorem dX12_launch_42 : decode cX12_launch 42 = .ok (.iconst (-1), 1) := by decide +kernel
theorem dX12_launch_43 : decode cX12_launch 43 = .ok (.if_icmp .ne 7, 3) := by decide +kernel
theorem dX12_launch_46 : decode cX12_launch 46 = .ok (.iconst 1, 1) := by decide +kernel
theorem dX12_launch_47 : decode cX12_launch 47 = .ok (.goto 4, 3) := by decide +kernel
theorem dX12_launch_50 : decode cX12_launch 50 = .ok (.iconst 0, 1) := by decide +kernel
theorem dX12_launch_51 : decode cX12_launch 51 = .ok (.iconst 2, 1) := by decide +kernel
theorem dX12_launch_52 : decode cX12_launch 52 = .ok (.invokevirtual 249, 3) := by decide +kernel
theorem dX12_launch_55 : decode cX12_launch 55 = .ok (.ifCond .eq 5, 3) := by decide +kernel
theorem dX12_launch_58 : decode cX12_launch 58 = .ok (.iconst 0, 1) := by decide +kernel
theorem dX12_launch_59 : decode cX12_launch 59 = .ok (.ireturn, 1) := by decide +kernel
theorem dX12_launch_60 : decode cX12_launch 60 = .ok (.aload_n 0, 1) := by decide +kernel
theorem dX12_launch_61 : decode cX12_launch 61 = .ok (.invokevirtual 382, 3) := by decide +kernel
theorem dX12_launch_64 : decode cX12_launch 64 = .ok (.aload_n 0, 1) := by decide +kernel
theorem dX12_launch_65 : decode cX12_launch 65 = .ok (.iload_n 1, 1) := by decide +kernel
theorem dX12_launch_66 : decode cX12_launch 66 = .ok (.iload_n 2, 1) := by decide +kernel
theorem dX12_launch_67 : decode cX12_launch 67 = .ok (.aload_n 0, 1) := by decide +kernel
theorem dX12_launch_68 : decode cX12_launch 68 = .ok (.iload_n 2, 1) := by decide +kernel
theorem dX12_launch_69 : decode cX12_launch 69 = .ok (.invokevirtual 298, 3) := by decide +kernel
theorem dX12_launch_72 : decode cX12_launch 72 = .ok (.iconst (-1), 1) := by decide +kernel
theorem dX12_launch_73 : decode cX12_launch 73 = .ok (.invokevirtual 362, 3) := by decide +kernel
theorem dX12_launch_76 : decode cX12_launch 76 = .ok (.ireturn, 1) := by decide +kernel
theorem dX12_bid_0 : decode cX12_bid 0 = .ok (.aload_n 0, 1) := by decide +kernel
theorem dX12_bid_1 : decode cX12_bid 1 = .ok (.iload_n 1, 1) := by decide +kernel
theorem dX12_bid_2 : decode cX12_bid 2 = .ok (.invokevirtual 329, 3) := by decide +kernel
theorem dX12_bid_5 : decode cX12_bid 5 = .ok (.ifCond .ne 70, 3) := by decide +kernel
theorem dX12_bid_8 : decode cX12_bid 8 = .ok (.aload_n 0, 1) := by decide +kernel
theorem dX12_bid_9 : decode cX12_bid 9 = .ok (.iload_n 2, 1) := by decide +kernel
theorem dX12_bid_10 : decode cX12_bid 10 = .ok (.invokevirtual 295, 3) := by decide +kernel
theorem dX12_bid_13 : decode cX12_bid 13 = .ok (.ifCond .ne 62, 3) := by decide +kernel
theorem dX12_bid_16 : decode cX12_bid 16 = .ok (.aload_n 0, 1) := by decide +kernel
theorem dX12_bid_17 : decode cX12_bid 17 = .ok (.iload_n 3, 1) := by decide +kernel
theorem dX12_bid_18 : decode cX12_bid 18 = .ok (.i2l, 1) := by decide +kernel
theorem dX12_bid_19 : decode cX12_bid 19 = .ok (.lconst 1, 1) := by decide +kernel
theorem dX12_bid_20 : decode cX12_bid 20 = .ok (.ldc2_w 380, 3) := by decide +kernel
theorem dX12_bid_23 : decode cX12_bid 23 = .ok (.invokestatic 124, 3) := by decide +kernel
theorem dX12_bid_26 : decode cX12_bid 26 = .ok (.ifCond .ne 7, 3) := by decide +kernel
theorem dX12_bid_29 : decode cX12_bid 29 = .ok (.iconst 1, 1) := by decide +kernel
theorem dX12_bid_30 : decode cX12_bid 30 = .ok (.goto 4, 3) := by decide +kernel
theorem dX12_bid_33 : decode cX12_bid 33 = .ok (.iconst 0, 1) := by decide +kernel
theorem dX12_bid_34 : decode cX12_bid 34 = .ok (.iconst 2, 1) := by decide +kernel
theorem dX12_bid_35 : decode cX12_bid 35 = .ok (.invokevirtual 249, 3) := by decide +kernel
theorem dX12_bid_38 : decode cX12_bid 38 = .ok (.ifCond .ne 37, 3) := by decide +kernel
theorem dX12_bid_41 : decode cX12_bid 41 = .ok (.aload_n 0, 1) := by decide +kernel
theorem dX12_bid_42 : decode cX12_bid 42 = .ok (.aload_n 0, 1) := by decide +kernel
theorem dX12_bid_43 : decode cX12_bid 43 = .ok (.iload_n 1, 1) := by decide +kernel
theorem dX12_bid_44 : decode cX12_bid 44 = .ok (.invokevirtual 337, 3) := by decide +kernel
theorem dX12_bid_47 : decode cX12_bid 47 = .ok (.ifCond .ne 16, 3) := by decide +kernel
theorem dX12_bid_50 : decode cX12_bid 50 = .ok (.aload_n 0, 1) := by decide +kernel
theorem dX12_bid_51 : decode cX12_bid 51 = .ok (.getfield 7, 3) := by decide +kernel
theorem dX12_bid_54 : decode cX12_bid 54 = .ok (.iconst 1, 1) := by decide +kernel
theorem dX12_bid_55 : decode cX12_bid 55 = .ok (.laload, 1) := by decide +kernel
theorem dX12_bid_56 : decode cX12_bid 56 = .ok (.ldc2_w 385, 3) := by decide +kernel
theorem dX12_bid_59 : decode cX12_bid 59 = .ok (.lcmp, 1) := by decide +kernel
theorem dX12_bid_60 : decode cX12_bid 60 = .ok (.ifCond .ne 7, 3) := by decide +kernel
theorem dX12_bid_63 : decode cX12_bid 63 = .ok (.iconst 1, 1) := by decide +kernel
theorem dX12_bid_64 : decode cX12_bid 64 = .ok (.goto 4, 3) := by decide +kernel
theorem dX12_bid_67 : decode cX12_bid 67 = .ok (.iconst 0, 1) := by decide +kernel
theorem dX12_bid_68 : decode cX12_bid 68 = .ok (.iconst 3, 1) := by decide +kernel
theorem dX12_bid_69 : decode cX12_bid 69 = .ok (.invokevirtual 249, 3) := by decide +kernel
theorem dX12_bid_72 : decode cX12_bid 72 = .ok (.ifCond .eq 5, 3) := by decide +kernel
theorem dX12_bid_75 : decode cX12_bid 75 = .ok (.iconst 0, 1) := by decide +kernel
theorem dX12_bid_76 : decode cX12_bid 76 = .ok (.ireturn, 1) := by decide +kernel
theorem dX12_bid_77 : decode cX12_bid 77 = .ok (.aload_n 0, 1) := by decide +kernel
theorem dX12_bid_78 : decode cX12_bid 78 = .ok (.invokevirtual 382, 3) := by decide +kernel
theorem dX12_bid_81 : decode cX12_bid 81 = .ok (.bipush 86, 2) := by decide +kernel
theorem dX12_bid_83 : decode cX12_bid 83 = .ok (.iconst 3, 1) := by decide +kernel
theorem dX12_bid_84 : decode cX12_bid 84 = .ok (.aload_n 0, 1) := by decide +kernel
theorem dX12_bid_85 : decode cX12_bid 85 = .ok (.getfield 7, 3) := by decide +kernel
theorem dX12_bid_88 : decode cX12_bid 88 = .ok (.iconst 1, 1) := by decide +kernel
theorem dX12_bid_89 : decode cX12_bid 89 = .ok (.laload, 1) := by decide +kernel
theorem dX12_bid_90 : decode cX12_bid 90 = .ok (.l2i, 1) := by decide +kernel
theorem dX12_bid_91 : decode cX12_bid 91 = .ok (.imul, 1) := by decide +kernel
theorem dX12_bid_92 : decode cX12_bid 92 = .ok (.iadd, 1) := by decide +kernel
theorem dX12_bid_93 : decode cX12_bid 93 = .ok (.istore 4, 2) := by decide +kernel
theorem dX12_bid_95 : decode cX12_bid 95 = .ok (.aload_n 0, 1) := by decide +kernel
theorem dX12_bid_96 : decode cX12_bid 96 = .ok (.getfield 7, 3) := by decide +kernel
theorem dX12_bid_99 : decode cX12_bid 99 = .ok (.iload 4, 2) := by decide +kernel
theorem dX12_bid_101 : decode cX12_bid 101 = .ok (.iload_n 1, 1) := by decide +kernel
theorem dX12_bid_102 : decode cX12_bid 102 = .ok (.i2l, 1) := by decide +kernel
theorem dX12_bid_103 : decode cX12_bid 103 = .ok (.lastore, 1) := by decide +kernel
theorem dX12_bid_104 : decode cX12_bid 104 = .ok (.aload_n 0, 1) := by decide +kernel
theorem dX12_bid_105 : decode cX12_bid 105 = .ok (.getfield 7, 3) := by decide +kernel
theorem dX12_bid_108 : decode cX12_bid 108 = .ok (.iload 4, 2) := by decide +kernel
theorem dX12_bid_110 : decode cX12_bid 110 = .ok (.iconst 1, 1) := by decide +kernel
theorem dX12_bid_111 : decode cX12_bid 111 = .ok (.iadd, 1) := by decide +kernel
theorem dX12_bid_112 : decode cX12_bid 112 = .ok (.iload_n 2, 1) := by decide +kernel
theorem dX12_bid_113 : decode cX12_bid 113 = .ok (.i2l, 1) := by decide +kernel
theorem dX12_bid_114 : decode cX12_bid 114 = .ok (.lastore, 1) := by decide +kernel
theorem dX12_bid_115 : decode cX12_bid 115 = .ok (.aload_n 0, 1) := by decide +kernel
theorem dX12_bid_116 : decode cX12_bid 116 = .ok (.getfield 7, 3) := by decide +kernel
theorem dX12_bid_119 : decode cX12_bid 119 = .ok (.iload 4, 2) := by decide +kernel
theorem dX12_bid_121 : decode cX12_bid 121 = .ok (.iconst 2, 1) := by decide +kernel
theorem dX12_bid_122 : decode cX12_bid 122 = .ok (.iadd, 1) := by decide +kernel
theorem dX12_bid_123 : decode cX12_bid 123 = .ok (.iload_n 3, 1) := by decide +kernel
theorem dX12_bid_124 : decode cX12_bid 124 = .ok (.i2l, 1) := by decide +kernel
theorem dX12_bid_125 : decode cX12_bid 125 = .ok (.lastore, 1) := by decide +kernel
theorem dX12_bid_126 : decode cX12_bid 126 = .ok (.aload_n 0, 1) := by decide +kernel
theorem dX12_bid_127 : decode cX12_bid 127 = .ok (.getfield 7, 3) := by decide +kernel
theorem dX12_bid_130 : decode cX12_bid 130 = .ok (.iconst 1, 1) := by decide +kernel
theorem dX12_bid_131 : decode cX12_bid 131 = .ok (.dup2, 1) := by decide +kernel
theorem dX12_bid_132 : decode cX12_bid 132 = .ok (.laload, 1) := by decide +kernel
theorem dX12_bid_133 : decode cX12_bid 133 = .ok (.lconst 1, 1) := by decide +kernel
theorem dX12_bid_134 : decode cX12_bid 134 = .ok (.ladd, 1) := by decide +kernel
theorem dX12_bid_135 : decode cX12_bid 135 = .ok (.lastore, 1) := by decide +kernel
theorem dX12_bid_136 : decode cX12_bid 136 = .ok (.aload_n 0, 1) := by decide +kernel
theorem dX12_bid_137 : decode cX12_bid 137 = .ok (.getfield 7, 3) := by decide +kernel
theorem dX12_bid_140 : decode cX12_bid 140 = .ok (.iconst 1, 1) := by decide +kernel
theorem dX12_bid_141 : decode cX12_bid 141 = .ok (.laload, 1) := by decide +kernel
theorem dX12_bid_142 : decode cX12_bid 142 = .ok (.l2i, 1) := by decide +kernel
theorem dX12_bid_143 : decode cX12_bid 143 = .ok (.ireturn, 1) := by decide +kernel
theorem dX12_withdraw_0 : decode cX12_withdraw 0 = .ok (.aload_n 0, 1) := by decide +kernel
theorem dX12_withdraw_1 : decode cX12_withdraw 1 = .ok (.iload_n 1, 1) := by decide +kernel
theorem dX12_withdraw_2 : decode cX12_withdraw 2 = .ok (.invokevirtual 329, 3) := by decide +kernel
theorem dX12_withdraw_5 : decode cX12_withdraw 5 = .ok (.ifCond .eq 5, 3) := by decide +kernel
theorem dX12_withdraw_8 : decode cX12_withdraw 8 = .ok (.iconst 0, 1) := by decide +kernel
theorem dX12_withdraw_9 : decode cX12_withdraw 9 = .ok (.ireturn, 1) := by decide +kernel
theorem dX12_withdraw_10 : decode cX12_withdraw 10 = .ok (.aload_n 0, 1) := by decide +kernel
theorem dX12_withdraw_11 : decode cX12_withdraw 11 = .ok (.invokevirtual 382, 3) := by decide +kernel
theorem dX12_withdraw_14 : decode cX12_withdraw 14 = .ok (.iconst 0, 1) := by decide +kernel
theorem dX12_withdraw_15 : decode cX12_withdraw 15 = .ok (.istore_n 2, 1) := by decide +kernel
theorem dX12_withdraw_16 : decode cX12_withdraw 16 = .ok (.aload_n 0, 1) := by decide +kernel
theorem dX12_withdraw_17 : decode cX12_withdraw 17 = .ok (.getfield 7, 3) := by decide +kernel
theorem dX12_withdraw_20 : decode cX12_withdraw 20 = .ok (.iconst 1, 1) := by decide +kernel
theorem dX12_withdraw_21 : decode cX12_withdraw 21 = .ok (.laload, 1) := by decide +kernel
theorem dX12_withdraw_22 : decode cX12_withdraw 22 = .ok (.l2i, 1) := by decide +kernel
theorem dX12_withdraw_23 : decode cX12_withdraw 23 = .ok (.iconst 1, 1) := by decide +kernel
theorem dX12_withdraw_24 : decode cX12_withdraw 24 = .ok (.isub, 1) := by decide +kernel
theorem dX12_withdraw_25 : decode cX12_withdraw 25 = .ok (.istore_n 3, 1) := by decide +kernel
theorem dX12_withdraw_26 : decode cX12_withdraw 26 = .ok (.iload_n 3, 1) := by decide +kernel
theorem dX12_withdraw_27 : decode cX12_withdraw 27 = .ok (.ifCond .lt 34, 3) := by decide +kernel
theorem dX12_withdraw_30 : decode cX12_withdraw 30 = .ok (.aload_n 0, 1) := by decide +kernel
theorem dX12_withdraw_31 : decode cX12_withdraw 31 = .ok (.getfield 7, 3) := by decide +kernel
theorem dX12_withdraw_34 : decode cX12_withdraw 34 = .ok (.bipush 86, 2) := by decide +kernel
theorem dX12_withdraw_36 : decode cX12_withdraw 36 = .ok (.iconst 3, 1) := by decide +kernel
theorem dX12_withdraw_37 : decode cX12_withdraw 37 = .ok (.iload_n 3, 1) := by decide +kernel
theorem dX12_withdraw_38 : decode cX12_withdraw 38 = .ok (.imul, 1) := by decide +kernel
theorem dX12_withdraw_39 : decode cX12_withdraw 39 = .ok (.iadd, 1) := by decide +kernel
theorem dX12_withdraw_40 : decode cX12_withdraw 40 = .ok (.laload, 1) := by decide +kernel
theorem dX12_withdraw_41 : decode cX12_withdraw 41 = .ok (.iload_n 1, 1) := by decide +kernel
theorem dX12_withdraw_42 : decode cX12_withdraw 42 = .ok (.i2l, 1) := by decide +kernel
theorem dX12_withdraw_43 : decode cX12_withdraw 43 = .ok (.lcmp, 1) := by decide +kernel
theorem dX12_withdraw_44 : decode cX12_withdraw 44 = .ok (.ifCond .ne 11, 3) := by decide +kernel
theorem dX12_withdraw_47 : decode cX12_withdraw 47 = .ok (.aload_n 0, 1) := by decide +kernel
theorem dX12_withdraw_48 : decode cX12_withdraw 48 = .ok (.iload_n 3, 1) := by decide +kernel
theorem dX12_withdraw_49 : decode cX12_withdraw 49 = .ok (.invokevirtual 366, 3) := by decide +kernel
theorem dX12_withdraw_52 : decode cX12_withdraw 52 = .ok (.iinc 2 1, 3) := by decide +kernel
theorem dX12_withdraw_55 : decode cX12_withdraw 55 = .ok (.iinc 3 (-1), 3) := by decide +kernel
theorem dX12_withdraw_58 : decode cX12_withdraw 58 = .ok (.goto (-32), 3) := by decide +kernel
theorem dX12_withdraw_61 : decode cX12_withdraw 61 = .ok (.iload_n 2, 1) := by decide +kernel
theorem dX12_withdraw_62 : decode cX12_withdraw 62 = .ok (.ireturn, 1) := by decide +kernel
theorem dX12_stop_0 : decode cX12_stop 0 = .ok (.aload_n 0, 1) := by decide +kernel
theorem dX12_stop_1 : decode cX12_stop 1 = .ok (.iload_n 1, 1) := by decide +kernel
theorem dX12_stop_2 : decode cX12_stop 2 = .ok (.invokevirtual 304, 3) := by decide +kernel
theorem dX12_stop_5 : decode cX12_stop 5 = .ok (.ifCond .eq 5, 3) := by decide +kernel
theorem dX12_stop_8 : decode cX12_stop 8 = .ok (.iconst 0, 1) := by decide +kernel
theorem dX12_stop_9 : decode cX12_stop 9 = .ok (.ireturn, 1) := by decide +kernel
theorem dX12_stop_10 : decode cX12_stop 10 = .ok (.aload_n 0, 1) := by decide +kernel
theorem dX12_stop_11 : decode cX12_stop 11 = .ok (.invokevirtual 382, 3) := by decide +kernel
theorem dX12_stop_14 : decode cX12_stop 14 = .ok (.aload_n 0, 1) := by decide +kernel
theorem dX12_stop_15 : decode cX12_stop 15 = .ok (.getfield 7, 3) := by decide +kernel
theorem dX12_stop_18 : decode cX12_stop 18 = .ok (.iload_n 1, 1) := by decide +kernel
theorem dX12_stop_19 : decode cX12_stop 19 = .ok (.iconst 0, 1) := by decide +kernel
theorem dX12_stop_20 : decode cX12_stop 20 = .ok (.invokestatic 238, 3) := by decide +kernel
theorem dX12_stop_23 : decode cX12_stop 23 = .ok (.ldc2_w 256, 3) := by decide +kernel
theorem dX12_stop_26 : decode cX12_stop 26 = .ok (.lastore, 1) := by decide +kernel
theorem dX12_stop_27 : decode cX12_stop 27 = .ok (.aload_n 0, 1) := by decide +kernel
theorem dX12_stop_28 : decode cX12_stop 28 = .ok (.iload_n 1, 1) := by decide +kernel
theorem dX12_stop_29 : decode cX12_stop 29 = .ok (.iconst 2, 1) := by decide +kernel
theorem dX12_stop_30 : decode cX12_stop 30 = .ok (.invokevirtual 242, 3) := by decide +kernel
theorem dX12_stop_33 : decode cX12_stop 33 = .ok (.ireturn, 1) := by decide +kernel
theorem dX12_evict_0 : decode cX12_evict 0 = .ok (.aload_n 0, 1) := by decide +kernel
theorem dX12_evict_1 : decode cX12_evict 1 = .ok (.iload_n 1, 1) := by decide +kernel
theorem dX12_evict_2 : decode cX12_evict 2 = .ok (.invokevirtual 304, 3) := by decide +kernel
theorem dX12_evict_5 : decode cX12_evict 5 = .ok (.ifCond .ne 36, 3) := by decide +kernel
theorem dX12_evict_8 : decode cX12_evict 8 = .ok (.aload_n 0, 1) := by decide +kernel
theorem dX12_evict_9 : decode cX12_evict 9 = .ok (.aload_n 0, 1) := by decide +kernel
theorem dX12_evict_10 : decode cX12_evict 10 = .ok (.iload_n 1, 1) := by decide +kernel
theorem dX12_evict_11 : decode cX12_evict 11 = .ok (.iconst 3, 1) := by decide +kernel
theorem dX12_evict_12 : decode cX12_evict 12 = .ok (.invokevirtual 242, 3) := by decide +kernel
theorem dX12_evict_15 : decode cX12_evict 15 = .ok (.iconst (-1), 1) := by decide +kernel
theorem dX12_evict_16 : decode cX12_evict 16 = .ok (.if_icmp .eq 13, 3) := by decide +kernel
theorem dX12_evict_19 : decode cX12_evict 19 = .ok (.aload_n 0, 1) := by decide +kernel
theorem dX12_evict_20 : decode cX12_evict 20 = .ok (.iload_n 1, 1) := by decide +kernel
theorem dX12_evict_21 : decode cX12_evict 21 = .ok (.iconst 4, 1) := by decide +kernel
theorem dX12_evict_22 : decode cX12_evict 22 = .ok (.invokevirtual 242, 3) := by decide +kernel
theorem dX12_evict_25 : decode cX12_evict 25 = .ok (.iconst (-1), 1) := by decide +kernel
theorem dX12_evict_26 : decode cX12_evict 26 = .ok (.if_icmp .eq 7, 3) := by decide +kernel
theorem dX12_evict_29 : decode cX12_evict 29 = .ok (.iconst 1, 1) := by decide +kernel
theorem dX12_evict_30 : decode cX12_evict 30 = .ok (.goto 4, 3) := by decide +kernel
theorem dX12_evict_33 : decode cX12_evict 33 = .ok (.iconst 0, 1) := by decide +kernel
theorem dX12_evict_34 : decode cX12_evict 34 = .ok (.iconst 2, 1) := by decide +kernel
theorem dX12_evict_35 : decode cX12_evict 35 = .ok (.invokevirtual 249, 3) := by decide +kernel
theorem dX12_evict_38 : decode cX12_evict 38 = .ok (.ifCond .eq 5, 3) := by decide +kernel
theorem dX12_evict_41 : decode cX12_evict 41 = .ok (.iconst 0, 1) := by decide +kernel
theorem dX12_evict_42 : decode cX12_evict 42 = .ok (.ireturn, 1) := by decide +kernel
theorem dX12_evict_43 : decode cX12_evict 43 = .ok (.aload_n 0, 1) := by decide +kernel
theorem dX12_evict_44 : decode cX12_evict 44 = .ok (.invokevirtual 382, 3) := by decide +kernel
theorem dX12_evict_47 : decode cX12_evict 47 = .ok (.aload_n 0, 1) := by decide +kernel
theorem dX12_evict_48 : decode cX12_evict 48 = .ok (.getfield 7, 3) := by decide +kernel
theorem dX12_evict_51 : decode cX12_evict 51 = .ok (.iload_n 1, 1) := by decide +kernel
theorem dX12_evict_52 : decode cX12_evict 52 = .ok (.iconst 4, 1) := by decide +kernel
theorem dX12_evict_53 : decode cX12_evict 53 = .ok (.invokestatic 238, 3) := by decide +kernel
theorem dX12_evict_56 : decode cX12_evict 56 = .ok (.aload_n 0, 1) := by decide +kernel
theorem dX12_evict_57 : decode cX12_evict 57 = .ok (.getfield 7, 3) := by decide +kernel
theorem dX12_evict_60 : decode cX12_evict 60 = .ok (.iconst 0, 1) := by decide +kernel
theorem dX12_evict_61 : decode cX12_evict 61 = .ok (.laload, 1) := by decide +kernel
theorem dX12_evict_62 : decode cX12_evict 62 = .ok (.aload_n 0, 1) := by decide +kernel
theorem dX12_evict_63 : decode cX12_evict 63 = .ok (.getfield 13, 3) := by decide +kernel
theorem dX12_evict_66 : decode cX12_evict 66 = .ok (.iconst 5, 1) := by decide +kernel
theorem dX12_evict_67 : decode cX12_evict 67 = .ok (.iaload, 1) := by decide +kernel
theorem dX12_evict_68 : decode cX12_evict 68 = .ok (.i2l, 1) := by decide +kernel
theorem dX12_evict_69 : decode cX12_evict 69 = .ok (.ladd, 1) := by decide +kernel
theorem dX12_evict_70 : decode cX12_evict 70 = .ok (.lastore, 1) := by decide +kernel
theorem dX12_evict_71 : decode cX12_evict 71 = .ok (.aload_n 0, 1) := by decide +kernel
theorem dX12_evict_72 : decode cX12_evict 72 = .ok (.iload_n 1, 1) := by decide +kernel
theorem dX12_evict_73 : decode cX12_evict 73 = .ok (.iconst 4, 1) := by decide +kernel
theorem dX12_evict_74 : decode cX12_evict 74 = .ok (.invokevirtual 242, 3) := by decide +kernel
theorem dX12_evict_77 : decode cX12_evict 77 = .ok (.ireturn, 1) := by decide +kernel
theorem dX12_moves_0 : decode cX12_moves 0 = .ok (.aload_n 0, 1) := by decide +kernel
theorem dX12_moves_1 : decode cX12_moves 1 = .ok (.iload_n 1, 1) := by decide +kernel
theorem dX12_moves_2 : decode cX12_moves 2 = .ok (.invokevirtual 350, 3) := by decide +kernel
theorem dX12_moves_5 : decode cX12_moves 5 = .ok (.istore_n 3, 1) := by decide +kernel
theorem dX12_moves_6 : decode cX12_moves 6 = .ok (.aload_n 0, 1) := by decide +kernel
theorem dX12_moves_7 : decode cX12_moves 7 = .ok (.getfield 7, 3) := by decide +kernel
theorem dX12_moves_10 : decode cX12_moves 10 = .ok (.bipush 8, 2) := by decide +kernel
theorem dX12_moves_12 : decode cX12_moves 12 = .ok (.aload_n 0, 1) := by decide +kernel
theorem dX12_moves_13 : decode cX12_moves 13 = .ok (.iload_n 1, 1) := by decide +kernel
theorem dX12_moves_14 : decode cX12_moves 14 = .ok (.iconst 0, 1) := by decide +kernel
theorem dX12_moves_15 : decode cX12_moves 15 = .ok (.invokevirtual 242, 3) := by decide +kernel
theorem dX12_moves_18 : decode cX12_moves 18 = .ok (.iadd, 1) := by decide +kernel
theorem dX12_moves_19 : decode cX12_moves 19 = .ok (.dup2, 1) := by decide +kernel
theorem dX12_moves_20 : decode cX12_moves 20 = .ok (.laload, 1) := by decide +kernel
theorem dX12_moves_21 : decode cX12_moves 21 = .ok (.iload_n 3, 1) := by decide +kernel
theorem dX12_moves_22 : decode cX12_moves 22 = .ok (.i2l, 1) := by decide +kernel
theorem dX12_moves_23 : decode cX12_moves 23 = .ok (.ladd, 1) := by decide +kernel
theorem dX12_moves_24 : decode cX12_moves 24 = .ok (.lastore, 1) := by decide +kernel
theorem dX12_moves_25 : decode cX12_moves 25 = .ok (.aload_n 0, 1) := by decide +kernel
theorem dX12_moves_26 : decode cX12_moves 26 = .ok (.getfield 7, 3) := by decide +kernel
theorem dX12_moves_29 : decode cX12_moves 29 = .ok (.iload_n 1, 1) := by decide +kernel
theorem dX12_moves_30 : decode cX12_moves 30 = .ok (.iconst 2, 1) := by decide +kernel
theorem dX12_moves_31 : decode cX12_moves 31 = .ok (.invokestatic 238, 3) := by decide +kernel
theorem dX12_moves_34 : decode cX12_moves 34 = .ok (.iload_n 2, 1) := by decide +kernel
theorem dX12_moves_35 : decode cX12_moves 35 = .ok (.i2l, 1) := by decide +kernel
theorem dX12_moves_36 : decode cX12_moves 36 = .ok (.lastore, 1) := by decide +kernel
theorem dX12_moves_37 : decode cX12_moves 37 = .ok (.iload_n 3, 1) := by decide +kernel
theorem dX12_moves_38 : decode cX12_moves 38 = .ok (.ireturn, 1) := by decide +kernel
theorem dX12_migrate_0 : decode cX12_migrate 0 = .ok (.aload_n 0, 1) := by decide +kernel
theorem dX12_migrate_1 : decode cX12_migrate 1 = .ok (.iload_n 1, 1) := by decide +kernel
theorem dX12_migrate_2 : decode cX12_migrate 2 = .ok (.invokevirtual 304, 3) := by decide +kernel
theorem dX12_migrate_5 : decode cX12_migrate 5 = .ok (.ifCond .ne 47, 3) := by decide +kernel
theorem dX12_migrate_8 : decode cX12_migrate 8 = .ok (.aload_n 0, 1) := by decide +kernel
theorem dX12_migrate_9 : decode cX12_migrate 9 = .ok (.iload_n 2, 1) := by decide +kernel
theorem dX12_migrate_10 : decode cX12_migrate 10 = .ok (.invokevirtual 289, 3) := by decide +kernel
theorem dX12_migrate_13 : decode cX12_migrate 13 = .ok (.ifCond .ne 39, 3) := by decide +kernel
theorem dX12_migrate_16 : decode cX12_migrate 16 = .ok (.aload_n 0, 1) := by decide +kernel
theorem dX12_migrate_17 : decode cX12_migrate 17 = .ok (.aload_n 0, 1) := by decide +kernel
theorem dX12_migrate_18 : decode cX12_migrate 18 = .ok (.iload_n 1, 1) := by decide +kernel
theorem dX12_migrate_19 : decode cX12_migrate 19 = .ok (.iload_n 2, 1) := by decide +kernel
theorem dX12_migrate_20 : decode cX12_migrate 20 = .ok (.invokevirtual 267, 3) := by decide +kernel
theorem dX12_migrate_23 : decode cX12_migrate 23 = .ok (.ifCond .ne 17, 3) := by decide +kernel
theorem dX12_migrate_26 : decode cX12_migrate 26 = .ok (.aload_n 0, 1) := by decide +kernel
theorem dX12_migrate_27 : decode cX12_migrate 27 = .ok (.aload_n 0, 1) := by decide +kernel
theorem dX12_migrate_28 : decode cX12_migrate 28 = .ok (.iload_n 1, 1) := by decide +kernel
theorem dX12_migrate_29 : decode cX12_migrate 29 = .ok (.iconst 1, 1) := by decide +kernel
theorem dX12_migrate_30 : decode cX12_migrate 30 = .ok (.invokevirtual 242, 3) := by decide +kernel
theorem dX12_migrate_33 : decode cX12_migrate 33 = .ok (.iload_n 2, 1) := by decide +kernel
theorem dX12_migrate_34 : decode cX12_migrate 34 = .ok (.invokevirtual 276, 3) := by decide +kernel
theorem dX12_migrate_37 : decode cX12_migrate 37 = .ok (.ifCond .ne 7, 3) := by decide +kernel
theorem dX12_migrate_40 : decode cX12_migrate 40 = .ok (.iconst 1, 1) := by decide +kernel
theorem dX12_migrate_41 : decode cX12_migrate 41 = .ok (.goto 4, 3) := by decide +kernel
theorem dX12_migrate_44 : decode cX12_migrate 44 = .ok (.iconst 0, 1) := by decide +kernel
theorem dX12_migrate_45 : decode cX12_migrate 45 = .ok (.iconst 2, 1) := by decide +kernel
theorem dX12_migrate_46 : decode cX12_migrate 46 = .ok (.invokevirtual 249, 3) := by decide +kernel
theorem dX12_migrate_49 : decode cX12_migrate 49 = .ok (.ifCond .eq 5, 3) := by decide +kernel
theorem dX12_migrate_52 : decode cX12_migrate 52 = .ok (.iconst 0, 1) := by decide +kernel
theorem dX12_migrate_53 : decode cX12_migrate 53 = .ok (.ireturn, 1) := by decide +kernel
theorem dX12_migrate_54 : decode cX12_migrate 54 = .ok (.aload_n 0, 1) := by decide +kernel
theorem dX12_migrate_55 : decode cX12_migrate 55 = .ok (.invokevirtual 382, 3) := by decide +kernel
theorem dX12_migrate_58 : decode cX12_migrate 58 = .ok (.aload_n 0, 1) := by decide +kernel
theorem dX12_migrate_59 : decode cX12_migrate 59 = .ok (.iload_n 1, 1) := by decide +kernel
theorem dX12_migrate_60 : decode cX12_migrate 60 = .ok (.iload_n 2, 1) := by decide +kernel
theorem dX12_migrate_61 : decode cX12_migrate 61 = .ok (.invokevirtual 387, 3) := by decide +kernel
theorem dX12_migrate_64 : decode cX12_migrate 64 = .ok (.ireturn, 1) := by decide +kernel
theorem dX12_drain_0 : decode cX12_drain 0 = .ok (.aload_n 0, 1) := by decide +kernel
theorem dX12_drain_1 : decode cX12_drain 1 = .ok (.iload_n 1, 1) := by decide +kernel
theorem dX12_drain_2 : decode cX12_drain 2 = .ok (.invokevirtual 289, 3) := by decide +kernel
theorem dX12_drain_5 : decode cX12_drain 5 = .ok (.ifCond .eq 5, 3) := by decide +kernel
theorem dX12_drain_8 : decode cX12_drain 8 = .ok (.iconst 0, 1) := by decide +kernel
theorem dX12_drain_9 : decode cX12_drain 9 = .ok (.ireturn, 1) := by decide +kernel
theorem dX12_drain_10 : decode cX12_drain 10 = .ok (.aload_n 0, 1) := by decide +kernel
theorem dX12_drain_11 : decode cX12_drain 11 = .ok (.iload_n 1, 1) := by decide +kernel
theorem dX12_drain_12 : decode cX12_drain 12 = .ok (.invokevirtual 292, 3) := by decide +kernel
theorem dX12_drain_15 : decode cX12_drain 15 = .ok (.istore_n 2, 1) := by decide +kernel
theorem dX12_drain_16 : decode cX12_drain 16 = .ok (.aload_n 0, 1) := by decide +kernel
theorem dX12_drain_17 : decode cX12_drain 17 = .ok (.iload_n 2, 1) := by decide +kernel
theorem dX12_drain_18 : decode cX12_drain 18 = .ok (.ifCond .eq 21, 3) := by decide +kernel
theorem dX12_drain_21 : decode cX12_drain 21 = .ok (.iload_n 2, 1) := by decide +kernel
theorem dX12_drain_22 : decode cX12_drain 22 = .ok (.invokestatic 347, 3) := by decide +kernel
theorem dX12_drain_25 : decode cX12_drain 25 = .ok (.iconst 5, 1) := by decide +kernel
theorem dX12_drain_26 : decode cX12_drain 26 = .ok (.if_icmp .gt 13, 3) := by decide +kernel
theorem dX12_drain_29 : decode cX12_drain 29 = .ok (.aload_n 0, 1) := by decide +kernel
theorem dX12_drain_30 : decode cX12_drain 30 = .ok (.iload_n 1, 1) := by decide +kernel
theorem dX12_drain_31 : decode cX12_drain 31 = .ok (.iload_n 2, 1) := by decide +kernel
theorem dX12_drain_32 : decode cX12_drain 32 = .ok (.iconst 0, 1) := by decide +kernel
theorem dX12_drain_33 : decode cX12_drain 33 = .ok (.invokevirtual 353, 3) := by decide +kernel
theorem dX12_drain_36 : decode cX12_drain 36 = .ok (.ifCond .ne 7, 3) := by decide +kernel
theorem dX12_drain_39 : decode cX12_drain 39 = .ok (.iconst 1, 1) := by decide +kernel
theorem dX12_drain_40 : decode cX12_drain 40 = .ok (.goto 4, 3) := by decide +kernel
theorem dX12_drain_43 : decode cX12_drain 43 = .ok (.iconst 0, 1) := by decide +kernel
theorem dX12_drain_44 : decode cX12_drain 44 = .ok (.iconst 2, 1) := by decide +kernel
theorem dX12_drain_45 : decode cX12_drain 45 = .ok (.invokevirtual 249, 3) := by decide +kernel
theorem dX12_drain_48 : decode cX12_drain 48 = .ok (.ifCond .eq 5, 3) := by decide +kernel
theorem dX12_drain_51 : decode cX12_drain 51 = .ok (.iconst 0, 1) := by decide +kernel
theorem dX12_drain_52 : decode cX12_drain 52 = .ok (.ireturn, 1) := by decide +kernel
theorem dX12_drain_53 : decode cX12_drain 53 = .ok (.aload_n 0, 1) := by decide +kernel
theorem dX12_drain_54 : decode cX12_drain 54 = .ok (.invokevirtual 382, 3) := by decide +kernel
theorem dX12_drain_57 : decode cX12_drain 57 = .ok (.iconst 0, 1) := by decide +kernel
theorem dX12_drain_58 : decode cX12_drain 58 = .ok (.istore_n 3, 1) := by decide +kernel
theorem dX12_drain_59 : decode cX12_drain 59 = .ok (.iload_n 3, 1) := by decide +kernel
theorem dX12_drain_60 : decode cX12_drain 60 = .ok (.bipush 12, 2) := by decide +kernel
theorem dX12_drain_62 : decode cX12_drain 62 = .ok (.if_icmp .ge 29, 3) := by decide +kernel
theorem dX12_drain_65 : decode cX12_drain 65 = .ok (.iload_n 2, 1) := by decide +kernel
theorem dX12_drain_66 : decode cX12_drain 66 = .ok (.iload_n 3, 1) := by decide +kernel
theorem dX12_drain_67 : decode cX12_drain 67 = .ok (.invokestatic 159, 3) := by decide +kernel
theorem dX12_drain_70 : decode cX12_drain 70 = .ok (.ifCond .eq 15, 3) := by decide +kernel
theorem dX12_drain_73 : decode cX12_drain 73 = .ok (.aload_n 0, 1) := by decide +kernel
theorem dX12_drain_74 : decode cX12_drain 74 = .ok (.iload_n 3, 1) := by decide +kernel
theorem dX12_drain_75 : decode cX12_drain 75 = .ok (.aload_n 0, 1) := by decide +kernel
theorem dX12_drain_76 : decode cX12_drain 76 = .ok (.getfield 58, 3) := by decide +kernel
theorem dX12_drain_79 : decode cX12_drain 79 = .ok (.iload_n 3, 1) := by decide +kernel
theorem dX12_drain_80 : decode cX12_drain 80 = .ok (.iaload, 1) := by decide +kernel
theorem dX12_drain_81 : decode cX12_drain 81 = .ok (.invokevirtual 387, 3) := by decide +kernel
theorem dX12_drain_84 : decode cX12_drain 84 = .ok (.pop, 1) := by decide +kernel
theorem dX12_drain_85 : decode cX12_drain 85 = .ok (.iinc 3 1, 3) := by decide +kernel
theorem dX12_drain_88 : decode cX12_drain 88 = .ok (.goto (-29), 3) := by decide +kernel
theorem dX12_drain_91 : decode cX12_drain 91 = .ok (.iload_n 2, 1) := by decide +kernel
theorem dX12_drain_92 : decode cX12_drain 92 = .ok (.invokestatic 347, 3) := by decide +kernel
theorem dX12_drain_95 : decode cX12_drain 95 = .ok (.ireturn, 1) := by decide +kernel
theorem dX12_undo_0 : decode cX12_undo 0 = .ok (.aload_n 0, 1) := by decide +kernel
theorem dX12_undo_1 : decode cX12_undo 1 = .ok (.iconst 0, 1) := by decide +kernel
theorem dX12_undo_2 : decode cX12_undo 2 = .ok (.putfield 83, 3) := by decide +kernel
theorem dX12_undo_5 : decode cX12_undo 5 = .ok (.aload_n 0, 1) := by decide +kernel
theorem dX12_undo_6 : decode cX12_undo 6 = .ok (.getfield 261, 3) := by decide +kernel
theorem dX12_undo_9 : decode cX12_undo 9 = .ok (.ifCond .ne 5, 3) := by decide +kernel
theorem dX12_undo_12 : decode cX12_undo 12 = .ok (.iconst (-1), 1) := by decide +kernel
theorem dX12_undo_13 : decode cX12_undo 13 = .ok (.ireturn, 1) := by decide +kernel
theorem dX12_undo_14 : decode cX12_undo 14 = .ok (.aload_n 0, 1) := by decide +kernel
theorem dX12_undo_15 : decode cX12_undo 15 = .ok (.dup, 1) := by decide +kernel
theorem dX12_undo_16 : decode cX12_undo 16 = .ok (.getfield 261, 3) := by decide +kernel
theorem dX12_undo_19 : decode cX12_undo 19 = .ok (.iconst 1, 1) := by decide +kernel
theorem dX12_undo_20 : decode cX12_undo 20 = .ok (.isub, 1) := by decide +kernel
theorem dX12_undo_21 : decode cX12_undo 21 = .ok (.putfield 261, 3) := by decide +kernel
theorem dX12_undo_24 : decode cX12_undo 24 = .ok (.aload_n 0, 1) := by decide +kernel
theorem dX12_undo_25 : decode cX12_undo 25 = .ok (.getfield 64, 3) := by decide +kernel
theorem dX12_undo_28 : decode cX12_undo 28 = .ok (.bipush 116, 2) := by decide +kernel
theorem dX12_undo_30 : decode cX12_undo 30 = .ok (.aload_n 0, 1) := by decide +kernel
theorem dX12_undo_31 : decode cX12_undo 31 = .ok (.getfield 261, 3) := by decide +kernel
theorem dX12_undo_34 : decode cX12_undo 34 = .ok (.imul, 1) := by decide +kernel
theorem dX12_undo_35 : decode cX12_undo 35 = .ok (.aload_n 0, 1) := by decide +kernel
theorem dX12_undo_36 : decode cX12_undo 36 = .ok (.getfield 7, 3) := by decide +kernel
theorem dX12_undo_39 : decode cX12_undo 39 = .ok (.iconst 0, 1) := by decide +kernel
theorem dX12_undo_40 : decode cX12_undo 40 = .ok (.bipush 116, 2) := by decide +kernel
theorem dX12_undo_42 : decode cX12_undo 42 = .ok (.invokestatic 371, 3) := by decide +kernel
theorem dX12_undo_45 : decode cX12_undo 45 = .ok (.aload_n 0, 1) := by decide +kernel
theorem dX12_undo_46 : decode cX12_undo 46 = .ok (.getfield 261, 3) := by decide +kernel
theorem dX12_undo_49 : decode cX12_undo 49 = .ok (.ireturn, 1) := by decide +kernel
theorem dX12_noSlot_0 : decode cX12_noSlot 0 = .ok (.aload_n 0, 1) := by decide +kernel
theorem dX12_noSlot_1 : decode cX12_noSlot 1 = .ok (.iload_n 1, 1) := by decide +kernel
theorem dX12_noSlot_2 : decode cX12_noSlot 2 = .ok (.i2l, 1) := by decide +kernel
theorem dX12_noSlot_3 : decode cX12_noSlot 3 = .ok (.iconst 2, 1) := by decide +kernel
theorem dX12_noSlot_4 : decode cX12_noSlot 4 = .ok (.invokevirtual 285, 3) := by decide +kernel
theorem dX12_noSlot_7 : decode cX12_noSlot 7 = .ok (.ireturn, 1) := by decide +kernel
theorem dX12_saveSnapshot_0 : decode cX12_saveSnapshot 0 = .ok (.aload_n 0, 1) := by decide +kernel
theorem dX12_saveSnapshot_1 : decode cX12_saveSnapshot 1 = .ok (.iload_n 1, 1) := by decide +kernel
theorem dX12_saveSnapshot_2 : decode cX12_saveSnapshot 2 = .ok (.invokevirtual 390, 3) := by decide +kernel
theorem dX12_saveSnapshot_5 : decode cX12_saveSnapshot 5 = .ok (.ifCond .eq 5, 3) := by decide +kernel
theorem dX12_saveSnapshot_8 : decode cX12_saveSnapshot 8 = .ok (.iconst 0, 1) := by decide +kernel
theorem dX12_saveSnapshot_9 : decode cX12_saveSnapshot 9 = .ok (.ireturn, 1) := by decide +kernel
theorem dX12_saveSnapshot_10 : decode cX12_saveSnapshot 10 = .ok (.aload_n 0, 1) := by decide +kernel
theorem dX12_saveSnapshot_11 : decode cX12_saveSnapshot 11 = .ok (.getfield 70, 3) := by decide +kernel
theorem dX12_saveSnapshot_14 : decode cX12_saveSnapshot 14 = .ok (.iload_n 1, 1) := by decide +kernel
theorem dX12_saveSnapshot_15 : decode cX12_saveSnapshot 15 = .ok (.baload, 1) := by decide +kernel
theorem dX12_saveSnapshot_16 : decode cX12_saveSnapshot 16 = .ok (.istore_n 2, 1) := by decide +kernel
theorem dX12_saveSnapshot_17 : decode cX12_saveSnapshot 17 = .ok (.aload_n 0, 1) := by decide +kernel
theorem dX12_saveSnapshot_18 : decode cX12_saveSnapshot 18 = .ok (.getfield 7, 3) := by decide +kernel
theorem dX12_saveSnapshot_21 : decode cX12_saveSnapshot 21 = .ok (.iconst 0, 1) := by decide +kernel
theorem dX12_saveSnapshot_22 : decode cX12_saveSnapshot 22 = .ok (.aload_n 0, 1) := by decide +kernel
theorem dX12_saveSnapshot_23 : decode cX12_saveSnapshot 23 = .ok (.getfield 67, 3) := by decide +kernel
theorem dX12_saveSnapshot_26 : decode cX12_saveSnapshot 26 = .ok (.bipush 116, 2) := by decide +kernel
theorem dX12_saveSnapshot_28 : decode cX12_saveSnapshot 28 = .ok (.iload_n 1, 1) := by decide +kernel
theorem dX12_saveSnapshot_29 : decode cX12_saveSnapshot 29 = .ok (.imul, 1) := by decide +kernel
theorem dX12_saveSnapshot_30 : decode cX12_saveSnapshot 30 = .ok (.bipush 116, 2) := by decide +kernel
theorem dX12_saveSnapshot_32 : decode cX12_saveSnapshot 32 = .ok (.invokestatic 371, 3) := by decide +kernel
theorem dX12_saveSnapshot_35 : decode cX12_saveSnapshot 35 = .ok (.aload_n 0, 1) := by decide +kernel
theorem dX12_saveSnapshot_36 : decode cX12_saveSnapshot 36 = .ok (.getfield 70, 3) := by decide +kernel
theorem dX12_saveSnapshot_39 : decode cX12_saveSnapshot 39 = .ok (.iload_n 1, 1) := by decide +kernel
theorem dX12_saveSnapshot_40 : decode cX12_saveSnapshot 40 = .ok (.iconst 1, 1) := by decide +kernel
theorem dX12_saveSnapshot_41 : decode cX12_saveSnapshot 41 = .ok (.bastore, 1) := by decide +kernel
theorem dX12_saveSnapshot_42 : decode cX12_saveSnapshot 42 = .ok (.iload_n 2, 1) := by decide +kernel
theorem dX12_saveSnapshot_43 : decode cX12_saveSnapshot 43 = .ok (.ireturn, 1) := by decide +kernel
theorem dX12_restoreSnapshot_0 : decode cX12_restoreSnapshot 0 = .ok (.aload_n 0, 1) := by decide +kernel
theorem dX12_restoreSnapshot_1 : decode cX12_restoreSnapshot 1 = .ok (.iload_n 1, 1) := by decide +kernel
theorem dX12_restoreSnapshot_2 : decode cX12_restoreSnapshot 2 = .ok (.invokevirtual 390, 3) := by decide +kernel
theorem dX12_restoreSnapshot_5 : decode cX12_restoreSnapshot 5 = .ok (.ifCond .ne 25, 3) := by decide +kernel
theorem dX12_restoreSnapshot_8 : decode cX12_restoreSnapshot 8 = .ok (.aload_n 0, 1) := by decide +kernel
theorem dX12_restoreSnapshot_9 : decode cX12_restoreSnapshot 9 = .ok (.aload_n 0, 1) := by decide +kernel
theorem dX12_restoreSnapshot_10 : decode cX12_restoreSnapshot 10 = .ok (.getfield 70, 3) := by decide +kernel
theorem dX12_restoreSnapshot_13 : decode cX12_restoreSnapshot 13 = .ok (.iload_n 1, 1) := by decide +kernel
theorem dX12_restoreSnapshot_14 : decode cX12_restoreSnapshot 14 = .ok (.baload, 1) := by decide +kernel
theorem dX12_restoreSnapshot_15 : decode cX12_restoreSnapshot 15 = .ok (.ifCond .ne 7, 3) := by decide +kernel
theorem dX12_restoreSnapshot_18 : decode cX12_restoreSnapshot 18 = .ok (.iconst 1, 1) := by decide +kernel
theorem dX12_restoreSnapshot_19 : decode cX12_restoreSnapshot 19 = .ok (.goto 4, 3) := by decide +kernel
theorem dX12_restoreSnapshot_22 : decode cX12_restoreSnapshot 22 = .ok (.iconst 0, 1) := by decide +kernel
theorem dX12_restoreSnapshot_23 : decode cX12_restoreSnapshot 23 = .ok (.iconst 2, 1) := by decide +kernel
theorem dX12_restoreSnapshot_24 : decode cX12_restoreSnapshot 24 = .ok (.invokevirtual 249, 3) := by decide +kernel
theorem dX12_restoreSnapshot_27 : decode cX12_restoreSnapshot 27 = .ok (.ifCond .eq 5, 3) := by decide +kernel
theorem dX12_restoreSnapshot_30 : decode cX12_restoreSnapshot 30 = .ok (.iconst 0, 1) := by decide +kernel
theorem dX12_restoreSnapshot_31 : decode cX12_restoreSnapshot 31 = .ok (.ireturn, 1) := by decide +kernel
theorem dX12_restoreSnapshot_32 : decode cX12_restoreSnapshot 32 = .ok (.aload_n 0, 1) := by decide +kernel
theorem dX12_restoreSnapshot_33 : decode cX12_restoreSnapshot 33 = .ok (.getfield 67, 3) := by decide +kernel
theorem dX12_restoreSnapshot_36 : decode cX12_restoreSnapshot 36 = .ok (.bipush 116, 2) := by decide +kernel
theorem dX12_restoreSnapshot_38 : decode cX12_restoreSnapshot 38 = .ok (.iload_n 1, 1) := by decide +kernel
theorem dX12_restoreSnapshot_39 : decode cX12_restoreSnapshot 39 = .ok (.imul, 1) := by decide +kernel
theorem dX12_restoreSnapshot_40 : decode cX12_restoreSnapshot 40 = .ok (.aload_n 0, 1) := by decide +kernel
theorem dX12_restoreSnapshot_41 : decode cX12_restoreSnapshot 41 = .ok (.getfield 7, 3) := by decide +kernel
theorem dX12_restoreSnapshot_44 : decode cX12_restoreSnapshot 44 = .ok (.iconst 0, 1) := by decide +kernel
theorem dX12_restoreSnapshot_45 : decode cX12_restoreSnapshot 45 = .ok (.bipush 116, 2) := by decide +kernel
theorem dX12_restoreSnapshot_47 : decode cX12_restoreSnapshot 47 = .ok (.invokestatic 371, 3) := by decide +kernel
theorem dX12_restoreSnapshot_50 : decode cX12_restoreSnapshot 50 = .ok (.aload_n 0, 1) := by decide +kernel
theorem dX12_restoreSnapshot_51 : decode cX12_restoreSnapshot 51 = .ok (.iconst 0, 1) := by decide +kernel
theorem dX12_restoreSnapshot_52 : decode cX12_restoreSnapshot 52 = .ok (.putfield 261, 3) := by decide +kernel
theorem dX12_restoreSnapshot_55 : decode cX12_restoreSnapshot 55 = .ok (.aload_n 0, 1) := by decide +kernel
theorem dX12_restoreSnapshot_56 : decode cX12_restoreSnapshot 56 = .ok (.getfield 7, 3) := by decide +kernel
theorem dX12_restoreSnapshot_59 : decode cX12_restoreSnapshot 59 = .ok (.iconst 0, 1) := by decide +kernel
theorem dX12_restoreSnapshot_60 : decode cX12_restoreSnapshot 60 = .ok (.laload, 1) := by decide +kernel
theorem dX12_restoreSnapshot_61 : decode cX12_restoreSnapshot 61 = .ok (.l2i, 1) := by decide +kernel
theorem dX12_restoreSnapshot_62 : decode cX12_restoreSnapshot 62 = .ok (.ireturn, 1) := by decide +kernel
