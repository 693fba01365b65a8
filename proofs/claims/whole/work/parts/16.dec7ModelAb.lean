theorem dX12_parse_68 : decode cX12_parse 68 = .ok (.aload_n 0, 1) := by decide +kernel
theorem dX12_parse_69 : decode cX12_parse 69 = .ok (.invokevirtual 153, 3) := by decide +kernel
theorem dX12_parse_72 : decode cX12_parse 72 = .ok (.iconst 1, 1) := by decide +kernel
theorem dX12_parse_73 : decode cX12_parse 73 = .ok (.istore_n 2, 1) := by decide +kernel
theorem dX12_parse_74 : decode cX12_parse 74 = .ok (.iload_n 2, 1) := by decide +kernel
theorem dX12_parse_75 : decode cX12_parse 75 = .ok (.ifCond .eq 35, 3) := by decide +kernel
theorem dX12_parse_78 : decode cX12_parse 78 = .ok (.aload_n 0, 1) := by decide +kernel
theorem dX12_parse_79 : decode cX12_parse 79 = .ok (.getfield 117, 3) := by decide +kernel
theorem dX12_parse_82 : decode cX12_parse 82 = .ok (.ifCond .eq 28, 3) := by decide +kernel
theorem dX12_parse_85 : decode cX12_parse 85 = .ok (.aload_n 0, 1) := by decide +kernel
theorem dX12_parse_86 : decode cX12_parse 86 = .ok (.invokevirtual 253, 3) := by decide +kernel
theorem dX12_parse_89 : decode cX12_parse 89 = .ok (.ifCond .eq 16, 3) := by decide +kernel
theorem dX12_parse_92 : decode cX12_parse 92 = .ok (.aload_n 0, 1) := by decide +kernel
theorem dX12_parse_93 : decode cX12_parse 93 = .ok (.bipush 59, 2) := by decide +kernel
theorem dX12_parse_95 : decode cX12_parse 95 = .ok (.invokevirtual 232, 3) := by decide +kernel
theorem dX12_parse_98 : decode cX12_parse 98 = .ok (.ifCond .eq 7, 3) := by decide +kernel
theorem dX12_parse_101 : decode cX12_parse 101 = .ok (.iconst 1, 1) := by decide +kernel
theorem dX12_parse_102 : decode cX12_parse 102 = .ok (.goto 4, 3) := by decide +kernel
theorem dX12_parse_105 : decode cX12_parse 105 = .ok (.iconst 0, 1) := by decide +kernel
theorem dX12_parse_106 : decode cX12_parse 106 = .ok (.istore_n 2, 1) := by decide +kernel
theorem dX12_parse_107 : decode cX12_parse 107 = .ok (.goto (-33), 3) := by decide +kernel
theorem dX12_parse_110 : decode cX12_parse 110 = .ok (.iload_n 2, 1) := by decide +kernel
theorem dX12_parse_111 : decode cX12_parse 111 = .ok (.ifCond .ne 8, 3) := by decide +kernel
theorem dX12_parse_114 : decode cX12_parse 114 = .ok (.aload_n 0, 1) := by decide +kernel
theorem dX12_parse_115 : decode cX12_parse 115 = .ok (.getfield 144, 3) := by decide +kernel
theorem dX12_parse_118 : decode cX12_parse 118 = .ok (.ireturn, 1) := by decide +kernel
theorem dX12_parse_119 : decode cX12_parse 119 = .ok (.aload_n 0, 1) := by decide +kernel
theorem dX12_parse_120 : decode cX12_parse 120 = .ok (.invokevirtual 77, 3) := by decide +kernel
theorem dX12_parse_123 : decode cX12_parse 123 = .ok (.aload_n 0, 1) := by decide +kernel
theorem dX12_parse_124 : decode cX12_parse 124 = .ok (.invokevirtual 80, 3) := by decide +kernel
theorem dX12_parse_127 : decode cX12_parse 127 = .ok (.iconst 0, 1) := by decide +kernel
theorem dX12_parse_128 : decode cX12_parse 128 = .ok (.ireturn, 1) := by decide +kernel
theorem dX12_errorPosition_0 : decode cX12_errorPosition 0 = .ok (.aload_n 0, 1) := by decide +kernel
theorem dX12_errorPosition_1 : decode cX12_errorPosition 1 = .ok (.iconst 0, 1) := by decide +kernel
theorem dX12_errorPosition_2 : decode cX12_errorPosition 2 = .ok (.putfield 83, 3) := by decide +kernel
theorem dX12_errorPosition_5 : decode cX12_errorPosition 5 = .ok (.aload_n 0, 1) := by decide +kernel
theorem dX12_errorPosition_6 : decode cX12_errorPosition 6 = .ok (.getfield 39, 3) := by decide +kernel
theorem dX12_errorPosition_9 : decode cX12_errorPosition 9 = .ok (.ireturn, 1) := by decide +kernel
theorem dX12_isOn_0 : decode cX12_isOn 0 = .ok (.aload_n 0, 1) := by decide +kernel
theorem dX12_isOn_1 : decode cX12_isOn 1 = .ok (.iload_n 1, 1) := by decide +kernel
theorem dX12_isOn_2 : decode cX12_isOn 2 = .ok (.invokevirtual 264, 3) := by decide +kernel
theorem dX12_isOn_5 : decode cX12_isOn 5 = .ok (.ifCond .eq 23, 3) := by decide +kernel
theorem dX12_isOn_8 : decode cX12_isOn 8 = .ok (.aload_n 0, 1) := by decide +kernel
theorem dX12_isOn_9 : decode cX12_isOn 9 = .ok (.getfield 7, 3) := by decide +kernel
theorem dX12_isOn_12 : decode cX12_isOn 12 = .ok (.iload_n 1, 1) := by decide +kernel
theorem dX12_isOn_13 : decode cX12_isOn 13 = .ok (.iconst 2, 1) := by decide +kernel
theorem dX12_isOn_14 : decode cX12_isOn 14 = .ok (.invokestatic 238, 3) := by decide +kernel
theorem dX12_isOn_17 : decode cX12_isOn 17 = .ok (.laload, 1) := by decide +kernel
theorem dX12_isOn_18 : decode cX12_isOn 18 = .ok (.iload_n 2, 1) := by decide +kernel
theorem dX12_isOn_19 : decode cX12_isOn 19 = .ok (.i2l, 1) := by decide +kernel
theorem dX12_isOn_20 : decode cX12_isOn 20 = .ok (.lcmp, 1) := by decide +kernel
theorem dX12_isOn_21 : decode cX12_isOn 21 = .ok (.ifCond .ne 7, 3) := by decide +kernel
theorem dX12_isOn_24 : decode cX12_isOn 24 = .ok (.iconst 1, 1) := by decide +kernel
theorem dX12_isOn_25 : decode cX12_isOn 25 = .ok (.goto 4, 3) := by decide +kernel
theorem dX12_isOn_28 : decode cX12_isOn 28 = .ok (.iconst 0, 1) := by decide +kernel
theorem dX12_isOn_29 : decode cX12_isOn 29 = .ok (.ireturn, 1) := by decide +kernel
theorem dX12_freeOf_0 : decode cX12_freeOf 0 = .ok (.aload_n 0, 1) := by decide +kernel
theorem dX12_freeOf_1 : decode cX12_freeOf 1 = .ok (.getfield 17, 3) := by decide +kernel
theorem dX12_freeOf_4 : decode cX12_freeOf 4 = .ok (.iconst 2, 1) := by decide +kernel
theorem dX12_freeOf_5 : decode cX12_freeOf 5 = .ok (.iload_n 1, 1) := by decide +kernel
theorem dX12_freeOf_6 : decode cX12_freeOf 6 = .ok (.imul, 1) := by decide +kernel
theorem dX12_freeOf_7 : decode cX12_freeOf 7 = .ok (.iload_n 2, 1) := by decide +kernel
theorem dX12_freeOf_8 : decode cX12_freeOf 8 = .ok (.iadd, 1) := by decide +kernel
theorem dX12_freeOf_9 : decode cX12_freeOf 9 = .ok (.iaload, 1) := by decide +kernel
theorem dX12_freeOf_10 : decode cX12_freeOf 10 = .ok (.istore_n 3, 1) := by decide +kernel
theorem dX12_freeOf_11 : decode cX12_freeOf 11 = .ok (.iconst 0, 1) := by decide +kernel
theorem dX12_freeOf_12 : decode cX12_freeOf 12 = .ok (.istore 4, 2) := by decide +kernel
theorem dX12_freeOf_14 : decode cX12_freeOf 14 = .ok (.iload 4, 2) := by decide +kernel
theorem dX12_freeOf_16 : decode cX12_freeOf 16 = .ok (.bipush 12, 2) := by decide +kernel
theorem dX12_freeOf_18 : decode cX12_freeOf 18 = .ok (.if_icmp .ge 42, 3) := by decide +kernel
theorem dX12_freeOf_21 : decode cX12_freeOf 21 = .ok (.iload_n 3, 1) := by decide +kernel
theorem dX12_freeOf_22 : decode cX12_freeOf 22 = .ok (.aload_n 0, 1) := by decide +kernel
theorem dX12_freeOf_23 : decode cX12_freeOf 23 = .ok (.iload 4, 2) := by decide +kernel
theorem dX12_freeOf_25 : decode cX12_freeOf 25 = .ok (.iload_n 1, 1) := by decide +kernel
theorem dX12_freeOf_26 : decode cX12_freeOf 26 = .ok (.invokevirtual 267, 3) := by decide +kernel
theorem dX12_freeOf_29 : decode cX12_freeOf 29 = .ok (.ifCond .eq 22, 3) := by decide +kernel
theorem dX12_freeOf_32 : decode cX12_freeOf 32 = .ok (.aload_n 0, 1) := by decide +kernel
theorem dX12_freeOf_33 : decode cX12_freeOf 33 = .ok (.getfield 20, 3) := by decide +kernel
theorem dX12_freeOf_36 : decode cX12_freeOf 36 = .ok (.iconst 3, 1) := by decide +kernel
theorem dX12_freeOf_37 : decode cX12_freeOf 37 = .ok (.aload_n 0, 1) := by decide +kernel
theorem dX12_freeOf_38 : decode cX12_freeOf 38 = .ok (.iload 4, 2) := by decide +kernel
theorem dX12_freeOf_40 : decode cX12_freeOf 40 = .ok (.iconst 1, 1) := by decide +kernel
theorem dX12_freeOf_41 : decode cX12_freeOf 41 = .ok (.invokevirtual 242, 3) := by decide +kernel
theorem dX12_freeOf_44 : decode cX12_freeOf 44 = .ok (.imul, 1) := by decide +kernel
theorem dX12_freeOf_45 : decode cX12_freeOf 45 = .ok (.iload_n 2, 1) := by decide +kernel
theorem dX12_freeOf_46 : decode cX12_freeOf 46 = .ok (.iadd, 1) := by decide +kernel
theorem dX12_freeOf_47 : decode cX12_freeOf 47 = .ok (.iaload, 1) := by decide +kernel
theorem dX12_freeOf_48 : decode cX12_freeOf 48 = .ok (.goto 4, 3) := by decide +kernel
theorem dX12_freeOf_51 : decode cX12_freeOf 51 = .ok (.iconst 0, 1) := by decide +kernel
theorem dX12_freeOf_52 : decode cX12_freeOf 52 = .ok (.isub, 1) := by decide +kernel
theorem dX12_freeOf_53 : decode cX12_freeOf 53 = .ok (.istore_n 3, 1) := by decide +kernel
theorem dX12_freeOf_54 : decode cX12_freeOf 54 = .ok (.iinc 4 1, 3) := by decide +kernel
theorem dX12_freeOf_57 : decode cX12_freeOf 57 = .ok (.goto (-43), 3) := by decide +kernel
theorem dX12_freeOf_60 : decode cX12_freeOf 60 = .ok (.iload_n 3, 1) := by decide +kernel
theorem dX12_freeOf_61 : decode cX12_freeOf 61 = .ok (.ireturn, 1) := by decide +kernel
theorem dX12_fits_0 : decode cX12_fits 0 = .ok (.aload_n 0, 1) := by decide +kernel
theorem dX12_fits_1 : decode cX12_fits 1 = .ok (.getfield 20, 3) := by decide +kernel
theorem dX12_fits_4 : decode cX12_fits 4 = .ok (.iconst 3, 1) := by decide +kernel
theorem dX12_fits_5 : decode cX12_fits 5 = .ok (.iload_n 1, 1) := by decide +kernel
theorem dX12_fits_6 : decode cX12_fits 6 = .ok (.imul, 1) := by decide +kernel
theorem dX12_fits_7 : decode cX12_fits 7 = .ok (.iaload, 1) := by decide +kernel
theorem dX12_fits_8 : decode cX12_fits 8 = .ok (.aload_n 0, 1) := by decide +kernel
theorem dX12_fits_9 : decode cX12_fits 9 = .ok (.iload_n 2, 1) := by decide +kernel
theorem dX12_fits_10 : decode cX12_fits 10 = .ok (.iconst 0, 1) := by decide +kernel
theorem dX12_fits_11 : decode cX12_fits 11 = .ok (.invokevirtual 270, 3) := by decide +kernel
theorem dX12_fits_14 : decode cX12_fits 14 = .ok (.if_icmp .gt 26, 3) := by decide +kernel
theorem dX12_fits_17 : decode cX12_fits 17 = .ok (.aload_n 0, 1) := by decide +kernel
theorem dX12_fits_18 : decode cX12_fits 18 = .ok (.getfield 20, 3) := by decide +kernel
theorem dX12_fits_21 : decode cX12_fits 21 = .ok (.iconst 3, 1) := by decide +kernel
theorem dX12_fits_22 : decode cX12_fits 22 = .ok (.iload_n 1, 1) := by decide +kernel
theorem dX12_fits_23 : decode cX12_fits 23 = .ok (.imul, 1) := by decide +kernel
theorem dX12_fits_24 : decode cX12_fits 24 = .ok (.iconst 1, 1) := by decide +kernel
theorem dX12_fits_25 : decode cX12_fits 25 = .ok (.iadd, 1) := by decide +kernel
theorem dX12_fits_26 : decode cX12_fits 26 = .ok (.iaload, 1) := by decide +kernel
theorem dX12_fits_27 : decode cX12_fits 27 = .ok (.aload_n 0, 1) := by decide +kernel
theorem dX12_fits_28 : decode cX12_fits 28 = .ok (.iload_n 2, 1) := by decide +kernel
theorem dX12_fits_29 : decode cX12_fits 29 = .ok (.iconst 1, 1) := by decide +kernel
theorem dX12_fits_30 : decode cX12_fits 30 = .ok (.invokevirtual 270, 3) := by decide +kernel
theorem dX12_fits_33 : decode cX12_fits 33 = .ok (.if_icmp .gt 7, 3) := by decide +kernel
theorem dX12_fits_36 : decode cX12_fits 36 = .ok (.iconst 1, 1) := by decide +kernel
theorem dX12_fits_37 : decode cX12_fits 37 = .ok (.goto 4, 3) := by decide +kernel
theorem dX12_fits_40 : decode cX12_fits 40 = .ok (.iconst 0, 1) := by decide +kernel
theorem dX12_fits_41 : decode cX12_fits 41 = .ok (.ireturn, 1) := by decide +kernel
theorem dX12_bestFor_0 : decode cX12_bestFor 0 = .ok (.iconst (-1), 1) := by decide +kernel
theorem dX12_bestFor_1 : decode cX12_bestFor 1 = .ok (.istore_n 2, 1) := by decide +kernel
theorem dX12_bestFor_2 : decode cX12_bestFor 2 = .ok (.ldc_w 275, 3) := by decide +kernel
theorem dX12_bestFor_5 : decode cX12_bestFor 5 = .ok (.istore_n 3, 1) := by decide +kernel
theorem dX12_bestFor_6 : decode cX12_bestFor 6 = .ok (.iconst 0, 1) := by decide +kernel
theorem dX12_bestFor_7 : decode cX12_bestFor 7 = .ok (.istore 4, 2) := by decide +kernel
theorem dX12_bestFor_9 : decode cX12_bestFor 9 = .ok (.iload 4, 2) := by decide +kernel
theorem dX12_bestFor_11 : decode cX12_bestFor 11 = .ok (.aload_n 0, 1) := by decide +kernel
theorem dX12_bestFor_12 : decode cX12_bestFor 12 = .ok (.getfield 13, 3) := by decide +kernel
theorem dX12_bestFor_15 : decode cX12_bestFor 15 = .ok (.iconst 0, 1) := by decide +kernel
theorem dX12_bestFor_16 : decode cX12_bestFor 16 = .ok (.iaload, 1) := by decide +kernel
theorem dX12_bestFor_17 : decode cX12_bestFor 17 = .ok (.if_icmp .ge 48, 3) := by decide +kernel
theorem dX12_bestFor_20 : decode cX12_bestFor 20 = .ok (.aload_n 0, 1) := by decide +kernel
theorem dX12_bestFor_21 : decode cX12_bestFor 21 = .ok (.iload 4, 2) := by decide +kernel
theorem dX12_bestFor_23 : decode cX12_bestFor 23 = .ok (.iconst 0, 1) := by decide +kernel
theorem dX12_bestFor_24 : decode cX12_bestFor 24 = .ok (.invokevirtual 270, 3) := by decide +kernel
theorem dX12_bestFor_27 : decode cX12_bestFor 27 = .ok (.aload_n 0, 1) := by decide +kernel
theorem dX12_bestFor_28 : decode cX12_bestFor 28 = .ok (.iload 4, 2) := by decide +kernel
theorem dX12_bestFor_30 : decode cX12_bestFor 30 = .ok (.iconst 1, 1) := by decide +kernel
theorem dX12_bestFor_31 : decode cX12_bestFor 31 = .ok (.invokevirtual 270, 3) := by decide +kernel
theorem dX12_bestFor_34 : decode cX12_bestFor 34 = .ok (.iadd, 1) := by decide +kernel
theorem dX12_bestFor_35 : decode cX12_bestFor 35 = .ok (.istore 5, 2) := by decide +kernel
theorem dX12_bestFor_37 : decode cX12_bestFor 37 = .ok (.aload_n 0, 1) := by decide +kernel
theorem dX12_bestFor_38 : decode cX12_bestFor 38 = .ok (.iload_n 1, 1) := by decide +kernel
theorem dX12_bestFor_39 : decode cX12_bestFor 39 = .ok (.iload 4, 2) := by decide +kernel
theorem dX12_bestFor_41 : decode cX12_bestFor 41 = .ok (.invokevirtual 276, 3) := by decide +kernel
theorem dX12_bestFor_44 : decode cX12_bestFor 44 = .ok (.ifCond .eq 15, 3) := by decide +kernel
theorem dX12_bestFor_47 : decode cX12_bestFor 47 = .ok (.iload 5, 2) := by decide +kernel
theorem dX12_bestFor_49 : decode cX12_bestFor 49 = .ok (.iload_n 3, 1) := by decide +kernel
theorem dX12_bestFor_50 : decode cX12_bestFor 50 = .ok (.if_icmp .ge 9, 3) := by decide +kernel
theorem dX12_bestFor_53 : decode cX12_bestFor 53 = .ok (.iload 4, 2) := by decide +kernel
theorem dX12_bestFor_55 : decode cX12_bestFor 55 = .ok (.istore_n 2, 1) := by decide +kernel
theorem dX12_bestFor_56 : decode cX12_bestFor 56 = .ok (.iload 5, 2) := by decide +kernel
theorem dX12_bestFor_58 : decode cX12_bestFor 58 = .ok (.istore_n 3, 1) := by decide +kernel
theorem dX12_bestFor_59 : decode cX12_bestFor 59 = .ok (.iinc 4 1, 3) := by decide +kernel
theorem dX12_bestFor_62 : decode cX12_bestFor 62 = .ok (.goto (-53), 3) := by decide +kernel
theorem dX12_bestFor_65 : decode cX12_bestFor 65 = .ok (.iload_n 2, 1) := by decide +kernel
theorem dX12_bestFor_66 : decode cX12_bestFor 66 = .ok (.ireturn, 1) := by decide +kernel
theorem dX12_no_0 : decode cX12_no 0 = .ok (.aload_n 0, 1) := by decide +kernel
theorem dX12_no_1 : decode cX12_no 1 = .ok (.iconst 0, 1) := by decide +kernel
theorem dX12_no_2 : decode cX12_no 2 = .ok (.putfield 83, 3) := by decide +kernel
theorem dX12_no_5 : decode cX12_no 5 = .ok (.aload_n 0, 1) := by decide +kernel
theorem dX12_no_6 : decode cX12_no 6 = .ok (.lload_n 1, 1) := by decide +kernel
theorem dX12_no_7 : decode cX12_no 7 = .ok (.lconst 0, 1) := by decide +kernel
theorem dX12_no_8 : decode cX12_no 8 = .ok (.iload_n 3, 1) := by decide +kernel
theorem dX12_no_9 : decode cX12_no 9 = .ok (.iconst 1, 1) := by decide +kernel
theorem dX12_no_10 : decode cX12_no 10 = .ok (.isub, 1) := by decide +kernel
theorem dX12_no_11 : decode cX12_no 11 = .ok (.i2l, 1) := by decide +kernel
theorem dX12_no_12 : decode cX12_no 12 = .ok (.invokestatic 124, 3) := by decide +kernel
theorem dX12_no_15 : decode cX12_no 15 = .ok (.ifCond .ne 7, 3) := by decide +kernel
theorem dX12_no_18 : decode cX12_no 18 = .ok (.iconst 1, 1) := by decide +kernel
theorem dX12_no_19 : decode cX12_no 19 = .ok (.goto 4, 3) := by decide +kernel
theorem dX12_no_22 : decode cX12_no 22 = .ok (.iconst 0, 1) := by decide +kernel
theorem dX12_no_23 : decode cX12_no 23 = .ok (.iconst 1, 1) := by decide +kernel
theorem dX12_no_24 : decode cX12_no 24 = .ok (.invokevirtual 249, 3) := by decide +kernel
theorem dX12_no_27 : decode cX12_no 27 = .ok (.ireturn, 1) := by decide +kernel
theorem dX12_noHost_0 : decode cX12_noHost 0 = .ok (.aload_n 0, 1) := by decide +kernel
theorem dX12_noHost_1 : decode cX12_noHost 1 = .ok (.iload_n 1, 1) := by decide +kernel
theorem dX12_noHost_2 : decode cX12_noHost 2 = .ok (.i2l, 1) := by decide +kernel
theorem dX12_noHost_3 : decode cX12_noHost 3 = .ok (.aload_n 0, 1) := by decide +kernel
theorem dX12_noHost_4 : decode cX12_noHost 4 = .ok (.getfield 13, 3) := by decide +kernel
theorem dX12_noHost_7 : decode cX12_noHost 7 = .ok (.iconst 0, 1) := by decide +kernel
theorem dX12_noHost_8 : decode cX12_noHost 8 = .ok (.iaload, 1) := by decide +kernel
theorem dX12_noHost_9 : decode cX12_noHost 9 = .ok (.invokevirtual 285, 3) := by decide +kernel
theorem dX12_noHost_12 : decode cX12_noHost 12 = .ok (.ireturn, 1) := by decide +kernel
theorem dX12_noType_0 : decode cX12_noType 0 = .ok (.aload_n 0, 1) := by decide +kernel
theorem dX12_noType_1 : decode cX12_noType 1 = .ok (.iload_n 1, 1) := by decide +kernel
theorem dX12_noType_2 : decode cX12_noType 2 = .ok (.i2l, 1) := by decide +kernel
theorem dX12_noType_3 : decode cX12_noType 3 = .ok (.aload_n 0, 1) := by decide +kernel
theorem dX12_noType_4 : decode cX12_noType 4 = .ok (.getfield 13, 3) := by decide +kernel
theorem dX12_noType_7 : decode cX12_noType 7 = .ok (.iconst 1, 1) := by decide +kernel
theorem dX12_noType_8 : decode cX12_noType 8 = .ok (.iaload, 1) := by decide +kernel
theorem dX12_noType_9 : decode cX12_noType 9 = .ok (.invokevirtual 285, 3) := by decide +kernel
theorem dX12_noType_12 : decode cX12_noType 12 = .ok (.ireturn, 1) := by decide +kernel
theorem dX12_noTenant_0 : decode cX12_noTenant 0 = .ok (.aload_n 0, 1) := by decide +kernel
theorem dX12_noTenant_1 : decode cX12_noTenant 1 = .ok (.iload_n 1, 1) := by decide +kernel
theorem dX12_noTenant_2 : decode cX12_noTenant 2 = .ok (.i2l, 1) := by decide +kernel
theorem dX12_noTenant_3 : decode cX12_noTenant 3 = .ok (.aload_n 0, 1) := by decide +kernel
theorem dX12_noTenant_4 : decode cX12_noTenant 4 = .ok (.getfield 13, 3) := by decide +kernel
theorem dX12_noTenant_7 : decode cX12_noTenant 7 = .ok (.iconst 2, 1) := by decide +kernel
theorem dX12_noTenant_8 : decode cX12_noTenant 8 = .ok (.iaload, 1) := by decide +kernel
theorem dX12_noTenant_9 : decode cX12_noTenant 9 = .ok (.invokevirtual 285, 3) := by decide +kernel
theorem dX12_noTenant_12 : decode cX12_noTenant 12 = .ok (.ireturn, 1) := by decide +kernel
theorem dX12_noInstance_0 : decode cX12_noInstance 0 = .ok (.aload_n 0, 1) := by decide +kernel
theorem dX12_noInstance_1 : decode cX12_noInstance 1 = .ok (.iload_n 1, 1) := by decide +kernel
theorem dX12_noInstance_2 : decode cX12_noInstance 2 = .ok (.i2l, 1) := by decide +kernel
theorem dX12_noInstance_3 : decode cX12_noInstance 3 = .ok (.bipush 12, 2) := by decide +kernel
theorem dX12_noInstance_5 : decode cX12_noInstance 5 = .ok (.invokevirtual 285, 3) := by decide +kernel
theorem dX12_noInstance_8 : decode cX12_noInstance 8 = .ok (.ifCond .ne 24, 3) := by decide +kernel
theorem dX12_noInstance_11 : decode cX12_noInstance 11 = .ok (.aload_n 0, 1) := by decide +kernel
theorem dX12_noInstance_12 : decode cX12_noInstance 12 = .ok (.aload_n 0, 1) := by decide +kernel
theorem dX12_noInstance_13 : decode cX12_noInstance 13 = .ok (.iload_n 1, 1) := by decide +kernel
theorem dX12_noInstance_14 : decode cX12_noInstance 14 = .ok (.invokevirtual 264, 3) := by decide +kernel
theorem dX12_noInstance_17 : decode cX12_noInstance 17 = .ok (.ifCond .ne 7, 3) := by decide +kernel
theorem dX12_noInstance_20 : decode cX12_noInstance 20 = .ok (.iconst 1, 1) := by decide +kernel
theorem dX12_noInstance_21 : decode cX12_noInstance 21 = .ok (.goto 4, 3) := by decide +kernel
theorem dX12_noInstance_24 : decode cX12_noInstance 24 = .ok (.iconst 0, 1) := by decide +kernel
theorem dX12_noInstance_25 : decode cX12_noInstance 25 = .ok (.iconst 1, 1) := by decide +kernel
theorem dX12_noInstance_26 : decode cX12_noInstance 26 = .ok (.invokevirtual 249, 3) := by decide +kernel
theorem dX12_noInstance_29 : decode cX12_noInstance 29 = .ok (.ifCond .eq 7, 3) := by decide +kernel
theorem dX12_noInstance_32 : decode cX12_noInstance 32 = .ok (.iconst 1, 1) := by decide +kernel
theorem dX12_noInstance_33 : decode cX12_noInstance 33 = .ok (.goto 4, 3) := by decide +kernel
theorem dX12_noInstance_36 : decode cX12_noInstance 36 = .ok (.iconst 0, 1) := by decide +kernel
theorem dX12_noInstance_37 : decode cX12_noInstance 37 = .ok (.ireturn, 1) := by decide +kernel
theorem dX12_hostCount_0 : decode cX12_hostCount 0 = .ok (.aload_n 0, 1) := by decide +kernel
theorem dX12_hostCount_1 : decode cX12_hostCount 1 = .ok (.iconst 0, 1) := by decide +kernel
theorem dX12_hostCount_2 : decode cX12_hostCount 2 = .ok (.putfield 83, 3) := by decide +kernel
theorem dX12_hostCount_5 : decode cX12_hostCount 5 = .ok (.aload_n 0, 1) := by decide +kernel
theorem dX12_hostCount_6 : decode cX12_hostCount 6 = .ok (.getfield 13, 3) := by decide +kernel
theorem dX12_hostCount_9 : decode cX12_hostCount 9 = .ok (.iconst 0, 1) := by decide +kernel
theorem dX12_hostCount_10 : decode cX12_hostCount 10 = .ok (.iaload, 1) := by decide +kernel
theorem dX12_hostCount_11 : decode cX12_hostCount 11 = .ok (.ireturn, 1) := by decide +kernel
theorem dX12_clock_0 : decode cX12_clock 0 = .ok (.aload_n 0, 1) := by decide +kernel
theorem dX12_clock_1 : decode cX12_clock 1 = .ok (.iconst 0, 1) := by decide +kernel
theorem dX12_clock_2 : decode cX12_clock 2 = .ok (.putfield 83, 3) := by decide +kernel
theorem dX12_clock_5 : decode cX12_clock 5 = .ok (.aload_n 0, 1) := by decide +kernel
theorem dX12_clock_6 : decode cX12_clock 6 = .ok (.getfield 7, 3) := by decide +kernel
theorem dX12_clock_9 : decode cX12_clock 9 = .ok (.iconst 0, 1) := by decide +kernel
theorem dX12_clock_10 : decode cX12_clock 10 = .ok (.laload, 1) := by decide +kernel
theorem dX12_clock_11 : decode cX12_clock 11 = .ok (.l2i, 1) := by decide +kernel
theorem dX12_clock_12 : decode cX12_clock 12 = .ok (.ireturn, 1) := by decide +kernel
theorem dX12_free_0 : decode cX12_free 0 = .ok (.aload_n 0, 1) := by decide +kernel
theorem dX12_free_1 : decode cX12_free 1 = .ok (.iload_n 1, 1) := by decide +kernel
theorem dX12_free_2 : decode cX12_free 2 = .ok (.invokevirtual 289, 3) := by decide +kernel
theorem dX12_free_5 : decode cX12_free 5 = .ok (.ifCond .eq 7, 3) := by decide +kernel
theorem dX12_free_8 : decode cX12_free 8 = .ok (.iconst 0, 1) := by decide +kernel
theorem dX12_free_9 : decode cX12_free 9 = .ok (.goto 17, 3) := by decide +kernel
theorem dX12_free_12 : decode cX12_free 12 = .ok (.aload_n 0, 1) := by decide +kernel
theorem dX12_free_13 : decode cX12_free 13 = .ok (.iload_n 1, 1) := by decide +kernel
theorem dX12_free_14 : decode cX12_free 14 = .ok (.iload_n 2, 1) := by decide +kernel
theorem dX12_free_15 : decode cX12_free 15 = .ok (.ifCond .eq 7, 3) := by decide +kernel
theorem dX12_free_18 : decode cX12_free 18 = .ok (.iconst 1, 1) := by decide +kernel
theorem dX12_free_19 : decode cX12_free 19 = .ok (.goto 4, 3) := by decide +kernel
theorem dX12_free_22 : decode cX12_free 22 = .ok (.iconst 0, 1) := by decide +kernel
theorem dX12_free_23 : decode cX12_free 23 = .ok (.invokevirtual 270, 3) := by decide +kernel
theorem dX12_free_26 : decode cX12_free 26 = .ok (.ireturn, 1) := by decide +kernel
theorem dX12_onHost_0 : decode cX12_onHost 0 = .ok (.iconst 0, 1) := by decide +kernel
theorem dX12_onHost_1 : decode cX12_onHost 1 = .ok (.istore_n 2, 1) := by decide +kernel
theorem dX12_onHost_2 : decode cX12_onHost 2 = .ok (.iconst 0, 1) := by decide +kernel
theorem dX12_onHost_3 : decode cX12_onHost 3 = .ok (.istore_n 3, 1) := by decide +kernel
theorem dX12_onHost_4 : decode cX12_onHost 4 = .ok (.iload_n 3, 1) := by decide +kernel
theorem dX12_onHost_5 : decode cX12_onHost 5 = .ok (.bipush 12, 2) := by decide +kernel
theorem dX12_onHost_7 : decode cX12_onHost 7 = .ok (.if_icmp .ge 28, 3) := by decide +kernel
theorem dX12_onHost_10 : decode cX12_onHost 10 = .ok (.iload_n 2, 1) := by decide +kernel
theorem dX12_onHost_11 : decode cX12_onHost 11 = .ok (.aload_n 0, 1) := by decide +kernel
theorem dX12_onHost_12 : decode cX12_onHost 12 = .ok (.iload_n 3, 1) := by decide +kernel
theorem dX12_onHost_13 : decode cX12_onHost 13 = .ok (.iload_n 1, 1) := by decide +kernel
theorem dX12_onHost_14 : decode cX12_onHost 14 = .ok (.invokevirtual 267, 3) := by decide +kernel
theorem dX12_onHost_17 : decode cX12_onHost 17 = .ok (.ifCond .eq 9, 3) := by decide +kernel
theorem dX12_onHost_20 : decode cX12_onHost 20 = .ok (.iconst 1, 1) := by decide +kernel
theorem dX12_onHost_21 : decode cX12_onHost 21 = .ok (.iload_n 3, 1) := by decide +kernel
theorem dX12_onHost_22 : decode cX12_onHost 22 = .ok (.ishl, 1) := by decide +kernel
theorem dX12_onHost_23 : decode cX12_onHost 23 = .ok (.goto 4, 3) := by decide +kernel
theorem dX12_onHost_26 : decode cX12_onHost 26 = .ok (.iconst 0, 1) := by decide +kernel
theorem dX12_onHost_27 : decode cX12_onHost 27 = .ok (.ior, 1) := by decide +kernel
theorem dX12_onHost_28 : decode cX12_onHost 28 = .ok (.istore_n 2, 1) := by decide +kernel
theorem dX12_onHost_29 : decode cX12_onHost 29 = .ok (.iinc 3 1, 3) := by decide +kernel
theorem dX12_onHost_32 : decode cX12_onHost 32 = .ok (.goto (-28), 3) := by decide +kernel
theorem dX12_onHost_35 : decode cX12_onHost 35 = .ok (.iload_n 2, 1) := by decide +kernel
theorem dX12_onHost_36 : decode cX12_onHost 36 = .ok (.ireturn, 1) := by decide +kernel
theorem dX12_instancesOn_0 : decode cX12_instancesOn 0 = .ok (.aload_n 0, 1) := by decide +kernel
theorem dX12_instancesOn_1 : decode cX12_instancesOn 1 = .ok (.iload_n 1, 1) := by decide +kernel
theorem dX12_instancesOn_2 : decode cX12_instancesOn 2 = .ok (.invokevirtual 289, 3) := by decide +kernel
theorem dX12_instancesOn_5 : decode cX12_instancesOn 5 = .ok (.ifCond .eq 7, 3) := by decide +kernel
theorem dX12_instancesOn_8 : decode cX12_instancesOn 8 = .ok (.iconst 0, 1) := by decide +kernel
theorem dX12_instancesOn_9 : decode cX12_instancesOn 9 = .ok (.goto 8, 3) := by decide +kernel
theorem dX12_instancesOn_12 : decode cX12_instancesOn 12 = .ok (.aload_n 0, 1) := by decide +kernel
theorem dX12_instancesOn_13 : decode cX12_instancesOn 13 = .ok (.iload_n 1, 1) := by decide +kernel
theorem dX12_instancesOn_14 : decode cX12_instancesOn 14 = .ok (.invokevirtual 292, 3) := by decide +kernel
theorem dX12_instancesOn_17 : decode cX12_instancesOn 17 = .ok (.ireturn, 1) := by decide +kernel
theorem dX12_utilisation_0 : decode cX12_utilisation 0 = .ok (.aload_n 0, 1) := by decide +kernel
theorem dX12_utilisation_1 : decode cX12_utilisation 1 = .ok (.iconst 0, 1) := by decide +kernel
theorem dX12_utilisation_2 : decode cX12_utilisation 2 = .ok (.putfield 83, 3) := by decide +kernel
theorem dX12_utilisation_5 : decode cX12_utilisation 5 = .ok (.aload_n 0, 1) := by decide +kernel
theorem dX12_utilisation_6 : decode cX12_utilisation 6 = .ok (.getfield 13, 3) := by decide +kernel
theorem dX12_utilisation_9 : decode cX12_utilisation 9 = .ok (.iconst 0, 1) := by decide +kernel
theorem dX12_utilisation_10 : decode cX12_utilisation 10 = .ok (.iaload, 1) := by decide +kernel
theorem dX12_utilisation_11 : decode cX12_utilisation 11 = .ok (.ifCond .ne 7, 3) := by decide +kernel
theorem dX12_utilisation_14 : decode cX12_utilisation 14 = .ok (.dconst 0, 1) := by decide +kernel
theorem dX12_utilisation_15 : decode cX12_utilisation 15 = .ok (.goto 14, 3) := by decide +kernel
theorem dX12_utilisation_18 : decode cX12_utilisation 18 = .ok (.aload_n 0, 1) := by decide +kernel
theorem dX12_utilisation_19 : decode cX12_utilisation 19 = .ok (.invokevirtual 282, 3) := by decide +kernel
theorem dX12_utilisation_22 : decode cX12_utilisation 22 = .ok (.i2d, 1) := by decide +kernel
theorem dX12_utilisation_23 : decode cX12_utilisation 23 = .ok (.aload_n 0, 1) := by decide +kernel
theorem dX12_utilisation_24 : decode cX12_utilisation 24 = .ok (.invokevirtual 279, 3) := by decide +kernel
theorem dX12_utilisation_27 : decode cX12_utilisation 27 = .ok (.i2d, 1) := by decide +kernel
theorem dX12_utilisation_28 : decode cX12_utilisation 28 = .ok (.ddiv, 1) := by decide +kernel
theorem dX12_utilisation_29 : decode cX12_utilisation 29 = .ok (.dreturn, 1) := by decide +kernel
theorem dX12_spotPrice_0 : decode cX12_spotPrice 0 = .ok (.aload_n 0, 1) := by decide +kernel
theorem dX12_spotPrice_1 : decode cX12_spotPrice 1 = .ok (.iload_n 1, 1) := by decide +kernel
theorem dX12_spotPrice_2 : decode cX12_spotPrice 2 = .ok (.invokevirtual 295, 3) := by decide +kernel
theorem dX12_spotPrice_5 : decode cX12_spotPrice 5 = .ok (.ifCond .eq 7, 3) := by decide +kernel
theorem dX12_spotPrice_8 : decode cX12_spotPrice 8 = .ok (.iconst 0, 1) := by decide +kernel
theorem dX12_spotPrice_9 : decode cX12_spotPrice 9 = .ok (.goto 12, 3) := by decide +kernel
theorem dX12_spotPrice_12 : decode cX12_spotPrice 12 = .ok (.aload_n 0, 1) := by decide +kernel
theorem dX12_spotPrice_13 : decode cX12_spotPrice 13 = .ok (.getfield 7, 3) := by decide +kernel
theorem dX12_spotPrice_16 : decode cX12_spotPrice 16 = .ok (.iconst 2, 1) := by decide +kernel
theorem dX12_spotPrice_17 : decode cX12_spotPrice 17 = .ok (.iload_n 1, 1) := by decide +kernel
theorem dX12_spotPrice_18 : decode cX12_spotPrice 18 = .ok (.iadd, 1) := by decide +kernel
theorem dX12_spotPrice_19 : decode cX12_spotPrice 19 = .ok (.laload, 1) := by decide +kernel
theorem dX12_spotPrice_20 : decode cX12_spotPrice 20 = .ok (.l2i, 1) := by decide +kernel
theorem dX12_spotPrice_21 : decode cX12_spotPrice 21 = .ok (.ireturn, 1) := by decide +kernel
theorem dX12_bestHost_0 : decode cX12_bestHost 0 = .ok (.aload_n 0, 1) := by decide +kernel
theorem dX12_bestHost_1 : decode cX12_bestHost 1 = .ok (.iload_n 1, 1) := by decide +kernel
theorem dX12_bestHost_2 : decode cX12_bestHost 2 = .ok (.invokevirtual 295, 3) := by decide +kernel
theorem dX12_bestHost_5 : decode cX12_bestHost 5 = .ok (.ifCond .eq 7, 3) := by decide +kernel
theorem dX12_bestHost_8 : decode cX12_bestHost 8 = .ok (.iconst 0, 1) := by decide +kernel
theorem dX12_bestHost_9 : decode cX12_bestHost 9 = .ok (.goto 8, 3) := by decide +kernel
theorem dX12_bestHost_12 : decode cX12_bestHost 12 = .ok (.aload_n 0, 1) := by decide +kernel
theorem dX12_bestHost_13 : decode cX12_bestHost 13 = .ok (.iload_n 1, 1) := by decide +kernel
theorem dX12_bestHost_14 : decode cX12_bestHost 14 = .ok (.invokevirtual 298, 3) := by decide +kernel
theorem dX12_bestHost_17 : decode cX12_bestHost 17 = .ok (.ireturn, 1) := by decide +kernel
theorem dX12_room_0 : decode cX12_room 0 = .ok (.aload_n 0, 1) := by decide +kernel
theorem dX12_room_1 : decode cX12_room 1 = .ok (.iload_n 1, 1) := by decide +kernel
theorem dX12_room_2 : decode cX12_room 2 = .ok (.invokevirtual 295, 3) := by decide +kernel
theorem dX12_room_5 : decode cX12_room 5 = .ok (.ifCond .eq 5, 3) := by decide +kernel
theorem dX12_room_8 : decode cX12_room 8 = .ok (.iconst 0, 1) := by decide +kernel
theorem dX12_room_9 : decode cX12_room 9 = .ok (.ireturn, 1) := by decide +kernel
theorem dX12_room_10 : decode cX12_room 10 = .ok (.iconst 0, 1) := by decide +kernel
theorem dX12_room_11 : decode cX12_room 11 = .ok (.istore_n 2, 1) := by decide +kernel
theorem dX12_room_12 : decode cX12_room 12 = .ok (.iconst 0, 1) := by decide +kernel
theorem dX12_room_13 : decode cX12_room 13 = .ok (.istore_n 3, 1) := by decide +kernel
theorem dX12_room_14 : decode cX12_room 14 = .ok (.iload_n 3, 1) := by decide +kernel
theorem dX12_room_15 : decode cX12_room 15 = .ok (.aload_n 0, 1) := by decide +kernel
theorem dX12_room_16 : decode cX12_room 16 = .ok (.getfield 13, 3) := by decide +kernel
theorem dX12_room_19 : decode cX12_room 19 = .ok (.iconst 0, 1) := by decide +kernel
theorem dX12_room_20 : decode cX12_room 20 = .ok (.iaload, 1) := by decide +kernel
theorem dX12_room_21 : decode cX12_room 21 = .ok (.if_icmp .ge 62, 3) := by decide +kernel
theorem dX12_room_24 : decode cX12_room 24 = .ok (.aload_n 0, 1) := by decide +kernel
theorem dX12_room_25 : decode cX12_room 25 = .ok (.iload_n 3, 1) := by decide +kernel
theorem dX12_room_26 : decode cX12_room 26 = .ok (.iconst 0, 1) := by decide +kernel
theorem dX12_room_27 : decode cX12_room 27 = .ok (.invokevirtual 270, 3) := by decide +kernel
theorem dX12_room_30 : decode cX12_room 30 = .ok (.aload_n 0, 1) := by decide +kernel
theorem dX12_room_31 : decode cX12_room 31 = .ok (.getfield 20, 3) := by decide +kernel
theorem dX12_room_34 : decode cX12_room 34 = .ok (.iconst 3, 1) := by decide +kernel
theorem dX12_room_35 : decode cX12_room 35 = .ok (.iload_n 1, 1) := by decide +kernel
theorem dX12_room_36 : decode cX12_room 36 = .ok (.imul, 1) := by decide +kernel
theorem dX12_room_37 : decode cX12_room 37 = .ok (.iaload, 1) := by decide +kernel
theorem dX12_room_38 : decode cX12_room 38 = .ok (.idiv, 1) := by decide +kernel
theorem dX12_room_39 : decode cX12_room 39 = .ok (.istore 4, 2) := by decide +kernel
theorem dX12_room_41 : decode cX12_room 41 = .ok (.aload_n 0, 1) := by decide +kernel
theorem dX12_room_42 : decode cX12_room 42 = .ok (.iload_n 3, 1) := by decide +kernel
theorem dX12_room_43 : decode cX12_room 43 = .ok (.iconst 1, 1) := by decide +kernel
theorem dX12_room_44 : decode cX12_room 44 = .ok (.invokevirtual 270, 3) := by decide +kernel
theorem dX12_room_47 : decode cX12_room 47 = .ok (.aload_n 0, 1) := by decide +kernel
theorem dX12_room_48 : decode cX12_room 48 = .ok (.getfield 20, 3) := by decide +kernel
theorem dX12_room_51 : decode cX12_room 51 = .ok (.iconst 3, 1) := by decide +kernel
theorem dX12_room_52 : decode cX12_room 52 = .ok (.iload_n 1, 1) := by decide +kernel
theorem dX12_room_53 : decode cX12_room 53 = .ok (.imul, 1) := by decide +kernel
theorem dX12_room_54 : decode cX12_room 54 = .ok (.iconst 1, 1) := by decide +kernel
theorem dX12_room_55 : decode cX12_room 55 = .ok (.iadd, 1) := by decide +kernel
theorem dX12_room_56 : decode cX12_room 56 = .ok (.iaload, 1) := by decide +kernel
theorem dX12_room_57 : decode cX12_room 57 = .ok (.idiv, 1) := by decide +kernel
theorem dX12_room_58 : decode cX12_room 58 = .ok (.istore 5, 2) := by decide +kernel
theorem dX12_room_60 : decode cX12_room 60 = .ok (.iload_n 2, 1) := by decide +kernel
theorem dX12_room_61 : decode cX12_room 61 = .ok (.iload 4, 2) := by decide +kernel
theorem dX12_room_63 : decode cX12_room 63 = .ok (.iload 5, 2) := by decide +kernel
theorem dX12_room_65 : decode cX12_room 65 = .ok (.if_icmp .ge 8, 3) := by decide +kernel
theorem dX12_room_68 : decode cX12_room 68 = .ok (.iload 4, 2) := by decide +kernel
theorem dX12_room_70 : decode cX12_room 70 = .ok (.goto 5, 3) := by decide +kernel
theorem dX12_room_73 : decode cX12_room 73 = .ok (.iload 5, 2) := by decide +kernel
theorem dX12_room_75 : decode cX12_room 75 = .ok (.iadd, 1) := by decide +kernel
theorem dX12_room_76 : decode cX12_room 76 = .ok (.istore_n 2, 1) := by decide +kernel
theorem dX12_room_77 : decode cX12_room 77 = .ok (.iinc 3 1, 3) := by decide +kernel
theorem dX12_room_80 : decode cX12_room 80 = .ok (.goto (-66), 3) := by decide +kernel
theorem dX12_room_83 : decode cX12_room 83 = .ok (.iload_n 2, 1) := by decide +kernel
theorem dX12_room_84 : decode cX12_room 84 = .ok (.ireturn, 1) := by decide +kernel
theorem dX12_runningOnes_0 : decode cX12_runningOnes 0 = .ok (.iconst 0, 1) := by decide +kernel
theorem dX12_runningOnes_1 : decode cX12_runningOnes 1 = .ok (.istore_n 1, 1) := by decide +kernel
theorem dX12_runningOnes_2 : decode cX12_runningOnes 2 = .ok (.iconst 0, 1) := by decide +kernel
theorem dX12_runningOnes_3 : decode cX12_runningOnes 3 = .ok (.istore_n 2, 1) := by decide +kernel
theorem dX12_runningOnes_4 : decode cX12_runningOnes 4 = .ok (.iload_n 2, 1) := by decide +kernel
theorem dX12_runningOnes_5 : decode cX12_runningOnes 5 = .ok (.bipush 12, 2) := by decide +kernel
theorem dX12_runningOnes_7 : decode cX12_runningOnes 7 = .ok (.if_icmp .ge 27, 3) := by decide +kernel
theorem dX12_runningOnes_10 : decode cX12_runningOnes 10 = .ok (.iload_n 1, 1) := by decide +kernel
theorem dX12_runningOnes_11 : decode cX12_runningOnes 11 = .ok (.aload_n 0, 1) := by decide +kernel
theorem dX12_runningOnes_12 : decode cX12_runningOnes 12 = .ok (.iload_n 2, 1) := by decide +kernel
theorem dX12_runningOnes_13 : decode cX12_runningOnes 13 = .ok (.invokevirtual 264, 3) := by decide +kernel
theorem dX12_runningOnes_16 : decode cX12_runningOnes 16 = .ok (.ifCond .eq 9, 3) := by decide +kernel
theorem dX12_runningOnes_19 : decode cX12_runningOnes 19 = .ok (.iconst 1, 1) := by decide +kernel
theorem dX12_runningOnes_20 : decode cX12_runningOnes 20 = .ok (.iload_n 2, 1) := by decide +kernel
theorem dX12_runningOnes_21 : decode cX12_runningOnes 21 = .ok (.ishl, 1) := by decide +kernel
theorem dX12_runningOnes_22 : decode cX12_runningOnes 22 = .ok (.goto 4, 3) := by decide +kernel
theorem dX12_runningOnes_25 : decode cX12_runningOnes 25 = .ok (.iconst 0, 1) := by decide +kernel
theorem dX12_runningOnes_26 : decode cX12_runningOnes 26 = .ok (.ior, 1) := by decide +kernel
theorem dX12_runningOnes_27 : decode cX12_runningOnes 27 = .ok (.istore_n 1, 1) := by decide +kernel
theorem dX12_runningOnes_28 : decode cX12_runningOnes 28 = .ok (.iinc 2 1, 3) := by decide +kernel
theorem dX12_runningOnes_31 : decode cX12_runningOnes 31 = .ok (.goto (-27), 3) := by decide +kernel
theorem dX12_runningOnes_34 : decode cX12_runningOnes 34 = .ok (.iload_n 1, 1) := by decide +kernel
theorem dX12_runningOnes_35 : decode cX12_runningOnes 35 = .ok (.ireturn, 1) := by decide +kernel
theorem dX12_running_0 : decode cX12_running 0 = .ok (.aload_n 0, 1) := by decide +kernel
theorem dX12_running_1 : decode cX12_running 1 = .ok (.iconst 0, 1) := by decide +kernel
theorem dX12_running_2 : decode cX12_running 2 = .ok (.putfield 83, 3) := by decide +kernel
theorem dX12_running_5 : decode cX12_running 5 = .ok (.aload_n 0, 1) := by decide +kernel
theorem dX12_running_6 : decode cX12_running 6 = .ok (.invokevirtual 301, 3) := by decide +kernel
theorem dX12_running_9 : decode cX12_running 9 = .ok (.ireturn, 1) := by decide +kernel
theorem dX12_typeOf_0 : decode cX12_typeOf 0 = .ok (.aload_n 0, 1) := by decide +kernel
theorem dX12_typeOf_1 : decode cX12_typeOf 1 = .ok (.iload_n 1, 1) := by decide +kernel
theorem dX12_typeOf_2 : decode cX12_typeOf 2 = .ok (.invokevirtual 304, 3) := by decide +kernel
theorem dX12_typeOf_5 : decode cX12_typeOf 5 = .ok (.ifCond .eq 7, 3) := by decide +kernel
theorem dX12_typeOf_8 : decode cX12_typeOf 8 = .ok (.iconst 0, 1) := by decide +kernel
theorem dX12_typeOf_9 : decode cX12_typeOf 9 = .ok (.goto 9, 3) := by decide +kernel
theorem dX12_typeOf_12 : decode cX12_typeOf 12 = .ok (.aload_n 0, 1) := by decide +kernel
theorem dX12_typeOf_13 : decode cX12_typeOf 13 = .ok (.iload_n 1, 1) := by decide +kernel
theorem dX12_typeOf_14 : decode cX12_typeOf 14 = .ok (.iconst 1, 1) := by decide +kernel
theorem dX12_typeOf_15 : decode cX12_typeOf 15 = .ok (.invokevirtual 242, 3) := by decide +kernel
theorem dX12_typeOf_18 : decode cX12_typeOf 18 = .ok (.ireturn, 1) := by decide +kernel
theorem dX12_tenantOf_0 : decode cX12_tenantOf 0 = .ok (.aload_n 0, 1) := by decide +kernel
theorem dX12_tenantOf_1 : decode cX12_tenantOf 1 = .ok (.iload_n 1, 1) := by decide +kernel
theorem dX12_tenantOf_2 : decode cX12_tenantOf 2 = .ok (.invokevirtual 304, 3) := by decide +kernel
theorem dX12_tenantOf_5 : decode cX12_tenantOf 5 = .ok (.ifCond .eq 7, 3) := by decide +kernel
theorem dX12_tenantOf_8 : decode cX12_tenantOf 8 = .ok (.iconst 0, 1) := by decide +kernel
theorem dX12_tenantOf_9 : decode cX12_tenantOf 9 = .ok (.goto 9, 3) := by decide +kernel
theorem dX12_tenantOf_12 : decode cX12_tenantOf 12 = .ok (.aload_n 0, 1) := by decide +kernel
theorem dX12_tenantOf_13 : decode cX12_tenantOf 13 = .ok (.iload_n 1, 1) := by decide +kernel
theorem dX12_tenantOf_14 : decode cX12_tenantOf 14 = .ok (.iconst 0, 1) := by decide +kernel
theorem dX12_tenantOf_15 : decode cX12_tenantOf 15 = .ok (.invokevirtual 242, 3) := by decide +kernel
theorem dX12_tenantOf_18 : decode cX12_tenantOf 18 = .ok (.ireturn, 1) := by decide +kernel
theorem dX12_hostOf_0 : decode cX12_hostOf 0 = .ok (.aload_n 0, 1) := by decide +kernel
theorem dX12_hostOf_1 : decode cX12_hostOf 1 = .ok (.iload_n 1, 1) := by decide +kernel
theorem dX12_hostOf_2 : decode cX12_hostOf 2 = .ok (.invokevirtual 304, 3) := by decide +kernel
theorem dX12_hostOf_5 : decode cX12_hostOf 5 = .ok (.ifCond .eq 7, 3) := by decide +kernel
theorem dX12_hostOf_8 : decode cX12_hostOf 8 = .ok (.iconst 0, 1) := by decide +kernel
theorem dX12_hostOf_9 : decode cX12_hostOf 9 = .ok (.goto 9, 3) := by decide +kernel
theorem dX12_hostOf_12 : decode cX12_hostOf 12 = .ok (.aload_n 0, 1) := by decide +kernel
theorem dX12_hostOf_13 : decode cX12_hostOf 13 = .ok (.iload_n 1, 1) := by decide +kernel
theorem dX12_hostOf_14 : decode cX12_hostOf 14 = .ok (.iconst 2, 1) := by decide +kernel
theorem dX12_hostOf_15 : decode cX12_hostOf 15 = .ok (.invokevirtual 242, 3) := by decide +kernel
theorem dX12_hostOf_18 : decode cX12_hostOf 18 = .ok (.ireturn, 1) := by decide +kernel
theorem dX12_bidOf_0 : decode cX12_bidOf 0 = .ok (.aload_n 0, 1) := by decide +kernel
theorem dX12_bidOf_1 : decode cX12_bidOf 1 = .ok (.iload_n 1, 1) := by decide +kernel
theorem dX12_bidOf_2 : decode cX12_bidOf 2 = .ok (.invokevirtual 304, 3) := by decide +kernel
theorem dX12_bidOf_5 : decode cX12_bidOf 5 = .ok (.ifCond .eq 7, 3) := by decide +kernel
theorem dX12_bidOf_8 : decode cX12_bidOf 8 = .ok (.iconst 0, 1) := by decide +kernel
theorem dX12_bidOf_9 : decode cX12_bidOf 9 = .ok (.goto 9, 3) := by decide +kernel
theorem dX12_bidOf_12 : decode cX12_bidOf 12 = .ok (.aload_n 0, 1) := by decide +kernel
theorem dX12_bidOf_13 : decode cX12_bidOf 13 = .ok (.iload_n 1, 1) := by decide +kernel
theorem dX12_bidOf_14 : decode cX12_bidOf 14 = .ok (.iconst 3, 1) := by decide +kernel
theorem dX12_bidOf_15 : decode cX12_bidOf 15 = .ok (.invokevirtual 242, 3) := by decide +kernel
theorem dX12_bidOf_18 : decode cX12_bidOf 18 = .ok (.ireturn, 1) := by decide +kernel
theorem dX12_noticeOf_0 : decode cX12_noticeOf 0 = .ok (.aload_n 0, 1) := by decide +kernel
theorem dX12_noticeOf_1 : decode cX12_noticeOf 1 = .ok (.iload_n 1, 1) := by decide +kernel
theorem dX12_noticeOf_2 : decode cX12_noticeOf 2 = .ok (.invokevirtual 304, 3) := by decide +kernel
theorem dX12_noticeOf_5 : decode cX12_noticeOf 5 = .ok (.ifCond .eq 7, 3) := by decide +kernel
theorem dX12_noticeOf_8 : decode cX12_noticeOf 8 = .ok (.iconst 0, 1) := by decide +kernel
theorem dX12_noticeOf_9 : decode cX12_noticeOf 9 = .ok (.goto 9, 3) := by decide +kernel
theorem dX12_noticeOf_12 : decode cX12_noticeOf 12 = .ok (.aload_n 0, 1) := by decide +kernel
theorem dX12_noticeOf_13 : decode cX12_noticeOf 13 = .ok (.iload_n 1, 1) := by decide +kernel
theorem dX12_noticeOf_14 : decode cX12_noticeOf 14 = .ok (.iconst 4, 1) := by decide +kernel
theorem dX12_noticeOf_15 : decode cX12_noticeOf 15 = .ok (.invokevirtual 242, 3) := by decide +kernel
theorem dX12_noticeOf_18 : decode cX12_noticeOf 18 = .ok (.ireturn, 1) := by decide +kernel
theorem dX12_waiting_0 : decode cX12_waiting 0 = .ok (.aload_n 0, 1) := by decide +kernel
theorem dX12_waiting_1 : decode cX12_waiting 1 = .ok (.iconst 0, 1) := by decide +kernel
theorem dX12_waiting_2 : decode cX12_waiting 2 = .ok (.putfield 83, 3) := by decide +kernel
theorem dX12_waiting_5 : decode cX12_waiting 5 = .ok (.aload_n 0, 1) := by decide +kernel
theorem dX12_waiting_6 : decode cX12_waiting 6 = .ok (.getfield 7, 3) := by decide +kernel
theorem dX12_waiting_9 : decode cX12_waiting 9 = .ok (.iconst 1, 1) := by decide +kernel
theorem dX12_waiting_10 : decode cX12_waiting 10 = .ok (.laload, 1) := by decide +kernel
theorem dX12_waiting_11 : decode cX12_waiting 11 = .ok (.l2i, 1) := by decide +kernel
theorem dX12_waiting_12 : decode cX12_waiting 12 = .ok (.ireturn, 1) := by decide +kernel
theorem dX12_bidAt_0 : decode cX12_bidAt 0 = .ok (.aload_n 0, 1) := by decide +kernel
theorem dX12_bidAt_1 : decode cX12_bidAt 1 = .ok (.getfield 7, 3) := by decide +kernel
theorem dX12_bidAt_4 : decode cX12_bidAt 4 = .ok (.bipush 86, 2) := by decide +kernel
theorem dX12_bidAt_6 : decode cX12_bidAt 6 = .ok (.iconst 3, 1) := by decide +kernel
theorem dX12_bidAt_7 : decode cX12_bidAt 7 = .ok (.iload_n 1, 1) := by decide +kernel
theorem dX12_bidAt_8 : decode cX12_bidAt 8 = .ok (.imul, 1) := by decide +kernel
theorem dX12_bidAt_9 : decode cX12_bidAt 9 = .ok (.iadd, 1) := by decide +kernel
theorem dX12_bidAt_10 : decode cX12_bidAt 10 = .ok (.iconst 2, 1) := by decide +kernel
theorem dX12_bidAt_11 : decode cX12_bidAt 11 = .ok (.iadd, 1) := by decide +kernel
theorem dX12_bidAt_12 : decode cX12_bidAt 12 = .ok (.laload, 1) := by decide +kernel
theorem dX12_bidAt_13 : decode cX12_bidAt 13 = .ok (.l2i, 1) := by decide +kernel
theorem dX12_bidAt_14 : decode cX12_bidAt 14 = .ok (.ireturn, 1) := by decide +kernel
theorem dX12_requestAt_0 : decode cX12_requestAt 0 = .ok (.iconst 0, 1) := by decide +kernel
theorem dX12_requestAt_1 : decode cX12_requestAt 1 = .ok (.istore_n 2, 1) := by decide +kernel
theorem dX12_requestAt_2 : decode cX12_requestAt 2 = .ok (.iload_n 2, 1) := by decide +kernel
theorem dX12_requestAt_3 : decode cX12_requestAt 3 = .ok (.i2l, 1) := by decide +kernel
theorem dX12_requestAt_4 : decode cX12_requestAt 4 = .ok (.aload_n 0, 1) := by decide +kernel
theorem dX12_requestAt_5 : decode cX12_requestAt 5 = .ok (.getfield 7, 3) := by decide +kernel
theorem dX12_requestAt_8 : decode cX12_requestAt 8 = .ok (.iconst 1, 1) := by decide +kernel
theorem dX12_requestAt_9 : decode cX12_requestAt 9 = .ok (.laload, 1) := by decide +kernel
theorem dX12_requestAt_10 : decode cX12_requestAt 10 = .ok (.lcmp, 1) := by decide +kernel
theorem dX12_requestAt_11 : decode cX12_requestAt 11 = .ok (.ifCond .ge 82, 3) := by decide +kernel
theorem dX12_requestAt_14 : decode cX12_requestAt 14 = .ok (.iconst 0, 1) := by decide +kernel
theorem dX12_requestAt_15 : decode cX12_requestAt 15 = .ok (.istore_n 3, 1) := by decide +kernel
theorem dX12_requestAt_16 : decode cX12_requestAt 16 = .ok (.iconst 0, 1) := by decide +kernel
theorem dX12_requestAt_17 : decode cX12_requestAt 17 = .ok (.istore 4, 2) := by decide +kernel
theorem dX12_requestAt_19 : decode cX12_requestAt 19 = .ok (.iload 4, 2) := by decide +kernel
theorem dX12_requestAt_21 : decode cX12_requestAt 21 = .ok (.i2l, 1) := by decide +kernel
theorem dX12_requestAt_22 : decode cX12_requestAt 22 = .ok (.aload_n 0, 1) := by decide +kernel
theorem dX12_requestAt_23 : decode cX12_requestAt 23 = .ok (.getfield 7, 3) := by decide +kernel
theorem dX12_requestAt_26 : decode cX12_requestAt 26 = .ok (.iconst 1, 1) := by decide +kernel
theorem dX12_requestAt_27 : decode cX12_requestAt 27 = .ok (.laload, 1) := by decide +kernel
theorem dX12_requestAt_28 : decode cX12_requestAt 28 = .ok (.lcmp, 1) := by decide +kernel
theorem dX12_requestAt_29 : decode cX12_requestAt 29 = .ok (.ifCond .ge 51, 3) := by decide +kernel
theorem dX12_requestAt_32 : decode cX12_requestAt 32 = .ok (.iload_n 3, 1) := by decide +kernel
theorem dX12_requestAt_33 : decode cX12_requestAt 33 = .ok (.aload_n 0, 1) := by decide +kernel
theorem dX12_requestAt_34 : decode cX12_requestAt 34 = .ok (.iload 4, 2) := by decide +kernel
theorem dX12_requestAt_36 : decode cX12_requestAt 36 = .ok (.invokevirtual 307, 3) := by decide +kernel
theorem dX12_requestAt_39 : decode cX12_requestAt 39 = .ok (.aload_n 0, 1) := by decide +kernel
theorem dX12_requestAt_40 : decode cX12_requestAt 40 = .ok (.iload_n 2, 1) := by decide +kernel
theorem dX12_requestAt_41 : decode cX12_requestAt 41 = .ok (.invokevirtual 307, 3) := by decide +kernel
theorem dX12_requestAt_44 : decode cX12_requestAt 44 = .ok (.if_icmp .gt 23, 3) := by decide +kernel
theorem dX12_requestAt_47 : decode cX12_requestAt 47 = .ok (.aload_n 0, 1) := by decide +kernel
theorem dX12_requestAt_48 : decode cX12_requestAt 48 = .ok (.iload 4, 2) := by decide +kernel
theorem dX12_requestAt_50 : decode cX12_requestAt 50 = .ok (.invokevirtual 307, 3) := by decide +kernel
theorem dX12_requestAt_53 : decode cX12_requestAt 53 = .ok (.aload_n 0, 1) := by decide +kernel
theorem dX12_requestAt_54 : decode cX12_requestAt 54 = .ok (.iload_n 2, 1) := by decide +kernel
theorem dX12_requestAt_55 : decode cX12_requestAt 55 = .ok (.invokevirtual 307, 3) := by decide +kernel
theorem dX12_requestAt_58 : decode cX12_requestAt 58 = .ok (.if_icmp .ne 13, 3) := by decide +kernel
theorem dX12_requestAt_61 : decode cX12_requestAt 61 = .ok (.iload 4, 2) := by decide +kernel
theorem dX12_requestAt_63 : decode cX12_requestAt 63 = .ok (.iload_n 2, 1) := by decide +kernel
theorem dX12_requestAt_64 : decode cX12_requestAt 64 = .ok (.if_icmp .ge 7, 3) := by decide +kernel
theorem dX12_requestAt_67 : decode cX12_requestAt 67 = .ok (.iconst 1, 1) := by decide +kernel
theorem dX12_requestAt_68 : decode cX12_requestAt 68 = .ok (.goto 4, 3) := by decide +kernel
theorem dX12_requestAt_71 : decode cX12_requestAt 71 = .ok (.iconst 0, 1) := by decide +kernel
theorem dX12_requestAt_72 : decode cX12_requestAt 72 = .ok (.iadd, 1) := by decide +kernel
theorem dX12_requestAt_73 : decode cX12_requestAt 73 = .ok (.istore_n 3, 1) := by decide +kernel
theorem dX12_requestAt_74 : decode cX12_requestAt 74 = .ok (.iinc 4 1, 3) := by decide +kernel
theorem dX12_requestAt_77 : decode cX12_requestAt 77 = .ok (.goto (-58), 3) := by decide +kernel
theorem dX12_requestAt_80 : decode cX12_requestAt 80 = .ok (.iload_n 3, 1) := by decide +kernel
theorem dX12_requestAt_81 : decode cX12_requestAt 81 = .ok (.iload_n 1, 1) := by decide +kernel
theorem dX12_requestAt_82 : decode cX12_requestAt 82 = .ok (.if_icmp .ne 5, 3) := by decide +kernel
theorem dX12_requestAt_85 : decode cX12_requestAt 85 = .ok (.iload_n 2, 1) := by decide +kernel
theorem dX12_requestAt_86 : decode cX12_requestAt 86 = .ok (.ireturn, 1) := by decide +kernel
theorem dX12_requestAt_87 : decode cX12_requestAt 87 = .ok (.iinc 2 1, 3) := by decide +kernel
theorem dX12_requestAt_90 : decode cX12_requestAt 90 = .ok (.goto (-88), 3) := by decide +kernel
theorem dX12_requestAt_93 : decode cX12_requestAt 93 = .ok (.iconst (-1), 1) := by decide +kernel
theorem dX12_requestAt_94 : decode cX12_requestAt 94 = .ok (.ireturn, 1) := by decide +kernel
theorem dX12_waitingBid_0 : decode cX12_waitingBid 0 = .ok (.aload_n 0, 1) := by decide +kernel
theorem dX12_waitingBid_1 : decode cX12_waitingBid 1 = .ok (.iconst 0, 1) := by decide +kernel
theorem dX12_waitingBid_2 : decode cX12_waitingBid 2 = .ok (.putfield 83, 3) := by decide +kernel
theorem dX12_waitingBid_5 : decode cX12_waitingBid 5 = .ok (.aload_n 0, 1) := by decide +kernel
theorem dX12_waitingBid_6 : decode cX12_waitingBid 6 = .ok (.iload_n 1, 1) := by decide +kernel
theorem dX12_waitingBid_7 : decode cX12_waitingBid 7 = .ok (.invokevirtual 310, 3) := by decide +kernel
theorem dX12_waitingBid_10 : decode cX12_waitingBid 10 = .ok (.istore_n 2, 1) := by decide +kernel
theorem dX12_waitingBid_11 : decode cX12_waitingBid 11 = .ok (.iload_n 2, 1) := by decide +kernel
theorem dX12_waitingBid_12 : decode cX12_waitingBid 12 = .ok (.iconst (-1), 1) := by decide +kernel
theorem dX12_waitingBid_13 : decode cX12_waitingBid 13 = .ok (.if_icmp .ne 7, 3) := by decide +kernel
theorem dX12_waitingBid_16 : decode cX12_waitingBid 16 = .ok (.iconst (-1), 1) := by decide +kernel
theorem dX12_waitingBid_17 : decode cX12_waitingBid 17 = .ok (.goto 8, 3) := by decide +kernel
theorem dX12_waitingBid_20 : decode cX12_waitingBid 20 = .ok (.aload_n 0, 1) := by decide +kernel
theorem dX12_waitingBid_21 : decode cX12_waitingBid 21 = .ok (.iload_n 2, 1) := by decide +kernel
theorem dX12_waitingBid_22 : decode cX12_waitingBid 22 = .ok (.invokevirtual 307, 3) := by decide +kernel
theorem dX12_waitingBid_25 : decode cX12_waitingBid 25 = .ok (.ireturn, 1) := by decide +kernel
theorem dX12_dropsRequest_0 : decode cX12_dropsRequest 0 = .ok (.aload_n 0, 1) := by decide +kernel
theorem dX12_dropsRequest_1 : decode cX12_dropsRequest 1 = .ok (.getfield 7, 3) := by decide +kernel
theorem dX12_dropsRequest_4 : decode cX12_dropsRequest 4 = .ok (.iconst 1, 1) := by decide +kernel
theorem dX12_dropsRequest_5 : decode cX12_dropsRequest 5 = .ok (.dup2, 1) := by decide +kernel
theorem dX12_dropsRequest_6 : decode cX12_dropsRequest 6 = .ok (.laload, 1) := by decide +kernel
theorem dX12_dropsRequest_7 : decode cX12_dropsRequest 7 = .ok (.lconst 1, 1) := by decide +kernel
theorem dX12_dropsRequest_8 : decode cX12_dropsRequest 8 = .ok (.lsub, 1) := by decide +kernel
theorem dX12_dropsRequest_9 : decode cX12_dropsRequest 9 = .ok (.lastore, 1) := by decide +kernel
theorem dX12_dropsRequest_10 : decode cX12_dropsRequest 10 = .ok (.bipush 86, 2) := by decide +kernel
theorem dX12_dropsRequest_12 : decode cX12_dropsRequest 12 = .ok (.iconst 3, 1) := by decide +kernel
theorem dX12_dropsRequest_13 : decode cX12_dropsRequest 13 = .ok (.iload_n 1, 1) := by decide +kernel
theorem dX12_dropsRequest_14 : decode cX12_dropsRequest 14 = .ok (.imul, 1) := by decide +kernel
theorem dX12_dropsRequest_15 : decode cX12_dropsRequest 15 = .ok (.iadd, 1) := by decide +kernel
theorem dX12_dropsRequest_16 : decode cX12_dropsRequest 16 = .ok (.istore_n 2, 1) := by decide +kernel
theorem dX12_dropsRequest_17 : decode cX12_dropsRequest 17 = .ok (.iload_n 2, 1) := by decide +kernel
theorem dX12_dropsRequest_18 : decode cX12_dropsRequest 18 = .ok (.i2l, 1) := by decide +kernel
theorem dX12_dropsRequest_19 : decode cX12_dropsRequest 19 = .ok (.ldc2_w 313, 3) := by decide +kernel
theorem dX12_dropsRequest_22 : decode cX12_dropsRequest 22 = .ok (.ldc2_w 315, 3) := by decide +kernel
theorem dX12_dropsRequest_25 : decode cX12_dropsRequest 25 = .ok (.aload_n 0, 1) := by decide +kernel
theorem dX12_dropsRequest_26 : decode cX12_dropsRequest 26 = .ok (.getfield 7, 3) := by decide +kernel
theorem dX12_dropsRequest_29 : decode cX12_dropsRequest 29 = .ok (.iconst 1, 1) := by decide +kernel
theorem dX12_dropsRequest_30 : decode cX12_dropsRequest 30 = .ok (.laload, 1) := by decide +kernel
theorem dX12_dropsRequest_31 : decode cX12_dropsRequest 31 = .ok (.lmul, 1) := by decide +kernel
theorem dX12_dropsRequest_32 : decode cX12_dropsRequest 32 = .ok (.ladd, 1) := by decide +kernel
theorem dX12_dropsRequest_33 : decode cX12_dropsRequest 33 = .ok (.lcmp, 1) := by decide +kernel
theorem dX12_dropsRequest_34 : decode cX12_dropsRequest 34 = .ok (.ifCond .ge 23, 3) := by decide +kernel
theorem dX12_dropsRequest_37 : decode cX12_dropsRequest 37 = .ok (.aload_n 0, 1) := by decide +kernel
theorem dX12_dropsRequest_38 : decode cX12_dropsRequest 38 = .ok (.getfield 7, 3) := by decide +kernel
theorem dX12_dropsRequest_41 : decode cX12_dropsRequest 41 = .ok (.iload_n 2, 1) := by decide +kernel
theorem dX12_dropsRequest_42 : decode cX12_dropsRequest 42 = .ok (.aload_n 0, 1) := by decide +kernel
theorem dX12_dropsRequest_43 : decode cX12_dropsRequest 43 = .ok (.getfield 7, 3) := by decide +kernel
theorem dX12_dropsRequest_46 : decode cX12_dropsRequest 46 = .ok (.iload_n 2, 1) := by decide +kernel
theorem dX12_dropsRequest_47 : decode cX12_dropsRequest 47 = .ok (.iconst 3, 1) := by decide +kernel
theorem dX12_dropsRequest_48 : decode cX12_dropsRequest 48 = .ok (.iadd, 1) := by decide +kernel
theorem dX12_dropsRequest_49 : decode cX12_dropsRequest 49 = .ok (.laload, 1) := by decide +kernel
theorem dX12_dropsRequest_50 : decode cX12_dropsRequest 50 = .ok (.lastore, 1) := by decide +kernel
theorem dX12_dropsRequest_51 : decode cX12_dropsRequest 51 = .ok (.iinc 2 1, 3) := by decide +kernel
theorem dX12_dropsRequest_54 : decode cX12_dropsRequest 54 = .ok (.goto (-37), 3) := by decide +kernel
theorem dX12_dropsRequest_57 : decode cX12_dropsRequest 57 = .ok (.return_, 1) := by decide +kernel
theorem dX12_regulars_0 : decode cX12_regulars 0 = .ok (.iconst 0, 1) := by decide +kernel
theorem dX12_regulars_1 : decode cX12_regulars 1 = .ok (.istore_n 3, 1) := by decide +kernel
theorem dX12_regulars_2 : decode cX12_regulars 2 = .ok (.iconst 0, 1) := by decide +kernel
theorem dX12_regulars_3 : decode cX12_regulars 3 = .ok (.istore 4, 2) := by decide +kernel
theorem dX12_regulars_5 : decode cX12_regulars 5 = .ok (.iload 4, 2) := by decide +kernel
theorem dX12_regulars_7 : decode cX12_regulars 7 = .ok (.bipush 12, 2) := by decide +kernel
theorem dX12_regulars_9 : decode cX12_regulars 9 = .ok (.if_icmp .ge 59, 3) := by decide +kernel
theorem dX12_regulars_12 : decode cX12_regulars 12 = .ok (.iload_n 3, 1) := by decide +kernel
theorem dX12_regulars_13 : decode cX12_regulars 13 = .ok (.aload_n 0, 1) := by decide +kernel
theorem dX12_regulars_14 : decode cX12_regulars 14 = .ok (.iload 4, 2) := by decide +kernel
theorem dX12_regulars_16 : decode cX12_regulars 16 = .ok (.invokevirtual 264, 3) := by decide +kernel
theorem dX12_regulars_19 : decode cX12_regulars 19 = .ok (.ifCond .eq 40, 3) := by decide +kernel
theorem dX12_regulars_22 : decode cX12_regulars 22 = .ok (.aload_n 0, 1) := by decide +kernel
theorem dX12_regulars_23 : decode cX12_regulars 23 = .ok (.iload 4, 2) := by decide +kernel
theorem dX12_regulars_25 : decode cX12_regulars 25 = .ok (.iconst 0, 1) := by decide +kernel
theorem dX12_regulars_26 : decode cX12_regulars 26 = .ok (.invokevirtual 242, 3) := by decide +kernel
theorem dX12_regulars_29 : decode cX12_regulars 29 = .ok (.iload_n 1, 1) := by decide +kernel
theorem dX12_regulars_30 : decode cX12_regulars 30 = .ok (.if_icmp .ne 29, 3) := by decide +kernel
theorem dX12_regulars_33 : decode cX12_regulars 33 = .ok (.aload_n 0, 1) := by decide +kernel
theorem dX12_regulars_34 : decode cX12_regulars 34 = .ok (.iload 4, 2) := by decide +kernel
theorem dX12_regulars_36 : decode cX12_regulars 36 = .ok (.iconst 1, 1) := by decide +kernel
theorem dX12_regulars_37 : decode cX12_regulars 37 = .ok (.invokevirtual 242, 3) := by decide +kernel
theorem dX12_regulars_40 : decode cX12_regulars 40 = .ok (.iload_n 2, 1) := by decide +kernel
theorem dX12_regulars_41 : decode cX12_regulars 41 = .ok (.if_icmp .ne 18, 3) := by decide +kernel
theorem dX12_regulars_44 : decode cX12_regulars 44 = .ok (.aload_n 0, 1) := by decide +kernel
theorem dX12_regulars_45 : decode cX12_regulars 45 = .ok (.iload 4, 2) := by decide +kernel
theorem dX12_regulars_47 : decode cX12_regulars 47 = .ok (.iconst 3, 1) := by decide +kernel
theorem dX12_regulars_48 : decode cX12_regulars 48 = .ok (.invokevirtual 242, 3) := by decide +kernel
theorem dX12_regulars_51 : decode cX12_regulars 51 = .ok (.iconst (-1), 1) := by decide +kernel
theorem dX12_regulars_52 : decode cX12_regulars 52 = .ok (.if_icmp .ne 7, 3) := by decide +kernel
theorem dX12_regulars_55 : decode cX12_regulars 55 = .ok (.iconst 1, 1) := by decide +kernel
theorem dX12_regulars_56 : decode cX12_regulars 56 = .ok (.goto 4, 3) := by decide +kernel
theorem dX12_regulars_59 : decode cX12_regulars 59 = .ok (.iconst 0, 1) := by decide +kernel
theorem dX12_regulars_60 : decode cX12_regulars 60 = .ok (.iadd, 1) := by decide +kernel
theorem dX12_regulars_61 : decode cX12_regulars 61 = .ok (.istore_n 3, 1) := by decide +kernel
theorem dX12_regulars_62 : decode cX12_regulars 62 = .ok (.iinc 4 1, 3) := by decide +kernel
theorem dX12_regulars_65 : decode cX12_regulars 65 = .ok (.goto (-60), 3) := by decide +kernel
theorem dX12_regulars_68 : decode cX12_regulars 68 = .ok (.iload_n 3, 1) := by decide +kernel
theorem dX12_regulars_69 : decode cX12_regulars 69 = .ok (.ireturn, 1) := by decide +kernel
theorem dX12_isActive_0 : decode cX12_isActive 0 = .ok (.aload_n 0, 1) := by decide +kernel
theorem dX12_isActive_1 : decode cX12_isActive 1 = .ok (.getfield 7, 3) := by decide +kernel
theorem dX12_isActive_4 : decode cX12_isActive 4 = .ok (.iconst 0, 1) := by decide +kernel
theorem dX12_isActive_5 : decode cX12_isActive 5 = .ok (.laload, 1) := by decide +kernel
theorem dX12_isActive_6 : decode cX12_isActive 6 = .ok (.aload_n 0, 1) := by decide +kernel
theorem dX12_isActive_7 : decode cX12_isActive 7 = .ok (.getfield 26, 3) := by decide +kernel
theorem dX12_isActive_10 : decode cX12_isActive 10 = .ok (.bipush 6, 2) := by decide +kernel
theorem dX12_isActive_12 : decode cX12_isActive 12 = .ok (.iload_n 1, 1) := by decide +kernel
theorem dX12_isActive_13 : decode cX12_isActive 13 = .ok (.imul, 1) := by decide +kernel
theorem dX12_isActive_14 : decode cX12_isActive 14 = .ok (.iconst 3, 1) := by decide +kernel
theorem dX12_isActive_15 : decode cX12_isActive 15 = .ok (.iadd, 1) := by decide +kernel
theorem dX12_isActive_16 : decode cX12_isActive 16 = .ok (.iaload, 1) := by decide +kernel
theorem dX12_isActive_17 : decode cX12_isActive 17 = .ok (.i2l, 1) := by decide +kernel
theorem dX12_isActive_18 : decode cX12_isActive 18 = .ok (.aload_n 0, 1) := by decide +kernel
theorem dX12_isActive_19 : decode cX12_isActive 19 = .ok (.getfield 26, 3) := by decide +kernel
theorem dX12_isActive_22 : decode cX12_isActive 22 = .ok (.bipush 6, 2) := by decide +kernel
theorem dX12_isActive_24 : decode cX12_isActive 24 = .ok (.iload_n 1, 1) := by decide +kernel
theorem dX12_isActive_25 : decode cX12_isActive 25 = .ok (.imul, 1) := by decide +kernel
theorem dX12_isActive_26 : decode cX12_isActive 26 = .ok (.iconst 4, 1) := by decide +kernel
theorem dX12_isActive_27 : decode cX12_isActive 27 = .ok (.iadd, 1) := by decide +kernel
theorem dX12_isActive_28 : decode cX12_isActive 28 = .ok (.iaload, 1) := by decide +kernel
theorem dX12_isActive_29 : decode cX12_isActive 29 = .ok (.iconst 1, 1) := by decide +kernel
theorem dX12_isActive_30 : decode cX12_isActive 30 = .ok (.isub, 1) := by decide +kernel
theorem dX12_isActive_31 : decode cX12_isActive 31 = .ok (.i2l, 1) := by decide +kernel
theorem dX12_isActive_32 : decode cX12_isActive 32 = .ok (.invokestatic 124, 3) := by decide +kernel
theorem dX12_isActive_35 : decode cX12_isActive 35 = .ok (.ireturn, 1) := by decide +kernel
theorem dX12_payment_0 : decode cX12_payment 0 = .ok (.aload_n 0, 1) := by decide +kernel
theorem dX12_payment_1 : decode cX12_payment 1 = .ok (.getfield 26, 3) := by decide +kernel
theorem dX12_payment_4 : decode cX12_payment 4 = .ok (.bipush 6, 2) := by decide +kernel
theorem dX12_payment_6 : decode cX12_payment 6 = .ok (.iload_n 1, 1) := by decide +kernel
theorem dX12_payment_7 : decode cX12_payment 7 = .ok (.imul, 1) := by decide +kernel
theorem dX12_payment_8 : decode cX12_payment 8 = .ok (.iconst 2, 1) := by decide +kernel
theorem dX12_payment_9 : decode cX12_payment 9 = .ok (.iadd, 1) := by decide +kernel
theorem dX12_payment_10 : decode cX12_payment 10 = .ok (.iaload, 1) := by decide +kernel
theorem dX12_payment_11 : decode cX12_payment 11 = .ok (.aload_n 0, 1) := by decide +kernel
theorem dX12_payment_12 : decode cX12_payment 12 = .ok (.getfield 20, 3) := by decide +kernel
theorem dX12_payment_15 : decode cX12_payment 15 = .ok (.iconst 3, 1) := by decide +kernel
theorem dX12_payment_16 : decode cX12_payment 16 = .ok (.aload_n 0, 1) := by decide +kernel
theorem dX12_payment_17 : decode cX12_payment 17 = .ok (.getfield 26, 3) := by decide +kernel
theorem dX12_payment_20 : decode cX12_payment 20 = .ok (.bipush 6, 2) := by decide +kernel
theorem dX12_payment_22 : decode cX12_payment 22 = .ok (.iload_n 1, 1) := by decide +kernel
theorem dX12_payment_23 : decode cX12_payment 23 = .ok (.imul, 1) := by decide +kernel
theorem dX12_payment_24 : decode cX12_payment 24 = .ok (.iconst 1, 1) := by decide +kernel
theorem dX12_payment_25 : decode cX12_payment 25 = .ok (.iadd, 1) := by decide +kernel
theorem dX12_payment_26 : decode cX12_payment 26 = .ok (.iaload, 1) := by decide +kernel
theorem dX12_payment_27 : decode cX12_payment 27 = .ok (.imul, 1) := by decide +kernel
theorem dX12_payment_28 : decode cX12_payment 28 = .ok (.iconst 2, 1) := by decide +kernel
theorem dX12_payment_29 : decode cX12_payment 29 = .ok (.iadd, 1) := by decide +kernel
theorem dX12_payment_30 : decode cX12_payment 30 = .ok (.iaload, 1) := by decide +kernel
theorem dX12_payment_31 : decode cX12_payment 31 = .ok (.bipush 100, 2) := by decide +kernel
theorem dX12_payment_33 : decode cX12_payment 33 = .ok (.aload_n 0, 1) := by decide +kernel
theorem dX12_payment_34 : decode cX12_payment 34 = .ok (.getfield 26, 3) := by decide +kernel
theorem dX12_payment_37 : decode cX12_payment 37 = .ok (.bipush 6, 2) := by decide +kernel
theorem dX12_payment_39 : decode cX12_payment 39 = .ok (.iload_n 1, 1) := by decide +kernel
theorem dX12_payment_40 : decode cX12_payment 40 = .ok (.imul, 1) := by decide +kernel
theorem dX12_payment_41 : decode cX12_payment 41 = .ok (.iconst 5, 1) := by decide +kernel
theorem dX12_payment_42 : decode cX12_payment 42 = .ok (.iadd, 1) := by decide +kernel
theorem dX12_payment_43 : decode cX12_payment 43 = .ok (.iaload, 1) := by decide +kernel
theorem dX12_payment_44 : decode cX12_payment 44 = .ok (.isub, 1) := by decide +kernel
theorem dX12_payment_45 : decode cX12_payment 45 = .ok (.imul, 1) := by decide +kernel
theorem dX12_payment_46 : decode cX12_payment 46 = .ok (.bipush 100, 2) := by decide +kernel
theorem dX12_payment_48 : decode cX12_payment 48 = .ok (.idiv, 1) := by decide +kernel
theorem dX12_payment_49 : decode cX12_payment 49 = .ok (.imul, 1) := by decide +kernel
theorem dX12_payment_50 : decode cX12_payment 50 = .ok (.ireturn, 1) := by decide +kernel
theorem dX12_coveredBy_0 : decode cX12_coveredBy 0 = .ok (.iconst 0, 1) := by decide +kernel
theorem dX12_coveredBy_1 : decode cX12_coveredBy 1 = .ok (.istore_n 3, 1) := by decide +kernel
theorem dX12_coveredBy_2 : decode cX12_coveredBy 2 = .ok (.iconst 0, 1) := by decide +kernel
theorem dX12_coveredBy_3 : decode cX12_coveredBy 3 = .ok (.istore 4, 2) := by decide +kernel
theorem dX12_coveredBy_5 : decode cX12_coveredBy 5 = .ok (.iload 4, 2) := by decide +kernel
theorem dX12_coveredBy_7 : decode cX12_coveredBy 7 = .ok (.aload_n 0, 1) := by decide +kernel
theorem dX12_coveredBy_8 : decode cX12_coveredBy 8 = .ok (.getfield 13, 3) := by decide +kernel
theorem dX12_coveredBy_11 : decode cX12_coveredBy 11 = .ok (.iconst 3, 1) := by decide +kernel
theorem dX12_coveredBy_12 : decode cX12_coveredBy 12 = .ok (.iaload, 1) := by decide +kernel
theorem dX12_coveredBy_13 : decode cX12_coveredBy 13 = .ok (.if_icmp .ge 67, 3) := by decide +kernel
theorem dX12_coveredBy_16 : decode cX12_coveredBy 16 = .ok (.iload_n 3, 1) := by decide +kernel
theorem dX12_coveredBy_17 : decode cX12_coveredBy 17 = .ok (.aload_n 0, 1) := by decide +kernel
theorem dX12_coveredBy_18 : decode cX12_coveredBy 18 = .ok (.getfield 26, 3) := by decide +kernel
theorem dX12_coveredBy_21 : decode cX12_coveredBy 21 = .ok (.bipush 6, 2) := by decide +kernel
theorem dX12_coveredBy_23 : decode cX12_coveredBy 23 = .ok (.iload 4, 2) := by decide +kernel
theorem dX12_coveredBy_25 : decode cX12_coveredBy 25 = .ok (.imul, 1) := by decide +kernel
theorem dX12_coveredBy_26 : decode cX12_coveredBy 26 = .ok (.iaload, 1) := by decide +kernel
theorem dX12_coveredBy_27 : decode cX12_coveredBy 27 = .ok (.iload_n 1, 1) := by decide +kernel
theorem dX12_coveredBy_28 : decode cX12_coveredBy 28 = .ok (.if_icmp .ne 43, 3) := by decide +kernel
theorem dX12_coveredBy_31 : decode cX12_coveredBy 31 = .ok (.aload_n 0, 1) := by decide +kernel
theorem dX12_coveredBy_32 : decode cX12_coveredBy 32 = .ok (.getfield 26, 3) := by decide +kernel
theorem dX12_coveredBy_35 : decode cX12_coveredBy 35 = .ok (.bipush 6, 2) := by decide +kernel
theorem dX12_coveredBy_37 : decode cX12_coveredBy 37 = .ok (.iload 4, 2) := by decide +kernel
theorem dX12_coveredBy_39 : decode cX12_coveredBy 39 = .ok (.imul, 1) := by decide +kernel
theorem dX12_coveredBy_40 : decode cX12_coveredBy 40 = .ok (.iconst 1, 1) := by decide +kernel
theorem dX12_coveredBy_41 : decode cX12_coveredBy 41 = .ok (.iadd, 1) := by decide +kernel
theorem dX12_coveredBy_42 : decode cX12_coveredBy 42 = .ok (.iaload, 1) := by decide +kernel
theorem dX12_coveredBy_43 : decode cX12_coveredBy 43 = .ok (.iload_n 2, 1) := by decide +kernel
theorem dX12_coveredBy_44 : decode cX12_coveredBy 44 = .ok (.if_icmp .ne 27, 3) := by decide +kernel
theorem dX12_coveredBy_47 : decode cX12_coveredBy 47 = .ok (.aload_n 0, 1) := by decide +kernel
theorem dX12_coveredBy_48 : decode cX12_coveredBy 48 = .ok (.iload 4, 2) := by decide +kernel
theorem dX12_coveredBy_50 : decode cX12_coveredBy 50 = .ok (.invokevirtual 317, 3) := by decide +kernel
theorem dX12_coveredBy_53 : decode cX12_coveredBy 53 = .ok (.ifCond .eq 18, 3) := by decide +kernel
theorem dX12_coveredBy_56 : decode cX12_coveredBy 56 = .ok (.aload_n 0, 1) := by decide +kernel
theorem dX12_coveredBy_57 : decode cX12_coveredBy 57 = .ok (.getfield 26, 3) := by decide +kernel
theorem dX12_coveredBy_60 : decode cX12_coveredBy 60 = .ok (.bipush 6, 2) := by decide +kernel
theorem dX12_coveredBy_62 : decode cX12_coveredBy 62 = .ok (.iload 4, 2) := by decide +kernel
theorem dX12_coveredBy_64 : decode cX12_coveredBy 64 = .ok (.imul, 1) := by decide +kernel
theorem dX12_coveredBy_65 : decode cX12_coveredBy 65 = .ok (.iconst 2, 1) := by decide +kernel
theorem dX12_coveredBy_66 : decode cX12_coveredBy 66 = .ok (.iadd, 1) := by decide +kernel
theorem dX12_coveredBy_67 : decode cX12_coveredBy 67 = .ok (.iaload, 1) := by decide +kernel
theorem dX12_coveredBy_68 : decode cX12_coveredBy 68 = .ok (.goto 4, 3) := by decide +kernel
theorem dX12_coveredBy_71 : decode cX12_coveredBy 71 = .ok (.iconst 0, 1) := by decide +kernel
theorem dX12_coveredBy_72 : decode cX12_coveredBy 72 = .ok (.iadd, 1) := by decide +kernel
theorem dX12_coveredBy_73 : decode cX12_coveredBy 73 = .ok (.istore_n 3, 1) := by decide +kernel
theorem dX12_coveredBy_74 : decode cX12_coveredBy 74 = .ok (.iinc 4 1, 3) := by decide +kernel
theorem dX12_coveredBy_77 : decode cX12_coveredBy 77 = .ok (.goto (-72), 3) := by decide +kernel
theorem dX12_coveredBy_80 : decode cX12_coveredBy 80 = .ok (.aload_n 0, 1) := by decide +kernel
theorem dX12_coveredBy_81 : decode cX12_coveredBy 81 = .ok (.iload_n 1, 1) := by decide +kernel
theorem dX12_coveredBy_82 : decode cX12_coveredBy 82 = .ok (.iload_n 2, 1) := by decide +kernel
theorem dX12_coveredBy_83 : decode cX12_coveredBy 83 = .ok (.invokevirtual 320, 3) := by decide +kernel
theorem dX12_coveredBy_86 : decode cX12_coveredBy 86 = .ok (.istore 4, 2) := by decide +kernel
theorem dX12_coveredBy_88 : decode cX12_coveredBy 88 = .ok (.iload_n 3, 1) := by decide +kernel
theorem dX12_coveredBy_89 : decode cX12_coveredBy 89 = .ok (.iload 4, 2) := by decide +kernel
theorem dX12_coveredBy_91 : decode cX12_coveredBy 91 = .ok (.if_icmp .ge 7, 3) := by decide +kernel
theorem dX12_coveredBy_94 : decode cX12_coveredBy 94 = .ok (.iload_n 3, 1) := by decide +kernel
theorem dX12_coveredBy_95 : decode cX12_coveredBy 95 = .ok (.goto 5, 3) := by decide +kernel
theorem dX12_coveredBy_98 : decode cX12_coveredBy 98 = .ok (.iload 4, 2) := by decide +kernel
theorem dX12_coveredBy_100 : decode cX12_coveredBy 100 = .ok (.ireturn, 1) := by decide +kernel
theorem dX12_billOf_0 : decode cX12_billOf 0 = .ok (.iconst 0, 1) := by decide +kernel
theorem dX12_billOf_1 : decode cX12_billOf 1 = .ok (.istore_n 2, 1) := by decide +kernel
theorem dX12_billOf_2 : decode cX12_billOf 2 = .ok (.iconst 0, 1) := by decide +kernel
theorem dX12_billOf_3 : decode cX12_billOf 3 = .ok (.istore_n 3, 1) := by decide +kernel
theorem dX12_billOf_4 : decode cX12_billOf 4 = .ok (.iload_n 3, 1) := by decide +kernel
theorem dX12_billOf_5 : decode cX12_billOf 5 = .ok (.aload_n 0, 1) := by decide +kernel
theorem dX12_billOf_6 : decode cX12_billOf 6 = .ok (.getfield 13, 3) := by decide +kernel
theorem dX12_billOf_9 : decode cX12_billOf 9 = .ok (.iconst 3, 1) := by decide +kernel
theorem dX12_billOf_10 : decode cX12_billOf 10 = .ok (.iaload, 1) := by decide +kernel
theorem dX12_billOf_11 : decode cX12_billOf 11 = .ok (.if_icmp .ge 42, 3) := by decide +kernel
theorem dX12_billOf_14 : decode cX12_billOf 14 = .ok (.iload_n 2, 1) := by decide +kernel
theorem dX12_billOf_15 : decode cX12_billOf 15 = .ok (.aload_n 0, 1) := by decide +kernel
theorem dX12_billOf_16 : decode cX12_billOf 16 = .ok (.getfield 26, 3) := by decide +kernel
theorem dX12_billOf_19 : decode cX12_billOf 19 = .ok (.bipush 6, 2) := by decide +kernel
theorem dX12_billOf_21 : decode cX12_billOf 21 = .ok (.iload_n 3, 1) := by decide +kernel
theorem dX12_billOf_22 : decode cX12_billOf 22 = .ok (.imul, 1) := by decide +kernel
theorem dX12_billOf_23 : decode cX12_billOf 23 = .ok (.iaload, 1) := by decide +kernel
theorem dX12_billOf_24 : decode cX12_billOf 24 = .ok (.iload_n 1, 1) := by decide +kernel
theorem dX12_billOf_25 : decode cX12_billOf 25 = .ok (.if_icmp .ne 19, 3) := by decide +kernel
theorem dX12_billOf_28 : decode cX12_billOf 28 = .ok (.aload_n 0, 1) := by decide +kernel
theorem dX12_billOf_29 : decode cX12_billOf 29 = .ok (.iload_n 3, 1) := by decide +kernel
theorem dX12_billOf_30 : decode cX12_billOf 30 = .ok (.invokevirtual 317, 3) := by decide +kernel
theorem dX12_billOf_33 : decode cX12_billOf 33 = .ok (.ifCond .eq 11, 3) := by decide +kernel
theorem dX12_billOf_36 : decode cX12_billOf 36 = .ok (.aload_n 0, 1) := by decide +kernel
theorem dX12_billOf_37 : decode cX12_billOf 37 = .ok (.iload_n 3, 1) := by decide +kernel
theorem dX12_billOf_38 : decode cX12_billOf 38 = .ok (.invokevirtual 323, 3) := by decide +kernel
theorem dX12_billOf_41 : decode cX12_billOf 41 = .ok (.goto 4, 3) := by decide +kernel
theorem dX12_billOf_44 : decode cX12_billOf 44 = .ok (.iconst 0, 1) := by decide +kernel
theorem dX12_billOf_45 : decode cX12_billOf 45 = .ok (.iadd, 1) := by decide +kernel
theorem dX12_billOf_46 : decode cX12_billOf 46 = .ok (.istore_n 2, 1) := by decide +kernel
theorem dX12_billOf_47 : decode cX12_billOf 47 = .ok (.iinc 3 1, 3) := by decide +kernel
theorem dX12_billOf_50 : decode cX12_billOf 50 = .ok (.goto (-46), 3) := by decide +kernel
theorem dX12_billOf_53 : decode cX12_billOf 53 = .ok (.iconst 0, 1) := by decide +kernel
theorem dX12_billOf_54 : decode cX12_billOf 54 = .ok (.istore_n 3, 1) := by decide +kernel
theorem dX12_billOf_55 : decode cX12_billOf 55 = .ok (.iload_n 3, 1) := by decide +kernel
theorem dX12_billOf_56 : decode cX12_billOf 56 = .ok (.aload_n 0, 1) := by decide +kernel
theorem dX12_billOf_57 : decode cX12_billOf 57 = .ok (.getfield 13, 3) := by decide +kernel
theorem dX12_billOf_60 : decode cX12_billOf 60 = .ok (.iconst 1, 1) := by decide +kernel
theorem dX12_billOf_61 : decode cX12_billOf 61 = .ok (.iaload, 1) := by decide +kernel
theorem dX12_billOf_62 : decode cX12_billOf 62 = .ok (.if_icmp .ge 36, 3) := by decide +kernel
theorem dX12_billOf_65 : decode cX12_billOf 65 = .ok (.iload_n 2, 1) := by decide +kernel
theorem dX12_billOf_66 : decode cX12_billOf 66 = .ok (.aload_n 0, 1) := by decide +kernel
theorem dX12_billOf_67 : decode cX12_billOf 67 = .ok (.iload_n 1, 1) := by decide +kernel
theorem dX12_billOf_68 : decode cX12_billOf 68 = .ok (.iload_n 3, 1) := by decide +kernel
theorem dX12_billOf_69 : decode cX12_billOf 69 = .ok (.invokevirtual 320, 3) := by decide +kernel
theorem dX12_billOf_72 : decode cX12_billOf 72 = .ok (.aload_n 0, 1) := by decide +kernel
theorem dX12_billOf_73 : decode cX12_billOf 73 = .ok (.iload_n 1, 1) := by decide +kernel
theorem dX12_billOf_74 : decode cX12_billOf 74 = .ok (.iload_n 3, 1) := by decide +kernel
theorem dX12_billOf_75 : decode cX12_billOf 75 = .ok (.invokevirtual 326, 3) := by decide +kernel
theorem dX12_billOf_78 : decode cX12_billOf 78 = .ok (.isub, 1) := by decide +kernel
theorem dX12_billOf_79 : decode cX12_billOf 79 = .ok (.aload_n 0, 1) := by decide +kernel
theorem dX12_billOf_80 : decode cX12_billOf 80 = .ok (.getfield 20, 3) := by decide +kernel
theorem dX12_billOf_83 : decode cX12_billOf 83 = .ok (.iconst 3, 1) := by decide +kernel
theorem dX12_billOf_84 : decode cX12_billOf 84 = .ok (.iload_n 3, 1) := by decide +kernel
theorem dX12_billOf_85 : decode cX12_billOf 85 = .ok (.imul, 1) := by decide +kernel
theorem dX12_billOf_86 : decode cX12_billOf 86 = .ok (.iconst 2, 1) := by decide +kernel
theorem dX12_billOf_87 : decode cX12_billOf 87 = .ok (.iadd, 1) := by decide +kernel
theorem dX12_billOf_88 : decode cX12_billOf 88 = .ok (.iaload, 1) := by decide +kernel
theorem dX12_billOf_89 : decode cX12_billOf 89 = .ok (.imul, 1) := by decide +kernel
theorem dX12_billOf_90 : decode cX12_billOf 90 = .ok (.iadd, 1) := by decide +kernel
theorem dX12_billOf_91 : decode cX12_billOf 91 = .ok (.istore_n 2, 1) := by decide +kernel
theorem dX12_billOf_92 : decode cX12_billOf 92 = .ok (.iinc 3 1, 3) := by decide +kernel
theorem dX12_billOf_95 : decode cX12_billOf 95 = .ok (.goto (-40), 3) := by decide +kernel
theorem dX12_billOf_98 : decode cX12_billOf 98 = .ok (.iconst 0, 1) := by decide +kernel
theorem dX12_billOf_99 : decode cX12_billOf 99 = .ok (.istore_n 3, 1) := by decide +kernel
theorem dX12_billOf_100 : decode cX12_billOf 100 = .ok (.iload_n 3, 1) := by decide +kernel
theorem dX12_billOf_101 : decode cX12_billOf 101 = .ok (.bipush 12, 2) := by decide +kernel
theorem dX12_billOf_103 : decode cX12_billOf 103 = .ok (.if_icmp .ge 58, 3) := by decide +kernel
theorem dX12_billOf_106 : decode cX12_billOf 106 = .ok (.iload_n 2, 1) := by decide +kernel
theorem dX12_billOf_107 : decode cX12_billOf 107 = .ok (.aload_n 0, 1) := by decide +kernel
theorem dX12_billOf_108 : decode cX12_billOf 108 = .ok (.iload_n 3, 1) := by decide +kernel
theorem dX12_billOf_109 : decode cX12_billOf 109 = .ok (.invokevirtual 264, 3) := by decide +kernel
theorem dX12_billOf_112 : decode cX12_billOf 112 = .ok (.ifCond .eq 40, 3) := by decide +kernel
theorem dX12_billOf_115 : decode cX12_billOf 115 = .ok (.aload_n 0, 1) := by decide +kernel
theorem dX12_billOf_116 : decode cX12_billOf 116 = .ok (.iload_n 3, 1) := by decide +kernel
theorem dX12_billOf_117 : decode cX12_billOf 117 = .ok (.iconst 0, 1) := by decide +kernel
theorem dX12_billOf_118 : decode cX12_billOf 118 = .ok (.invokevirtual 242, 3) := by decide +kernel
theorem dX12_billOf_121 : decode cX12_billOf 121 = .ok (.iload_n 1, 1) := by decide +kernel
theorem dX12_billOf_122 : decode cX12_billOf 122 = .ok (.if_icmp .ne 30, 3) := by decide +kernel
theorem dX12_billOf_125 : decode cX12_billOf 125 = .ok (.aload_n 0, 1) := by decide +kernel
theorem dX12_billOf_126 : decode cX12_billOf 126 = .ok (.iload_n 3, 1) := by decide +kernel
theorem dX12_billOf_127 : decode cX12_billOf 127 = .ok (.iconst 3, 1) := by decide +kernel
theorem dX12_billOf_128 : decode cX12_billOf 128 = .ok (.invokevirtual 242, 3) := by decide +kernel
theorem dX12_billOf_131 : decode cX12_billOf 131 = .ok (.iconst (-1), 1) := by decide +kernel
theorem dX12_billOf_132 : decode cX12_billOf 132 = .ok (.if_icmp .eq 20, 3) := by decide +kernel
theorem dX12_billOf_135 : decode cX12_billOf 135 = .ok (.aload_n 0, 1) := by decide +kernel
theorem dX12_billOf_136 : decode cX12_billOf 136 = .ok (.getfield 7, 3) := by decide +kernel
theorem dX12_billOf_139 : decode cX12_billOf 139 = .ok (.iconst 2, 1) := by decide +kernel
theorem dX12_billOf_140 : decode cX12_billOf 140 = .ok (.aload_n 0, 1) := by decide +kernel
theorem dX12_billOf_141 : decode cX12_billOf 141 = .ok (.iload_n 3, 1) := by decide +kernel
theorem dX12_billOf_142 : decode cX12_billOf 142 = .ok (.iconst 1, 1) := by decide +kernel
theorem dX12_billOf_143 : decode cX12_billOf 143 = .ok (.invokevirtual 242, 3) := by decide +kernel
theorem dX12_billOf_146 : decode cX12_billOf 146 = .ok (.iadd, 1) := by decide +kernel
theorem dX12_billOf_147 : decode cX12_billOf 147 = .ok (.laload, 1) := by decide +kernel
theorem dX12_billOf_148 : decode cX12_billOf 148 = .ok (.l2i, 1) := by decide +kernel
theorem dX12_billOf_149 : decode cX12_billOf 149 = .ok (.goto 4, 3) := by decide +kernel
theorem dX12_billOf_152 : decode cX12_billOf 152 = .ok (.iconst 0, 1) := by decide +kernel
theorem dX12_billOf_153 : decode cX12_billOf 153 = .ok (.iadd, 1) := by decide +kernel
theorem dX12_billOf_154 : decode cX12_billOf 154 = .ok (.istore_n 2, 1) := by decide +kernel
theorem dX12_billOf_155 : decode cX12_billOf 155 = .ok (.iinc 3 1, 3) := by decide +kernel
theorem dX12_billOf_158 : decode cX12_billOf 158 = .ok (.goto (-58), 3) := by decide +kernel
theorem dX12_billOf_161 : decode cX12_billOf 161 = .ok (.iload_n 2, 1) := by decide +kernel
theorem dX12_billOf_162 : decode cX12_billOf 162 = .ok (.ireturn, 1) := by decide +kernel
theorem dX12_spent_0 : decode cX12_spent 0 = .ok (.aload_n 0, 1) := by decide +kernel
theorem dX12_spent_1 : decode cX12_spent 1 = .ok (.iload_n 1, 1) := by decide +kernel
theorem dX12_spent_2 : decode cX12_spent 2 = .ok (.invokevirtual 329, 3) := by decide +kernel
theorem dX12_spent_5 : decode cX12_spent 5 = .ok (.ifCond .eq 7, 3) := by decide +kernel
theorem dX12_spent_8 : decode cX12_spent 8 = .ok (.lconst 0, 1) := by decide +kernel
theorem dX12_spent_9 : decode cX12_spent 9 = .ok (.goto 12, 3) := by decide +kernel
theorem dX12_spent_12 : decode cX12_spent 12 = .ok (.aload_n 0, 1) := by decide +kernel
theorem dX12_spent_13 : decode cX12_spent 13 = .ok (.getfield 7, 3) := by decide +kernel
theorem dX12_spent_16 : decode cX12_spent 16 = .ok (.bipush 8, 2) := by decide +kernel
theorem dX12_spent_18 : decode cX12_spent 18 = .ok (.iload_n 1, 1) := by decide +kernel
theorem dX12_spent_19 : decode cX12_spent 19 = .ok (.iadd, 1) := by decide +kernel
theorem dX12_spent_20 : decode cX12_spent 20 = .ok (.laload, 1) := by decide +kernel
theorem dX12_spent_21 : decode cX12_spent 21 = .ok (.lreturn, 1) := by decide +kernel
theorem dX12_hourlyBill_0 : decode cX12_hourlyBill 0 = .ok (.aload_n 0, 1) := by decide +kernel
theorem dX12_hourlyBill_1 : decode cX12_hourlyBill 1 = .ok (.iload_n 1, 1) := by decide +kernel
theorem dX12_hourlyBill_2 : decode cX12_hourlyBill 2 = .ok (.invokevirtual 329, 3) := by decide +kernel
theorem dX12_hourlyBill_5 : decode cX12_hourlyBill 5 = .ok (.ifCond .eq 7, 3) := by decide +kernel
theorem dX12_hourlyBill_8 : decode cX12_hourlyBill 8 = .ok (.iconst 0, 1) := by decide +kernel
theorem dX12_hourlyBill_9 : decode cX12_hourlyBill 9 = .ok (.goto 8, 3) := by decide +kernel
theorem dX12_hourlyBill_12 : decode cX12_hourlyBill 12 = .ok (.aload_n 0, 1) := by decide +kernel
theorem dX12_hourlyBill_13 : decode cX12_hourlyBill 13 = .ok (.iload_n 1, 1) := by decide +kernel
theorem dX12_hourlyBill_14 : decode cX12_hourlyBill 14 = .ok (.invokevirtual 332, 3) := by decide +kernel
theorem dX12_hourlyBill_17 : decode cX12_hourlyBill 17 = .ok (.ireturn, 1) := by decide +kernel
theorem dX12_covered_0 : decode cX12_covered 0 = .ok (.aload_n 0, 1) := by decide +kernel
theorem dX12_covered_1 : decode cX12_covered 1 = .ok (.iload_n 1, 1) := by decide +kernel
theorem dX12_covered_2 : decode cX12_covered 2 = .ok (.invokevirtual 329, 3) := by decide +kernel
theorem dX12_covered_5 : decode cX12_covered 5 = .ok (.ifCond .ne 11, 3) := by decide +kernel
theorem dX12_covered_8 : decode cX12_covered 8 = .ok (.aload_n 0, 1) := by decide +kernel
theorem dX12_covered_9 : decode cX12_covered 9 = .ok (.iload_n 2, 1) := by decide +kernel
theorem dX12_covered_10 : decode cX12_covered 10 = .ok (.invokevirtual 295, 3) := by decide +kernel
theorem dX12_covered_13 : decode cX12_covered 13 = .ok (.ifCond .eq 7, 3) := by decide +kernel
theorem dX12_covered_16 : decode cX12_covered 16 = .ok (.iconst 0, 1) := by decide +kernel
theorem dX12_covered_17 : decode cX12_covered 17 = .ok (.goto 9, 3) := by decide +kernel
theorem dX12_covered_20 : decode cX12_covered 20 = .ok (.aload_n 0, 1) := by decide +kernel
theorem dX12_covered_21 : decode cX12_covered 21 = .ok (.iload_n 1, 1) := by decide +kernel
theorem dX12_covered_22 : decode cX12_covered 22 = .ok (.iload_n 2, 1) := by decide +kernel
theorem dX12_covered_23 : decode cX12_covered 23 = .ok (.invokevirtual 326, 3) := by decide +kernel
theorem dX12_covered_26 : decode cX12_covered 26 = .ok (.ireturn, 1) := by decide +kernel
theorem dX12_isOver_0 : decode cX12_isOver 0 = .ok (.aload_n 0, 1) := by decide +kernel
theorem dX12_isOver_1 : decode cX12_isOver 1 = .ok (.getfield 7, 3) := by decide +kernel
theorem dX12_isOver_4 : decode cX12_isOver 4 = .ok (.bipush 8, 2) := by decide +kernel
theorem dX12_isOver_6 : decode cX12_isOver 6 = .ok (.iload_n 1, 1) := by decide +kernel
theorem dX12_isOver_7 : decode cX12_isOver 7 = .ok (.iadd, 1) := by decide +kernel
theorem dX12_isOver_8 : decode cX12_isOver 8 = .ok (.laload, 1) := by decide +kernel
theorem dX12_isOver_9 : decode cX12_isOver 9 = .ok (.ldc2_w 335, 3) := by decide +kernel
theorem dX12_isOver_12 : decode cX12_isOver 12 = .ok (.aload_n 0, 1) := by decide +kernel
theorem dX12_isOver_13 : decode cX12_isOver 13 = .ok (.getfield 23, 3) := by decide +kernel
theorem dX12_isOver_16 : decode cX12_isOver 16 = .ok (.iload_n 1, 1) := by decide +kernel
theorem dX12_isOver_17 : decode cX12_isOver 17 = .ok (.iaload, 1) := by decide +kernel
theorem dX12_isOver_18 : decode cX12_isOver 18 = .ok (.i2l, 1) := by decide +kernel
theorem dX12_isOver_19 : decode cX12_isOver 19 = .ok (.lmul, 1) := by decide +kernel
theorem dX12_isOver_20 : decode cX12_isOver 20 = .ok (.lcmp, 1) := by decide +kernel
theorem dX12_isOver_21 : decode cX12_isOver 21 = .ok (.ifCond .le 7, 3) := by decide +kernel
theorem dX12_isOver_24 : decode cX12_isOver 24 = .ok (.iconst 1, 1) := by decide +kernel
theorem dX12_isOver_25 : decode cX12_isOver 25 = .ok (.goto 4, 3) := by decide +kernel
theorem dX12_isOver_28 : decode cX12_isOver 28 = .ok (.iconst 0, 1) := by decide +kernel
theorem dX12_isOver_29 : decode cX12_isOver 29 = .ok (.ireturn, 1) := by decide +kernel
theorem dX12_isOverBudget_0 : decode cX12_isOverBudget 0 = .ok (.aload_n 0, 1) := by decide +kernel
theorem dX12_isOverBudget_1 : decode cX12_isOverBudget 1 = .ok (.iload_n 1, 1) := by decide +kernel
theorem dX12_isOverBudget_2 : decode cX12_isOverBudget 2 = .ok (.invokevirtual 329, 3) := by decide +kernel
theorem dX12_isOverBudget_5 : decode cX12_isOverBudget 5 = .ok (.ifCond .ne 15, 3) := by decide +kernel
theorem dX12_isOverBudget_8 : decode cX12_isOverBudget 8 = .ok (.aload_n 0, 1) := by decide +kernel
theorem dX12_isOverBudget_9 : decode cX12_isOverBudget 9 = .ok (.iload_n 1, 1) := by decide +kernel
theorem dX12_isOverBudget_10 : decode cX12_isOverBudget 10 = .ok (.invokevirtual 337, 3) := by decide +kernel
theorem dX12_isOverBudget_13 : decode cX12_isOverBudget 13 = .ok (.ifCond .eq 7, 3) := by decide +kernel
theorem dX12_isOverBudget_16 : decode cX12_isOverBudget 16 = .ok (.iconst 1, 1) := by decide +kernel
theorem dX12_isOverBudget_17 : decode cX12_isOverBudget 17 = .ok (.goto 4, 3) := by decide +kernel
theorem dX12_isOverBudget_20 : decode cX12_isOverBudget 20 = .ok (.iconst 0, 1) := by decide +kernel
theorem dX12_isOverBudget_21 : decode cX12_isOverBudget 21 = .ok (.ireturn, 1) := by decide +kernel
theorem dX12_pays_0 : decode cX12_pays 0 = .ok (.aload_n 0, 1) := by decide +kernel
theorem dX12_pays_1 : decode cX12_pays 1 = .ok (.iload_n 1, 1) := by decide +kernel
theorem dX12_pays_2 : decode cX12_pays 2 = .ok (.i2l, 1) := by decide +kernel
theorem dX12_pays_3 : decode cX12_pays 3 = .ok (.aload_n 0, 1) := by decide +kernel
theorem dX12_pays_4 : decode cX12_pays 4 = .ok (.getfield 13, 3) := by decide +kernel
theorem dX12_pays_7 : decode cX12_pays 7 = .ok (.iconst 3, 1) := by decide +kernel
theorem dX12_pays_8 : decode cX12_pays 8 = .ok (.iaload, 1) := by decide +kernel
theorem dX12_pays_9 : decode cX12_pays 9 = .ok (.invokevirtual 285, 3) := by decide +kernel
theorem dX12_pays_12 : decode cX12_pays 12 = .ok (.ifCond .eq 5, 3) := by decide +kernel
theorem dX12_pays_15 : decode cX12_pays 15 = .ok (.iconst 0, 1) := by decide +kernel
theorem dX12_pays_16 : decode cX12_pays 16 = .ok (.ireturn, 1) := by decide +kernel
theorem dX12_pays_17 : decode cX12_pays 17 = .ok (.bipush 6, 2) := by decide +kernel
theorem dX12_pays_19 : decode cX12_pays 19 = .ok (.iload_n 1, 1) := by decide +kernel
theorem dX12_pays_20 : decode cX12_pays 20 = .ok (.imul, 1) := by decide +kernel
theorem dX12_pays_21 : decode cX12_pays 21 = .ok (.istore_n 2, 1) := by decide +kernel
theorem dX12_pays_22 : decode cX12_pays 22 = .ok (.aload_n 0, 1) := by decide +kernel
theorem dX12_pays_23 : decode cX12_pays 23 = .ok (.aload_n 0, 1) := by decide +kernel
theorem dX12_pays_24 : decode cX12_pays 24 = .ok (.getfield 26, 3) := by decide +kernel
theorem dX12_pays_27 : decode cX12_pays 27 = .ok (.iload_n 2, 1) := by decide +kernel
theorem dX12_pays_28 : decode cX12_pays 28 = .ok (.iaload, 1) := by decide +kernel
theorem dX12_pays_29 : decode cX12_pays 29 = .ok (.aload_n 0, 1) := by decide +kernel
theorem dX12_pays_30 : decode cX12_pays 30 = .ok (.getfield 26, 3) := by decide +kernel
theorem dX12_pays_33 : decode cX12_pays 33 = .ok (.iload_n 2, 1) := by decide +kernel
theorem dX12_pays_34 : decode cX12_pays 34 = .ok (.iconst 1, 1) := by decide +kernel
theorem dX12_pays_35 : decode cX12_pays 35 = .ok (.iadd, 1) := by decide +kernel
theorem dX12_pays_36 : decode cX12_pays 36 = .ok (.iaload, 1) := by decide +kernel
theorem dX12_pays_37 : decode cX12_pays 37 = .ok (.invokevirtual 320, 3) := by decide +kernel
theorem dX12_pays_40 : decode cX12_pays 40 = .ok (.istore_n 3, 1) := by decide +kernel
theorem dX12_pays_41 : decode cX12_pays 41 = .ok (.iload_n 3, 1) := by decide +kernel
theorem dX12_pays_42 : decode cX12_pays 42 = .ok (.aload_n 0, 1) := by decide +kernel
theorem dX12_pays_43 : decode cX12_pays 43 = .ok (.getfield 26, 3) := by decide +kernel
theorem dX12_pays_46 : decode cX12_pays 46 = .ok (.iload_n 2, 1) := by decide +kernel
theorem dX12_pays_47 : decode cX12_pays 47 = .ok (.iconst 2, 1) := by decide +kernel
theorem dX12_pays_48 : decode cX12_pays 48 = .ok (.iadd, 1) := by decide +kernel
theorem dX12_pays_49 : decode cX12_pays 49 = .ok (.iaload, 1) := by decide +kernel
theorem dX12_pays_50 : decode cX12_pays 50 = .ok (.if_icmp .ge 7, 3) := by decide +kernel
theorem dX12_pays_53 : decode cX12_pays 53 = .ok (.iload_n 3, 1) := by decide +kernel
theorem dX12_pays_54 : decode cX12_pays 54 = .ok (.goto 11, 3) := by decide +kernel
theorem dX12_pays_57 : decode cX12_pays 57 = .ok (.aload_n 0, 1) := by decide +kernel
theorem dX12_pays_58 : decode cX12_pays 58 = .ok (.getfield 26, 3) := by decide +kernel
theorem dX12_pays_61 : decode cX12_pays 61 = .ok (.iload_n 2, 1) := by decide +kernel
theorem dX12_pays_62 : decode cX12_pays 62 = .ok (.iconst 2, 1) := by decide +kernel
theorem dX12_pays_63 : decode cX12_pays 63 = .ok (.iadd, 1) := by decide +kernel
theorem dX12_pays_64 : decode cX12_pays 64 = .ok (.iaload, 1) := by decide +kernel
theorem dX12_pays_65 : decode cX12_pays 65 = .ok (.istore 4, 2) := by decide +kernel
theorem dX12_pays_67 : decode cX12_pays 67 = .ok (.aload_n 0, 1) := by decide +kernel
theorem dX12_pays_68 : decode cX12_pays 68 = .ok (.iload_n 1, 1) := by decide +kernel
theorem dX12_pays_69 : decode cX12_pays 69 = .ok (.invokevirtual 317, 3) := by decide +kernel
theorem dX12_pays_72 : decode cX12_pays 72 = .ok (.ifCond .eq 35, 3) := by decide +kernel
theorem dX12_pays_75 : decode cX12_pays 75 = .ok (.aload_n 0, 1) := by decide +kernel
theorem dX12_pays_76 : decode cX12_pays 76 = .ok (.iload_n 1, 1) := by decide +kernel
theorem dX12_pays_77 : decode cX12_pays 77 = .ok (.invokevirtual 323, 3) := by decide +kernel
theorem dX12_pays_80 : decode cX12_pays 80 = .ok (.iload 4, 2) := by decide +kernel
theorem dX12_pays_82 : decode cX12_pays 82 = .ok (.aload_n 0, 1) := by decide +kernel
theorem dX12_pays_83 : decode cX12_pays 83 = .ok (.getfield 20, 3) := by decide +kernel
theorem dX12_pays_86 : decode cX12_pays 86 = .ok (.iconst 3, 1) := by decide +kernel
theorem dX12_pays_87 : decode cX12_pays 87 = .ok (.aload_n 0, 1) := by decide +kernel
theorem dX12_pays_88 : decode cX12_pays 88 = .ok (.getfield 26, 3) := by decide +kernel
theorem dX12_pays_91 : decode cX12_pays 91 = .ok (.iload_n 2, 1) := by decide +kernel
theorem dX12_pays_92 : decode cX12_pays 92 = .ok (.iconst 1, 1) := by decide +kernel
theorem dX12_pays_93 : decode cX12_pays 93 = .ok (.iadd, 1) := by decide +kernel
theorem dX12_pays_94 : decode cX12_pays 94 = .ok (.iaload, 1) := by decide +kernel
theorem dX12_pays_95 : decode cX12_pays 95 = .ok (.imul, 1) := by decide +kernel
theorem dX12_pays_96 : decode cX12_pays 96 = .ok (.iconst 2, 1) := by decide +kernel
theorem dX12_pays_97 : decode cX12_pays 97 = .ok (.iadd, 1) := by decide +kernel
theorem dX12_pays_98 : decode cX12_pays 98 = .ok (.iaload, 1) := by decide +kernel
theorem dX12_pays_99 : decode cX12_pays 99 = .ok (.imul, 1) := by decide +kernel
theorem dX12_pays_100 : decode cX12_pays 100 = .ok (.if_icmp .ge 7, 3) := by decide +kernel
theorem dX12_pays_103 : decode cX12_pays 103 = .ok (.iconst 1, 1) := by decide +kernel
theorem dX12_pays_104 : decode cX12_pays 104 = .ok (.goto 4, 3) := by decide +kernel
theorem dX12_pays_107 : decode cX12_pays 107 = .ok (.iconst 0, 1) := by decide +kernel
theorem dX12_pays_108 : decode cX12_pays 108 = .ok (.ireturn, 1) := by decide +kernel
theorem dX12_addsHost_0 : decode cX12_addsHost 0 = .ok (.iconst 0, 1) := by decide +kernel
theorem dX12_addsHost_1 : decode cX12_addsHost 1 = .ok (.istore_n 3, 1) := by decide +kernel
theorem dX12_addsHost_2 : decode cX12_addsHost 2 = .ok (.iload_n 3, 1) := by decide +kernel
theorem dX12_addsHost_3 : decode cX12_addsHost 3 = .ok (.iconst 1, 1) := by decide +kernel
theorem dX12_addsHost_4 : decode cX12_addsHost 4 = .ok (.iload_n 2, 1) := by decide +kernel
theorem dX12_addsHost_5 : decode cX12_addsHost 5 = .ok (.ishl, 1) := by decide +kernel
theorem dX12_addsHost_6 : decode cX12_addsHost 6 = .ok (.if_icmp .ge 21, 3) := by decide +kernel
theorem dX12_addsHost_9 : decode cX12_addsHost 9 = .ok (.aload_n 0, 1) := by decide +kernel
theorem dX12_addsHost_10 : decode cX12_addsHost 10 = .ok (.getfield 49, 3) := by decide +kernel
theorem dX12_addsHost_13 : decode cX12_addsHost 13 = .ok (.iload_n 3, 1) := by decide +kernel
theorem dX12_addsHost_14 : decode cX12_addsHost 14 = .ok (.aload_n 0, 1) := by decide +kernel
theorem dX12_addsHost_15 : decode cX12_addsHost 15 = .ok (.getfield 46, 3) := by decide +kernel
theorem dX12_addsHost_18 : decode cX12_addsHost 18 = .ok (.iload_n 3, 1) := by decide +kernel
theorem dX12_addsHost_19 : decode cX12_addsHost 19 = .ok (.iaload, 1) := by decide +kernel
theorem dX12_addsHost_20 : decode cX12_addsHost 20 = .ok (.iastore, 1) := by decide +kernel
theorem dX12_addsHost_21 : decode cX12_addsHost 21 = .ok (.iinc 3 1, 3) := by decide +kernel
theorem dX12_addsHost_24 : decode cX12_addsHost 24 = .ok (.goto (-22), 3) := by decide +kernel
theorem dX12_addsHost_27 : decode cX12_addsHost 27 = .ok (.iconst 1, 1) := by decide +kernel
theorem dX12_addsHost_28 : decode cX12_addsHost 28 = .ok (.istore_n 3, 1) := by decide +kernel
theorem dX12_addsHost_29 : decode cX12_addsHost 29 = .ok (.iload_n 3, 1) := by decide +kernel
theorem dX12_addsHost_30 : decode cX12_addsHost 30 = .ok (.iconst 1, 1) := by decide +kernel
theorem dX12_addsHost_31 : decode cX12_addsHost 31 = .ok (.iload_n 2, 1) := by decide +kernel
theorem dX12_addsHost_32 : decode cX12_addsHost 32 = .ok (.ishl, 1) := by decide +kernel
theorem dX12_addsHost_33 : decode cX12_addsHost 33 = .ok (.if_icmp .ge 137, 3) := by decide +kernel
theorem dX12_addsHost_36 : decode cX12_addsHost 36 = .ok (.aload_n 0, 1) := by decide +kernel
theorem dX12_addsHost_37 : decode cX12_addsHost 37 = .ok (.getfield 52, 3) := by decide +kernel
theorem dX12_addsHost_40 : decode cX12_addsHost 40 = .ok (.iload_n 3, 1) := by decide +kernel
theorem dX12_addsHost_41 : decode cX12_addsHost 41 = .ok (.iaload, 1) := by decide +kernel
theorem dX12_addsHost_42 : decode cX12_addsHost 42 = .ok (.aload_n 0, 1) := by decide +kernel
theorem dX12_addsHost_43 : decode cX12_addsHost 43 = .ok (.getfield 17, 3) := by decide +kernel
theorem dX12_addsHost_46 : decode cX12_addsHost 46 = .ok (.iconst 2, 1) := by decide +kernel
theorem dX12_addsHost_47 : decode cX12_addsHost 47 = .ok (.iload_n 1, 1) := by decide +kernel
theorem dX12_addsHost_48 : decode cX12_addsHost 48 = .ok (.imul, 1) := by decide +kernel
theorem dX12_addsHost_49 : decode cX12_addsHost 49 = .ok (.iaload, 1) := by decide +kernel
theorem dX12_addsHost_50 : decode cX12_addsHost 50 = .ok (.if_icmp .gt 114, 3) := by decide +kernel
theorem dX12_addsHost_53 : decode cX12_addsHost 53 = .ok (.aload_n 0, 1) := by decide +kernel
theorem dX12_addsHost_54 : decode cX12_addsHost 54 = .ok (.getfield 55, 3) := by decide +kernel
theorem dX12_addsHost_57 : decode cX12_addsHost 57 = .ok (.iload_n 3, 1) := by decide +kernel
theorem dX12_addsHost_58 : decode cX12_addsHost 58 = .ok (.iaload, 1) := by decide +kernel
theorem dX12_addsHost_59 : decode cX12_addsHost 59 = .ok (.aload_n 0, 1) := by decide +kernel
theorem dX12_addsHost_60 : decode cX12_addsHost 60 = .ok (.getfield 17, 3) := by decide +kernel
theorem dX12_addsHost_63 : decode cX12_addsHost 63 = .ok (.iconst 2, 1) := by decide +kernel
theorem dX12_addsHost_64 : decode cX12_addsHost 64 = .ok (.iload_n 1, 1) := by decide +kernel
theorem dX12_addsHost_65 : decode cX12_addsHost 65 = .ok (.imul, 1) := by decide +kernel
theorem dX12_addsHost_66 : decode cX12_addsHost 66 = .ok (.iconst 1, 1) := by decide +kernel
theorem dX12_addsHost_67 : decode cX12_addsHost 67 = .ok (.iadd, 1) := by decide +kernel
theorem dX12_addsHost_68 : decode cX12_addsHost 68 = .ok (.iaload, 1) := by decide +kernel
theorem dX12_addsHost_69 : decode cX12_addsHost 69 = .ok (.if_icmp .le 6, 3) := by decide +kernel
theorem dX12_addsHost_72 : decode cX12_addsHost 72 = .ok (.goto 92, 3) := by decide +kernel
theorem dX12_addsHost_75 : decode cX12_addsHost 75 = .ok (.iconst 1, 1) := by decide +kernel
theorem dX12_addsHost_76 : decode cX12_addsHost 76 = .ok (.iload_n 2, 1) := by decide +kernel
theorem dX12_addsHost_77 : decode cX12_addsHost 77 = .ok (.ishl, 1) := by decide +kernel
theorem dX12_addsHost_78 : decode cX12_addsHost 78 = .ok (.iconst 1, 1) := by decide +kernel
theorem dX12_addsHost_79 : decode cX12_addsHost 79 = .ok (.isub, 1) := by decide +kernel
theorem dX12_addsHost_80 : decode cX12_addsHost 80 = .ok (.iload_n 3, 1) := by decide +kernel
theorem dX12_addsHost_81 : decode cX12_addsHost 81 = .ok (.iconst (-1), 1) := by decide +kernel
theorem dX12_addsHost_82 : decode cX12_addsHost 82 = .ok (.ixor, 1) := by decide +kernel
theorem dX12_addsHost_83 : decode cX12_addsHost 83 = .ok (.iand, 1) := by decide +kernel
theorem dX12_addsHost_84 : decode cX12_addsHost 84 = .ok (.istore 4, 2) := by decide +kernel
theorem dX12_addsHost_86 : decode cX12_addsHost 86 = .ok (.iload 4, 2) := by decide +kernel
theorem dX12_addsHost_88 : decode cX12_addsHost 88 = .ok (.istore 5, 2) := by decide +kernel
theorem dX12_addsHost_90 : decode cX12_addsHost 90 = .ok (.iload 5, 2) := by decide +kernel
theorem dX12_addsHost_92 : decode cX12_addsHost 92 = .ok (.ifCond .lt 72, 3) := by decide +kernel
theorem dX12_addsHost_95 : decode cX12_addsHost 95 = .ok (.aload_n 0, 1) := by decide +kernel
theorem dX12_addsHost_96 : decode cX12_addsHost 96 = .ok (.getfield 49, 3) := by decide +kernel
theorem dX12_addsHost_99 : decode cX12_addsHost 99 = .ok (.iload 5, 2) := by decide +kernel
theorem dX12_addsHost_101 : decode cX12_addsHost 101 = .ok (.iaload, 1) := by decide +kernel
theorem dX12_addsHost_102 : decode cX12_addsHost 102 = .ok (.iconst 1, 1) := by decide +kernel
theorem dX12_addsHost_103 : decode cX12_addsHost 103 = .ok (.iadd, 1) := by decide +kernel
theorem dX12_addsHost_104 : decode cX12_addsHost 104 = .ok (.istore 6, 2) := by decide +kernel
theorem dX12_addsHost_106 : decode cX12_addsHost 106 = .ok (.aload_n 0, 1) := by decide +kernel
theorem dX12_addsHost_107 : decode cX12_addsHost 107 = .ok (.getfield 46, 3) := by decide +kernel
theorem dX12_addsHost_110 : decode cX12_addsHost 110 = .ok (.iload 5, 2) := by decide +kernel
theorem dX12_addsHost_112 : decode cX12_addsHost 112 = .ok (.iload_n 3, 1) := by decide +kernel
theorem dX12_addsHost_113 : decode cX12_addsHost 113 = .ok (.ior, 1) := by decide +kernel
theorem dX12_addsHost_114 : decode cX12_addsHost 114 = .ok (.iload 6, 2) := by decide +kernel
theorem dX12_addsHost_116 : decode cX12_addsHost 116 = .ok (.aload_n 0, 1) := by decide +kernel
theorem dX12_addsHost_117 : decode cX12_addsHost 117 = .ok (.getfield 46, 3) := by decide +kernel
theorem dX12_addsHost_120 : decode cX12_addsHost 120 = .ok (.iload 5, 2) := by decide +kernel
theorem dX12_addsHost_122 : decode cX12_addsHost 122 = .ok (.iload_n 3, 1) := by decide +kernel
theorem dX12_addsHost_123 : decode cX12_addsHost 123 = .ok (.ior, 1) := by decide +kernel
theorem dX12_addsHost_124 : decode cX12_addsHost 124 = .ok (.iaload, 1) := by decide +kernel
theorem dX12_addsHost_125 : decode cX12_addsHost 125 = .ok (.if_icmp .ge 8, 3) := by decide +kernel
theorem dX12_addsHost_128 : decode cX12_addsHost 128 = .ok (.iload 6, 2) := by decide +kernel
theorem dX12_addsHost_130 : decode cX12_addsHost 130 = .ok (.goto 12, 3) := by decide +kernel
theorem dX12_addsHost_133 : decode cX12_addsHost 133 = .ok (.aload_n 0, 1) := by decide +kernel
theorem dX12_addsHost_134 : decode cX12_addsHost 134 = .ok (.getfield 46, 3) := by decide +kernel
theorem dX12_addsHost_137 : decode cX12_addsHost 137 = .ok (.iload 5, 2) := by decide +kernel
theorem dX12_addsHost_139 : decode cX12_addsHost 139 = .ok (.iload_n 3, 1) := by decide +kernel
theorem dX12_addsHost_140 : decode cX12_addsHost 140 = .ok (.ior, 1) := by decide +kernel
theorem dX12_addsHost_141 : decode cX12_addsHost 141 = .ok (.iaload, 1) := by decide +kernel
theorem dX12_addsHost_142 : decode cX12_addsHost 142 = .ok (.iastore, 1) := by decide +kernel
theorem dX12_addsHost_143 : decode cX12_addsHost 143 = .ok (.iload 5, 2) := by decide +kernel
theorem dX12_addsHost_145 : decode cX12_addsHost 145 = .ok (.ifCond .ne 7, 3) := by decide +kernel
theorem dX12_addsHost_148 : decode cX12_addsHost 148 = .ok (.iconst (-1), 1) := by decide +kernel
theorem dX12_addsHost_149 : decode cX12_addsHost 149 = .ok (.goto 10, 3) := by decide +kernel
theorem dX12_addsHost_152 : decode cX12_addsHost 152 = .ok (.iload 5, 2) := by decide +kernel
theorem dX12_addsHost_154 : decode cX12_addsHost 154 = .ok (.iconst 1, 1) := by decide +kernel
theorem dX12_addsHost_155 : decode cX12_addsHost 155 = .ok (.isub, 1) := by decide +kernel
theorem dX12_addsHost_156 : decode cX12_addsHost 156 = .ok (.iload 4, 2) := by decide +kernel
theorem dX12_addsHost_158 : decode cX12_addsHost 158 = .ok (.iand, 1) := by decide +kernel
theorem dX12_addsHost_159 : decode cX12_addsHost 159 = .ok (.istore 5, 2) := by decide +kernel
theorem dX12_addsHost_161 : decode cX12_addsHost 161 = .ok (.goto (-71), 3) := by decide +kernel
theorem dX12_addsHost_164 : decode cX12_addsHost 164 = .ok (.iinc 3 1, 3) := by decide +kernel
theorem dX12_addsHost_167 : decode cX12_addsHost 167 = .ok (.goto (-138), 3) := by decide +kernel
theorem dX12_addsHost_170 : decode cX12_addsHost 170 = .ok (.return_, 1) := by decide +kernel
theorem dX12_fewestHosts_0 : decode cX12_fewestHosts 0 = .ok (.aload_n 0, 1) := by decide +kernel
theorem dX12_fewestHosts_1 : decode cX12_fewestHosts 1 = .ok (.iconst 0, 1) := by decide +kernel
theorem dX12_fewestHosts_2 : decode cX12_fewestHosts 2 = .ok (.putfield 83, 3) := by decide +kernel
theorem dX12_fewestHosts_5 : decode cX12_fewestHosts 5 = .ok (.iconst 0, 1) := by decide +kernel
theorem dX12_fewestHosts_6 : decode cX12_fewestHosts 6 = .ok (.istore_n 1, 1) := by decide +kernel
theorem dX12_fewestHosts_7 : decode cX12_fewestHosts 7 = .ok (.iconst 0, 1) := by decide +kernel
theorem dX12_fewestHosts_8 : decode cX12_fewestHosts 8 = .ok (.istore_n 2, 1) := by decide +kernel
theorem dX12_fewestHosts_9 : decode cX12_fewestHosts 9 = .ok (.iload_n 2, 1) := by decide +kernel
theorem dX12_fewestHosts_10 : decode cX12_fewestHosts 10 = .ok (.bipush 12, 2) := by decide +kernel
theorem dX12_fewestHosts_12 : decode cX12_fewestHosts 12 = .ok (.if_icmp .ge 113, 3) := by decide +kernel
theorem dX12_fewestHosts_15 : decode cX12_fewestHosts 15 = .ok (.aload_n 0, 1) := by decide +kernel
theorem dX12_fewestHosts_16 : decode cX12_fewestHosts 16 = .ok (.iload_n 2, 1) := by decide +kernel
theorem dX12_fewestHosts_17 : decode cX12_fewestHosts 17 = .ok (.invokevirtual 264, 3) := by decide +kernel
theorem dX12_fewestHosts_20 : decode cX12_fewestHosts 20 = .ok (.ifCond .eq 99, 3) := by decide +kernel
theorem dX12_fewestHosts_23 : decode cX12_fewestHosts 23 = .ok (.iconst 0, 1) := by decide +kernel
theorem dX12_fewestHosts_24 : decode cX12_fewestHosts 24 = .ok (.istore_n 3, 1) := by decide +kernel
theorem dX12_fewestHosts_25 : decode cX12_fewestHosts 25 = .ok (.iload_n 3, 1) := by decide +kernel
theorem dX12_fewestHosts_26 : decode cX12_fewestHosts 26 = .ok (.iconst 1, 1) := by decide +kernel
theorem dX12_fewestHosts_27 : decode cX12_fewestHosts 27 = .ok (.iload_n 1, 1) := by decide +kernel
theorem dX12_fewestHosts_28 : decode cX12_fewestHosts 28 = .ok (.ishl, 1) := by decide +kernel
theorem dX12_fewestHosts_29 : decode cX12_fewestHosts 29 = .ok (.if_icmp .ge 87, 3) := by decide +kernel
theorem dX12_fewestHosts_32 : decode cX12_fewestHosts 32 = .ok (.aload_n 0, 1) := by decide +kernel
theorem dX12_fewestHosts_33 : decode cX12_fewestHosts 33 = .ok (.getfield 52, 3) := by decide +kernel
theorem dX12_fewestHosts_36 : decode cX12_fewestHosts 36 = .ok (.iload_n 3, 1) := by decide +kernel
theorem dX12_fewestHosts_37 : decode cX12_fewestHosts 37 = .ok (.iconst 1, 1) := by decide +kernel
theorem dX12_fewestHosts_38 : decode cX12_fewestHosts 38 = .ok (.iload_n 1, 1) := by decide +kernel
theorem dX12_fewestHosts_39 : decode cX12_fewestHosts 39 = .ok (.ishl, 1) := by decide +kernel
theorem dX12_fewestHosts_40 : decode cX12_fewestHosts 40 = .ok (.ior, 1) := by decide +kernel
theorem dX12_fewestHosts_41 : decode cX12_fewestHosts 41 = .ok (.iload_n 1, 1) := by decide +kernel
theorem dX12_fewestHosts_42 : decode cX12_fewestHosts 42 = .ok (.ifCond .ne 7, 3) := by decide +kernel
theorem dX12_fewestHosts_45 : decode cX12_fewestHosts 45 = .ok (.iconst 0, 1) := by decide +kernel
theorem dX12_fewestHosts_46 : decode cX12_fewestHosts 46 = .ok (.goto 9, 3) := by decide +kernel
theorem dX12_fewestHosts_49 : decode cX12_fewestHosts 49 = .ok (.aload_n 0, 1) := by decide +kernel
theorem dX12_fewestHosts_50 : decode cX12_fewestHosts 50 = .ok (.getfield 52, 3) := by decide +kernel
theorem dX12_fewestHosts_53 : decode cX12_fewestHosts 53 = .ok (.iload_n 3, 1) := by decide +kernel
theorem dX12_fewestHosts_54 : decode cX12_fewestHosts 54 = .ok (.iaload, 1) := by decide +kernel
theorem dX12_fewestHosts_55 : decode cX12_fewestHosts 55 = .ok (.aload_n 0, 1) := by decide +kernel
theorem dX12_fewestHosts_56 : decode cX12_fewestHosts 56 = .ok (.getfield 20, 3) := by decide +kernel
theorem dX12_fewestHosts_59 : decode cX12_fewestHosts 59 = .ok (.iconst 3, 1) := by decide +kernel
theorem dX12_fewestHosts_60 : decode cX12_fewestHosts 60 = .ok (.aload_n 0, 1) := by decide +kernel
theorem dX12_fewestHosts_61 : decode cX12_fewestHosts 61 = .ok (.iload_n 2, 1) := by decide +kernel
theorem dX12_fewestHosts_62 : decode cX12_fewestHosts 62 = .ok (.iconst 1, 1) := by decide +kernel
theorem dX12_fewestHosts_63 : decode cX12_fewestHosts 63 = .ok (.invokevirtual 242, 3) := by decide +kernel
theorem dX12_fewestHosts_66 : decode cX12_fewestHosts 66 = .ok (.imul, 1) := by decide +kernel
theorem dX12_fewestHosts_67 : decode cX12_fewestHosts 67 = .ok (.iaload, 1) := by decide +kernel
theorem dX12_fewestHosts_68 : decode cX12_fewestHosts 68 = .ok (.iadd, 1) := by decide +kernel
theorem dX12_fewestHosts_69 : decode cX12_fewestHosts 69 = .ok (.iastore, 1) := by decide +kernel
theorem dX12_fewestHosts_70 : decode cX12_fewestHosts 70 = .ok (.aload_n 0, 1) := by decide +kernel
theorem dX12_fewestHosts_71 : decode cX12_fewestHosts 71 = .ok (.getfield 55, 3) := by decide +kernel
theorem dX12_fewestHosts_74 : decode cX12_fewestHosts 74 = .ok (.iload_n 3, 1) := by decide +kernel
theorem dX12_fewestHosts_75 : decode cX12_fewestHosts 75 = .ok (.iconst 1, 1) := by decide +kernel
theorem dX12_fewestHosts_76 : decode cX12_fewestHosts 76 = .ok (.iload_n 1, 1) := by decide +kernel
theorem dX12_fewestHosts_77 : decode cX12_fewestHosts 77 = .ok (.ishl, 1) := by decide +kernel
theorem dX12_fewestHosts_78 : decode cX12_fewestHosts 78 = .ok (.ior, 1) := by decide +kernel
theorem dX12_fewestHosts_79 : decode cX12_fewestHosts 79 = .ok (.iload_n 1, 1) := by decide +kernel
theorem dX12_fewestHosts_80 : decode cX12_fewestHosts 80 = .ok (.ifCond .ne 7, 3) := by decide +kernel
theorem dX12_fewestHosts_83 : decode cX12_fewestHosts 83 = .ok (.iconst 0, 1) := by decide +kernel
theorem dX12_fewestHosts_84 : decode cX12_fewestHosts 84 = .ok (.goto 9, 3) := by decide +kernel
theorem dX12_fewestHosts_87 : decode cX12_fewestHosts 87 = .ok (.aload_n 0, 1) := by decide +kernel
theorem dX12_fewestHosts_88 : decode cX12_fewestHosts 88 = .ok (.getfield 55, 3) := by decide +kernel
theorem dX12_fewestHosts_91 : decode cX12_fewestHosts 91 = .ok (.iload_n 3, 1) := by decide +kernel
theorem dX12_fewestHosts_92 : decode cX12_fewestHosts 92 = .ok (.iaload, 1) := by decide +kernel
theorem dX12_fewestHosts_93 : decode cX12_fewestHosts 93 = .ok (.aload_n 0, 1) := by decide +kernel
theorem dX12_fewestHosts_94 : decode cX12_fewestHosts 94 = .ok (.getfield 20, 3) := by decide +kernel
theorem dX12_fewestHosts_97 : decode cX12_fewestHosts 97 = .ok (.iconst 3, 1) := by decide +kernel
theorem dX12_fewestHosts_98 : decode cX12_fewestHosts 98 = .ok (.aload_n 0, 1) := by decide +kernel
theorem dX12_fewestHosts_99 : decode cX12_fewestHosts 99 = .ok (.iload_n 2, 1) := by decide +kernel
theorem dX12_fewestHosts_100 : decode cX12_fewestHosts 100 = .ok (.iconst 1, 1) := by decide +kernel
theorem dX12_fewestHosts_101 : decode cX12_fewestHosts 101 = .ok (.invokevirtual 242, 3) := by decide +kernel
theorem dX12_fewestHosts_104 : decode cX12_fewestHosts 104 = .ok (.imul, 1) := by decide +kernel
theorem dX12_fewestHosts_105 : decode cX12_fewestHosts 105 = .ok (.iconst 1, 1) := by decide +kernel
theorem dX12_fewestHosts_106 : decode cX12_fewestHosts 106 = .ok (.iadd, 1) := by decide +kernel
theorem dX12_fewestHosts_107 : decode cX12_fewestHosts 107 = .ok (.iaload, 1) := by decide +kernel
theorem dX12_fewestHosts_108 : decode cX12_fewestHosts 108 = .ok (.iadd, 1) := by decide +kernel
theorem dX12_fewestHosts_109 : decode cX12_fewestHosts 109 = .ok (.iastore, 1) := by decide +kernel
theorem dX12_fewestHosts_110 : decode cX12_fewestHosts 110 = .ok (.iinc 3 1, 3) := by decide +kernel
theorem dX12_fewestHosts_113 : decode cX12_fewestHosts 113 = .ok (.goto (-88), 3) := by decide +kernel
theorem dX12_fewestHosts_116 : decode cX12_fewestHosts 116 = .ok (.iinc 1 1, 3) := by decide +kernel
theorem dX12_fewestHosts_119 : decode cX12_fewestHosts 119 = .ok (.iinc 2 1, 3) := by decide +kernel
theorem dX12_fewestHosts_122 : decode cX12_fewestHosts 122 = .ok (.goto (-113), 3) := by decide +kernel
theorem dX12_fewestHosts_125 : decode cX12_fewestHosts 125 = .ok (.iconst 0, 1) := by decide +kernel
theorem dX12_fewestHosts_126 : decode cX12_fewestHosts 126 = .ok (.istore_n 2, 1) := by decide +kernel
theorem dX12_fewestHosts_127 : decode cX12_fewestHosts 127 = .ok (.iload_n 2, 1) := by decide +kernel
theorem dX12_fewestHosts_128 : decode cX12_fewestHosts 128 = .ok (.iconst 1, 1) := by decide +kernel
theorem dX12_fewestHosts_129 : decode cX12_fewestHosts 129 = .ok (.iload_n 1, 1) := by decide +kernel
theorem dX12_fewestHosts_130 : decode cX12_fewestHosts 130 = .ok (.ishl, 1) := by decide +kernel
theorem dX12_fewestHosts_131 : decode cX12_fewestHosts 131 = .ok (.if_icmp .ge 26, 3) := by decide +kernel
theorem dX12_fewestHosts_134 : decode cX12_fewestHosts 134 = .ok (.aload_n 0, 1) := by decide +kernel
theorem dX12_fewestHosts_135 : decode cX12_fewestHosts 135 = .ok (.getfield 46, 3) := by decide +kernel
theorem dX12_fewestHosts_138 : decode cX12_fewestHosts 138 = .ok (.iload_n 2, 1) := by decide +kernel
theorem dX12_fewestHosts_139 : decode cX12_fewestHosts 139 = .ok (.iload_n 2, 1) := by decide +kernel
theorem dX12_fewestHosts_140 : decode cX12_fewestHosts 140 = .ok (.ifCond .ne 7, 3) := by decide +kernel
theorem dX12_fewestHosts_143 : decode cX12_fewestHosts 143 = .ok (.iconst 0, 1) := by decide +kernel
theorem dX12_fewestHosts_144 : decode cX12_fewestHosts 144 = .ok (.goto 6, 3) := by decide +kernel
theorem dX12_fewestHosts_147 : decode cX12_fewestHosts 147 = .ok (.sipush 1000, 3) := by decide +kernel
theorem dX12_fewestHosts_150 : decode cX12_fewestHosts 150 = .ok (.iastore, 1) := by decide +kernel
theorem dX12_fewestHosts_151 : decode cX12_fewestHosts 151 = .ok (.iinc 2 1, 3) := by decide +kernel
theorem dX12_fewestHosts_154 : decode cX12_fewestHosts 154 = .ok (.goto (-27), 3) := by decide +kernel
theorem dX12_fewestHosts_157 : decode cX12_fewestHosts 157 = .ok (.aload_n 0, 1) := by decide +kernel
theorem dX12_fewestHosts_158 : decode cX12_fewestHosts 158 = .ok (.getfield 52, 3) := by decide +kernel
theorem dX12_fewestHosts_161 : decode cX12_fewestHosts 161 = .ok (.iconst 0, 1) := by decide +kernel
theorem dX12_fewestHosts_162 : decode cX12_fewestHosts 162 = .ok (.iconst 0, 1) := by decide +kernel
theorem dX12_fewestHosts_163 : decode cX12_fewestHosts 163 = .ok (.iastore, 1) := by decide +kernel
theorem dX12_fewestHosts_164 : decode cX12_fewestHosts 164 = .ok (.aload_n 0, 1) := by decide +kernel
theorem dX12_fewestHosts_165 : decode cX12_fewestHosts 165 = .ok (.getfield 55, 3) := by decide +kernel
theorem dX12_fewestHosts_168 : decode cX12_fewestHosts 168 = .ok (.iconst 0, 1) := by decide +kernel
theorem dX12_fewestHosts_169 : decode cX12_fewestHosts 169 = .ok (.iconst 0, 1) := by decide +kernel
theorem dX12_fewestHosts_170 : decode cX12_fewestHosts 170 = .ok (.iastore, 1) := by decide +kernel
theorem dX12_fewestHosts_171 : decode cX12_fewestHosts 171 = .ok (.iconst 0, 1) := by decide +kernel
theorem dX12_fewestHosts_172 : decode cX12_fewestHosts 172 = .ok (.istore_n 2, 1) := by decide +kernel
theorem dX12_fewestHosts_173 : decode cX12_fewestHosts 173 = .ok (.iload_n 2, 1) := by decide +kernel
theorem dX12_fewestHosts_174 : decode cX12_fewestHosts 174 = .ok (.aload_n 0, 1) := by decide +kernel
theorem dX12_fewestHosts_175 : decode cX12_fewestHosts 175 = .ok (.getfield 13, 3) := by decide +kernel
theorem dX12_fewestHosts_178 : decode cX12_fewestHosts 178 = .ok (.iconst 0, 1) := by decide +kernel
theorem dX12_fewestHosts_179 : decode cX12_fewestHosts 179 = .ok (.iaload, 1) := by decide +kernel
theorem dX12_fewestHosts_180 : decode cX12_fewestHosts 180 = .ok (.if_icmp .ge 15, 3) := by decide +kernel
theorem dX12_fewestHosts_183 : decode cX12_fewestHosts 183 = .ok (.aload_n 0, 1) := by decide +kernel
theorem dX12_fewestHosts_184 : decode cX12_fewestHosts 184 = .ok (.iload_n 2, 1) := by decide +kernel
theorem dX12_fewestHosts_185 : decode cX12_fewestHosts 185 = .ok (.iload_n 1, 1) := by decide +kernel
theorem dX12_fewestHosts_186 : decode cX12_fewestHosts 186 = .ok (.invokevirtual 340, 3) := by decide +kernel
theorem dX12_fewestHosts_189 : decode cX12_fewestHosts 189 = .ok (.iinc 2 1, 3) := by decide +kernel
theorem dX12_fewestHosts_192 : decode cX12_fewestHosts 192 = .ok (.goto (-19), 3) := by decide +kernel
theorem dX12_fewestHosts_195 : decode cX12_fewestHosts 195 = .ok (.aload_n 0, 1) := by decide +kernel
theorem dX12_fewestHosts_196 : decode cX12_fewestHosts 196 = .ok (.getfield 46, 3) := by decide +kernel
theorem dX12_fewestHosts_199 : decode cX12_fewestHosts 199 = .ok (.iconst 1, 1) := by decide +kernel
theorem dX12_fewestHosts_200 : decode cX12_fewestHosts 200 = .ok (.iload_n 1, 1) := by decide +kernel
theorem dX12_fewestHosts_201 : decode cX12_fewestHosts 201 = .ok (.ishl, 1) := by decide +kernel
theorem dX12_fewestHosts_202 : decode cX12_fewestHosts 202 = .ok (.iconst 1, 1) := by decide +kernel
theorem dX12_fewestHosts_203 : decode cX12_fewestHosts 203 = .ok (.isub, 1) := by decide +kernel
theorem dX12_fewestHosts_204 : decode cX12_fewestHosts 204 = .ok (.iaload, 1) := by decide +kernel
theorem dX12_fewestHosts_205 : decode cX12_fewestHosts 205 = .ok (.ireturn, 1) := by decide +kernel
theorem dX12_bidsWithout_0 : decode cX12_bidsWithout 0 = .ok (.aload_n 0, 1) := by decide +kernel
theorem dX12_bidsWithout_1 : decode cX12_bidsWithout 1 = .ok (.iload_n 2, 1) := by decide +kernel
theorem dX12_bidsWithout_2 : decode cX12_bidsWithout 2 = .ok (.iconst 0, 1) := by decide +kernel
theorem dX12_bidsWithout_3 : decode cX12_bidsWithout 3 = .ok (.invokevirtual 270, 3) := by decide +kernel
theorem dX12_bidsWithout_6 : decode cX12_bidsWithout 6 = .ok (.istore 4, 2) := by decide +kernel
theorem dX12_bidsWithout_8 : decode cX12_bidsWithout 8 = .ok (.aload_n 0, 1) := by decide +kernel
theorem dX12_bidsWithout_9 : decode cX12_bidsWithout 9 = .ok (.iload_n 2, 1) := by decide +kernel
theorem dX12_bidsWithout_10 : decode cX12_bidsWithout 10 = .ok (.iconst 1, 1) := by decide +kernel
theorem dX12_bidsWithout_11 : decode cX12_bidsWithout 11 = .ok (.invokevirtual 270, 3) := by decide +kernel
theorem dX12_bidsWithout_14 : decode cX12_bidsWithout 14 = .ok (.istore 5, 2) := by decide +kernel
theorem dX12_bidsWithout_16 : decode cX12_bidsWithout 16 = .ok (.iconst 0, 1) := by decide +kernel
theorem dX12_bidsWithout_17 : decode cX12_bidsWithout 17 = .ok (.istore 6, 2) := by decide +kernel
theorem dX12_bidsWithout_19 : decode cX12_bidsWithout 19 = .ok (.iconst 0, 1) := by decide +kernel
theorem dX12_bidsWithout_20 : decode cX12_bidsWithout 20 = .ok (.istore 7, 2) := by decide +kernel
theorem dX12_bidsWithout_22 : decode cX12_bidsWithout 22 = .ok (.iload 7, 2) := by decide +kernel
theorem dX12_bidsWithout_24 : decode cX12_bidsWithout 24 = .ok (.bipush 12, 2) := by decide +kernel
theorem dX12_bidsWithout_26 : decode cX12_bidsWithout 26 = .ok (.if_icmp .ge 70, 3) := by decide +kernel
theorem dX12_bidsWithout_29 : decode cX12_bidsWithout 29 = .ok (.iload_n 1, 1) := by decide +kernel
theorem dX12_bidsWithout_30 : decode cX12_bidsWithout 30 = .ok (.iload 7, 2) := by decide +kernel
theorem dX12_bidsWithout_32 : decode cX12_bidsWithout 32 = .ok (.invokestatic 159, 3) := by decide +kernel
theorem dX12_bidsWithout_35 : decode cX12_bidsWithout 35 = .ok (.ifCond .eq 55, 3) := by decide +kernel
theorem dX12_bidsWithout_38 : decode cX12_bidsWithout 38 = .ok (.iload 6, 2) := by decide +kernel
theorem dX12_bidsWithout_40 : decode cX12_bidsWithout 40 = .ok (.aload_n 0, 1) := by decide +kernel
theorem dX12_bidsWithout_41 : decode cX12_bidsWithout 41 = .ok (.iload 7, 2) := by decide +kernel
theorem dX12_bidsWithout_43 : decode cX12_bidsWithout 43 = .ok (.iconst 3, 1) := by decide +kernel
theorem dX12_bidsWithout_44 : decode cX12_bidsWithout 44 = .ok (.invokevirtual 242, 3) := by decide +kernel
theorem dX12_bidsWithout_47 : decode cX12_bidsWithout 47 = .ok (.iadd, 1) := by decide +kernel
theorem dX12_bidsWithout_48 : decode cX12_bidsWithout 48 = .ok (.istore 6, 2) := by decide +kernel
theorem dX12_bidsWithout_50 : decode cX12_bidsWithout 50 = .ok (.iload 4, 2) := by decide +kernel
theorem dX12_bidsWithout_52 : decode cX12_bidsWithout 52 = .ok (.aload_n 0, 1) := by decide +kernel
theorem dX12_bidsWithout_53 : decode cX12_bidsWithout 53 = .ok (.getfield 20, 3) := by decide +kernel
theorem dX12_bidsWithout_56 : decode cX12_bidsWithout 56 = .ok (.iconst 3, 1) := by decide +kernel
theorem dX12_bidsWithout_57 : decode cX12_bidsWithout 57 = .ok (.aload_n 0, 1) := by decide +kernel
theorem dX12_bidsWithout_58 : decode cX12_bidsWithout 58 = .ok (.iload 7, 2) := by decide +kernel
theorem dX12_bidsWithout_60 : decode cX12_bidsWithout 60 = .ok (.iconst 1, 1) := by decide +kernel
theorem dX12_bidsWithout_61 : decode cX12_bidsWithout 61 = .ok (.invokevirtual 242, 3) := by decide +kernel
theorem dX12_bidsWithout_64 : decode cX12_bidsWithout 64 = .ok (.imul, 1) := by decide +kernel
theorem dX12_bidsWithout_65 : decode cX12_bidsWithout 65 = .ok (.iaload, 1) := by decide +kernel
theorem dX12_bidsWithout_66 : decode cX12_bidsWithout 66 = .ok (.iadd, 1) := by decide +kernel
theorem dX12_bidsWithout_67 : decode cX12_bidsWithout 67 = .ok (.istore 4, 2) := by decide +kernel
theorem dX12_bidsWithout_69 : decode cX12_bidsWithout 69 = .ok (.iload 5, 2) := by decide +kernel
theorem dX12_bidsWithout_71 : decode cX12_bidsWithout 71 = .ok (.aload_n 0, 1) := by decide +kernel
theorem dX12_bidsWithout_72 : decode cX12_bidsWithout 72 = .ok (.getfield 20, 3) := by decide +kernel
theorem dX12_bidsWithout_75 : decode cX12_bidsWithout 75 = .ok (.iconst 3, 1) := by decide +kernel
theorem dX12_bidsWithout_76 : decode cX12_bidsWithout 76 = .ok (.aload_n 0, 1) := by decide +kernel
theorem dX12_bidsWithout_77 : decode cX12_bidsWithout 77 = .ok (.iload 7, 2) := by decide +kernel
theorem dX12_bidsWithout_79 : decode cX12_bidsWithout 79 = .ok (.iconst 1, 1) := by decide +kernel
theorem dX12_bidsWithout_80 : decode cX12_bidsWithout 80 = .ok (.invokevirtual 242, 3) := by decide +kernel
theorem dX12_bidsWithout_83 : decode cX12_bidsWithout 83 = .ok (.imul, 1) := by decide +kernel
theorem dX12_bidsWithout_84 : decode cX12_bidsWithout 84 = .ok (.iconst 1, 1) := by decide +kernel
theorem dX12_bidsWithout_85 : decode cX12_bidsWithout 85 = .ok (.iadd, 1) := by decide +kernel
theorem dX12_bidsWithout_86 : decode cX12_bidsWithout 86 = .ok (.iaload, 1) := by decide +kernel
theorem dX12_bidsWithout_87 : decode cX12_bidsWithout 87 = .ok (.iadd, 1) := by decide +kernel
theorem dX12_bidsWithout_88 : decode cX12_bidsWithout 88 = .ok (.istore 5, 2) := by decide +kernel
theorem dX12_bidsWithout_90 : decode cX12_bidsWithout 90 = .ok (.iinc 7 1, 3) := by decide +kernel
theorem dX12_bidsWithout_93 : decode cX12_bidsWithout 93 = .ok (.goto (-71), 3) := by decide +kernel
theorem dX12_bidsWithout_96 : decode cX12_bidsWithout 96 = .ok (.aload_n 0, 1) := by decide +kernel
theorem dX12_bidsWithout_97 : decode cX12_bidsWithout 97 = .ok (.getfield 20, 3) := by decide +kernel
theorem dX12_bidsWithout_100 : decode cX12_bidsWithout 100 = .ok (.iconst 3, 1) := by decide +kernel
theorem dX12_bidsWithout_101 : decode cX12_bidsWithout 101 = .ok (.iload_n 3, 1) := by decide +kernel
theorem dX12_bidsWithout_102 : decode cX12_bidsWithout 102 = .ok (.imul, 1) := by decide +kernel
theorem dX12_bidsWithout_103 : decode cX12_bidsWithout 103 = .ok (.iaload, 1) := by decide +kernel
theorem dX12_bidsWithout_104 : decode cX12_bidsWithout 104 = .ok (.iload 4, 2) := by decide +kernel
theorem dX12_bidsWithout_106 : decode cX12_bidsWithout 106 = .ok (.if_icmp .gt 23, 3) := by decide +kernel
theorem dX12_bidsWithout_109 : decode cX12_bidsWithout 109 = .ok (.aload_n 0, 1) := by decide +kernel
theorem dX12_bidsWithout_110 : decode cX12_bidsWithout 110 = .ok (.getfield 20, 3) := by decide +kernel
theorem dX12_bidsWithout_113 : decode cX12_bidsWithout 113 = .ok (.iconst 3, 1) := by decide +kernel
theorem dX12_bidsWithout_114 : decode cX12_bidsWithout 114 = .ok (.iload_n 3, 1) := by decide +kernel
theorem dX12_bidsWithout_115 : decode cX12_bidsWithout 115 = .ok (.imul, 1) := by decide +kernel
theorem dX12_bidsWithout_116 : decode cX12_bidsWithout 116 = .ok (.iconst 1, 1) := by decide +kernel
theorem dX12_bidsWithout_117 : decode cX12_bidsWithout 117 = .ok (.iadd, 1) := by decide +kernel
theorem dX12_bidsWithout_118 : decode cX12_bidsWithout 118 = .ok (.iaload, 1) := by decide +kernel
theorem dX12_bidsWithout_119 : decode cX12_bidsWithout 119 = .ok (.iload 5, 2) := by decide +kernel
theorem dX12_bidsWithout_121 : decode cX12_bidsWithout 121 = .ok (.if_icmp .gt 8, 3) := by decide +kernel
theorem dX12_bidsWithout_124 : decode cX12_bidsWithout 124 = .ok (.iload 6, 2) := by decide +kernel
theorem dX12_bidsWithout_126 : decode cX12_bidsWithout 126 = .ok (.goto 4, 3) := by decide +kernel
theorem dX12_bidsWithout_129 : decode cX12_bidsWithout 129 = .ok (.iconst (-1), 1) := by decide +kernel
theorem dX12_bidsWithout_130 : decode cX12_bidsWithout 130 = .ok (.ireturn, 1) := by decide +kernel
theorem dX12_cheapestEviction_0 : decode cX12_cheapestEviction 0 = .ok (.aload_n 0, 1) := by decide +kernel
theorem dX12_cheapestEviction_1 : decode cX12_cheapestEviction 1 = .ok (.iload_n 1, 1) := by decide +kernel
theorem dX12_cheapestEviction_2 : decode cX12_cheapestEviction 2 = .ok (.invokevirtual 289, 3) := by decide +kernel
theorem dX12_cheapestEviction_5 : decode cX12_cheapestEviction 5 = .ok (.ifCond .ne 11, 3) := by decide +kernel
theorem dX12_cheapestEviction_8 : decode cX12_cheapestEviction 8 = .ok (.aload_n 0, 1) := by decide +kernel
theorem dX12_cheapestEviction_9 : decode cX12_cheapestEviction 9 = .ok (.iload_n 2, 1) := by decide +kernel
theorem dX12_cheapestEviction_10 : decode cX12_cheapestEviction 10 = .ok (.invokevirtual 295, 3) := by decide +kernel
theorem dX12_cheapestEviction_13 : decode cX12_cheapestEviction 13 = .ok (.ifCond .eq 5, 3) := by decide +kernel
theorem dX12_cheapestEviction_16 : decode cX12_cheapestEviction 16 = .ok (.iconst 0, 1) := by decide +kernel
theorem dX12_cheapestEviction_17 : decode cX12_cheapestEviction 17 = .ok (.ireturn, 1) := by decide +kernel
theorem dX12_cheapestEviction_18 : decode cX12_cheapestEviction 18 = .ok (.iconst 0, 1) := by decide +kernel
theorem dX12_cheapestEviction_19 : decode cX12_cheapestEviction 19 = .ok (.istore_n 3, 1) := by decide +kernel
theorem dX12_cheapestEviction_20 : decode cX12_cheapestEviction 20 = .ok (.iconst 0, 1) := by decide +kernel
theorem dX12_cheapestEviction_21 : decode cX12_cheapestEviction 21 = .ok (.istore 4, 2) := by decide +kernel
theorem dX12_cheapestEviction_23 : decode cX12_cheapestEviction 23 = .ok (.iload 4, 2) := by decide +kernel
theorem dX12_cheapestEviction_25 : decode cX12_cheapestEviction 25 = .ok (.bipush 12, 2) := by decide +kernel
theorem dX12_cheapestEviction_27 : decode cX12_cheapestEviction 27 = .ok (.if_icmp .ge 41, 3) := by decide +kernel
theorem dX12_cheapestEviction_30 : decode cX12_cheapestEviction 30 = .ok (.iload_n 3, 1) := by decide +kernel
theorem dX12_cheapestEviction_31 : decode cX12_cheapestEviction 31 = .ok (.aload_n 0, 1) := by decide +kernel
theorem dX12_cheapestEviction_32 : decode cX12_cheapestEviction 32 = .ok (.iload 4, 2) := by decide +kernel
theorem dX12_cheapestEviction_34 : decode cX12_cheapestEviction 34 = .ok (.iload_n 1, 1) := by decide +kernel
theorem dX12_cheapestEviction_35 : decode cX12_cheapestEviction 35 = .ok (.invokevirtual 267, 3) := by decide +kernel
theorem dX12_cheapestEviction_38 : decode cX12_cheapestEviction 38 = .ok (.ifCond .eq 21, 3) := by decide +kernel
theorem dX12_cheapestEviction_41 : decode cX12_cheapestEviction 41 = .ok (.aload_n 0, 1) := by decide +kernel
theorem dX12_cheapestEviction_42 : decode cX12_cheapestEviction 42 = .ok (.iload 4, 2) := by decide +kernel
theorem dX12_cheapestEviction_44 : decode cX12_cheapestEviction 44 = .ok (.iconst 3, 1) := by decide +kernel
theorem dX12_cheapestEviction_45 : decode cX12_cheapestEviction 45 = .ok (.invokevirtual 242, 3) := by decide +kernel
theorem dX12_cheapestEviction_48 : decode cX12_cheapestEviction 48 = .ok (.iconst (-1), 1) := by decide +kernel
theorem dX12_cheapestEviction_49 : decode cX12_cheapestEviction 49 = .ok (.if_icmp .eq 10, 3) := by decide +kernel
theorem dX12_cheapestEviction_52 : decode cX12_cheapestEviction 52 = .ok (.iconst 1, 1) := by decide +kernel
theorem dX12_cheapestEviction_53 : decode cX12_cheapestEviction 53 = .ok (.iload 4, 2) := by decide +kernel
theorem dX12_cheapestEviction_55 : decode cX12_cheapestEviction 55 = .ok (.ishl, 1) := by decide +kernel
theorem dX12_cheapestEviction_56 : decode cX12_cheapestEviction 56 = .ok (.goto 4, 3) := by decide +kernel
theorem dX12_cheapestEviction_59 : decode cX12_cheapestEviction 59 = .ok (.iconst 0, 1) := by decide +kernel
theorem dX12_cheapestEviction_60 : decode cX12_cheapestEviction 60 = .ok (.ior, 1) := by decide +kernel
theorem dX12_cheapestEviction_61 : decode cX12_cheapestEviction 61 = .ok (.istore_n 3, 1) := by decide +kernel
theorem dX12_cheapestEviction_62 : decode cX12_cheapestEviction 62 = .ok (.iinc 4 1, 3) := by decide +kernel
theorem dX12_cheapestEviction_65 : decode cX12_cheapestEviction 65 = .ok (.goto (-42), 3) := by decide +kernel
theorem dX12_cheapestEviction_68 : decode cX12_cheapestEviction 68 = .ok (.iconst (-1), 1) := by decide +kernel
theorem dX12_cheapestEviction_69 : decode cX12_cheapestEviction 69 = .ok (.istore 4, 2) := by decide +kernel
theorem dX12_cheapestEviction_71 : decode cX12_cheapestEviction 71 = .ok (.iconst 0, 1) := by decide +kernel
theorem dX12_cheapestEviction_72 : decode cX12_cheapestEviction 72 = .ok (.istore 5, 2) := by decide +kernel
theorem dX12_cheapestEviction_74 : decode cX12_cheapestEviction 74 = .ok (.iconst 0, 1) := by decide +kernel
theorem dX12_cheapestEviction_75 : decode cX12_cheapestEviction 75 = .ok (.istore 6, 2) := by decide +kernel
theorem dX12_cheapestEviction_77 : decode cX12_cheapestEviction 77 = .ok (.iload 6, 2) := by decide +kernel
theorem dX12_cheapestEviction_79 : decode cX12_cheapestEviction 79 = .ok (.iload_n 3, 1) := by decide +kernel
theorem dX12_cheapestEviction_80 : decode cX12_cheapestEviction 80 = .ok (.if_icmp .gt 79, 3) := by decide +kernel
theorem dX12_cheapestEviction_83 : decode cX12_cheapestEviction 83 = .ok (.iload 6, 2) := by decide +kernel
theorem dX12_cheapestEviction_85 : decode cX12_cheapestEviction 85 = .ok (.iload_n 3, 1) := by decide +kernel
theorem dX12_cheapestEviction_86 : decode cX12_cheapestEviction 86 = .ok (.iconst (-1), 1) := by decide +kernel
theorem dX12_cheapestEviction_87 : decode cX12_cheapestEviction 87 = .ok (.ixor, 1) := by decide +kernel
theorem dX12_cheapestEviction_88 : decode cX12_cheapestEviction 88 = .ok (.iand, 1) := by decide +kernel
theorem dX12_cheapestEviction_89 : decode cX12_cheapestEviction 89 = .ok (.ifCond .ne 14, 3) := by decide +kernel
theorem dX12_cheapestEviction_92 : decode cX12_cheapestEviction 92 = .ok (.aload_n 0, 1) := by decide +kernel
theorem dX12_cheapestEviction_93 : decode cX12_cheapestEviction 93 = .ok (.iload 6, 2) := by decide +kernel
theorem dX12_cheapestEviction_95 : decode cX12_cheapestEviction 95 = .ok (.iload_n 1, 1) := by decide +kernel
theorem dX12_cheapestEviction_96 : decode cX12_cheapestEviction 96 = .ok (.iload_n 2, 1) := by decide +kernel
theorem dX12_cheapestEviction_97 : decode cX12_cheapestEviction 97 = .ok (.invokevirtual 344, 3) := by decide +kernel
theorem dX12_cheapestEviction_100 : decode cX12_cheapestEviction 100 = .ok (.goto 4, 3) := by decide +kernel
theorem dX12_cheapestEviction_103 : decode cX12_cheapestEviction 103 = .ok (.iconst (-1), 1) := by decide +kernel
theorem dX12_cheapestEviction_104 : decode cX12_cheapestEviction 104 = .ok (.istore 7, 2) := by decide +kernel
theorem dX12_cheapestEviction_106 : decode cX12_cheapestEviction 106 = .ok (.iload 7, 2) := by decide +kernel
theorem dX12_cheapestEviction_108 : decode cX12_cheapestEviction 108 = .ok (.iconst (-1), 1) := by decide +kernel
theorem dX12_cheapestEviction_109 : decode cX12_cheapestEviction 109 = .ok (.if_icmp .eq 44, 3) := by decide +kernel
theorem dX12_cheapestEviction_112 : decode cX12_cheapestEviction 112 = .ok (.iload 4, 2) := by decide +kernel
theorem dX12_cheapestEviction_114 : decode cX12_cheapestEviction 114 = .ok (.iconst (-1), 1) := by decide +kernel
theorem dX12_cheapestEviction_115 : decode cX12_cheapestEviction 115 = .ok (.if_icmp .eq 30, 3) := by decide +kernel
theorem dX12_cheapestEviction_118 : decode cX12_cheapestEviction 118 = .ok (.iload 7, 2) := by decide +kernel
theorem dX12_cheapestEviction_120 : decode cX12_cheapestEviction 120 = .ok (.iload 5, 2) := by decide +kernel
theorem dX12_cheapestEviction_122 : decode cX12_cheapestEviction 122 = .ok (.if_icmp .lt 23, 3) := by decide +kernel
theorem dX12_cheapestEviction_125 : decode cX12_cheapestEviction 125 = .ok (.iload 7, 2) := by decide +kernel
theorem dX12_cheapestEviction_127 : decode cX12_cheapestEviction 127 = .ok (.iload 5, 2) := by decide +kernel
theorem dX12_cheapestEviction_129 : decode cX12_cheapestEviction 129 = .ok (.if_icmp .ne 24, 3) := by decide +kernel
theorem dX12_cheapestEviction_132 : decode cX12_cheapestEviction 132 = .ok (.iload 6, 2) := by decide +kernel
theorem dX12_cheapestEviction_134 : decode cX12_cheapestEviction 134 = .ok (.invokestatic 347, 3) := by decide +kernel
theorem dX12_cheapestEviction_137 : decode cX12_cheapestEviction 137 = .ok (.iload 4, 2) := by decide +kernel
theorem dX12_cheapestEviction_139 : decode cX12_cheapestEviction 139 = .ok (.invokestatic 347, 3) := by decide +kernel
theorem dX12_cheapestEviction_142 : decode cX12_cheapestEviction 142 = .ok (.if_icmp .ge 11, 3) := by decide +kernel
theorem dX12_cheapestEviction_145 : decode cX12_cheapestEviction 145 = .ok (.iload 6, 2) := by decide +kernel
theorem dX12_cheapestEviction_147 : decode cX12_cheapestEviction 147 = .ok (.istore 4, 2) := by decide +kernel
theorem dX12_cheapestEviction_149 : decode cX12_cheapestEviction 149 = .ok (.iload 7, 2) := by decide +kernel
theorem dX12_cheapestEviction_151 : decode cX12_cheapestEviction 151 = .ok (.istore 5, 2) := by decide +kernel
theorem dX12_cheapestEviction_153 : decode cX12_cheapestEviction 153 = .ok (.iinc 6 1, 3) := by decide +kernel
theorem dX12_cheapestEviction_156 : decode cX12_cheapestEviction 156 = .ok (.goto (-79), 3) := by decide +kernel
theorem dX12_cheapestEviction_159 : decode cX12_cheapestEviction 159 = .ok (.iload 4, 2) := by decide +kernel
theorem dX12_cheapestEviction_161 : decode cX12_cheapestEviction 161 = .ok (.ireturn, 1) := by decide +kernel
theorem dX12_migrationCost_0 : decode cX12_migrationCost 0 = .ok (.aload_n 0, 1) := by decide +kernel
theorem dX12_migrationCost_1 : decode cX12_migrationCost 1 = .ok (.iload_n 1, 1) := by decide +kernel
theorem dX12_migrationCost_2 : decode cX12_migrationCost 2 = .ok (.invokevirtual 304, 3) := by decide +kernel
theorem dX12_migrationCost_5 : decode cX12_migrationCost 5 = .ok (.ifCond .eq 7, 3) := by decide +kernel
theorem dX12_migrationCost_8 : decode cX12_migrationCost 8 = .ok (.iconst 0, 1) := by decide +kernel
theorem dX12_migrationCost_9 : decode cX12_migrationCost 9 = .ok (.goto 8, 3) := by decide +kernel
theorem dX12_migrationCost_12 : decode cX12_migrationCost 12 = .ok (.aload_n 0, 1) := by decide +kernel
theorem dX12_migrationCost_13 : decode cX12_migrationCost 13 = .ok (.iload_n 1, 1) := by decide +kernel
theorem dX12_migrationCost_14 : decode cX12_migrationCost 14 = .ok (.invokevirtual 350, 3) := by decide +kernel
theorem dX12_migrationCost_17 : decode cX12_migrationCost 17 = .ok (.ireturn, 1) := by decide +kernel
theorem dX12_drains_0 : decode cX12_drains 0 = .ok (.iload_n 3, 1) := by decide +kernel
theorem dX12_drains_1 : decode cX12_drains 1 = .ok (.bipush 12, 2) := by decide +kernel
theorem dX12_drains_3 : decode cX12_drains 3 = .ok (.if_icmp .ne 5, 3) := by decide +kernel
theorem dX12_drains_6 : decode cX12_drains 6 = .ok (.iconst 1, 1) := by decide +kernel
theorem dX12_drains_7 : decode cX12_drains 7 = .ok (.ireturn, 1) := by decide +kernel
theorem dX12_drains_8 : decode cX12_drains 8 = .ok (.iload_n 2, 1) := by decide +kernel
theorem dX12_drains_9 : decode cX12_drains 9 = .ok (.iload_n 3, 1) := by decide +kernel
theorem dX12_drains_10 : decode cX12_drains 10 = .ok (.invokestatic 159, 3) := by decide +kernel
theorem dX12_drains_13 : decode cX12_drains 13 = .ok (.ifCond .ne 13, 3) := by decide +kernel
theorem dX12_drains_16 : decode cX12_drains 16 = .ok (.aload_n 0, 1) := by decide +kernel
theorem dX12_drains_17 : decode cX12_drains 17 = .ok (.iload_n 1, 1) := by decide +kernel
theorem dX12_drains_18 : decode cX12_drains 18 = .ok (.iload_n 2, 1) := by decide +kernel
theorem dX12_drains_19 : decode cX12_drains 19 = .ok (.iload_n 3, 1) := by decide +kernel
theorem dX12_drains_20 : decode cX12_drains 20 = .ok (.iconst 1, 1) := by decide +kernel
theorem dX12_drains_21 : decode cX12_drains 21 = .ok (.iadd, 1) := by decide +kernel
theorem dX12_drains_22 : decode cX12_drains 22 = .ok (.invokevirtual 353, 3) := by decide +kernel
theorem dX12_drains_25 : decode cX12_drains 25 = .ok (.ireturn, 1) := by decide +kernel
theorem dX12_drains_26 : decode cX12_drains 26 = .ok (.aload_n 0, 1) := by decide +kernel
theorem dX12_drains_27 : decode cX12_drains 27 = .ok (.iload_n 3, 1) := by decide +kernel
theorem dX12_drains_28 : decode cX12_drains 28 = .ok (.iconst 1, 1) := by decide +kernel
theorem dX12_drains_29 : decode cX12_drains 29 = .ok (.invokevirtual 242, 3) := by decide +kernel
theorem dX12_drains_32 : decode cX12_drains 32 = .ok (.istore 4, 2) := by decide +kernel
theorem dX12_drains_34 : decode cX12_drains 34 = .ok (.iconst 0, 1) := by decide +kernel
theorem dX12_drains_35 : decode cX12_drains 35 = .ok (.istore 5, 2) := by decide +kernel
theorem dX12_drains_37 : decode cX12_drains 37 = .ok (.iload 5, 2) := by decide +kernel
theorem dX12_drains_39 : decode cX12_drains 39 = .ok (.aload_n 0, 1) := by decide +kernel
theorem dX12_drains_40 : decode cX12_drains 40 = .ok (.getfield 13, 3) := by decide +kernel
theorem dX12_drains_43 : decode cX12_drains 43 = .ok (.iconst 0, 1) := by decide +kernel
theorem dX12_drains_44 : decode cX12_drains 44 = .ok (.iaload, 1) := by decide +kernel
theorem dX12_drains_45 : decode cX12_drains 45 = .ok (.if_icmp .ge 77, 3) := by decide +kernel
theorem dX12_drains_48 : decode cX12_drains 48 = .ok (.iload 5, 2) := by decide +kernel
theorem dX12_drains_50 : decode cX12_drains 50 = .ok (.iload_n 1, 1) := by decide +kernel
theorem dX12_drains_51 : decode cX12_drains 51 = .ok (.if_icmp .eq 65, 3) := by decide +kernel
theorem dX12_drains_54 : decode cX12_drains 54 = .ok (.aload_n 0, 1) := by decide +kernel
theorem dX12_drains_55 : decode cX12_drains 55 = .ok (.iload 4, 2) := by decide +kernel
theorem dX12_drains_57 : decode cX12_drains 57 = .ok (.iload 5, 2) := by decide +kernel
theorem dX12_drains_59 : decode cX12_drains 59 = .ok (.invokevirtual 276, 3) := by decide +kernel
theorem dX12_drains_62 : decode cX12_drains 62 = .ok (.ifCond .eq 54, 3) := by decide +kernel
theorem dX12_drains_65 : decode cX12_drains 65 = .ok (.aload_n 0, 1) := by decide +kernel
theorem dX12_drains_66 : decode cX12_drains 66 = .ok (.getfield 58, 3) := by decide +kernel
theorem dX12_drains_69 : decode cX12_drains 69 = .ok (.iload_n 3, 1) := by decide +kernel
theorem dX12_drains_70 : decode cX12_drains 70 = .ok (.iload 5, 2) := by decide +kernel
theorem dX12_drains_72 : decode cX12_drains 72 = .ok (.iastore, 1) := by decide +kernel
theorem dX12_drains_73 : decode cX12_drains 73 = .ok (.aload_n 0, 1) := by decide +kernel
theorem dX12_drains_74 : decode cX12_drains 74 = .ok (.getfield 7, 3) := by decide +kernel
theorem dX12_drains_77 : decode cX12_drains 77 = .ok (.iload_n 3, 1) := by decide +kernel
theorem dX12_drains_78 : decode cX12_drains 78 = .ok (.iconst 2, 1) := by decide +kernel
theorem dX12_drains_79 : decode cX12_drains 79 = .ok (.invokestatic 238, 3) := by decide +kernel
theorem dX12_drains_82 : decode cX12_drains 82 = .ok (.iload 5, 2) := by decide +kernel
theorem dX12_drains_84 : decode cX12_drains 84 = .ok (.i2l, 1) := by decide +kernel
theorem dX12_drains_85 : decode cX12_drains 85 = .ok (.lastore, 1) := by decide +kernel
theorem dX12_drains_86 : decode cX12_drains 86 = .ok (.aload_n 0, 1) := by decide +kernel
theorem dX12_drains_87 : decode cX12_drains 87 = .ok (.iload_n 1, 1) := by decide +kernel
theorem dX12_drains_88 : decode cX12_drains 88 = .ok (.iload_n 2, 1) := by decide +kernel
theorem dX12_drains_89 : decode cX12_drains 89 = .ok (.iload_n 3, 1) := by decide +kernel
theorem dX12_drains_90 : decode cX12_drains 90 = .ok (.iconst 1, 1) := by decide +kernel
theorem dX12_drains_91 : decode cX12_drains 91 = .ok (.iadd, 1) := by decide +kernel
theorem dX12_drains_92 : decode cX12_drains 92 = .ok (.invokevirtual 353, 3) := by decide +kernel
theorem dX12_drains_95 : decode cX12_drains 95 = .ok (.istore 6, 2) := by decide +kernel
theorem dX12_drains_97 : decode cX12_drains 97 = .ok (.aload_n 0, 1) := by decide +kernel
theorem dX12_drains_98 : decode cX12_drains 98 = .ok (.getfield 7, 3) := by decide +kernel
theorem dX12_drains_101 : decode cX12_drains 101 = .ok (.iload_n 3, 1) := by decide +kernel
theorem dX12_drains_102 : decode cX12_drains 102 = .ok (.iconst 2, 1) := by decide +kernel
theorem dX12_drains_103 : decode cX12_drains 103 = .ok (.invokestatic 238, 3) := by decide +kernel
theorem dX12_drains_106 : decode cX12_drains 106 = .ok (.iload_n 1, 1) := by decide +kernel
theorem dX12_drains_107 : decode cX12_drains 107 = .ok (.i2l, 1) := by decide +kernel
theorem dX12_drains_108 : decode cX12_drains 108 = .ok (.lastore, 1) := by decide +kernel
theorem dX12_drains_109 : decode cX12_drains 109 = .ok (.iload 6, 2) := by decide +kernel
theorem dX12_drains_111 : decode cX12_drains 111 = .ok (.ifCond .eq 5, 3) := by decide +kernel
theorem dX12_drains_114 : decode cX12_drains 114 = .ok (.iconst 1, 1) := by decide +kernel
theorem dX12_drains_115 : decode cX12_drains 115 = .ok (.ireturn, 1) := by decide +kernel
theorem dX12_drains_116 : decode cX12_drains 116 = .ok (.iinc 5 1, 3) := by decide +kernel
theorem dX12_drains_119 : decode cX12_drains 119 = .ok (.goto (-82), 3) := by decide +kernel
theorem dX12_drains_122 : decode cX12_drains 122 = .ok (.iconst 0, 1) := by decide +kernel
theorem dX12_drains_123 : decode cX12_drains 123 = .ok (.ireturn, 1) := by decide +kernel
theorem dX12_drainTo_0 : decode cX12_drainTo 0 = .ok (.aload_n 0, 1) := by decide +kernel
theorem dX12_drainTo_1 : decode cX12_drainTo 1 = .ok (.iload_n 1, 1) := by decide +kernel
