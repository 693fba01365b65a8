theorem dX11_init_0 : decode cX11_init 0 = .ok (.aload_n 0, 1) := by decide +kernel
theorem dX11_init_1 : decode cX11_init 1 = .ok (.invokespecial 1, 3) := by decide +kernel
theorem dX11_init_4 : decode cX11_init 4 = .ok (.aload_n 0, 1) := by decide +kernel
theorem dX11_init_5 : decode cX11_init 5 = .ok (.new 7, 3) := by decide +kernel
theorem dX11_init_8 : decode cX11_init 8 = .ok (.dup, 1) := by decide +kernel
theorem dX11_init_9 : decode cX11_init 9 = .ok (.invokespecial 9, 3) := by decide +kernel
theorem dX11_init_12 : decode cX11_init 12 = .ok (.putfield 10, 3) := by decide +kernel
theorem dX11_init_15 : decode cX11_init 15 = .ok (.aload_n 0, 1) := by decide +kernel
theorem dX11_init_16 : decode cX11_init 16 = .ok (.new 16, 3) := by decide +kernel
theorem dX11_init_19 : decode cX11_init 19 = .ok (.dup, 1) := by decide +kernel
theorem dX11_init_20 : decode cX11_init 20 = .ok (.invokespecial 18, 3) := by decide +kernel
theorem dX11_init_23 : decode cX11_init 23 = .ok (.putfield 19, 3) := by decide +kernel
theorem dX11_init_26 : decode cX11_init 26 = .ok (.aload_n 0, 1) := by decide +kernel
theorem dX11_init_27 : decode cX11_init 27 = .ok (.new 23, 3) := by decide +kernel
theorem dX11_init_30 : decode cX11_init 30 = .ok (.dup, 1) := by decide +kernel
theorem dX11_init_31 : decode cX11_init 31 = .ok (.invokespecial 25, 3) := by decide +kernel
theorem dX11_init_34 : decode cX11_init 34 = .ok (.putfield 26, 3) := by decide +kernel
theorem dX11_init_37 : decode cX11_init 37 = .ok (.aload_n 0, 1) := by decide +kernel
theorem dX11_init_38 : decode cX11_init 38 = .ok (.new 23, 3) := by decide +kernel
theorem dX11_init_41 : decode cX11_init 41 = .ok (.dup, 1) := by decide +kernel
theorem dX11_init_42 : decode cX11_init 42 = .ok (.invokespecial 25, 3) := by decide +kernel
theorem dX11_init_45 : decode cX11_init 45 = .ok (.putfield 30, 3) := by decide +kernel
theorem dX11_init_48 : decode cX11_init 48 = .ok (.aload_n 0, 1) := by decide +kernel
theorem dX11_init_49 : decode cX11_init 49 = .ok (.new 33, 3) := by decide +kernel
theorem dX11_init_52 : decode cX11_init 52 = .ok (.dup, 1) := by decide +kernel
theorem dX11_init_53 : decode cX11_init 53 = .ok (.invokespecial 35, 3) := by decide +kernel
theorem dX11_init_56 : decode cX11_init 56 = .ok (.putfield 36, 3) := by decide +kernel
theorem dX11_init_59 : decode cX11_init 59 = .ok (.aload_n 0, 1) := by decide +kernel
theorem dX11_init_60 : decode cX11_init 60 = .ok (.new 40, 3) := by decide +kernel
theorem dX11_init_63 : decode cX11_init 63 = .ok (.dup, 1) := by decide +kernel
theorem dX11_init_64 : decode cX11_init 64 = .ok (.invokespecial 42, 3) := by decide +kernel
theorem dX11_init_67 : decode cX11_init 67 = .ok (.putfield 43, 3) := by decide +kernel
theorem dX11_init_70 : decode cX11_init 70 = .ok (.aload_n 0, 1) := by decide +kernel
theorem dX11_init_71 : decode cX11_init 71 = .ok (.new 47, 3) := by decide +kernel
theorem dX11_init_74 : decode cX11_init 74 = .ok (.dup, 1) := by decide +kernel
theorem dX11_init_75 : decode cX11_init 75 = .ok (.invokespecial 49, 3) := by decide +kernel
theorem dX11_init_78 : decode cX11_init 78 = .ok (.putfield 50, 3) := by decide +kernel
theorem dX11_init_81 : decode cX11_init 81 = .ok (.aload_n 0, 1) := by decide +kernel
theorem dX11_init_82 : decode cX11_init 82 = .ok (.new 54, 3) := by decide +kernel
theorem dX11_init_85 : decode cX11_init 85 = .ok (.dup, 1) := by decide +kernel
theorem dX11_init_86 : decode cX11_init 86 = .ok (.invokespecial 56, 3) := by decide +kernel
theorem dX11_init_89 : decode cX11_init 89 = .ok (.putfield 57, 3) := by decide +kernel
theorem dX11_init_92 : decode cX11_init 92 = .ok (.aload_n 0, 1) := by decide +kernel
theorem dX11_init_93 : decode cX11_init 93 = .ok (.new 61, 3) := by decide +kernel
theorem dX11_init_96 : decode cX11_init 96 = .ok (.dup, 1) := by decide +kernel
theorem dX11_init_97 : decode cX11_init 97 = .ok (.invokespecial 63, 3) := by decide +kernel
theorem dX11_init_100 : decode cX11_init 100 = .ok (.putfield 64, 3) := by decide +kernel
theorem dX11_init_103 : decode cX11_init 103 = .ok (.return_, 1) := by decide +kernel
theorem dX11_append_0 : decode cX11_append 0 = .ok (.aload_n 0, 1) := by decide +kernel
theorem dX11_append_1 : decode cX11_append 1 = .ok (.getfield 10, 3) := by decide +kernel
theorem dX11_append_4 : decode cX11_append 4 = .ok (.getfield 68, 3) := by decide +kernel
theorem dX11_append_7 : decode cX11_append 7 = .ok (.bipush 20, 2) := by decide +kernel
theorem dX11_append_9 : decode cX11_append 9 = .ok (.iadd, 1) := by decide +kernel
theorem dX11_append_10 : decode cX11_append 10 = .ok (.sipush 800, 3) := by decide +kernel
theorem dX11_append_13 : decode cX11_append 13 = .ok (.if_icmp .le 5, 3) := by decide +kernel
theorem dX11_append_16 : decode cX11_append 16 = .ok (.iconst (-1), 1) := by decide +kernel
theorem dX11_append_17 : decode cX11_append 17 = .ok (.ireturn, 1) := by decide +kernel
theorem dX11_append_18 : decode cX11_append 18 = .ok (.aload_n 0, 1) := by decide +kernel
theorem dX11_append_19 : decode cX11_append 19 = .ok (.getfield 10, 3) := by decide +kernel
theorem dX11_append_22 : decode cX11_append 22 = .ok (.iload_n 1, 1) := by decide +kernel
theorem dX11_append_23 : decode cX11_append 23 = .ok (.invokevirtual 72, 3) := by decide +kernel
theorem dX11_append_26 : decode cX11_append 26 = .ok (.aload_n 0, 1) := by decide +kernel
theorem dX11_append_27 : decode cX11_append 27 = .ok (.getfield 10, 3) := by decide +kernel
theorem dX11_append_30 : decode cX11_append 30 = .ok (.iload_n 2, 1) := by decide +kernel
theorem dX11_append_31 : decode cX11_append 31 = .ok (.invokevirtual 72, 3) := by decide +kernel
theorem dX11_append_34 : decode cX11_append 34 = .ok (.aload_n 0, 1) := by decide +kernel
theorem dX11_append_35 : decode cX11_append 35 = .ok (.getfield 10, 3) := by decide +kernel
theorem dX11_append_38 : decode cX11_append 38 = .ok (.iload_n 3, 1) := by decide +kernel
theorem dX11_append_39 : decode cX11_append 39 = .ok (.invokevirtual 72, 3) := by decide +kernel
theorem dX11_append_42 : decode cX11_append 42 = .ok (.aload_n 0, 1) := by decide +kernel
theorem dX11_append_43 : decode cX11_append 43 = .ok (.getfield 10, 3) := by decide +kernel
theorem dX11_append_46 : decode cX11_append 46 = .ok (.iload 4, 2) := by decide +kernel
theorem dX11_append_48 : decode cX11_append 48 = .ok (.invokevirtual 72, 3) := by decide +kernel
theorem dX11_append_51 : decode cX11_append 51 = .ok (.aload_n 0, 1) := by decide +kernel
theorem dX11_append_52 : decode cX11_append 52 = .ok (.getfield 10, 3) := by decide +kernel
theorem dX11_append_55 : decode cX11_append 55 = .ok (.iload 5, 2) := by decide +kernel
theorem dX11_append_57 : decode cX11_append 57 = .ok (.invokevirtual 72, 3) := by decide +kernel
theorem dX11_append_60 : decode cX11_append 60 = .ok (.aload_n 0, 1) := by decide +kernel
theorem dX11_append_61 : decode cX11_append 61 = .ok (.getfield 10, 3) := by decide +kernel
theorem dX11_append_64 : decode cX11_append 64 = .ok (.getfield 68, 3) := by decide +kernel
theorem dX11_append_67 : decode cX11_append 67 = .ok (.ireturn, 1) := by decide +kernel
theorem dX11_parse_0 : decode cX11_parse 0 = .ok (.iload_n 1, 1) := by decide +kernel
theorem dX11_parse_1 : decode cX11_parse 1 = .ok (.ifCond .lt 14, 3) := by decide +kernel
theorem dX11_parse_4 : decode cX11_parse 4 = .ok (.iload_n 1, 1) := by decide +kernel
theorem dX11_parse_5 : decode cX11_parse 5 = .ok (.aload_n 0, 1) := by decide +kernel
theorem dX11_parse_6 : decode cX11_parse 6 = .ok (.getfield 10, 3) := by decide +kernel
theorem dX11_parse_9 : decode cX11_parse 9 = .ok (.getfield 68, 3) := by decide +kernel
theorem dX11_parse_12 : decode cX11_parse 12 = .ok (.if_icmp .le 13, 3) := by decide +kernel
theorem dX11_parse_15 : decode cX11_parse 15 = .ok (.new 76, 3) := by decide +kernel
theorem dX11_parse_18 : decode cX11_parse 18 = .ok (.dup, 1) := by decide +kernel
theorem dX11_parse_19 : decode cX11_parse 19 = .ok (.ldc 78, 2) := by decide +kernel
theorem dX11_parse_21 : decode cX11_parse 21 = .ok (.invokespecial 80, 3) := by decide +kernel
theorem dX11_parse_24 : decode cX11_parse 24 = .ok (.athrow, 1) := by decide +kernel
theorem dX11_parse_25 : decode cX11_parse 25 = .ok (.aload_n 0, 1) := by decide +kernel
theorem dX11_parse_26 : decode cX11_parse 26 = .ok (.getfield 10, 3) := by decide +kernel
theorem dX11_parse_29 : decode cX11_parse 29 = .ok (.iload_n 1, 1) := by decide +kernel
theorem dX11_parse_30 : decode cX11_parse 30 = .ok (.invokevirtual 83, 3) := by decide +kernel
theorem dX11_parse_33 : decode cX11_parse 33 = .ok (.istore_n 2, 1) := by decide +kernel
theorem dX11_parse_34 : decode cX11_parse 34 = .ok (.iload_n 2, 1) := by decide +kernel
theorem dX11_parse_35 : decode cX11_parse 35 = .ok (.ifCond .ne 35, 3) := by decide +kernel
theorem dX11_parse_38 : decode cX11_parse 38 = .ok (.aload_n 0, 1) := by decide +kernel
theorem dX11_parse_39 : decode cX11_parse 39 = .ok (.getfield 19, 3) := by decide +kernel
theorem dX11_parse_42 : decode cX11_parse 42 = .ok (.aload_n 0, 1) := by decide +kernel
theorem dX11_parse_43 : decode cX11_parse 43 = .ok (.getfield 10, 3) := by decide +kernel
theorem dX11_parse_46 : decode cX11_parse 46 = .ok (.getfield 87, 3) := by decide +kernel
theorem dX11_parse_49 : decode cX11_parse 49 = .ok (.invokevirtual 90, 3) := by decide +kernel
theorem dX11_parse_52 : decode cX11_parse 52 = .ok (.aload_n 0, 1) := by decide +kernel
theorem dX11_parse_53 : decode cX11_parse 53 = .ok (.getfield 26, 3) := by decide +kernel
theorem dX11_parse_56 : decode cX11_parse 56 = .ok (.aload_n 0, 1) := by decide +kernel
theorem dX11_parse_57 : decode cX11_parse 57 = .ok (.getfield 19, 3) := by decide +kernel
theorem dX11_parse_60 : decode cX11_parse 60 = .ok (.invokevirtual 94, 3) := by decide +kernel
theorem dX11_parse_63 : decode cX11_parse 63 = .ok (.aload_n 0, 1) := by decide +kernel
theorem dX11_parse_64 : decode cX11_parse 64 = .ok (.getfield 36, 3) := by decide +kernel
theorem dX11_parse_67 : decode cX11_parse 67 = .ok (.invokevirtual 97, 3) := by decide +kernel
theorem dX11_parse_70 : decode cX11_parse 70 = .ok (.iload_n 2, 1) := by decide +kernel
theorem dX11_parse_71 : decode cX11_parse 71 = .ok (.ireturn, 1) := by decide +kernel
theorem dX11_errorPosition_0 : decode cX11_errorPosition 0 = .ok (.aload_n 0, 1) := by decide +kernel
theorem dX11_errorPosition_1 : decode cX11_errorPosition 1 = .ok (.getfield 10, 3) := by decide +kernel
theorem dX11_errorPosition_4 : decode cX11_errorPosition 4 = .ok (.getfield 100, 3) := by decide +kernel
theorem dX11_errorPosition_7 : decode cX11_errorPosition 7 = .ok (.ireturn, 1) := by decide +kernel
theorem dX11_hostCount_0 : decode cX11_hostCount 0 = .ok (.aload_n 0, 1) := by decide +kernel
theorem dX11_hostCount_1 : decode cX11_hostCount 1 = .ok (.getfield 19, 3) := by decide +kernel
theorem dX11_hostCount_4 : decode cX11_hostCount 4 = .ok (.getfield 103, 3) := by decide +kernel
theorem dX11_hostCount_7 : decode cX11_hostCount 7 = .ok (.getfield 107, 3) := by decide +kernel
theorem dX11_hostCount_10 : decode cX11_hostCount 10 = .ok (.ireturn, 1) := by decide +kernel
theorem dX11_clock_0 : decode cX11_clock 0 = .ok (.aload_n 0, 1) := by decide +kernel
theorem dX11_clock_1 : decode cX11_clock 1 = .ok (.getfield 26, 3) := by decide +kernel
theorem dX11_clock_4 : decode cX11_clock 4 = .ok (.getfield 112, 3) := by decide +kernel
theorem dX11_clock_7 : decode cX11_clock 7 = .ok (.ireturn, 1) := by decide +kernel
theorem dX11_needRow_0 : decode cX11_needRow 0 = .ok (.aload_n 1, 1) := by decide +kernel
theorem dX11_needRow_1 : decode cX11_needRow 1 = .ok (.iload_n 2, 1) := by decide +kernel
theorem dX11_needRow_2 : decode cX11_needRow 2 = .ok (.invokevirtual 161, 3) := by decide +kernel
theorem dX11_needRow_5 : decode cX11_needRow 5 = .ok (.ifCond .ne 14, 3) := by decide +kernel
theorem dX11_needRow_8 : decode cX11_needRow 8 = .ok (.new 328, 3) := by decide +kernel
theorem dX11_needRow_11 : decode cX11_needRow 11 = .ok (.dup, 1) := by decide +kernel
theorem dX11_needRow_12 : decode cX11_needRow 12 = .ok (.ldc_w 330, 3) := by decide +kernel
theorem dX11_needRow_15 : decode cX11_needRow 15 = .ok (.invokespecial 332, 3) := by decide +kernel
theorem dX11_needRow_18 : decode cX11_needRow 18 = .ok (.athrow, 1) := by decide +kernel
theorem dX11_needRow_19 : decode cX11_needRow 19 = .ok (.return_, 1) := by decide +kernel
theorem dX11_free_0 : decode cX11_free 0 = .ok (.aload_n 0, 1) := by decide +kernel
theorem dX11_free_1 : decode cX11_free 1 = .ok (.aload_n 0, 1) := by decide +kernel
theorem dX11_free_2 : decode cX11_free 2 = .ok (.getfield 19, 3) := by decide +kernel
theorem dX11_free_5 : decode cX11_free 5 = .ok (.getfield 103, 3) := by decide +kernel
theorem dX11_free_8 : decode cX11_free 8 = .ok (.iload_n 1, 1) := by decide +kernel
theorem dX11_free_9 : decode cX11_free 9 = .ok (.invokevirtual 115, 3) := by decide +kernel
theorem dX11_free_12 : decode cX11_free 12 = .ok (.aload_n 0, 1) := by decide +kernel
theorem dX11_free_13 : decode cX11_free 13 = .ok (.getfield 26, 3) := by decide +kernel
theorem dX11_free_16 : decode cX11_free 16 = .ok (.aload_n 0, 1) := by decide +kernel
theorem dX11_free_17 : decode cX11_free 17 = .ok (.getfield 19, 3) := by decide +kernel
theorem dX11_free_20 : decode cX11_free 20 = .ok (.iload_n 1, 1) := by decide +kernel
theorem dX11_free_21 : decode cX11_free 21 = .ok (.iload_n 2, 1) := by decide +kernel
theorem dX11_free_22 : decode cX11_free 22 = .ok (.ifCond .eq 7, 3) := by decide +kernel
theorem dX11_free_25 : decode cX11_free 25 = .ok (.iconst 1, 1) := by decide +kernel
theorem dX11_free_26 : decode cX11_free 26 = .ok (.goto 4, 3) := by decide +kernel
theorem dX11_free_29 : decode cX11_free 29 = .ok (.iconst 0, 1) := by decide +kernel
theorem dX11_free_30 : decode cX11_free 30 = .ok (.invokevirtual 119, 3) := by decide +kernel
theorem dX11_free_33 : decode cX11_free 33 = .ok (.ireturn, 1) := by decide +kernel
theorem dX11_instancesOn_0 : decode cX11_instancesOn 0 = .ok (.aload_n 0, 1) := by decide +kernel
theorem dX11_instancesOn_1 : decode cX11_instancesOn 1 = .ok (.aload_n 0, 1) := by decide +kernel
theorem dX11_instancesOn_2 : decode cX11_instancesOn 2 = .ok (.getfield 19, 3) := by decide +kernel
theorem dX11_instancesOn_5 : decode cX11_instancesOn 5 = .ok (.getfield 103, 3) := by decide +kernel
theorem dX11_instancesOn_8 : decode cX11_instancesOn 8 = .ok (.iload_n 1, 1) := by decide +kernel
theorem dX11_instancesOn_9 : decode cX11_instancesOn 9 = .ok (.invokevirtual 115, 3) := by decide +kernel
theorem dX11_instancesOn_12 : decode cX11_instancesOn 12 = .ok (.aload_n 0, 1) := by decide +kernel
theorem dX11_instancesOn_13 : decode cX11_instancesOn 13 = .ok (.getfield 26, 3) := by decide +kernel
theorem dX11_instancesOn_16 : decode cX11_instancesOn 16 = .ok (.iload_n 1, 1) := by decide +kernel
theorem dX11_instancesOn_17 : decode cX11_instancesOn 17 = .ok (.invokevirtual 123, 3) := by decide +kernel
theorem dX11_instancesOn_20 : decode cX11_instancesOn 20 = .ok (.ireturn, 1) := by decide +kernel
theorem dX11_utilisation_0 : decode cX11_utilisation 0 = .ok (.aload_n 0, 1) := by decide +kernel
theorem dX11_utilisation_1 : decode cX11_utilisation 1 = .ok (.getfield 19, 3) := by decide +kernel
theorem dX11_utilisation_4 : decode cX11_utilisation 4 = .ok (.getfield 103, 3) := by decide +kernel
theorem dX11_utilisation_7 : decode cX11_utilisation 7 = .ok (.iconst 0, 1) := by decide +kernel
theorem dX11_utilisation_8 : decode cX11_utilisation 8 = .ok (.invokevirtual 126, 3) := by decide +kernel
theorem dX11_utilisation_11 : decode cX11_utilisation 11 = .ok (.istore_n 1, 1) := by decide +kernel
theorem dX11_utilisation_12 : decode cX11_utilisation 12 = .ok (.iload_n 1, 1) := by decide +kernel
theorem dX11_utilisation_13 : decode cX11_utilisation 13 = .ok (.ifCond .le 21, 3) := by decide +kernel
theorem dX11_utilisation_16 : decode cX11_utilisation 16 = .ok (.aload_n 0, 1) := by decide +kernel
theorem dX11_utilisation_17 : decode cX11_utilisation 17 = .ok (.getfield 26, 3) := by decide +kernel
theorem dX11_utilisation_20 : decode cX11_utilisation 20 = .ok (.getfield 129, 3) := by decide +kernel
theorem dX11_utilisation_23 : decode cX11_utilisation 23 = .ok (.iconst 0, 1) := by decide +kernel
theorem dX11_utilisation_24 : decode cX11_utilisation 24 = .ok (.invokevirtual 126, 3) := by decide +kernel
theorem dX11_utilisation_27 : decode cX11_utilisation 27 = .ok (.i2d, 1) := by decide +kernel
theorem dX11_utilisation_28 : decode cX11_utilisation 28 = .ok (.iload_n 1, 1) := by decide +kernel
theorem dX11_utilisation_29 : decode cX11_utilisation 29 = .ok (.i2d, 1) := by decide +kernel
theorem dX11_utilisation_30 : decode cX11_utilisation 30 = .ok (.ddiv, 1) := by decide +kernel
theorem dX11_utilisation_31 : decode cX11_utilisation 31 = .ok (.goto 4, 3) := by decide +kernel
theorem dX11_utilisation_34 : decode cX11_utilisation 34 = .ok (.dconst 0, 1) := by decide +kernel
theorem dX11_utilisation_35 : decode cX11_utilisation 35 = .ok (.dreturn, 1) := by decide +kernel
theorem dX11_spotPrice_0 : decode cX11_spotPrice 0 = .ok (.aload_n 0, 1) := by decide +kernel
theorem dX11_spotPrice_1 : decode cX11_spotPrice 1 = .ok (.aload_n 0, 1) := by decide +kernel
theorem dX11_spotPrice_2 : decode cX11_spotPrice 2 = .ok (.getfield 19, 3) := by decide +kernel
theorem dX11_spotPrice_5 : decode cX11_spotPrice 5 = .ok (.getfield 132, 3) := by decide +kernel
theorem dX11_spotPrice_8 : decode cX11_spotPrice 8 = .ok (.iload_n 1, 1) := by decide +kernel
theorem dX11_spotPrice_9 : decode cX11_spotPrice 9 = .ok (.invokevirtual 115, 3) := by decide +kernel
theorem dX11_spotPrice_12 : decode cX11_spotPrice 12 = .ok (.aload_n 0, 1) := by decide +kernel
theorem dX11_spotPrice_13 : decode cX11_spotPrice 13 = .ok (.getfield 26, 3) := by decide +kernel
theorem dX11_spotPrice_16 : decode cX11_spotPrice 16 = .ok (.getfield 135, 3) := by decide +kernel
theorem dX11_spotPrice_19 : decode cX11_spotPrice 19 = .ok (.iload_n 1, 1) := by decide +kernel
theorem dX11_spotPrice_20 : decode cX11_spotPrice 20 = .ok (.iconst 0, 1) := by decide +kernel
theorem dX11_spotPrice_21 : decode cX11_spotPrice 21 = .ok (.invokevirtual 138, 3) := by decide +kernel
theorem dX11_spotPrice_24 : decode cX11_spotPrice 24 = .ok (.ireturn, 1) := by decide +kernel
theorem dX11_bestHost_0 : decode cX11_bestHost 0 = .ok (.aload_n 0, 1) := by decide +kernel
theorem dX11_bestHost_1 : decode cX11_bestHost 1 = .ok (.aload_n 0, 1) := by decide +kernel
theorem dX11_bestHost_2 : decode cX11_bestHost 2 = .ok (.getfield 19, 3) := by decide +kernel
theorem dX11_bestHost_5 : decode cX11_bestHost 5 = .ok (.getfield 132, 3) := by decide +kernel
theorem dX11_bestHost_8 : decode cX11_bestHost 8 = .ok (.iload_n 1, 1) := by decide +kernel
theorem dX11_bestHost_9 : decode cX11_bestHost 9 = .ok (.invokevirtual 115, 3) := by decide +kernel
theorem dX11_bestHost_12 : decode cX11_bestHost 12 = .ok (.aload_n 0, 1) := by decide +kernel
theorem dX11_bestHost_13 : decode cX11_bestHost 13 = .ok (.getfield 26, 3) := by decide +kernel
theorem dX11_bestHost_16 : decode cX11_bestHost 16 = .ok (.aload_n 0, 1) := by decide +kernel
theorem dX11_bestHost_17 : decode cX11_bestHost 17 = .ok (.getfield 19, 3) := by decide +kernel
theorem dX11_bestHost_20 : decode cX11_bestHost 20 = .ok (.iload_n 1, 1) := by decide +kernel
theorem dX11_bestHost_21 : decode cX11_bestHost 21 = .ok (.invokevirtual 142, 3) := by decide +kernel
theorem dX11_bestHost_24 : decode cX11_bestHost 24 = .ok (.ireturn, 1) := by decide +kernel
theorem dX11_room_0 : decode cX11_room 0 = .ok (.aload_n 0, 1) := by decide +kernel
theorem dX11_room_1 : decode cX11_room 1 = .ok (.aload_n 0, 1) := by decide +kernel
theorem dX11_room_2 : decode cX11_room 2 = .ok (.getfield 19, 3) := by decide +kernel
theorem dX11_room_5 : decode cX11_room 5 = .ok (.getfield 132, 3) := by decide +kernel
theorem dX11_room_8 : decode cX11_room 8 = .ok (.iload_n 1, 1) := by decide +kernel
theorem dX11_room_9 : decode cX11_room 9 = .ok (.invokevirtual 115, 3) := by decide +kernel
theorem dX11_room_12 : decode cX11_room 12 = .ok (.iconst 0, 1) := by decide +kernel
theorem dX11_room_13 : decode cX11_room 13 = .ok (.istore_n 2, 1) := by decide +kernel
theorem dX11_room_14 : decode cX11_room 14 = .ok (.iconst 0, 1) := by decide +kernel
theorem dX11_room_15 : decode cX11_room 15 = .ok (.istore_n 3, 1) := by decide +kernel
theorem dX11_room_16 : decode cX11_room 16 = .ok (.iload_n 3, 1) := by decide +kernel
theorem dX11_room_17 : decode cX11_room 17 = .ok (.aload_n 0, 1) := by decide +kernel
theorem dX11_room_18 : decode cX11_room 18 = .ok (.getfield 19, 3) := by decide +kernel
theorem dX11_room_21 : decode cX11_room 21 = .ok (.getfield 103, 3) := by decide +kernel
theorem dX11_room_24 : decode cX11_room 24 = .ok (.getfield 107, 3) := by decide +kernel
theorem dX11_room_27 : decode cX11_room 27 = .ok (.if_icmp .ge 25, 3) := by decide +kernel
theorem dX11_room_30 : decode cX11_room 30 = .ok (.iload_n 2, 1) := by decide +kernel
theorem dX11_room_31 : decode cX11_room 31 = .ok (.aload_n 0, 1) := by decide +kernel
theorem dX11_room_32 : decode cX11_room 32 = .ok (.getfield 26, 3) := by decide +kernel
theorem dX11_room_35 : decode cX11_room 35 = .ok (.aload_n 0, 1) := by decide +kernel
theorem dX11_room_36 : decode cX11_room 36 = .ok (.getfield 19, 3) := by decide +kernel
theorem dX11_room_39 : decode cX11_room 39 = .ok (.iload_n 3, 1) := by decide +kernel
theorem dX11_room_40 : decode cX11_room 40 = .ok (.iload_n 1, 1) := by decide +kernel
theorem dX11_room_41 : decode cX11_room 41 = .ok (.invokevirtual 146, 3) := by decide +kernel
theorem dX11_room_44 : decode cX11_room 44 = .ok (.iadd, 1) := by decide +kernel
theorem dX11_room_45 : decode cX11_room 45 = .ok (.istore_n 2, 1) := by decide +kernel
theorem dX11_room_46 : decode cX11_room 46 = .ok (.iinc 3 1, 3) := by decide +kernel
theorem dX11_room_49 : decode cX11_room 49 = .ok (.goto (-33), 3) := by decide +kernel
theorem dX11_room_52 : decode cX11_room 52 = .ok (.iload_n 2, 1) := by decide +kernel
theorem dX11_room_53 : decode cX11_room 53 = .ok (.ireturn, 1) := by decide +kernel
theorem dX11_running_0 : decode cX11_running 0 = .ok (.aload_n 0, 1) := by decide +kernel
theorem dX11_running_1 : decode cX11_running 1 = .ok (.getfield 26, 3) := by decide +kernel
theorem dX11_running_4 : decode cX11_running 4 = .ok (.getfield 149, 3) := by decide +kernel
theorem dX11_running_7 : decode cX11_running 7 = .ok (.ireturn, 1) := by decide +kernel
theorem dX11_needInstance_0 : decode cX11_needInstance 0 = .ok (.aload_n 0, 1) := by decide +kernel
theorem dX11_needInstance_1 : decode cX11_needInstance 1 = .ok (.getfield 26, 3) := by decide +kernel
theorem dX11_needInstance_4 : decode cX11_needInstance 4 = .ok (.iload_n 1, 1) := by decide +kernel
theorem dX11_needInstance_5 : decode cX11_needInstance 5 = .ok (.invokevirtual 333, 3) := by decide +kernel
theorem dX11_needInstance_8 : decode cX11_needInstance 8 = .ok (.ifCond .ne 14, 3) := by decide +kernel
theorem dX11_needInstance_11 : decode cX11_needInstance 11 = .ok (.new 328, 3) := by decide +kernel
theorem dX11_needInstance_14 : decode cX11_needInstance 14 = .ok (.dup, 1) := by decide +kernel
theorem dX11_needInstance_15 : decode cX11_needInstance 15 = .ok (.ldc_w 336, 3) := by decide +kernel
theorem dX11_needInstance_18 : decode cX11_needInstance 18 = .ok (.invokespecial 332, 3) := by decide +kernel
theorem dX11_needInstance_21 : decode cX11_needInstance 21 = .ok (.athrow, 1) := by decide +kernel
theorem dX11_needInstance_22 : decode cX11_needInstance 22 = .ok (.return_, 1) := by decide +kernel
theorem dX11_typeOf_0 : decode cX11_typeOf 0 = .ok (.aload_n 0, 1) := by decide +kernel
theorem dX11_typeOf_1 : decode cX11_typeOf 1 = .ok (.iload_n 1, 1) := by decide +kernel
theorem dX11_typeOf_2 : decode cX11_typeOf 2 = .ok (.invokevirtual 152, 3) := by decide +kernel
theorem dX11_typeOf_5 : decode cX11_typeOf 5 = .ok (.aload_n 0, 1) := by decide +kernel
theorem dX11_typeOf_6 : decode cX11_typeOf 6 = .ok (.getfield 26, 3) := by decide +kernel
theorem dX11_typeOf_9 : decode cX11_typeOf 9 = .ok (.getfield 155, 3) := by decide +kernel
theorem dX11_typeOf_12 : decode cX11_typeOf 12 = .ok (.iload_n 1, 1) := by decide +kernel
theorem dX11_typeOf_13 : decode cX11_typeOf 13 = .ok (.iconst 1, 1) := by decide +kernel
theorem dX11_typeOf_14 : decode cX11_typeOf 14 = .ok (.invokevirtual 138, 3) := by decide +kernel
theorem dX11_typeOf_17 : decode cX11_typeOf 17 = .ok (.ireturn, 1) := by decide +kernel
theorem dX11_tenantOf_0 : decode cX11_tenantOf 0 = .ok (.aload_n 0, 1) := by decide +kernel
theorem dX11_tenantOf_1 : decode cX11_tenantOf 1 = .ok (.iload_n 1, 1) := by decide +kernel
theorem dX11_tenantOf_2 : decode cX11_tenantOf 2 = .ok (.invokevirtual 152, 3) := by decide +kernel
theorem dX11_tenantOf_5 : decode cX11_tenantOf 5 = .ok (.aload_n 0, 1) := by decide +kernel
theorem dX11_tenantOf_6 : decode cX11_tenantOf 6 = .ok (.getfield 26, 3) := by decide +kernel
theorem dX11_tenantOf_9 : decode cX11_tenantOf 9 = .ok (.getfield 155, 3) := by decide +kernel
theorem dX11_tenantOf_12 : decode cX11_tenantOf 12 = .ok (.iload_n 1, 1) := by decide +kernel
theorem dX11_tenantOf_13 : decode cX11_tenantOf 13 = .ok (.iconst 0, 1) := by decide +kernel
theorem dX11_tenantOf_14 : decode cX11_tenantOf 14 = .ok (.invokevirtual 138, 3) := by decide +kernel
theorem dX11_tenantOf_17 : decode cX11_tenantOf 17 = .ok (.ireturn, 1) := by decide +kernel
theorem dX11_hostOf_0 : decode cX11_hostOf 0 = .ok (.aload_n 0, 1) := by decide +kernel
theorem dX11_hostOf_1 : decode cX11_hostOf 1 = .ok (.iload_n 1, 1) := by decide +kernel
theorem dX11_hostOf_2 : decode cX11_hostOf 2 = .ok (.invokevirtual 152, 3) := by decide +kernel
theorem dX11_hostOf_5 : decode cX11_hostOf 5 = .ok (.aload_n 0, 1) := by decide +kernel
theorem dX11_hostOf_6 : decode cX11_hostOf 6 = .ok (.getfield 26, 3) := by decide +kernel
theorem dX11_hostOf_9 : decode cX11_hostOf 9 = .ok (.getfield 155, 3) := by decide +kernel
theorem dX11_hostOf_12 : decode cX11_hostOf 12 = .ok (.iload_n 1, 1) := by decide +kernel
theorem dX11_hostOf_13 : decode cX11_hostOf 13 = .ok (.iconst 3, 1) := by decide +kernel
theorem dX11_hostOf_14 : decode cX11_hostOf 14 = .ok (.invokevirtual 138, 3) := by decide +kernel
theorem dX11_hostOf_17 : decode cX11_hostOf 17 = .ok (.ireturn, 1) := by decide +kernel
theorem dX11_bidOf_0 : decode cX11_bidOf 0 = .ok (.aload_n 0, 1) := by decide +kernel
theorem dX11_bidOf_1 : decode cX11_bidOf 1 = .ok (.iload_n 1, 1) := by decide +kernel
theorem dX11_bidOf_2 : decode cX11_bidOf 2 = .ok (.invokevirtual 152, 3) := by decide +kernel
theorem dX11_bidOf_5 : decode cX11_bidOf 5 = .ok (.aload_n 0, 1) := by decide +kernel
theorem dX11_bidOf_6 : decode cX11_bidOf 6 = .ok (.getfield 26, 3) := by decide +kernel
theorem dX11_bidOf_9 : decode cX11_bidOf 9 = .ok (.getfield 155, 3) := by decide +kernel
theorem dX11_bidOf_12 : decode cX11_bidOf 12 = .ok (.iload_n 1, 1) := by decide +kernel
theorem dX11_bidOf_13 : decode cX11_bidOf 13 = .ok (.iconst 2, 1) := by decide +kernel
theorem dX11_bidOf_14 : decode cX11_bidOf 14 = .ok (.invokevirtual 138, 3) := by decide +kernel
theorem dX11_bidOf_17 : decode cX11_bidOf 17 = .ok (.ireturn, 1) := by decide +kernel
theorem dX11_noticeOf_0 : decode cX11_noticeOf 0 = .ok (.aload_n 0, 1) := by decide +kernel
theorem dX11_noticeOf_1 : decode cX11_noticeOf 1 = .ok (.iload_n 1, 1) := by decide +kernel
theorem dX11_noticeOf_2 : decode cX11_noticeOf 2 = .ok (.invokevirtual 152, 3) := by decide +kernel
theorem dX11_noticeOf_5 : decode cX11_noticeOf 5 = .ok (.aload_n 0, 1) := by decide +kernel
theorem dX11_noticeOf_6 : decode cX11_noticeOf 6 = .ok (.getfield 26, 3) := by decide +kernel
theorem dX11_noticeOf_9 : decode cX11_noticeOf 9 = .ok (.getfield 155, 3) := by decide +kernel
theorem dX11_noticeOf_12 : decode cX11_noticeOf 12 = .ok (.iload_n 1, 1) := by decide +kernel
theorem dX11_noticeOf_13 : decode cX11_noticeOf 13 = .ok (.iconst 4, 1) := by decide +kernel
theorem dX11_noticeOf_14 : decode cX11_noticeOf 14 = .ok (.invokevirtual 138, 3) := by decide +kernel
theorem dX11_noticeOf_17 : decode cX11_noticeOf 17 = .ok (.ireturn, 1) := by decide +kernel
theorem dX11_waiting_0 : decode cX11_waiting 0 = .ok (.aload_n 0, 1) := by decide +kernel
theorem dX11_waiting_1 : decode cX11_waiting 1 = .ok (.getfield 26, 3) := by decide +kernel
theorem dX11_waiting_4 : decode cX11_waiting 4 = .ok (.getfield 158, 3) := by decide +kernel
theorem dX11_waiting_7 : decode cX11_waiting 7 = .ok (.getfield 107, 3) := by decide +kernel
theorem dX11_waiting_10 : decode cX11_waiting 10 = .ok (.ireturn, 1) := by decide +kernel
theorem dX11_waitingBid_0 : decode cX11_waitingBid 0 = .ok (.aload_n 0, 1) := by decide +kernel
theorem dX11_waitingBid_1 : decode cX11_waitingBid 1 = .ok (.getfield 26, 3) := by decide +kernel
theorem dX11_waitingBid_4 : decode cX11_waitingBid 4 = .ok (.getfield 158, 3) := by decide +kernel
theorem dX11_waitingBid_7 : decode cX11_waitingBid 7 = .ok (.iload_n 1, 1) := by decide +kernel
theorem dX11_waitingBid_8 : decode cX11_waitingBid 8 = .ok (.invokevirtual 161, 3) := by decide +kernel
theorem dX11_waitingBid_11 : decode cX11_waitingBid 11 = .ok (.ifCond .eq 18, 3) := by decide +kernel
theorem dX11_waitingBid_14 : decode cX11_waitingBid 14 = .ok (.aload_n 0, 1) := by decide +kernel
theorem dX11_waitingBid_15 : decode cX11_waitingBid 15 = .ok (.getfield 26, 3) := by decide +kernel
theorem dX11_waitingBid_18 : decode cX11_waitingBid 18 = .ok (.getfield 158, 3) := by decide +kernel
theorem dX11_waitingBid_21 : decode cX11_waitingBid 21 = .ok (.iload_n 1, 1) := by decide +kernel
theorem dX11_waitingBid_22 : decode cX11_waitingBid 22 = .ok (.iconst 2, 1) := by decide +kernel
theorem dX11_waitingBid_23 : decode cX11_waitingBid 23 = .ok (.invokevirtual 138, 3) := by decide +kernel
theorem dX11_waitingBid_26 : decode cX11_waitingBid 26 = .ok (.goto 4, 3) := by decide +kernel
theorem dX11_waitingBid_29 : decode cX11_waitingBid 29 = .ok (.iconst (-1), 1) := by decide +kernel
theorem dX11_waitingBid_30 : decode cX11_waitingBid 30 = .ok (.ireturn, 1) := by decide +kernel
theorem dX11_spent_0 : decode cX11_spent 0 = .ok (.aload_n 0, 1) := by decide +kernel
theorem dX11_spent_1 : decode cX11_spent 1 = .ok (.aload_n 0, 1) := by decide +kernel
theorem dX11_spent_2 : decode cX11_spent 2 = .ok (.getfield 19, 3) := by decide +kernel
theorem dX11_spent_5 : decode cX11_spent 5 = .ok (.getfield 165, 3) := by decide +kernel
theorem dX11_spent_8 : decode cX11_spent 8 = .ok (.iload_n 1, 1) := by decide +kernel
theorem dX11_spent_9 : decode cX11_spent 9 = .ok (.invokevirtual 115, 3) := by decide +kernel
theorem dX11_spent_12 : decode cX11_spent 12 = .ok (.aload_n 0, 1) := by decide +kernel
theorem dX11_spent_13 : decode cX11_spent 13 = .ok (.getfield 26, 3) := by decide +kernel
theorem dX11_spent_16 : decode cX11_spent 16 = .ok (.iload_n 1, 1) := by decide +kernel
theorem dX11_spent_17 : decode cX11_spent 17 = .ok (.invokevirtual 168, 3) := by decide +kernel
theorem dX11_spent_20 : decode cX11_spent 20 = .ok (.lreturn, 1) := by decide +kernel
theorem dX11_hourlyBill_0 : decode cX11_hourlyBill 0 = .ok (.aload_n 0, 1) := by decide +kernel
theorem dX11_hourlyBill_1 : decode cX11_hourlyBill 1 = .ok (.aload_n 0, 1) := by decide +kernel
theorem dX11_hourlyBill_2 : decode cX11_hourlyBill 2 = .ok (.getfield 19, 3) := by decide +kernel
theorem dX11_hourlyBill_5 : decode cX11_hourlyBill 5 = .ok (.getfield 165, 3) := by decide +kernel
theorem dX11_hourlyBill_8 : decode cX11_hourlyBill 8 = .ok (.iload_n 1, 1) := by decide +kernel
theorem dX11_hourlyBill_9 : decode cX11_hourlyBill 9 = .ok (.invokevirtual 115, 3) := by decide +kernel
theorem dX11_hourlyBill_12 : decode cX11_hourlyBill 12 = .ok (.aload_n 0, 1) := by decide +kernel
theorem dX11_hourlyBill_13 : decode cX11_hourlyBill 13 = .ok (.getfield 43, 3) := by decide +kernel
theorem dX11_hourlyBill_16 : decode cX11_hourlyBill 16 = .ok (.aload_n 0, 1) := by decide +kernel
theorem dX11_hourlyBill_17 : decode cX11_hourlyBill 17 = .ok (.getfield 19, 3) := by decide +kernel
theorem dX11_hourlyBill_20 : decode cX11_hourlyBill 20 = .ok (.aload_n 0, 1) := by decide +kernel
theorem dX11_hourlyBill_21 : decode cX11_hourlyBill 21 = .ok (.getfield 26, 3) := by decide +kernel
theorem dX11_hourlyBill_24 : decode cX11_hourlyBill 24 = .ok (.invokevirtual 172, 3) := by decide +kernel
theorem dX11_hourlyBill_27 : decode cX11_hourlyBill 27 = .ok (.aload_n 0, 1) := by decide +kernel
theorem dX11_hourlyBill_28 : decode cX11_hourlyBill 28 = .ok (.getfield 43, 3) := by decide +kernel
theorem dX11_hourlyBill_31 : decode cX11_hourlyBill 31 = .ok (.getfield 176, 3) := by decide +kernel
theorem dX11_hourlyBill_34 : decode cX11_hourlyBill 34 = .ok (.iload_n 1, 1) := by decide +kernel
theorem dX11_hourlyBill_35 : decode cX11_hourlyBill 35 = .ok (.iconst 0, 1) := by decide +kernel
theorem dX11_hourlyBill_36 : decode cX11_hourlyBill 36 = .ok (.invokevirtual 138, 3) := by decide +kernel
theorem dX11_hourlyBill_39 : decode cX11_hourlyBill 39 = .ok (.ireturn, 1) := by decide +kernel
theorem dX11_covered_0 : decode cX11_covered 0 = .ok (.aload_n 0, 1) := by decide +kernel
theorem dX11_covered_1 : decode cX11_covered 1 = .ok (.aload_n 0, 1) := by decide +kernel
theorem dX11_covered_2 : decode cX11_covered 2 = .ok (.getfield 19, 3) := by decide +kernel
theorem dX11_covered_5 : decode cX11_covered 5 = .ok (.getfield 165, 3) := by decide +kernel
theorem dX11_covered_8 : decode cX11_covered 8 = .ok (.iload_n 1, 1) := by decide +kernel
theorem dX11_covered_9 : decode cX11_covered 9 = .ok (.invokevirtual 115, 3) := by decide +kernel
theorem dX11_covered_12 : decode cX11_covered 12 = .ok (.aload_n 0, 1) := by decide +kernel
theorem dX11_covered_13 : decode cX11_covered 13 = .ok (.aload_n 0, 1) := by decide +kernel
theorem dX11_covered_14 : decode cX11_covered 14 = .ok (.getfield 19, 3) := by decide +kernel
theorem dX11_covered_17 : decode cX11_covered 17 = .ok (.getfield 132, 3) := by decide +kernel
theorem dX11_covered_20 : decode cX11_covered 20 = .ok (.iload_n 2, 1) := by decide +kernel
theorem dX11_covered_21 : decode cX11_covered 21 = .ok (.invokevirtual 115, 3) := by decide +kernel
theorem dX11_covered_24 : decode cX11_covered 24 = .ok (.aload_n 0, 1) := by decide +kernel
theorem dX11_covered_25 : decode cX11_covered 25 = .ok (.getfield 26, 3) := by decide +kernel
theorem dX11_covered_28 : decode cX11_covered 28 = .ok (.iload_n 1, 1) := by decide +kernel
theorem dX11_covered_29 : decode cX11_covered 29 = .ok (.iload_n 2, 1) := by decide +kernel
theorem dX11_covered_30 : decode cX11_covered 30 = .ok (.invokevirtual 179, 3) := by decide +kernel
theorem dX11_covered_33 : decode cX11_covered 33 = .ok (.aload_n 0, 1) := by decide +kernel
theorem dX11_covered_34 : decode cX11_covered 34 = .ok (.getfield 19, 3) := by decide +kernel
theorem dX11_covered_37 : decode cX11_covered 37 = .ok (.iload_n 1, 1) := by decide +kernel
theorem dX11_covered_38 : decode cX11_covered 38 = .ok (.iload_n 2, 1) := by decide +kernel
theorem dX11_covered_39 : decode cX11_covered 39 = .ok (.aload_n 0, 1) := by decide +kernel
theorem dX11_covered_40 : decode cX11_covered 40 = .ok (.getfield 26, 3) := by decide +kernel
theorem dX11_covered_43 : decode cX11_covered 43 = .ok (.getfield 112, 3) := by decide +kernel
theorem dX11_covered_46 : decode cX11_covered 46 = .ok (.invokevirtual 182, 3) := by decide +kernel
theorem dX11_covered_49 : decode cX11_covered 49 = .ok (.invokestatic 186, 3) := by decide +kernel
theorem dX11_covered_52 : decode cX11_covered 52 = .ok (.ireturn, 1) := by decide +kernel
theorem dX11_isOverBudget_0 : decode cX11_isOverBudget 0 = .ok (.aload_n 0, 1) := by decide +kernel
theorem dX11_isOverBudget_1 : decode cX11_isOverBudget 1 = .ok (.aload_n 0, 1) := by decide +kernel
theorem dX11_isOverBudget_2 : decode cX11_isOverBudget 2 = .ok (.getfield 19, 3) := by decide +kernel
theorem dX11_isOverBudget_5 : decode cX11_isOverBudget 5 = .ok (.getfield 165, 3) := by decide +kernel
theorem dX11_isOverBudget_8 : decode cX11_isOverBudget 8 = .ok (.iload_n 1, 1) := by decide +kernel
theorem dX11_isOverBudget_9 : decode cX11_isOverBudget 9 = .ok (.invokevirtual 115, 3) := by decide +kernel
theorem dX11_isOverBudget_12 : decode cX11_isOverBudget 12 = .ok (.aload_n 0, 1) := by decide +kernel
theorem dX11_isOverBudget_13 : decode cX11_isOverBudget 13 = .ok (.getfield 26, 3) := by decide +kernel
theorem dX11_isOverBudget_16 : decode cX11_isOverBudget 16 = .ok (.aload_n 0, 1) := by decide +kernel
theorem dX11_isOverBudget_17 : decode cX11_isOverBudget 17 = .ok (.getfield 19, 3) := by decide +kernel
theorem dX11_isOverBudget_20 : decode cX11_isOverBudget 20 = .ok (.iload_n 1, 1) := by decide +kernel
theorem dX11_isOverBudget_21 : decode cX11_isOverBudget 21 = .ok (.invokevirtual 191, 3) := by decide +kernel
theorem dX11_isOverBudget_24 : decode cX11_isOverBudget 24 = .ok (.ireturn, 1) := by decide +kernel
theorem dX11_pays_0 : decode cX11_pays 0 = .ok (.aload_n 0, 1) := by decide +kernel
theorem dX11_pays_1 : decode cX11_pays 1 = .ok (.aload_n 0, 1) := by decide +kernel
theorem dX11_pays_2 : decode cX11_pays 2 = .ok (.getfield 19, 3) := by decide +kernel
theorem dX11_pays_5 : decode cX11_pays 5 = .ok (.getfield 195, 3) := by decide +kernel
theorem dX11_pays_8 : decode cX11_pays 8 = .ok (.iload_n 1, 1) := by decide +kernel
theorem dX11_pays_9 : decode cX11_pays 9 = .ok (.invokevirtual 115, 3) := by decide +kernel
theorem dX11_pays_12 : decode cX11_pays 12 = .ok (.aload_n 0, 1) := by decide +kernel
theorem dX11_pays_13 : decode cX11_pays 13 = .ok (.getfield 19, 3) := by decide +kernel
theorem dX11_pays_16 : decode cX11_pays 16 = .ok (.getfield 195, 3) := by decide +kernel
theorem dX11_pays_19 : decode cX11_pays 19 = .ok (.iload_n 1, 1) := by decide +kernel
theorem dX11_pays_20 : decode cX11_pays 20 = .ok (.iconst 0, 1) := by decide +kernel
theorem dX11_pays_21 : decode cX11_pays 21 = .ok (.invokevirtual 138, 3) := by decide +kernel
theorem dX11_pays_24 : decode cX11_pays 24 = .ok (.istore_n 2, 1) := by decide +kernel
theorem dX11_pays_25 : decode cX11_pays 25 = .ok (.aload_n 0, 1) := by decide +kernel
theorem dX11_pays_26 : decode cX11_pays 26 = .ok (.getfield 19, 3) := by decide +kernel
theorem dX11_pays_29 : decode cX11_pays 29 = .ok (.getfield 195, 3) := by decide +kernel
theorem dX11_pays_32 : decode cX11_pays 32 = .ok (.iload_n 1, 1) := by decide +kernel
theorem dX11_pays_33 : decode cX11_pays 33 = .ok (.iconst 1, 1) := by decide +kernel
theorem dX11_pays_34 : decode cX11_pays 34 = .ok (.invokevirtual 138, 3) := by decide +kernel
theorem dX11_pays_37 : decode cX11_pays 37 = .ok (.istore_n 3, 1) := by decide +kernel
theorem dX11_pays_38 : decode cX11_pays 38 = .ok (.aload_n 0, 1) := by decide +kernel
theorem dX11_pays_39 : decode cX11_pays 39 = .ok (.getfield 19, 3) := by decide +kernel
theorem dX11_pays_42 : decode cX11_pays 42 = .ok (.getfield 195, 3) := by decide +kernel
theorem dX11_pays_45 : decode cX11_pays 45 = .ok (.iload_n 1, 1) := by decide +kernel
theorem dX11_pays_46 : decode cX11_pays 46 = .ok (.iconst 2, 1) := by decide +kernel
theorem dX11_pays_47 : decode cX11_pays 47 = .ok (.invokevirtual 138, 3) := by decide +kernel
theorem dX11_pays_50 : decode cX11_pays 50 = .ok (.aload_n 0, 1) := by decide +kernel
theorem dX11_pays_51 : decode cX11_pays 51 = .ok (.getfield 26, 3) := by decide +kernel
theorem dX11_pays_54 : decode cX11_pays 54 = .ok (.iload_n 2, 1) := by decide +kernel
theorem dX11_pays_55 : decode cX11_pays 55 = .ok (.iload_n 3, 1) := by decide +kernel
theorem dX11_pays_56 : decode cX11_pays 56 = .ok (.invokevirtual 179, 3) := by decide +kernel
theorem dX11_pays_59 : decode cX11_pays 59 = .ok (.invokestatic 186, 3) := by decide +kernel
theorem dX11_pays_62 : decode cX11_pays 62 = .ok (.istore 4, 2) := by decide +kernel
theorem dX11_pays_64 : decode cX11_pays 64 = .ok (.aload_n 0, 1) := by decide +kernel
theorem dX11_pays_65 : decode cX11_pays 65 = .ok (.getfield 19, 3) := by decide +kernel
theorem dX11_pays_68 : decode cX11_pays 68 = .ok (.iload_n 1, 1) := by decide +kernel
theorem dX11_pays_69 : decode cX11_pays 69 = .ok (.aload_n 0, 1) := by decide +kernel
theorem dX11_pays_70 : decode cX11_pays 70 = .ok (.getfield 26, 3) := by decide +kernel
theorem dX11_pays_73 : decode cX11_pays 73 = .ok (.getfield 112, 3) := by decide +kernel
theorem dX11_pays_76 : decode cX11_pays 76 = .ok (.invokevirtual 198, 3) := by decide +kernel
theorem dX11_pays_79 : decode cX11_pays 79 = .ok (.ifCond .eq 33, 3) := by decide +kernel
theorem dX11_pays_82 : decode cX11_pays 82 = .ok (.aload_n 0, 1) := by decide +kernel
theorem dX11_pays_83 : decode cX11_pays 83 = .ok (.getfield 19, 3) := by decide +kernel
theorem dX11_pays_86 : decode cX11_pays 86 = .ok (.iload_n 1, 1) := by decide +kernel
theorem dX11_pays_87 : decode cX11_pays 87 = .ok (.invokevirtual 202, 3) := by decide +kernel
theorem dX11_pays_90 : decode cX11_pays 90 = .ok (.iload 4, 2) := by decide +kernel
theorem dX11_pays_92 : decode cX11_pays 92 = .ok (.aload_n 0, 1) := by decide +kernel
theorem dX11_pays_93 : decode cX11_pays 93 = .ok (.getfield 19, 3) := by decide +kernel
theorem dX11_pays_96 : decode cX11_pays 96 = .ok (.getfield 132, 3) := by decide +kernel
theorem dX11_pays_99 : decode cX11_pays 99 = .ok (.iload_n 3, 1) := by decide +kernel
theorem dX11_pays_100 : decode cX11_pays 100 = .ok (.iconst 2, 1) := by decide +kernel
theorem dX11_pays_101 : decode cX11_pays 101 = .ok (.invokevirtual 138, 3) := by decide +kernel
theorem dX11_pays_104 : decode cX11_pays 104 = .ok (.imul, 1) := by decide +kernel
theorem dX11_pays_105 : decode cX11_pays 105 = .ok (.if_icmp .ge 7, 3) := by decide +kernel
theorem dX11_pays_108 : decode cX11_pays 108 = .ok (.iconst 1, 1) := by decide +kernel
theorem dX11_pays_109 : decode cX11_pays 109 = .ok (.goto 4, 3) := by decide +kernel
theorem dX11_pays_112 : decode cX11_pays 112 = .ok (.iconst 0, 1) := by decide +kernel
theorem dX11_pays_113 : decode cX11_pays 113 = .ok (.ireturn, 1) := by decide +kernel
theorem dX11_fewestHosts_0 : decode cX11_fewestHosts 0 = .ok (.aload_n 0, 1) := by decide +kernel
theorem dX11_fewestHosts_1 : decode cX11_fewestHosts 1 = .ok (.getfield 50, 3) := by decide +kernel
theorem dX11_fewestHosts_4 : decode cX11_fewestHosts 4 = .ok (.aload_n 0, 1) := by decide +kernel
theorem dX11_fewestHosts_5 : decode cX11_fewestHosts 5 = .ok (.getfield 19, 3) := by decide +kernel
theorem dX11_fewestHosts_8 : decode cX11_fewestHosts 8 = .ok (.aload_n 0, 1) := by decide +kernel
theorem dX11_fewestHosts_9 : decode cX11_fewestHosts 9 = .ok (.getfield 26, 3) := by decide +kernel
theorem dX11_fewestHosts_12 : decode cX11_fewestHosts 12 = .ok (.invokevirtual 205, 3) := by decide +kernel
theorem dX11_fewestHosts_15 : decode cX11_fewestHosts 15 = .ok (.ireturn, 1) := by decide +kernel
theorem dX11_cheapestEviction_0 : decode cX11_cheapestEviction 0 = .ok (.aload_n 0, 1) := by decide +kernel
theorem dX11_cheapestEviction_1 : decode cX11_cheapestEviction 1 = .ok (.aload_n 0, 1) := by decide +kernel
theorem dX11_cheapestEviction_2 : decode cX11_cheapestEviction 2 = .ok (.getfield 19, 3) := by decide +kernel
theorem dX11_cheapestEviction_5 : decode cX11_cheapestEviction 5 = .ok (.getfield 103, 3) := by decide +kernel
theorem dX11_cheapestEviction_8 : decode cX11_cheapestEviction 8 = .ok (.iload_n 1, 1) := by decide +kernel
theorem dX11_cheapestEviction_9 : decode cX11_cheapestEviction 9 = .ok (.invokevirtual 115, 3) := by decide +kernel
theorem dX11_cheapestEviction_12 : decode cX11_cheapestEviction 12 = .ok (.aload_n 0, 1) := by decide +kernel
theorem dX11_cheapestEviction_13 : decode cX11_cheapestEviction 13 = .ok (.aload_n 0, 1) := by decide +kernel
theorem dX11_cheapestEviction_14 : decode cX11_cheapestEviction 14 = .ok (.getfield 19, 3) := by decide +kernel
theorem dX11_cheapestEviction_17 : decode cX11_cheapestEviction 17 = .ok (.getfield 132, 3) := by decide +kernel
theorem dX11_cheapestEviction_20 : decode cX11_cheapestEviction 20 = .ok (.iload_n 2, 1) := by decide +kernel
theorem dX11_cheapestEviction_21 : decode cX11_cheapestEviction 21 = .ok (.invokevirtual 115, 3) := by decide +kernel
theorem dX11_cheapestEviction_24 : decode cX11_cheapestEviction 24 = .ok (.aload_n 0, 1) := by decide +kernel
theorem dX11_cheapestEviction_25 : decode cX11_cheapestEviction 25 = .ok (.getfield 57, 3) := by decide +kernel
theorem dX11_cheapestEviction_28 : decode cX11_cheapestEviction 28 = .ok (.aload_n 0, 1) := by decide +kernel
theorem dX11_cheapestEviction_29 : decode cX11_cheapestEviction 29 = .ok (.getfield 19, 3) := by decide +kernel
theorem dX11_cheapestEviction_32 : decode cX11_cheapestEviction 32 = .ok (.aload_n 0, 1) := by decide +kernel
theorem dX11_cheapestEviction_33 : decode cX11_cheapestEviction 33 = .ok (.getfield 26, 3) := by decide +kernel
theorem dX11_cheapestEviction_36 : decode cX11_cheapestEviction 36 = .ok (.iload_n 1, 1) := by decide +kernel
theorem dX11_cheapestEviction_37 : decode cX11_cheapestEviction 37 = .ok (.iload_n 2, 1) := by decide +kernel
theorem dX11_cheapestEviction_38 : decode cX11_cheapestEviction 38 = .ok (.invokevirtual 209, 3) := by decide +kernel
theorem dX11_cheapestEviction_41 : decode cX11_cheapestEviction 41 = .ok (.ireturn, 1) := by decide +kernel
theorem dX11_migrationCost_0 : decode cX11_migrationCost 0 = .ok (.aload_n 0, 1) := by decide +kernel
theorem dX11_migrationCost_1 : decode cX11_migrationCost 1 = .ok (.iload_n 1, 1) := by decide +kernel
theorem dX11_migrationCost_2 : decode cX11_migrationCost 2 = .ok (.invokevirtual 152, 3) := by decide +kernel
theorem dX11_migrationCost_5 : decode cX11_migrationCost 5 = .ok (.aload_n 0, 1) := by decide +kernel
theorem dX11_migrationCost_6 : decode cX11_migrationCost 6 = .ok (.getfield 26, 3) := by decide +kernel
theorem dX11_migrationCost_9 : decode cX11_migrationCost 9 = .ok (.aload_n 0, 1) := by decide +kernel
theorem dX11_migrationCost_10 : decode cX11_migrationCost 10 = .ok (.getfield 19, 3) := by decide +kernel
theorem dX11_migrationCost_13 : decode cX11_migrationCost 13 = .ok (.iload_n 1, 1) := by decide +kernel
theorem dX11_migrationCost_14 : decode cX11_migrationCost 14 = .ok (.invokevirtual 213, 3) := by decide +kernel
theorem dX11_migrationCost_17 : decode cX11_migrationCost 17 = .ok (.ireturn, 1) := by decide +kernel
theorem dX11_drainTo_0 : decode cX11_drainTo 0 = .ok (.aload_n 0, 1) := by decide +kernel
theorem dX11_drainTo_1 : decode cX11_drainTo 1 = .ok (.aload_n 0, 1) := by decide +kernel
theorem dX11_drainTo_2 : decode cX11_drainTo 2 = .ok (.getfield 19, 3) := by decide +kernel
theorem dX11_drainTo_5 : decode cX11_drainTo 5 = .ok (.getfield 103, 3) := by decide +kernel
theorem dX11_drainTo_8 : decode cX11_drainTo 8 = .ok (.iload_n 1, 1) := by decide +kernel
theorem dX11_drainTo_9 : decode cX11_drainTo 9 = .ok (.invokevirtual 115, 3) := by decide +kernel
theorem dX11_drainTo_12 : decode cX11_drainTo 12 = .ok (.aload_n 0, 1) := by decide +kernel
theorem dX11_drainTo_13 : decode cX11_drainTo 13 = .ok (.iload_n 2, 1) := by decide +kernel
theorem dX11_drainTo_14 : decode cX11_drainTo 14 = .ok (.invokevirtual 152, 3) := by decide +kernel
theorem dX11_drainTo_17 : decode cX11_drainTo 17 = .ok (.aload_n 0, 1) := by decide +kernel
theorem dX11_drainTo_18 : decode cX11_drainTo 18 = .ok (.getfield 26, 3) := by decide +kernel
theorem dX11_drainTo_21 : decode cX11_drainTo 21 = .ok (.getfield 155, 3) := by decide +kernel
theorem dX11_drainTo_24 : decode cX11_drainTo 24 = .ok (.iload_n 2, 1) := by decide +kernel
theorem dX11_drainTo_25 : decode cX11_drainTo 25 = .ok (.iconst 3, 1) := by decide +kernel
theorem dX11_drainTo_26 : decode cX11_drainTo 26 = .ok (.invokevirtual 138, 3) := by decide +kernel
theorem dX11_drainTo_29 : decode cX11_drainTo 29 = .ok (.iload_n 1, 1) := by decide +kernel
theorem dX11_drainTo_30 : decode cX11_drainTo 30 = .ok (.if_icmp .eq 13, 3) := by decide +kernel
theorem dX11_drainTo_33 : decode cX11_drainTo 33 = .ok (.new 216, 3) := by decide +kernel
theorem dX11_drainTo_36 : decode cX11_drainTo 36 = .ok (.dup, 1) := by decide +kernel
theorem dX11_drainTo_37 : decode cX11_drainTo 37 = .ok (.ldc 218, 2) := by decide +kernel
theorem dX11_drainTo_39 : decode cX11_drainTo 39 = .ok (.invokespecial 220, 3) := by decide +kernel
theorem dX11_drainTo_42 : decode cX11_drainTo 42 = .ok (.athrow, 1) := by decide +kernel
theorem dX11_drainTo_43 : decode cX11_drainTo 43 = .ok (.aload_n 0, 1) := by decide +kernel
theorem dX11_drainTo_44 : decode cX11_drainTo 44 = .ok (.getfield 26, 3) := by decide +kernel
theorem dX11_drainTo_47 : decode cX11_drainTo 47 = .ok (.iload_n 1, 1) := by decide +kernel
theorem dX11_drainTo_48 : decode cX11_drainTo 48 = .ok (.invokevirtual 123, 3) := by decide +kernel
theorem dX11_drainTo_51 : decode cX11_drainTo 51 = .ok (.invokestatic 221, 3) := by decide +kernel
theorem dX11_drainTo_54 : decode cX11_drainTo 54 = .ok (.iconst 5, 1) := by decide +kernel
theorem dX11_drainTo_55 : decode cX11_drainTo 55 = .ok (.if_icmp .le 13, 3) := by decide +kernel
theorem dX11_drainTo_58 : decode cX11_drainTo 58 = .ok (.new 216, 3) := by decide +kernel
theorem dX11_drainTo_61 : decode cX11_drainTo 61 = .ok (.dup, 1) := by decide +kernel
theorem dX11_drainTo_62 : decode cX11_drainTo 62 = .ok (.ldc 226, 2) := by decide +kernel
theorem dX11_drainTo_64 : decode cX11_drainTo 64 = .ok (.invokespecial 220, 3) := by decide +kernel
theorem dX11_drainTo_67 : decode cX11_drainTo 67 = .ok (.athrow, 1) := by decide +kernel
theorem dX11_drainTo_68 : decode cX11_drainTo 68 = .ok (.aload_n 0, 1) := by decide +kernel
theorem dX11_drainTo_69 : decode cX11_drainTo 69 = .ok (.getfield 64, 3) := by decide +kernel
theorem dX11_drainTo_72 : decode cX11_drainTo 72 = .ok (.aload_n 0, 1) := by decide +kernel
theorem dX11_drainTo_73 : decode cX11_drainTo 73 = .ok (.getfield 19, 3) := by decide +kernel
theorem dX11_drainTo_76 : decode cX11_drainTo 76 = .ok (.aload_n 0, 1) := by decide +kernel
theorem dX11_drainTo_77 : decode cX11_drainTo 77 = .ok (.getfield 26, 3) := by decide +kernel
theorem dX11_drainTo_80 : decode cX11_drainTo 80 = .ok (.iload_n 1, 1) := by decide +kernel
theorem dX11_drainTo_81 : decode cX11_drainTo 81 = .ok (.invokevirtual 228, 3) := by decide +kernel
theorem dX11_drainTo_84 : decode cX11_drainTo 84 = .ok (.ifCond .eq 14, 3) := by decide +kernel
theorem dX11_drainTo_87 : decode cX11_drainTo 87 = .ok (.aload_n 0, 1) := by decide +kernel
theorem dX11_drainTo_88 : decode cX11_drainTo 88 = .ok (.getfield 64, 3) := by decide +kernel
theorem dX11_drainTo_91 : decode cX11_drainTo 91 = .ok (.iload_n 2, 1) := by decide +kernel
theorem dX11_drainTo_92 : decode cX11_drainTo 92 = .ok (.invokevirtual 232, 3) := by decide +kernel
theorem dX11_drainTo_95 : decode cX11_drainTo 95 = .ok (.goto 4, 3) := by decide +kernel
theorem dX11_drainTo_98 : decode cX11_drainTo 98 = .ok (.iconst (-1), 1) := by decide +kernel
theorem dX11_drainTo_99 : decode cX11_drainTo 99 = .ok (.ireturn, 1) := by decide +kernel
theorem dX11_priceAfter_0 : decode cX11_priceAfter 0 = .ok (.aload_n 0, 1) := by decide +kernel
theorem dX11_priceAfter_1 : decode cX11_priceAfter 1 = .ok (.aload_n 0, 1) := by decide +kernel
theorem dX11_priceAfter_2 : decode cX11_priceAfter 2 = .ok (.getfield 19, 3) := by decide +kernel
theorem dX11_priceAfter_5 : decode cX11_priceAfter 5 = .ok (.getfield 132, 3) := by decide +kernel
theorem dX11_priceAfter_8 : decode cX11_priceAfter 8 = .ok (.iload_n 1, 1) := by decide +kernel
theorem dX11_priceAfter_9 : decode cX11_priceAfter 9 = .ok (.invokevirtual 115, 3) := by decide +kernel
theorem dX11_priceAfter_12 : decode cX11_priceAfter 12 = .ok (.iload_n 2, 1) := by decide +kernel
theorem dX11_priceAfter_13 : decode cX11_priceAfter 13 = .ok (.ifCond .lt 10, 3) := by decide +kernel
theorem dX11_priceAfter_16 : decode cX11_priceAfter 16 = .ok (.iload_n 2, 1) := by decide +kernel
theorem dX11_priceAfter_17 : decode cX11_priceAfter 17 = .ok (.sipush 200, 3) := by decide +kernel
theorem dX11_priceAfter_20 : decode cX11_priceAfter 20 = .ok (.if_icmp .le 13, 3) := by decide +kernel
theorem dX11_priceAfter_23 : decode cX11_priceAfter 23 = .ok (.new 76, 3) := by decide +kernel
theorem dX11_priceAfter_26 : decode cX11_priceAfter 26 = .ok (.dup, 1) := by decide +kernel
theorem dX11_priceAfter_27 : decode cX11_priceAfter 27 = .ok (.ldc 235, 2) := by decide +kernel
theorem dX11_priceAfter_29 : decode cX11_priceAfter 29 = .ok (.invokespecial 80, 3) := by decide +kernel
theorem dX11_priceAfter_32 : decode cX11_priceAfter 32 = .ok (.athrow, 1) := by decide +kernel
theorem dX11_priceAfter_33 : decode cX11_priceAfter 33 = .ok (.aload_n 0, 1) := by decide +kernel
theorem dX11_priceAfter_34 : decode cX11_priceAfter 34 = .ok (.getfield 30, 3) := by decide +kernel
theorem dX11_priceAfter_37 : decode cX11_priceAfter 37 = .ok (.aload_n 0, 1) := by decide +kernel
theorem dX11_priceAfter_38 : decode cX11_priceAfter 38 = .ok (.getfield 26, 3) := by decide +kernel
theorem dX11_priceAfter_41 : decode cX11_priceAfter 41 = .ok (.invokevirtual 237, 3) := by decide +kernel
theorem dX11_priceAfter_44 : decode cX11_priceAfter 44 = .ok (.iconst 0, 1) := by decide +kernel
theorem dX11_priceAfter_45 : decode cX11_priceAfter 45 = .ok (.istore_n 3, 1) := by decide +kernel
theorem dX11_priceAfter_46 : decode cX11_priceAfter 46 = .ok (.iload_n 3, 1) := by decide +kernel
theorem dX11_priceAfter_47 : decode cX11_priceAfter 47 = .ok (.iload_n 2, 1) := by decide +kernel
theorem dX11_priceAfter_48 : decode cX11_priceAfter 48 = .ok (.if_icmp .ge 21, 3) := by decide +kernel
theorem dX11_priceAfter_51 : decode cX11_priceAfter 51 = .ok (.aload_n 0, 1) := by decide +kernel
theorem dX11_priceAfter_52 : decode cX11_priceAfter 52 = .ok (.getfield 30, 3) := by decide +kernel
theorem dX11_priceAfter_55 : decode cX11_priceAfter 55 = .ok (.aload_n 0, 1) := by decide +kernel
theorem dX11_priceAfter_56 : decode cX11_priceAfter 56 = .ok (.getfield 19, 3) := by decide +kernel
theorem dX11_priceAfter_59 : decode cX11_priceAfter 59 = .ok (.invokevirtual 240, 3) := by decide +kernel
theorem dX11_priceAfter_62 : decode cX11_priceAfter 62 = .ok (.pop, 1) := by decide +kernel
theorem dX11_priceAfter_63 : decode cX11_priceAfter 63 = .ok (.iinc 3 1, 3) := by decide +kernel
theorem dX11_priceAfter_66 : decode cX11_priceAfter 66 = .ok (.goto (-20), 3) := by decide +kernel
theorem dX11_priceAfter_69 : decode cX11_priceAfter 69 = .ok (.aload_n 0, 1) := by decide +kernel
theorem dX11_priceAfter_70 : decode cX11_priceAfter 70 = .ok (.getfield 30, 3) := by decide +kernel
theorem dX11_priceAfter_73 : decode cX11_priceAfter 73 = .ok (.getfield 135, 3) := by decide +kernel
theorem dX11_priceAfter_76 : decode cX11_priceAfter 76 = .ok (.iload_n 1, 1) := by decide +kernel
theorem dX11_priceAfter_77 : decode cX11_priceAfter 77 = .ok (.iconst 0, 1) := by decide +kernel
theorem dX11_priceAfter_78 : decode cX11_priceAfter 78 = .ok (.invokevirtual 138, 3) := by decide +kernel
theorem dX11_priceAfter_81 : decode cX11_priceAfter 81 = .ok (.ireturn, 1) := by decide +kernel
theorem dX11_evictedAfter_0 : decode cX11_evictedAfter 0 = .ok (.aload_n 0, 1) := by decide +kernel
theorem dX11_evictedAfter_1 : decode cX11_evictedAfter 1 = .ok (.iload_n 1, 1) := by decide +kernel
theorem dX11_evictedAfter_2 : decode cX11_evictedAfter 2 = .ok (.invokevirtual 152, 3) := by decide +kernel
theorem dX11_evictedAfter_5 : decode cX11_evictedAfter 5 = .ok (.aload_n 0, 1) := by decide +kernel
theorem dX11_evictedAfter_6 : decode cX11_evictedAfter 6 = .ok (.getfield 30, 3) := by decide +kernel
theorem dX11_evictedAfter_9 : decode cX11_evictedAfter 9 = .ok (.aload_n 0, 1) := by decide +kernel
theorem dX11_evictedAfter_10 : decode cX11_evictedAfter 10 = .ok (.getfield 26, 3) := by decide +kernel
theorem dX11_evictedAfter_13 : decode cX11_evictedAfter 13 = .ok (.invokevirtual 237, 3) := by decide +kernel
theorem dX11_evictedAfter_16 : decode cX11_evictedAfter 16 = .ok (.iconst 1, 1) := by decide +kernel
theorem dX11_evictedAfter_17 : decode cX11_evictedAfter 17 = .ok (.istore_n 2, 1) := by decide +kernel
theorem dX11_evictedAfter_18 : decode cX11_evictedAfter 18 = .ok (.iload_n 2, 1) := by decide +kernel
theorem dX11_evictedAfter_19 : decode cX11_evictedAfter 19 = .ok (.sipush 200, 3) := by decide +kernel
theorem dX11_evictedAfter_22 : decode cX11_evictedAfter 22 = .ok (.if_icmp .gt 29, 3) := by decide +kernel
theorem dX11_evictedAfter_25 : decode cX11_evictedAfter 25 = .ok (.aload_n 0, 1) := by decide +kernel
theorem dX11_evictedAfter_26 : decode cX11_evictedAfter 26 = .ok (.getfield 30, 3) := by decide +kernel
theorem dX11_evictedAfter_29 : decode cX11_evictedAfter 29 = .ok (.aload_n 0, 1) := by decide +kernel
theorem dX11_evictedAfter_30 : decode cX11_evictedAfter 30 = .ok (.getfield 19, 3) := by decide +kernel
theorem dX11_evictedAfter_33 : decode cX11_evictedAfter 33 = .ok (.invokevirtual 240, 3) := by decide +kernel
theorem dX11_evictedAfter_36 : decode cX11_evictedAfter 36 = .ok (.iload_n 1, 1) := by decide +kernel
theorem dX11_evictedAfter_37 : decode cX11_evictedAfter 37 = .ok (.ishr, 1) := by decide +kernel
theorem dX11_evictedAfter_38 : decode cX11_evictedAfter 38 = .ok (.iconst 1, 1) := by decide +kernel
theorem dX11_evictedAfter_39 : decode cX11_evictedAfter 39 = .ok (.iand, 1) := by decide +kernel
theorem dX11_evictedAfter_40 : decode cX11_evictedAfter 40 = .ok (.ifCond .eq 5, 3) := by decide +kernel
theorem dX11_evictedAfter_43 : decode cX11_evictedAfter 43 = .ok (.iload_n 2, 1) := by decide +kernel
theorem dX11_evictedAfter_44 : decode cX11_evictedAfter 44 = .ok (.ireturn, 1) := by decide +kernel
theorem dX11_evictedAfter_45 : decode cX11_evictedAfter 45 = .ok (.iinc 2 1, 3) := by decide +kernel
theorem dX11_evictedAfter_48 : decode cX11_evictedAfter 48 = .ok (.goto (-30), 3) := by decide +kernel
theorem dX11_evictedAfter_51 : decode cX11_evictedAfter 51 = .ok (.iconst (-1), 1) := by decide +kernel
theorem dX11_evictedAfter_52 : decode cX11_evictedAfter 52 = .ok (.ireturn, 1) := by decide +kernel
theorem dX11_pass_0 : decode cX11_pass 0 = .ok (.iload_n 1, 1) := by decide +kernel
theorem dX11_pass_1 : decode cX11_pass 1 = .ok (.iconst 1, 1) := by decide +kernel
theorem dX11_pass_2 : decode cX11_pass 2 = .ok (.if_icmp .lt 10, 3) := by decide +kernel
theorem dX11_pass_5 : decode cX11_pass 5 = .ok (.iload_n 1, 1) := by decide +kernel
theorem dX11_pass_6 : decode cX11_pass 6 = .ok (.sipush 500, 3) := by decide +kernel
theorem dX11_pass_9 : decode cX11_pass 9 = .ok (.if_icmp .le 13, 3) := by decide +kernel
theorem dX11_pass_12 : decode cX11_pass 12 = .ok (.new 76, 3) := by decide +kernel
theorem dX11_pass_15 : decode cX11_pass 15 = .ok (.dup, 1) := by decide +kernel
theorem dX11_pass_16 : decode cX11_pass 16 = .ok (.ldc 235, 2) := by decide +kernel
theorem dX11_pass_18 : decode cX11_pass 18 = .ok (.invokespecial 80, 3) := by decide +kernel
theorem dX11_pass_21 : decode cX11_pass 21 = .ok (.athrow, 1) := by decide +kernel
theorem dX11_pass_22 : decode cX11_pass 22 = .ok (.aload_n 0, 1) := by decide +kernel
theorem dX11_pass_23 : decode cX11_pass 23 = .ok (.getfield 26, 3) := by decide +kernel
theorem dX11_pass_26 : decode cX11_pass 26 = .ok (.getfield 112, 3) := by decide +kernel
theorem dX11_pass_29 : decode cX11_pass 29 = .ok (.iload_n 1, 1) := by decide +kernel
theorem dX11_pass_30 : decode cX11_pass 30 = .ok (.iadd, 1) := by decide +kernel
theorem dX11_pass_31 : decode cX11_pass 31 = .ok (.sipush 9999, 3) := by decide +kernel
theorem dX11_pass_34 : decode cX11_pass 34 = .ok (.if_icmp .le 13, 3) := by decide +kernel
theorem dX11_pass_37 : decode cX11_pass 37 = .ok (.new 216, 3) := by decide +kernel
theorem dX11_pass_40 : decode cX11_pass 40 = .ok (.dup, 1) := by decide +kernel
theorem dX11_pass_41 : decode cX11_pass 41 = .ok (.ldc 244, 2) := by decide +kernel
theorem dX11_pass_43 : decode cX11_pass 43 = .ok (.invokespecial 220, 3) := by decide +kernel
theorem dX11_pass_46 : decode cX11_pass 46 = .ok (.athrow, 1) := by decide +kernel
theorem dX11_pass_47 : decode cX11_pass 47 = .ok (.aload_n 0, 1) := by decide +kernel
theorem dX11_pass_48 : decode cX11_pass 48 = .ok (.getfield 36, 3) := by decide +kernel
theorem dX11_pass_51 : decode cX11_pass 51 = .ok (.aload_n 0, 1) := by decide +kernel
theorem dX11_pass_52 : decode cX11_pass 52 = .ok (.getfield 26, 3) := by decide +kernel
theorem dX11_pass_55 : decode cX11_pass 55 = .ok (.invokevirtual 246, 3) := by decide +kernel
theorem dX11_pass_58 : decode cX11_pass 58 = .ok (.iconst 0, 1) := by decide +kernel
theorem dX11_pass_59 : decode cX11_pass 59 = .ok (.istore_n 2, 1) := by decide +kernel
theorem dX11_pass_60 : decode cX11_pass 60 = .ok (.iconst 0, 1) := by decide +kernel
theorem dX11_pass_61 : decode cX11_pass 61 = .ok (.istore_n 3, 1) := by decide +kernel
theorem dX11_pass_62 : decode cX11_pass 62 = .ok (.iload_n 3, 1) := by decide +kernel
theorem dX11_pass_63 : decode cX11_pass 63 = .ok (.iload_n 1, 1) := by decide +kernel
theorem dX11_pass_64 : decode cX11_pass 64 = .ok (.if_icmp .ge 52, 3) := by decide +kernel
theorem dX11_pass_67 : decode cX11_pass 67 = .ok (.aload_n 0, 1) := by decide +kernel
theorem dX11_pass_68 : decode cX11_pass 68 = .ok (.getfield 43, 3) := by decide +kernel
theorem dX11_pass_71 : decode cX11_pass 71 = .ok (.aload_n 0, 1) := by decide +kernel
theorem dX11_pass_72 : decode cX11_pass 72 = .ok (.getfield 19, 3) := by decide +kernel
theorem dX11_pass_75 : decode cX11_pass 75 = .ok (.aload_n 0, 1) := by decide +kernel
theorem dX11_pass_76 : decode cX11_pass 76 = .ok (.getfield 26, 3) := by decide +kernel
theorem dX11_pass_79 : decode cX11_pass 79 = .ok (.invokevirtual 172, 3) := by decide +kernel
theorem dX11_pass_82 : decode cX11_pass 82 = .ok (.aload_n 0, 1) := by decide +kernel
theorem dX11_pass_83 : decode cX11_pass 83 = .ok (.getfield 43, 3) := by decide +kernel
theorem dX11_pass_86 : decode cX11_pass 86 = .ok (.aload_n 0, 1) := by decide +kernel
theorem dX11_pass_87 : decode cX11_pass 87 = .ok (.getfield 26, 3) := by decide +kernel
theorem dX11_pass_90 : decode cX11_pass 90 = .ok (.invokevirtual 249, 3) := by decide +kernel
theorem dX11_pass_93 : decode cX11_pass 93 = .ok (.iload_n 2, 1) := by decide +kernel
theorem dX11_pass_94 : decode cX11_pass 94 = .ok (.aload_n 0, 1) := by decide +kernel
theorem dX11_pass_95 : decode cX11_pass 95 = .ok (.getfield 26, 3) := by decide +kernel
theorem dX11_pass_98 : decode cX11_pass 98 = .ok (.aload_n 0, 1) := by decide +kernel
theorem dX11_pass_99 : decode cX11_pass 99 = .ok (.getfield 19, 3) := by decide +kernel
theorem dX11_pass_102 : decode cX11_pass 102 = .ok (.invokevirtual 240, 3) := by decide +kernel
theorem dX11_pass_105 : decode cX11_pass 105 = .ok (.invokestatic 221, 3) := by decide +kernel
theorem dX11_pass_108 : decode cX11_pass 108 = .ok (.iadd, 1) := by decide +kernel
theorem dX11_pass_109 : decode cX11_pass 109 = .ok (.istore_n 2, 1) := by decide +kernel
theorem dX11_pass_110 : decode cX11_pass 110 = .ok (.iinc 3 1, 3) := by decide +kernel
theorem dX11_pass_113 : decode cX11_pass 113 = .ok (.goto (-51), 3) := by decide +kernel
theorem dX11_pass_116 : decode cX11_pass 116 = .ok (.iload_n 2, 1) := by decide +kernel
theorem dX11_pass_117 : decode cX11_pass 117 = .ok (.ireturn, 1) := by decide +kernel
theorem dX11_needBudget_0 : decode cX11_needBudget 0 = .ok (.aload_n 0, 1) := by decide +kernel
theorem dX11_needBudget_1 : decode cX11_needBudget 1 = .ok (.getfield 26, 3) := by decide +kernel
theorem dX11_needBudget_4 : decode cX11_needBudget 4 = .ok (.aload_n 0, 1) := by decide +kernel
theorem dX11_needBudget_5 : decode cX11_needBudget 5 = .ok (.getfield 19, 3) := by decide +kernel
theorem dX11_needBudget_8 : decode cX11_needBudget 8 = .ok (.iload_n 1, 1) := by decide +kernel
theorem dX11_needBudget_9 : decode cX11_needBudget 9 = .ok (.invokevirtual 191, 3) := by decide +kernel
theorem dX11_needBudget_12 : decode cX11_needBudget 12 = .ok (.ifCond .eq 14, 3) := by decide +kernel
theorem dX11_needBudget_15 : decode cX11_needBudget 15 = .ok (.new 216, 3) := by decide +kernel
theorem dX11_needBudget_18 : decode cX11_needBudget 18 = .ok (.dup, 1) := by decide +kernel
theorem dX11_needBudget_19 : decode cX11_needBudget 19 = .ok (.ldc_w 340, 3) := by decide +kernel
theorem dX11_needBudget_22 : decode cX11_needBudget 22 = .ok (.invokespecial 220, 3) := by decide +kernel
theorem dX11_needBudget_25 : decode cX11_needBudget 25 = .ok (.athrow, 1) := by decide +kernel
theorem dX11_needBudget_26 : decode cX11_needBudget 26 = .ok (.return_, 1) := by decide +kernel
theorem dX11_launch_0 : decode cX11_launch 0 = .ok (.aload_n 0, 1) := by decide +kernel
theorem dX11_launch_1 : decode cX11_launch 1 = .ok (.aload_n 0, 1) := by decide +kernel
theorem dX11_launch_2 : decode cX11_launch 2 = .ok (.getfield 19, 3) := by decide +kernel
theorem dX11_launch_5 : decode cX11_launch 5 = .ok (.getfield 165, 3) := by decide +kernel
theorem dX11_launch_8 : decode cX11_launch 8 = .ok (.iload_n 1, 1) := by decide +kernel
theorem dX11_launch_9 : decode cX11_launch 9 = .ok (.invokevirtual 115, 3) := by decide +kernel
theorem dX11_launch_12 : decode cX11_launch 12 = .ok (.aload_n 0, 1) := by decide +kernel
theorem dX11_launch_13 : decode cX11_launch 13 = .ok (.aload_n 0, 1) := by decide +kernel
theorem dX11_launch_14 : decode cX11_launch 14 = .ok (.getfield 19, 3) := by decide +kernel
theorem dX11_launch_17 : decode cX11_launch 17 = .ok (.getfield 132, 3) := by decide +kernel
theorem dX11_launch_20 : decode cX11_launch 20 = .ok (.iload_n 2, 1) := by decide +kernel
theorem dX11_launch_21 : decode cX11_launch 21 = .ok (.invokevirtual 115, 3) := by decide +kernel
theorem dX11_launch_24 : decode cX11_launch 24 = .ok (.aload_n 0, 1) := by decide +kernel
theorem dX11_launch_25 : decode cX11_launch 25 = .ok (.iload_n 1, 1) := by decide +kernel
theorem dX11_launch_26 : decode cX11_launch 26 = .ok (.invokevirtual 252, 3) := by decide +kernel
theorem dX11_launch_29 : decode cX11_launch 29 = .ok (.aload_n 0, 1) := by decide +kernel
theorem dX11_launch_30 : decode cX11_launch 30 = .ok (.getfield 26, 3) := by decide +kernel
theorem dX11_launch_33 : decode cX11_launch 33 = .ok (.invokevirtual 255, 3) := by decide +kernel
theorem dX11_launch_36 : decode cX11_launch 36 = .ok (.ifCond .eq 14, 3) := by decide +kernel
theorem dX11_launch_39 : decode cX11_launch 39 = .ok (.new 216, 3) := by decide +kernel
theorem dX11_launch_42 : decode cX11_launch 42 = .ok (.dup, 1) := by decide +kernel
theorem dX11_launch_43 : decode cX11_launch 43 = .ok (.ldc_w 259, 3) := by decide +kernel
theorem dX11_launch_46 : decode cX11_launch 46 = .ok (.invokespecial 220, 3) := by decide +kernel
theorem dX11_launch_49 : decode cX11_launch 49 = .ok (.athrow, 1) := by decide +kernel
theorem dX11_launch_50 : decode cX11_launch 50 = .ok (.aload_n 0, 1) := by decide +kernel
theorem dX11_launch_51 : decode cX11_launch 51 = .ok (.getfield 26, 3) := by decide +kernel
theorem dX11_launch_54 : decode cX11_launch 54 = .ok (.aload_n 0, 1) := by decide +kernel
theorem dX11_launch_55 : decode cX11_launch 55 = .ok (.getfield 19, 3) := by decide +kernel
theorem dX11_launch_58 : decode cX11_launch 58 = .ok (.iload_n 2, 1) := by decide +kernel
theorem dX11_launch_59 : decode cX11_launch 59 = .ok (.invokevirtual 142, 3) := by decide +kernel
theorem dX11_launch_62 : decode cX11_launch 62 = .ok (.istore_n 3, 1) := by decide +kernel
theorem dX11_launch_63 : decode cX11_launch 63 = .ok (.iload_n 3, 1) := by decide +kernel
theorem dX11_launch_64 : decode cX11_launch 64 = .ok (.iconst (-1), 1) := by decide +kernel
theorem dX11_launch_65 : decode cX11_launch 65 = .ok (.if_icmp .ne 14, 3) := by decide +kernel
theorem dX11_launch_68 : decode cX11_launch 68 = .ok (.new 216, 3) := by decide +kernel
theorem dX11_launch_71 : decode cX11_launch 71 = .ok (.dup, 1) := by decide +kernel
theorem dX11_launch_72 : decode cX11_launch 72 = .ok (.ldc_w 261, 3) := by decide +kernel
theorem dX11_launch_75 : decode cX11_launch 75 = .ok (.invokespecial 220, 3) := by decide +kernel
theorem dX11_launch_78 : decode cX11_launch 78 = .ok (.athrow, 1) := by decide +kernel
theorem dX11_launch_79 : decode cX11_launch 79 = .ok (.aload_n 0, 1) := by decide +kernel
theorem dX11_launch_80 : decode cX11_launch 80 = .ok (.getfield 36, 3) := by decide +kernel
theorem dX11_launch_83 : decode cX11_launch 83 = .ok (.aload_n 0, 1) := by decide +kernel
theorem dX11_launch_84 : decode cX11_launch 84 = .ok (.getfield 26, 3) := by decide +kernel
theorem dX11_launch_87 : decode cX11_launch 87 = .ok (.invokevirtual 246, 3) := by decide +kernel
theorem dX11_launch_90 : decode cX11_launch 90 = .ok (.aload_n 0, 1) := by decide +kernel
theorem dX11_launch_91 : decode cX11_launch 91 = .ok (.getfield 26, 3) := by decide +kernel
theorem dX11_launch_94 : decode cX11_launch 94 = .ok (.aload_n 0, 1) := by decide +kernel
theorem dX11_launch_95 : decode cX11_launch 95 = .ok (.getfield 19, 3) := by decide +kernel
theorem dX11_launch_98 : decode cX11_launch 98 = .ok (.iload_n 1, 1) := by decide +kernel
theorem dX11_launch_99 : decode cX11_launch 99 = .ok (.iload_n 2, 1) := by decide +kernel
theorem dX11_launch_100 : decode cX11_launch 100 = .ok (.iconst (-1), 1) := by decide +kernel
theorem dX11_launch_101 : decode cX11_launch 101 = .ok (.iload_n 3, 1) := by decide +kernel
theorem dX11_launch_102 : decode cX11_launch 102 = .ok (.invokevirtual 263, 3) := by decide +kernel
theorem dX11_launch_105 : decode cX11_launch 105 = .ok (.ireturn, 1) := by decide +kernel
theorem dX11_bid_0 : decode cX11_bid 0 = .ok (.aload_n 0, 1) := by decide +kernel
theorem dX11_bid_1 : decode cX11_bid 1 = .ok (.aload_n 0, 1) := by decide +kernel
theorem dX11_bid_2 : decode cX11_bid 2 = .ok (.getfield 19, 3) := by decide +kernel
theorem dX11_bid_5 : decode cX11_bid 5 = .ok (.getfield 165, 3) := by decide +kernel
theorem dX11_bid_8 : decode cX11_bid 8 = .ok (.iload_n 1, 1) := by decide +kernel
theorem dX11_bid_9 : decode cX11_bid 9 = .ok (.invokevirtual 115, 3) := by decide +kernel
theorem dX11_bid_12 : decode cX11_bid 12 = .ok (.aload_n 0, 1) := by decide +kernel
theorem dX11_bid_13 : decode cX11_bid 13 = .ok (.aload_n 0, 1) := by decide +kernel
theorem dX11_bid_14 : decode cX11_bid 14 = .ok (.getfield 19, 3) := by decide +kernel
theorem dX11_bid_17 : decode cX11_bid 17 = .ok (.getfield 132, 3) := by decide +kernel
theorem dX11_bid_20 : decode cX11_bid 20 = .ok (.iload_n 2, 1) := by decide +kernel
theorem dX11_bid_21 : decode cX11_bid 21 = .ok (.invokevirtual 115, 3) := by decide +kernel
theorem dX11_bid_24 : decode cX11_bid 24 = .ok (.iload_n 3, 1) := by decide +kernel
theorem dX11_bid_25 : decode cX11_bid 25 = .ok (.iconst 1, 1) := by decide +kernel
theorem dX11_bid_26 : decode cX11_bid 26 = .ok (.if_icmp .lt 10, 3) := by decide +kernel
theorem dX11_bid_29 : decode cX11_bid 29 = .ok (.iload_n 3, 1) := by decide +kernel
theorem dX11_bid_30 : decode cX11_bid 30 = .ok (.sipush 9999, 3) := by decide +kernel
theorem dX11_bid_33 : decode cX11_bid 33 = .ok (.if_icmp .le 14, 3) := by decide +kernel
theorem dX11_bid_36 : decode cX11_bid 36 = .ok (.new 76, 3) := by decide +kernel
theorem dX11_bid_39 : decode cX11_bid 39 = .ok (.dup, 1) := by decide +kernel
theorem dX11_bid_40 : decode cX11_bid 40 = .ok (.ldc_w 267, 3) := by decide +kernel
theorem dX11_bid_43 : decode cX11_bid 43 = .ok (.invokespecial 80, 3) := by decide +kernel
theorem dX11_bid_46 : decode cX11_bid 46 = .ok (.athrow, 1) := by decide +kernel
theorem dX11_bid_47 : decode cX11_bid 47 = .ok (.aload_n 0, 1) := by decide +kernel
theorem dX11_bid_48 : decode cX11_bid 48 = .ok (.iload_n 1, 1) := by decide +kernel
theorem dX11_bid_49 : decode cX11_bid 49 = .ok (.invokevirtual 252, 3) := by decide +kernel
theorem dX11_bid_52 : decode cX11_bid 52 = .ok (.aload_n 0, 1) := by decide +kernel
theorem dX11_bid_53 : decode cX11_bid 53 = .ok (.getfield 26, 3) := by decide +kernel
theorem dX11_bid_56 : decode cX11_bid 56 = .ok (.getfield 158, 3) := by decide +kernel
theorem dX11_bid_59 : decode cX11_bid 59 = .ok (.invokevirtual 269, 3) := by decide +kernel
theorem dX11_bid_62 : decode cX11_bid 62 = .ok (.ifCond .eq 14, 3) := by decide +kernel
theorem dX11_bid_65 : decode cX11_bid 65 = .ok (.new 216, 3) := by decide +kernel
theorem dX11_bid_68 : decode cX11_bid 68 = .ok (.dup, 1) := by decide +kernel
theorem dX11_bid_69 : decode cX11_bid 69 = .ok (.ldc_w 270, 3) := by decide +kernel
theorem dX11_bid_72 : decode cX11_bid 72 = .ok (.invokespecial 220, 3) := by decide +kernel
theorem dX11_bid_75 : decode cX11_bid 75 = .ok (.athrow, 1) := by decide +kernel
theorem dX11_bid_76 : decode cX11_bid 76 = .ok (.aload_n 0, 1) := by decide +kernel
theorem dX11_bid_77 : decode cX11_bid 77 = .ok (.getfield 36, 3) := by decide +kernel
theorem dX11_bid_80 : decode cX11_bid 80 = .ok (.aload_n 0, 1) := by decide +kernel
theorem dX11_bid_81 : decode cX11_bid 81 = .ok (.getfield 26, 3) := by decide +kernel
theorem dX11_bid_84 : decode cX11_bid 84 = .ok (.invokevirtual 246, 3) := by decide +kernel
theorem dX11_bid_87 : decode cX11_bid 87 = .ok (.aload_n 0, 1) := by decide +kernel
theorem dX11_bid_88 : decode cX11_bid 88 = .ok (.getfield 26, 3) := by decide +kernel
theorem dX11_bid_91 : decode cX11_bid 91 = .ok (.iload_n 1, 1) := by decide +kernel
theorem dX11_bid_92 : decode cX11_bid 92 = .ok (.iload_n 2, 1) := by decide +kernel
theorem dX11_bid_93 : decode cX11_bid 93 = .ok (.iload_n 3, 1) := by decide +kernel
theorem dX11_bid_94 : decode cX11_bid 94 = .ok (.invokevirtual 272, 3) := by decide +kernel
theorem dX11_bid_97 : decode cX11_bid 97 = .ok (.aload_n 0, 1) := by decide +kernel
theorem dX11_bid_98 : decode cX11_bid 98 = .ok (.getfield 26, 3) := by decide +kernel
theorem dX11_bid_101 : decode cX11_bid 101 = .ok (.getfield 158, 3) := by decide +kernel
theorem dX11_bid_104 : decode cX11_bid 104 = .ok (.getfield 107, 3) := by decide +kernel
theorem dX11_bid_107 : decode cX11_bid 107 = .ok (.ireturn, 1) := by decide +kernel
theorem dX11_withdraw_0 : decode cX11_withdraw 0 = .ok (.aload_n 0, 1) := by decide +kernel
theorem dX11_withdraw_1 : decode cX11_withdraw 1 = .ok (.aload_n 0, 1) := by decide +kernel
theorem dX11_withdraw_2 : decode cX11_withdraw 2 = .ok (.getfield 19, 3) := by decide +kernel
theorem dX11_withdraw_5 : decode cX11_withdraw 5 = .ok (.getfield 165, 3) := by decide +kernel
theorem dX11_withdraw_8 : decode cX11_withdraw 8 = .ok (.iload_n 1, 1) := by decide +kernel
theorem dX11_withdraw_9 : decode cX11_withdraw 9 = .ok (.invokevirtual 115, 3) := by decide +kernel
theorem dX11_withdraw_12 : decode cX11_withdraw 12 = .ok (.aload_n 0, 1) := by decide +kernel
theorem dX11_withdraw_13 : decode cX11_withdraw 13 = .ok (.getfield 36, 3) := by decide +kernel
theorem dX11_withdraw_16 : decode cX11_withdraw 16 = .ok (.aload_n 0, 1) := by decide +kernel
theorem dX11_withdraw_17 : decode cX11_withdraw 17 = .ok (.getfield 26, 3) := by decide +kernel
theorem dX11_withdraw_20 : decode cX11_withdraw 20 = .ok (.invokevirtual 246, 3) := by decide +kernel
theorem dX11_withdraw_23 : decode cX11_withdraw 23 = .ok (.aload_n 0, 1) := by decide +kernel
theorem dX11_withdraw_24 : decode cX11_withdraw 24 = .ok (.getfield 26, 3) := by decide +kernel
theorem dX11_withdraw_27 : decode cX11_withdraw 27 = .ok (.iload_n 1, 1) := by decide +kernel
theorem dX11_withdraw_28 : decode cX11_withdraw 28 = .ok (.invokevirtual 276, 3) := by decide +kernel
theorem dX11_withdraw_31 : decode cX11_withdraw 31 = .ok (.ireturn, 1) := by decide +kernel
theorem dX11_stop_0 : decode cX11_stop 0 = .ok (.aload_n 0, 1) := by decide +kernel
theorem dX11_stop_1 : decode cX11_stop 1 = .ok (.iload_n 1, 1) := by decide +kernel
theorem dX11_stop_2 : decode cX11_stop 2 = .ok (.invokevirtual 152, 3) := by decide +kernel
theorem dX11_stop_5 : decode cX11_stop 5 = .ok (.aload_n 0, 1) := by decide +kernel
theorem dX11_stop_6 : decode cX11_stop 6 = .ok (.getfield 36, 3) := by decide +kernel
theorem dX11_stop_9 : decode cX11_stop 9 = .ok (.aload_n 0, 1) := by decide +kernel
theorem dX11_stop_10 : decode cX11_stop 10 = .ok (.getfield 26, 3) := by decide +kernel
theorem dX11_stop_13 : decode cX11_stop 13 = .ok (.invokevirtual 246, 3) := by decide +kernel
theorem dX11_stop_16 : decode cX11_stop 16 = .ok (.aload_n 0, 1) := by decide +kernel
theorem dX11_stop_17 : decode cX11_stop 17 = .ok (.getfield 26, 3) := by decide +kernel
theorem dX11_stop_20 : decode cX11_stop 20 = .ok (.getfield 155, 3) := by decide +kernel
theorem dX11_stop_23 : decode cX11_stop 23 = .ok (.iload_n 1, 1) := by decide +kernel
theorem dX11_stop_24 : decode cX11_stop 24 = .ok (.iconst 3, 1) := by decide +kernel
theorem dX11_stop_25 : decode cX11_stop 25 = .ok (.invokevirtual 138, 3) := by decide +kernel
theorem dX11_stop_28 : decode cX11_stop 28 = .ok (.istore_n 2, 1) := by decide +kernel
theorem dX11_stop_29 : decode cX11_stop 29 = .ok (.aload_n 0, 1) := by decide +kernel
theorem dX11_stop_30 : decode cX11_stop 30 = .ok (.getfield 26, 3) := by decide +kernel
theorem dX11_stop_33 : decode cX11_stop 33 = .ok (.aload_n 0, 1) := by decide +kernel
theorem dX11_stop_34 : decode cX11_stop 34 = .ok (.getfield 19, 3) := by decide +kernel
theorem dX11_stop_37 : decode cX11_stop 37 = .ok (.iload_n 1, 1) := by decide +kernel
theorem dX11_stop_38 : decode cX11_stop 38 = .ok (.invokevirtual 279, 3) := by decide +kernel
theorem dX11_stop_41 : decode cX11_stop 41 = .ok (.iload_n 2, 1) := by decide +kernel
theorem dX11_stop_42 : decode cX11_stop 42 = .ok (.ireturn, 1) := by decide +kernel
theorem dX11_evict_0 : decode cX11_evict 0 = .ok (.aload_n 0, 1) := by decide +kernel
theorem dX11_evict_1 : decode cX11_evict 1 = .ok (.iload_n 1, 1) := by decide +kernel
theorem dX11_evict_2 : decode cX11_evict 2 = .ok (.invokevirtual 152, 3) := by decide +kernel
theorem dX11_evict_5 : decode cX11_evict 5 = .ok (.aload_n 0, 1) := by decide +kernel
theorem dX11_evict_6 : decode cX11_evict 6 = .ok (.getfield 26, 3) := by decide +kernel
theorem dX11_evict_9 : decode cX11_evict 9 = .ok (.getfield 155, 3) := by decide +kernel
theorem dX11_evict_12 : decode cX11_evict 12 = .ok (.iload_n 1, 1) := by decide +kernel
theorem dX11_evict_13 : decode cX11_evict 13 = .ok (.iconst 2, 1) := by decide +kernel
theorem dX11_evict_14 : decode cX11_evict 14 = .ok (.invokevirtual 138, 3) := by decide +kernel
theorem dX11_evict_17 : decode cX11_evict 17 = .ok (.iconst (-1), 1) := by decide +kernel
theorem dX11_evict_18 : decode cX11_evict 18 = .ok (.if_icmp .ne 14, 3) := by decide +kernel
theorem dX11_evict_21 : decode cX11_evict 21 = .ok (.new 216, 3) := by decide +kernel
theorem dX11_evict_24 : decode cX11_evict 24 = .ok (.dup, 1) := by decide +kernel
theorem dX11_evict_25 : decode cX11_evict 25 = .ok (.ldc_w 283, 3) := by decide +kernel
theorem dX11_evict_28 : decode cX11_evict 28 = .ok (.invokespecial 220, 3) := by decide +kernel
theorem dX11_evict_31 : decode cX11_evict 31 = .ok (.athrow, 1) := by decide +kernel
theorem dX11_evict_32 : decode cX11_evict 32 = .ok (.aload_n 0, 1) := by decide +kernel
theorem dX11_evict_33 : decode cX11_evict 33 = .ok (.getfield 26, 3) := by decide +kernel
theorem dX11_evict_36 : decode cX11_evict 36 = .ok (.getfield 155, 3) := by decide +kernel
theorem dX11_evict_39 : decode cX11_evict 39 = .ok (.iload_n 1, 1) := by decide +kernel
theorem dX11_evict_40 : decode cX11_evict 40 = .ok (.iconst 4, 1) := by decide +kernel
theorem dX11_evict_41 : decode cX11_evict 41 = .ok (.invokevirtual 138, 3) := by decide +kernel
theorem dX11_evict_44 : decode cX11_evict 44 = .ok (.iconst (-1), 1) := by decide +kernel
theorem dX11_evict_45 : decode cX11_evict 45 = .ok (.if_icmp .eq 14, 3) := by decide +kernel
theorem dX11_evict_48 : decode cX11_evict 48 = .ok (.new 216, 3) := by decide +kernel
theorem dX11_evict_51 : decode cX11_evict 51 = .ok (.dup, 1) := by decide +kernel
theorem dX11_evict_52 : decode cX11_evict 52 = .ok (.ldc_w 285, 3) := by decide +kernel
theorem dX11_evict_55 : decode cX11_evict 55 = .ok (.invokespecial 220, 3) := by decide +kernel
theorem dX11_evict_58 : decode cX11_evict 58 = .ok (.athrow, 1) := by decide +kernel
theorem dX11_evict_59 : decode cX11_evict 59 = .ok (.aload_n 0, 1) := by decide +kernel
theorem dX11_evict_60 : decode cX11_evict 60 = .ok (.getfield 36, 3) := by decide +kernel
theorem dX11_evict_63 : decode cX11_evict 63 = .ok (.aload_n 0, 1) := by decide +kernel
theorem dX11_evict_64 : decode cX11_evict 64 = .ok (.getfield 26, 3) := by decide +kernel
theorem dX11_evict_67 : decode cX11_evict 67 = .ok (.invokevirtual 246, 3) := by decide +kernel
theorem dX11_evict_70 : decode cX11_evict 70 = .ok (.aload_n 0, 1) := by decide +kernel
theorem dX11_evict_71 : decode cX11_evict 71 = .ok (.getfield 26, 3) := by decide +kernel
theorem dX11_evict_74 : decode cX11_evict 74 = .ok (.aload_n 0, 1) := by decide +kernel
theorem dX11_evict_75 : decode cX11_evict 75 = .ok (.getfield 19, 3) := by decide +kernel
theorem dX11_evict_78 : decode cX11_evict 78 = .ok (.iload_n 1, 1) := by decide +kernel
theorem dX11_evict_79 : decode cX11_evict 79 = .ok (.invokevirtual 287, 3) := by decide +kernel
theorem dX11_evict_82 : decode cX11_evict 82 = .ok (.aload_n 0, 1) := by decide +kernel
theorem dX11_evict_83 : decode cX11_evict 83 = .ok (.getfield 26, 3) := by decide +kernel
theorem dX11_evict_86 : decode cX11_evict 86 = .ok (.getfield 155, 3) := by decide +kernel
theorem dX11_evict_89 : decode cX11_evict 89 = .ok (.iload_n 1, 1) := by decide +kernel
theorem dX11_evict_90 : decode cX11_evict 90 = .ok (.iconst 4, 1) := by decide +kernel
theorem dX11_evict_91 : decode cX11_evict 91 = .ok (.invokevirtual 138, 3) := by decide +kernel
theorem dX11_evict_94 : decode cX11_evict 94 = .ok (.ireturn, 1) := by decide +kernel
theorem dX11_migrate_0 : decode cX11_migrate 0 = .ok (.aload_n 0, 1) := by decide +kernel
theorem dX11_migrate_1 : decode cX11_migrate 1 = .ok (.iload_n 1, 1) := by decide +kernel
theorem dX11_migrate_2 : decode cX11_migrate 2 = .ok (.invokevirtual 152, 3) := by decide +kernel
theorem dX11_migrate_5 : decode cX11_migrate 5 = .ok (.aload_n 0, 1) := by decide +kernel
theorem dX11_migrate_6 : decode cX11_migrate 6 = .ok (.aload_n 0, 1) := by decide +kernel
theorem dX11_migrate_7 : decode cX11_migrate 7 = .ok (.getfield 19, 3) := by decide +kernel
theorem dX11_migrate_10 : decode cX11_migrate 10 = .ok (.getfield 103, 3) := by decide +kernel
theorem dX11_migrate_13 : decode cX11_migrate 13 = .ok (.iload_n 2, 1) := by decide +kernel
theorem dX11_migrate_14 : decode cX11_migrate 14 = .ok (.invokevirtual 115, 3) := by decide +kernel
theorem dX11_migrate_17 : decode cX11_migrate 17 = .ok (.aload_n 0, 1) := by decide +kernel
theorem dX11_migrate_18 : decode cX11_migrate 18 = .ok (.getfield 26, 3) := by decide +kernel
theorem dX11_migrate_21 : decode cX11_migrate 21 = .ok (.getfield 155, 3) := by decide +kernel
theorem dX11_migrate_24 : decode cX11_migrate 24 = .ok (.iload_n 1, 1) := by decide +kernel
theorem dX11_migrate_25 : decode cX11_migrate 25 = .ok (.iconst 3, 1) := by decide +kernel
theorem dX11_migrate_26 : decode cX11_migrate 26 = .ok (.invokevirtual 138, 3) := by decide +kernel
theorem dX11_migrate_29 : decode cX11_migrate 29 = .ok (.iload_n 2, 1) := by decide +kernel
theorem dX11_migrate_30 : decode cX11_migrate 30 = .ok (.if_icmp .ne 14, 3) := by decide +kernel
theorem dX11_migrate_33 : decode cX11_migrate 33 = .ok (.new 216, 3) := by decide +kernel
theorem dX11_migrate_36 : decode cX11_migrate 36 = .ok (.dup, 1) := by decide +kernel
theorem dX11_migrate_37 : decode cX11_migrate 37 = .ok (.ldc_w 290, 3) := by decide +kernel
theorem dX11_migrate_40 : decode cX11_migrate 40 = .ok (.invokespecial 220, 3) := by decide +kernel
theorem dX11_migrate_43 : decode cX11_migrate 43 = .ok (.athrow, 1) := by decide +kernel
theorem dX11_migrate_44 : decode cX11_migrate 44 = .ok (.aload_n 0, 1) := by decide +kernel
theorem dX11_migrate_45 : decode cX11_migrate 45 = .ok (.getfield 26, 3) := by decide +kernel
theorem dX11_migrate_48 : decode cX11_migrate 48 = .ok (.aload_n 0, 1) := by decide +kernel
theorem dX11_migrate_49 : decode cX11_migrate 49 = .ok (.getfield 19, 3) := by decide +kernel
theorem dX11_migrate_52 : decode cX11_migrate 52 = .ok (.aload_n 0, 1) := by decide +kernel
theorem dX11_migrate_53 : decode cX11_migrate 53 = .ok (.getfield 26, 3) := by decide +kernel
theorem dX11_migrate_56 : decode cX11_migrate 56 = .ok (.getfield 155, 3) := by decide +kernel
theorem dX11_migrate_59 : decode cX11_migrate 59 = .ok (.iload_n 1, 1) := by decide +kernel
theorem dX11_migrate_60 : decode cX11_migrate 60 = .ok (.iconst 1, 1) := by decide +kernel
theorem dX11_migrate_61 : decode cX11_migrate 61 = .ok (.invokevirtual 138, 3) := by decide +kernel
theorem dX11_migrate_64 : decode cX11_migrate 64 = .ok (.iload_n 2, 1) := by decide +kernel
theorem dX11_migrate_65 : decode cX11_migrate 65 = .ok (.invokevirtual 292, 3) := by decide +kernel
theorem dX11_migrate_68 : decode cX11_migrate 68 = .ok (.ifCond .ne 14, 3) := by decide +kernel
theorem dX11_migrate_71 : decode cX11_migrate 71 = .ok (.new 216, 3) := by decide +kernel
theorem dX11_migrate_74 : decode cX11_migrate 74 = .ok (.dup, 1) := by decide +kernel
theorem dX11_migrate_75 : decode cX11_migrate 75 = .ok (.ldc_w 296, 3) := by decide +kernel
theorem dX11_migrate_78 : decode cX11_migrate 78 = .ok (.invokespecial 220, 3) := by decide +kernel
theorem dX11_migrate_81 : decode cX11_migrate 81 = .ok (.athrow, 1) := by decide +kernel
theorem dX11_migrate_82 : decode cX11_migrate 82 = .ok (.aload_n 0, 1) := by decide +kernel
theorem dX11_migrate_83 : decode cX11_migrate 83 = .ok (.getfield 36, 3) := by decide +kernel
theorem dX11_migrate_86 : decode cX11_migrate 86 = .ok (.aload_n 0, 1) := by decide +kernel
theorem dX11_migrate_87 : decode cX11_migrate 87 = .ok (.getfield 26, 3) := by decide +kernel
theorem dX11_migrate_90 : decode cX11_migrate 90 = .ok (.invokevirtual 246, 3) := by decide +kernel
theorem dX11_migrate_93 : decode cX11_migrate 93 = .ok (.aload_n 0, 1) := by decide +kernel
theorem dX11_migrate_94 : decode cX11_migrate 94 = .ok (.getfield 26, 3) := by decide +kernel
theorem dX11_migrate_97 : decode cX11_migrate 97 = .ok (.aload_n 0, 1) := by decide +kernel
theorem dX11_migrate_98 : decode cX11_migrate 98 = .ok (.getfield 19, 3) := by decide +kernel
theorem dX11_migrate_101 : decode cX11_migrate 101 = .ok (.iload_n 1, 1) := by decide +kernel
theorem dX11_migrate_102 : decode cX11_migrate 102 = .ok (.iload_n 2, 1) := by decide +kernel
theorem dX11_migrate_103 : decode cX11_migrate 103 = .ok (.invokevirtual 298, 3) := by decide +kernel
theorem dX11_migrate_106 : decode cX11_migrate 106 = .ok (.ireturn, 1) := by decide +kernel
theorem dX11_drain_0 : decode cX11_drain 0 = .ok (.aload_n 0, 1) := by decide +kernel
theorem dX11_drain_1 : decode cX11_drain 1 = .ok (.aload_n 0, 1) := by decide +kernel
theorem dX11_drain_2 : decode cX11_drain 2 = .ok (.getfield 19, 3) := by decide +kernel
theorem dX11_drain_5 : decode cX11_drain 5 = .ok (.getfield 103, 3) := by decide +kernel
theorem dX11_drain_8 : decode cX11_drain 8 = .ok (.iload_n 1, 1) := by decide +kernel
theorem dX11_drain_9 : decode cX11_drain 9 = .ok (.invokevirtual 115, 3) := by decide +kernel
theorem dX11_drain_12 : decode cX11_drain 12 = .ok (.aload_n 0, 1) := by decide +kernel
theorem dX11_drain_13 : decode cX11_drain 13 = .ok (.getfield 26, 3) := by decide +kernel
theorem dX11_drain_16 : decode cX11_drain 16 = .ok (.iload_n 1, 1) := by decide +kernel
theorem dX11_drain_17 : decode cX11_drain 17 = .ok (.invokevirtual 123, 3) := by decide +kernel
theorem dX11_drain_20 : decode cX11_drain 20 = .ok (.invokestatic 221, 3) := by decide +kernel
theorem dX11_drain_23 : decode cX11_drain 23 = .ok (.istore_n 2, 1) := by decide +kernel
theorem dX11_drain_24 : decode cX11_drain 24 = .ok (.iload_n 2, 1) := by decide +kernel
theorem dX11_drain_25 : decode cX11_drain 25 = .ok (.ifCond .eq 8, 3) := by decide +kernel
theorem dX11_drain_28 : decode cX11_drain 28 = .ok (.iload_n 2, 1) := by decide +kernel
theorem dX11_drain_29 : decode cX11_drain 29 = .ok (.iconst 5, 1) := by decide +kernel
theorem dX11_drain_30 : decode cX11_drain 30 = .ok (.if_icmp .le 14, 3) := by decide +kernel
theorem dX11_drain_33 : decode cX11_drain 33 = .ok (.new 216, 3) := by decide +kernel
theorem dX11_drain_36 : decode cX11_drain 36 = .ok (.dup, 1) := by decide +kernel
theorem dX11_drain_37 : decode cX11_drain 37 = .ok (.ldc_w 301, 3) := by decide +kernel
theorem dX11_drain_40 : decode cX11_drain 40 = .ok (.invokespecial 220, 3) := by decide +kernel
theorem dX11_drain_43 : decode cX11_drain 43 = .ok (.athrow, 1) := by decide +kernel
theorem dX11_drain_44 : decode cX11_drain 44 = .ok (.aload_n 0, 1) := by decide +kernel
theorem dX11_drain_45 : decode cX11_drain 45 = .ok (.getfield 64, 3) := by decide +kernel
theorem dX11_drain_48 : decode cX11_drain 48 = .ok (.aload_n 0, 1) := by decide +kernel
theorem dX11_drain_49 : decode cX11_drain 49 = .ok (.getfield 19, 3) := by decide +kernel
theorem dX11_drain_52 : decode cX11_drain 52 = .ok (.aload_n 0, 1) := by decide +kernel
theorem dX11_drain_53 : decode cX11_drain 53 = .ok (.getfield 26, 3) := by decide +kernel
theorem dX11_drain_56 : decode cX11_drain 56 = .ok (.iload_n 1, 1) := by decide +kernel
theorem dX11_drain_57 : decode cX11_drain 57 = .ok (.invokevirtual 228, 3) := by decide +kernel
theorem dX11_drain_60 : decode cX11_drain 60 = .ok (.ifCond .ne 14, 3) := by decide +kernel
theorem dX11_drain_63 : decode cX11_drain 63 = .ok (.new 216, 3) := by decide +kernel
theorem dX11_drain_66 : decode cX11_drain 66 = .ok (.dup, 1) := by decide +kernel
theorem dX11_drain_67 : decode cX11_drain 67 = .ok (.ldc_w 303, 3) := by decide +kernel
theorem dX11_drain_70 : decode cX11_drain 70 = .ok (.invokespecial 220, 3) := by decide +kernel
theorem dX11_drain_73 : decode cX11_drain 73 = .ok (.athrow, 1) := by decide +kernel
theorem dX11_drain_74 : decode cX11_drain 74 = .ok (.aload_n 0, 1) := by decide +kernel
theorem dX11_drain_75 : decode cX11_drain 75 = .ok (.getfield 36, 3) := by decide +kernel
theorem dX11_drain_78 : decode cX11_drain 78 = .ok (.aload_n 0, 1) := by decide +kernel
theorem dX11_drain_79 : decode cX11_drain 79 = .ok (.getfield 26, 3) := by decide +kernel
theorem dX11_drain_82 : decode cX11_drain 82 = .ok (.invokevirtual 246, 3) := by decide +kernel
theorem dX11_drain_85 : decode cX11_drain 85 = .ok (.aload_n 0, 1) := by decide +kernel
theorem dX11_drain_86 : decode cX11_drain 86 = .ok (.getfield 64, 3) := by decide +kernel
theorem dX11_drain_89 : decode cX11_drain 89 = .ok (.aload_n 0, 1) := by decide +kernel
theorem dX11_drain_90 : decode cX11_drain 90 = .ok (.getfield 19, 3) := by decide +kernel
theorem dX11_drain_93 : decode cX11_drain 93 = .ok (.aload_n 0, 1) := by decide +kernel
theorem dX11_drain_94 : decode cX11_drain 94 = .ok (.getfield 26, 3) := by decide +kernel
theorem dX11_drain_97 : decode cX11_drain 97 = .ok (.invokevirtual 305, 3) := by decide +kernel
theorem dX11_drain_100 : decode cX11_drain 100 = .ok (.iload_n 2, 1) := by decide +kernel
theorem dX11_drain_101 : decode cX11_drain 101 = .ok (.ireturn, 1) := by decide +kernel
theorem dX11_undo_0 : decode cX11_undo 0 = .ok (.aload_n 0, 1) := by decide +kernel
theorem dX11_undo_1 : decode cX11_undo 1 = .ok (.getfield 36, 3) := by decide +kernel
theorem dX11_undo_4 : decode cX11_undo 4 = .ok (.aload_n 0, 1) := by decide +kernel
theorem dX11_undo_5 : decode cX11_undo 5 = .ok (.getfield 26, 3) := by decide +kernel
theorem dX11_undo_8 : decode cX11_undo 8 = .ok (.invokevirtual 308, 3) := by decide +kernel
theorem dX11_undo_11 : decode cX11_undo 11 = .ok (.ifCond .eq 13, 3) := by decide +kernel
theorem dX11_undo_14 : decode cX11_undo 14 = .ok (.aload_n 0, 1) := by decide +kernel
theorem dX11_undo_15 : decode cX11_undo 15 = .ok (.getfield 36, 3) := by decide +kernel
theorem dX11_undo_18 : decode cX11_undo 18 = .ok (.getfield 312, 3) := by decide +kernel
theorem dX11_undo_21 : decode cX11_undo 21 = .ok (.goto 4, 3) := by decide +kernel
theorem dX11_undo_24 : decode cX11_undo 24 = .ok (.iconst (-1), 1) := by decide +kernel
theorem dX11_undo_25 : decode cX11_undo 25 = .ok (.ireturn, 1) := by decide +kernel
theorem dX11_needSlot_0 : decode cX11_needSlot 0 = .ok (.iload_n 1, 1) := by decide +kernel
theorem dX11_needSlot_1 : decode cX11_needSlot 1 = .ok (.ifCond .lt 8, 3) := by decide +kernel
theorem dX11_needSlot_4 : decode cX11_needSlot 4 = .ok (.iload_n 1, 1) := by decide +kernel
theorem dX11_needSlot_5 : decode cX11_needSlot 5 = .ok (.iconst 2, 1) := by decide +kernel
theorem dX11_needSlot_6 : decode cX11_needSlot 6 = .ok (.if_icmp .lt 14, 3) := by decide +kernel
theorem dX11_needSlot_9 : decode cX11_needSlot 9 = .ok (.new 328, 3) := by decide +kernel
theorem dX11_needSlot_12 : decode cX11_needSlot 12 = .ok (.dup, 1) := by decide +kernel
theorem dX11_needSlot_13 : decode cX11_needSlot 13 = .ok (.ldc_w 338, 3) := by decide +kernel
theorem dX11_needSlot_16 : decode cX11_needSlot 16 = .ok (.invokespecial 332, 3) := by decide +kernel
theorem dX11_needSlot_19 : decode cX11_needSlot 19 = .ok (.athrow, 1) := by decide +kernel
theorem dX11_needSlot_20 : decode cX11_needSlot 20 = .ok (.return_, 1) := by decide +kernel
theorem dX11_saveSnapshot_0 : decode cX11_saveSnapshot 0 = .ok (.aload_n 0, 1) := by decide +kernel
theorem dX11_saveSnapshot_1 : decode cX11_saveSnapshot 1 = .ok (.iload_n 1, 1) := by decide +kernel
theorem dX11_saveSnapshot_2 : decode cX11_saveSnapshot 2 = .ok (.invokevirtual 313, 3) := by decide +kernel
theorem dX11_saveSnapshot_5 : decode cX11_saveSnapshot 5 = .ok (.aload_n 0, 1) := by decide +kernel
theorem dX11_saveSnapshot_6 : decode cX11_saveSnapshot 6 = .ok (.getfield 36, 3) := by decide +kernel
theorem dX11_saveSnapshot_9 : decode cX11_saveSnapshot 9 = .ok (.iload_n 1, 1) := by decide +kernel
theorem dX11_saveSnapshot_10 : decode cX11_saveSnapshot 10 = .ok (.invokevirtual 316, 3) := by decide +kernel
theorem dX11_saveSnapshot_13 : decode cX11_saveSnapshot 13 = .ok (.istore_n 2, 1) := by decide +kernel
theorem dX11_saveSnapshot_14 : decode cX11_saveSnapshot 14 = .ok (.aload_n 0, 1) := by decide +kernel
theorem dX11_saveSnapshot_15 : decode cX11_saveSnapshot 15 = .ok (.getfield 36, 3) := by decide +kernel
theorem dX11_saveSnapshot_18 : decode cX11_saveSnapshot 18 = .ok (.iload_n 1, 1) := by decide +kernel
theorem dX11_saveSnapshot_19 : decode cX11_saveSnapshot 19 = .ok (.aload_n 0, 1) := by decide +kernel
theorem dX11_saveSnapshot_20 : decode cX11_saveSnapshot 20 = .ok (.getfield 26, 3) := by decide +kernel
theorem dX11_saveSnapshot_23 : decode cX11_saveSnapshot 23 = .ok (.invokevirtual 319, 3) := by decide +kernel
theorem dX11_saveSnapshot_26 : decode cX11_saveSnapshot 26 = .ok (.iload_n 2, 1) := by decide +kernel
theorem dX11_saveSnapshot_27 : decode cX11_saveSnapshot 27 = .ok (.ireturn, 1) := by decide +kernel
theorem dX11_restoreSnapshot_0 : decode cX11_restoreSnapshot 0 = .ok (.aload_n 0, 1) := by decide +kernel
theorem dX11_restoreSnapshot_1 : decode cX11_restoreSnapshot 1 = .ok (.iload_n 1, 1) := by decide +kernel
theorem dX11_restoreSnapshot_2 : decode cX11_restoreSnapshot 2 = .ok (.invokevirtual 313, 3) := by decide +kernel
theorem dX11_restoreSnapshot_5 : decode cX11_restoreSnapshot 5 = .ok (.aload_n 0, 1) := by decide +kernel
theorem dX11_restoreSnapshot_6 : decode cX11_restoreSnapshot 6 = .ok (.getfield 36, 3) := by decide +kernel
theorem dX11_restoreSnapshot_9 : decode cX11_restoreSnapshot 9 = .ok (.iload_n 1, 1) := by decide +kernel
theorem dX11_restoreSnapshot_10 : decode cX11_restoreSnapshot 10 = .ok (.invokevirtual 316, 3) := by decide +kernel
theorem dX11_restoreSnapshot_13 : decode cX11_restoreSnapshot 13 = .ok (.ifCond .ne 14, 3) := by decide +kernel
theorem dX11_restoreSnapshot_16 : decode cX11_restoreSnapshot 16 = .ok (.new 216, 3) := by decide +kernel
theorem dX11_restoreSnapshot_19 : decode cX11_restoreSnapshot 19 = .ok (.dup, 1) := by decide +kernel
theorem dX11_restoreSnapshot_20 : decode cX11_restoreSnapshot 20 = .ok (.ldc_w 323, 3) := by decide +kernel
theorem dX11_restoreSnapshot_23 : decode cX11_restoreSnapshot 23 = .ok (.invokespecial 220, 3) := by decide +kernel
theorem dX11_restoreSnapshot_26 : decode cX11_restoreSnapshot 26 = .ok (.athrow, 1) := by decide +kernel
theorem dX11_restoreSnapshot_27 : decode cX11_restoreSnapshot 27 = .ok (.aload_n 0, 1) := by decide +kernel
theorem dX11_restoreSnapshot_28 : decode cX11_restoreSnapshot 28 = .ok (.getfield 36, 3) := by decide +kernel
theorem dX11_restoreSnapshot_31 : decode cX11_restoreSnapshot 31 = .ok (.iload_n 1, 1) := by decide +kernel
theorem dX11_restoreSnapshot_32 : decode cX11_restoreSnapshot 32 = .ok (.aload_n 0, 1) := by decide +kernel
theorem dX11_restoreSnapshot_33 : decode cX11_restoreSnapshot 33 = .ok (.getfield 26, 3) := by decide +kernel
theorem dX11_restoreSnapshot_36 : decode cX11_restoreSnapshot 36 = .ok (.invokevirtual 325, 3) := by decide +kernel
theorem dX11_restoreSnapshot_39 : decode cX11_restoreSnapshot 39 = .ok (.aload_n 0, 1) := by decide +kernel
theorem dX11_restoreSnapshot_40 : decode cX11_restoreSnapshot 40 = .ok (.getfield 26, 3) := by decide +kernel
theorem dX11_restoreSnapshot_43 : decode cX11_restoreSnapshot 43 = .ok (.getfield 112, 3) := by decide +kernel
theorem dX11_restoreSnapshot_46 : decode cX11_restoreSnapshot 46 = .ok (.ireturn, 1) := by decide +kernel
