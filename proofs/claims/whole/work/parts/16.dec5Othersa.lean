theorem dX0_init_0 : decode cX0_init 0 = .ok (.aload_n 0, 1) := by decide +kernel
theorem dX0_init_1 : decode cX0_init 1 = .ok (.invokespecial 3, 3) := by decide +kernel
theorem dX0_init_4 : decode cX0_init 4 = .ok (.aload_n 0, 1) := by decide +kernel
theorem dX0_init_5 : decode cX0_init 5 = .ok (.new 9, 3) := by decide +kernel
theorem dX0_init_8 : decode cX0_init 8 = .ok (.dup, 1) := by decide +kernel
theorem dX0_init_9 : decode cX0_init 9 = .ok (.bipush 6, 2) := by decide +kernel
theorem dX0_init_11 : decode cX0_init 11 = .ok (.iconst 1, 1) := by decide +kernel
theorem dX0_init_12 : decode cX0_init 12 = .ok (.invokespecial 11, 3) := by decide +kernel
theorem dX0_init_15 : decode cX0_init 15 = .ok (.putfield 14, 3) := by decide +kernel
theorem dX0_init_18 : decode cX0_init 18 = .ok (.aload_n 0, 1) := by decide +kernel
theorem dX0_init_19 : decode cX0_init 19 = .ok (.new 9, 3) := by decide +kernel
theorem dX0_init_22 : decode cX0_init 22 = .ok (.dup, 1) := by decide +kernel
theorem dX0_init_23 : decode cX0_init 23 = .ok (.bipush 6, 2) := by decide +kernel
theorem dX0_init_25 : decode cX0_init 25 = .ok (.bipush 6, 2) := by decide +kernel
theorem dX0_init_27 : decode cX0_init 27 = .ok (.invokespecial 11, 3) := by decide +kernel
theorem dX0_init_30 : decode cX0_init 30 = .ok (.putfield 20, 3) := by decide +kernel
theorem dX0_init_33 : decode cX0_init 33 = .ok (.return_, 1) := by decide +kernel
theorem dX0_addInstance_0 : decode cX0_addInstance 0 = .ok (.aload_n 2, 1) := by decide +kernel
theorem dX0_addInstance_1 : decode cX0_addInstance 1 = .ok (.getfield 67, 3) := by decide +kernel
theorem dX0_addInstance_4 : decode cX0_addInstance 4 = .ok (.iload_n 3, 1) := by decide +kernel
theorem dX0_addInstance_5 : decode cX0_addInstance 5 = .ok (.iconst 0, 1) := by decide +kernel
theorem dX0_addInstance_6 : decode cX0_addInstance 6 = .ok (.invokevirtual 44, 3) := by decide +kernel
theorem dX0_addInstance_9 : decode cX0_addInstance 9 = .ok (.istore 4, 2) := by decide +kernel
theorem dX0_addInstance_11 : decode cX0_addInstance 11 = .ok (.aload_n 2, 1) := by decide +kernel
theorem dX0_addInstance_12 : decode cX0_addInstance 12 = .ok (.getfield 67, 3) := by decide +kernel
theorem dX0_addInstance_15 : decode cX0_addInstance 15 = .ok (.iload_n 3, 1) := by decide +kernel
theorem dX0_addInstance_16 : decode cX0_addInstance 16 = .ok (.iconst 1, 1) := by decide +kernel
theorem dX0_addInstance_17 : decode cX0_addInstance 17 = .ok (.invokevirtual 44, 3) := by decide +kernel
theorem dX0_addInstance_20 : decode cX0_addInstance 20 = .ok (.istore 5, 2) := by decide +kernel
theorem dX0_addInstance_22 : decode cX0_addInstance 22 = .ok (.aload_n 2, 1) := by decide +kernel
theorem dX0_addInstance_23 : decode cX0_addInstance 23 = .ok (.getfield 67, 3) := by decide +kernel
theorem dX0_addInstance_26 : decode cX0_addInstance 26 = .ok (.iload_n 3, 1) := by decide +kernel
theorem dX0_addInstance_27 : decode cX0_addInstance 27 = .ok (.iconst 2, 1) := by decide +kernel
theorem dX0_addInstance_28 : decode cX0_addInstance 28 = .ok (.invokevirtual 44, 3) := by decide +kernel
theorem dX0_addInstance_31 : decode cX0_addInstance 31 = .ok (.iconst (-1), 1) := by decide +kernel
theorem dX0_addInstance_32 : decode cX0_addInstance 32 = .ok (.if_icmp .eq 26, 3) := by decide +kernel
theorem dX0_addInstance_35 : decode cX0_addInstance 35 = .ok (.aload_n 0, 1) := by decide +kernel
theorem dX0_addInstance_36 : decode cX0_addInstance 36 = .ok (.getfield 14, 3) := by decide +kernel
theorem dX0_addInstance_39 : decode cX0_addInstance 39 = .ok (.iload 4, 2) := by decide +kernel
theorem dX0_addInstance_41 : decode cX0_addInstance 41 = .ok (.iconst 0, 1) := by decide +kernel
theorem dX0_addInstance_42 : decode cX0_addInstance 42 = .ok (.aload_n 2, 1) := by decide +kernel
theorem dX0_addInstance_43 : decode cX0_addInstance 43 = .ok (.getfield 70, 3) := by decide +kernel
theorem dX0_addInstance_46 : decode cX0_addInstance 46 = .ok (.iload 5, 2) := by decide +kernel
theorem dX0_addInstance_48 : decode cX0_addInstance 48 = .ok (.iconst 0, 1) := by decide +kernel
theorem dX0_addInstance_49 : decode cX0_addInstance 49 = .ok (.invokevirtual 44, 3) := by decide +kernel
theorem dX0_addInstance_52 : decode cX0_addInstance 52 = .ok (.invokevirtual 52, 3) := by decide +kernel
theorem dX0_addInstance_55 : decode cX0_addInstance 55 = .ok (.goto 52, 3) := by decide +kernel
theorem dX0_addInstance_58 : decode cX0_addInstance 58 = .ok (.aload_n 0, 1) := by decide +kernel
theorem dX0_addInstance_59 : decode cX0_addInstance 59 = .ok (.getfield 20, 3) := by decide +kernel
theorem dX0_addInstance_62 : decode cX0_addInstance 62 = .ok (.iload 4, 2) := by decide +kernel
theorem dX0_addInstance_64 : decode cX0_addInstance 64 = .ok (.iload 5, 2) := by decide +kernel
theorem dX0_addInstance_66 : decode cX0_addInstance 66 = .ok (.invokevirtual 44, 3) := by decide +kernel
theorem dX0_addInstance_69 : decode cX0_addInstance 69 = .ok (.ifCond .le 18, 3) := by decide +kernel
theorem dX0_addInstance_72 : decode cX0_addInstance 72 = .ok (.aload_n 0, 1) := by decide +kernel
theorem dX0_addInstance_73 : decode cX0_addInstance 73 = .ok (.getfield 20, 3) := by decide +kernel
theorem dX0_addInstance_76 : decode cX0_addInstance 76 = .ok (.iload 4, 2) := by decide +kernel
theorem dX0_addInstance_78 : decode cX0_addInstance 78 = .ok (.iload 5, 2) := by decide +kernel
theorem dX0_addInstance_80 : decode cX0_addInstance 80 = .ok (.iconst (-1), 1) := by decide +kernel
theorem dX0_addInstance_81 : decode cX0_addInstance 81 = .ok (.invokevirtual 52, 3) := by decide +kernel
theorem dX0_addInstance_84 : decode cX0_addInstance 84 = .ok (.goto 23, 3) := by decide +kernel
theorem dX0_addInstance_87 : decode cX0_addInstance 87 = .ok (.aload_n 0, 1) := by decide +kernel
theorem dX0_addInstance_88 : decode cX0_addInstance 88 = .ok (.getfield 14, 3) := by decide +kernel
theorem dX0_addInstance_91 : decode cX0_addInstance 91 = .ok (.iload 4, 2) := by decide +kernel
theorem dX0_addInstance_93 : decode cX0_addInstance 93 = .ok (.iconst 0, 1) := by decide +kernel
theorem dX0_addInstance_94 : decode cX0_addInstance 94 = .ok (.aload_n 1, 1) := by decide +kernel
theorem dX0_addInstance_95 : decode cX0_addInstance 95 = .ok (.getfield 73, 3) := by decide +kernel
theorem dX0_addInstance_98 : decode cX0_addInstance 98 = .ok (.iload 5, 2) := by decide +kernel
theorem dX0_addInstance_100 : decode cX0_addInstance 100 = .ok (.iconst 2, 1) := by decide +kernel
theorem dX0_addInstance_101 : decode cX0_addInstance 101 = .ok (.invokevirtual 44, 3) := by decide +kernel
theorem dX0_addInstance_104 : decode cX0_addInstance 104 = .ok (.invokevirtual 52, 3) := by decide +kernel
theorem dX0_addInstance_107 : decode cX0_addInstance 107 = .ok (.return_, 1) := by decide +kernel
theorem dX0_reckon_0 : decode cX0_reckon 0 = .ok (.aload_n 0, 1) := by decide +kernel
theorem dX0_reckon_1 : decode cX0_reckon 1 = .ok (.getfield 14, 3) := by decide +kernel
theorem dX0_reckon_4 : decode cX0_reckon 4 = .ok (.invokevirtual 23, 3) := by decide +kernel
theorem dX0_reckon_7 : decode cX0_reckon 7 = .ok (.aload_n 0, 1) := by decide +kernel
theorem dX0_reckon_8 : decode cX0_reckon 8 = .ok (.getfield 20, 3) := by decide +kernel
theorem dX0_reckon_11 : decode cX0_reckon 11 = .ok (.invokevirtual 23, 3) := by decide +kernel
theorem dX0_reckon_14 : decode cX0_reckon 14 = .ok (.iconst 0, 1) := by decide +kernel
theorem dX0_reckon_15 : decode cX0_reckon 15 = .ok (.istore_n 3, 1) := by decide +kernel
theorem dX0_reckon_16 : decode cX0_reckon 16 = .ok (.iload_n 3, 1) := by decide +kernel
theorem dX0_reckon_17 : decode cX0_reckon 17 = .ok (.aload_n 1, 1) := by decide +kernel
theorem dX0_reckon_18 : decode cX0_reckon 18 = .ok (.getfield 26, 3) := by decide +kernel
theorem dX0_reckon_21 : decode cX0_reckon 21 = .ok (.getfield 31, 3) := by decide +kernel
theorem dX0_reckon_24 : decode cX0_reckon 24 = .ok (.if_icmp .ge 74, 3) := by decide +kernel
theorem dX0_reckon_27 : decode cX0_reckon 27 = .ok (.aload_n 1, 1) := by decide +kernel
theorem dX0_reckon_28 : decode cX0_reckon 28 = .ok (.iload_n 3, 1) := by decide +kernel
theorem dX0_reckon_29 : decode cX0_reckon 29 = .ok (.aload_n 2, 1) := by decide +kernel
theorem dX0_reckon_30 : decode cX0_reckon 30 = .ok (.getfield 35, 3) := by decide +kernel
theorem dX0_reckon_33 : decode cX0_reckon 33 = .ok (.invokevirtual 40, 3) := by decide +kernel
theorem dX0_reckon_36 : decode cX0_reckon 36 = .ok (.ifCond .eq 56, 3) := by decide +kernel
theorem dX0_reckon_39 : decode cX0_reckon 39 = .ok (.aload_n 1, 1) := by decide +kernel
theorem dX0_reckon_40 : decode cX0_reckon 40 = .ok (.getfield 26, 3) := by decide +kernel
theorem dX0_reckon_43 : decode cX0_reckon 43 = .ok (.iload_n 3, 1) := by decide +kernel
theorem dX0_reckon_44 : decode cX0_reckon 44 = .ok (.iconst 0, 1) := by decide +kernel
theorem dX0_reckon_45 : decode cX0_reckon 45 = .ok (.invokevirtual 44, 3) := by decide +kernel
theorem dX0_reckon_48 : decode cX0_reckon 48 = .ok (.istore 4, 2) := by decide +kernel
theorem dX0_reckon_50 : decode cX0_reckon 50 = .ok (.aload_n 0, 1) := by decide +kernel
theorem dX0_reckon_51 : decode cX0_reckon 51 = .ok (.getfield 14, 3) := by decide +kernel
theorem dX0_reckon_54 : decode cX0_reckon 54 = .ok (.iload 4, 2) := by decide +kernel
theorem dX0_reckon_56 : decode cX0_reckon 56 = .ok (.iconst 0, 1) := by decide +kernel
theorem dX0_reckon_57 : decode cX0_reckon 57 = .ok (.aload_n 1, 1) := by decide +kernel
theorem dX0_reckon_58 : decode cX0_reckon 58 = .ok (.iload_n 3, 1) := by decide +kernel
theorem dX0_reckon_59 : decode cX0_reckon 59 = .ok (.invokevirtual 48, 3) := by decide +kernel
theorem dX0_reckon_62 : decode cX0_reckon 62 = .ok (.invokevirtual 52, 3) := by decide +kernel
theorem dX0_reckon_65 : decode cX0_reckon 65 = .ok (.aload_n 0, 1) := by decide +kernel
theorem dX0_reckon_66 : decode cX0_reckon 66 = .ok (.getfield 20, 3) := by decide +kernel
theorem dX0_reckon_69 : decode cX0_reckon 69 = .ok (.iload 4, 2) := by decide +kernel
theorem dX0_reckon_71 : decode cX0_reckon 71 = .ok (.aload_n 1, 1) := by decide +kernel
theorem dX0_reckon_72 : decode cX0_reckon 72 = .ok (.getfield 26, 3) := by decide +kernel
theorem dX0_reckon_75 : decode cX0_reckon 75 = .ok (.iload_n 3, 1) := by decide +kernel
theorem dX0_reckon_76 : decode cX0_reckon 76 = .ok (.iconst 1, 1) := by decide +kernel
theorem dX0_reckon_77 : decode cX0_reckon 77 = .ok (.invokevirtual 44, 3) := by decide +kernel
theorem dX0_reckon_80 : decode cX0_reckon 80 = .ok (.aload_n 1, 1) := by decide +kernel
theorem dX0_reckon_81 : decode cX0_reckon 81 = .ok (.getfield 26, 3) := by decide +kernel
theorem dX0_reckon_84 : decode cX0_reckon 84 = .ok (.iload_n 3, 1) := by decide +kernel
theorem dX0_reckon_85 : decode cX0_reckon 85 = .ok (.iconst 2, 1) := by decide +kernel
theorem dX0_reckon_86 : decode cX0_reckon 86 = .ok (.invokevirtual 44, 3) := by decide +kernel
theorem dX0_reckon_89 : decode cX0_reckon 89 = .ok (.invokevirtual 52, 3) := by decide +kernel
theorem dX0_reckon_92 : decode cX0_reckon 92 = .ok (.iinc 3 1, 3) := by decide +kernel
theorem dX0_reckon_95 : decode cX0_reckon 95 = .ok (.goto (-79), 3) := by decide +kernel
theorem dX0_reckon_98 : decode cX0_reckon 98 = .ok (.iconst 0, 1) := by decide +kernel
theorem dX0_reckon_99 : decode cX0_reckon 99 = .ok (.istore_n 3, 1) := by decide +kernel
theorem dX0_reckon_100 : decode cX0_reckon 100 = .ok (.iload_n 3, 1) := by decide +kernel
theorem dX0_reckon_101 : decode cX0_reckon 101 = .ok (.bipush 12, 2) := by decide +kernel
theorem dX0_reckon_103 : decode cX0_reckon 103 = .ok (.if_icmp .ge 24, 3) := by decide +kernel
theorem dX0_reckon_106 : decode cX0_reckon 106 = .ok (.aload_n 2, 1) := by decide +kernel
theorem dX0_reckon_107 : decode cX0_reckon 107 = .ok (.iload_n 3, 1) := by decide +kernel
theorem dX0_reckon_108 : decode cX0_reckon 108 = .ok (.invokevirtual 56, 3) := by decide +kernel
theorem dX0_reckon_111 : decode cX0_reckon 111 = .ok (.ifCond .eq 10, 3) := by decide +kernel
theorem dX0_reckon_114 : decode cX0_reckon 114 = .ok (.aload_n 0, 1) := by decide +kernel
theorem dX0_reckon_115 : decode cX0_reckon 115 = .ok (.aload_n 1, 1) := by decide +kernel
theorem dX0_reckon_116 : decode cX0_reckon 116 = .ok (.aload_n 2, 1) := by decide +kernel
theorem dX0_reckon_117 : decode cX0_reckon 117 = .ok (.iload_n 3, 1) := by decide +kernel
theorem dX0_reckon_118 : decode cX0_reckon 118 = .ok (.invokevirtual 60, 3) := by decide +kernel
theorem dX0_reckon_121 : decode cX0_reckon 121 = .ok (.iinc 3 1, 3) := by decide +kernel
theorem dX0_reckon_124 : decode cX0_reckon 124 = .ok (.goto (-24), 3) := by decide +kernel
theorem dX0_reckon_127 : decode cX0_reckon 127 = .ok (.return_, 1) := by decide +kernel
theorem dX0_charge_0 : decode cX0_charge 0 = .ok (.iconst 0, 1) := by decide +kernel
theorem dX0_charge_1 : decode cX0_charge 1 = .ok (.istore_n 2, 1) := by decide +kernel
theorem dX0_charge_2 : decode cX0_charge 2 = .ok (.iload_n 2, 1) := by decide +kernel
theorem dX0_charge_3 : decode cX0_charge 3 = .ok (.bipush 6, 2) := by decide +kernel
theorem dX0_charge_5 : decode cX0_charge 5 = .ok (.if_icmp .ge 23, 3) := by decide +kernel
theorem dX0_charge_8 : decode cX0_charge 8 = .ok (.aload_n 1, 1) := by decide +kernel
theorem dX0_charge_9 : decode cX0_charge 9 = .ok (.iload_n 2, 1) := by decide +kernel
theorem dX0_charge_10 : decode cX0_charge 10 = .ok (.aload_n 0, 1) := by decide +kernel
theorem dX0_charge_11 : decode cX0_charge 11 = .ok (.getfield 14, 3) := by decide +kernel
theorem dX0_charge_14 : decode cX0_charge 14 = .ok (.iload_n 2, 1) := by decide +kernel
theorem dX0_charge_15 : decode cX0_charge 15 = .ok (.iconst 0, 1) := by decide +kernel
theorem dX0_charge_16 : decode cX0_charge 16 = .ok (.invokevirtual 44, 3) := by decide +kernel
theorem dX0_charge_19 : decode cX0_charge 19 = .ok (.invokevirtual 64, 3) := by decide +kernel
theorem dX0_charge_22 : decode cX0_charge 22 = .ok (.iinc 2 1, 3) := by decide +kernel
theorem dX0_charge_25 : decode cX0_charge 25 = .ok (.goto (-23), 3) := by decide +kernel
theorem dX0_charge_28 : decode cX0_charge 28 = .ok (.return_, 1) := by decide +kernel
theorem dX2_init_0 : decode cX2_init 0 = .ok (.aload_n 0, 1) := by decide +kernel
theorem dX2_init_1 : decode cX2_init 1 = .ok (.invokespecial 3, 3) := by decide +kernel
theorem dX2_init_4 : decode cX2_init 4 = .ok (.aload_n 0, 1) := by decide +kernel
theorem dX2_init_5 : decode cX2_init 5 = .ok (.iconst 5, 1) := by decide +kernel
theorem dX2_init_6 : decode cX2_init 6 = .ok (.newarray .int, 2) := by decide +kernel
theorem dX2_init_8 : decode cX2_init 8 = .ok (.putfield 9, 3) := by decide +kernel
theorem dX2_init_11 : decode cX2_init 11 = .ok (.aload_n 0, 1) := by decide +kernel
theorem dX2_init_12 : decode cX2_init 12 = .ok (.iconst 5, 1) := by decide +kernel
theorem dX2_init_13 : decode cX2_init 13 = .ok (.newarray .int, 2) := by decide +kernel
theorem dX2_init_15 : decode cX2_init 15 = .ok (.putfield 15, 3) := by decide +kernel
theorem dX2_init_18 : decode cX2_init 18 = .ok (.aload_n 0, 1) := by decide +kernel
theorem dX2_init_19 : decode cX2_init 19 = .ok (.iconst 0, 1) := by decide +kernel
theorem dX2_init_20 : decode cX2_init 20 = .ok (.putfield 18, 3) := by decide +kernel
theorem dX2_init_23 : decode cX2_init 23 = .ok (.aload_n 0, 1) := by decide +kernel
theorem dX2_init_24 : decode cX2_init 24 = .ok (.new 22, 3) := by decide +kernel
theorem dX2_init_27 : decode cX2_init 27 = .ok (.dup, 1) := by decide +kernel
theorem dX2_init_28 : decode cX2_init 28 = .ok (.bipush 8, 2) := by decide +kernel
theorem dX2_init_30 : decode cX2_init 30 = .ok (.iconst 2, 1) := by decide +kernel
theorem dX2_init_31 : decode cX2_init 31 = .ok (.invokespecial 24, 3) := by decide +kernel
theorem dX2_init_34 : decode cX2_init 34 = .ok (.putfield 27, 3) := by decide +kernel
theorem dX2_init_37 : decode cX2_init 37 = .ok (.return_, 1) := by decide +kernel
theorem dX2_place_0 : decode cX2_place 0 = .ok (.iload_n 3, 1) := by decide +kernel
theorem dX2_place_1 : decode cX2_place 1 = .ok (.ifCond .lt 29, 3) := by decide +kernel
theorem dX2_place_4 : decode cX2_place 4 = .ok (.iload_n 3, 1) := by decide +kernel
theorem dX2_place_5 : decode cX2_place 5 = .ok (.aload_n 0, 1) := by decide +kernel
theorem dX2_place_6 : decode cX2_place 6 = .ok (.getfield 18, 3) := by decide +kernel
theorem dX2_place_9 : decode cX2_place 9 = .ok (.if_icmp .ge 21, 3) := by decide +kernel
theorem dX2_place_12 : decode cX2_place 12 = .ok (.iload_n 3, 1) := by decide +kernel
theorem dX2_place_13 : decode cX2_place 13 = .ok (.aload_n 0, 1) := by decide +kernel
theorem dX2_place_14 : decode cX2_place 14 = .ok (.getfield 9, 3) := by decide +kernel
theorem dX2_place_17 : decode cX2_place 17 = .ok (.arraylength, 1) := by decide +kernel
theorem dX2_place_18 : decode cX2_place 18 = .ok (.if_icmp .ge 12, 3) := by decide +kernel
theorem dX2_place_21 : decode cX2_place 21 = .ok (.iload_n 3, 1) := by decide +kernel
theorem dX2_place_22 : decode cX2_place 22 = .ok (.aload_n 0, 1) := by decide +kernel
theorem dX2_place_23 : decode cX2_place 23 = .ok (.getfield 15, 3) := by decide +kernel
theorem dX2_place_26 : decode cX2_place 26 = .ok (.arraylength, 1) := by decide +kernel
theorem dX2_place_27 : decode cX2_place 27 = .ok (.if_icmp .lt 5, 3) := by decide +kernel
theorem dX2_place_30 : decode cX2_place 30 = .ok (.iconst 1, 1) := by decide +kernel
theorem dX2_place_31 : decode cX2_place 31 = .ok (.ireturn, 1) := by decide +kernel
theorem dX2_place_32 : decode cX2_place 32 = .ok (.aload_n 2, 1) := by decide +kernel
theorem dX2_place_33 : decode cX2_place 33 = .ok (.getfield 37, 3) := by decide +kernel
theorem dX2_place_36 : decode cX2_place 36 = .ok (.aload_n 0, 1) := by decide +kernel
theorem dX2_place_37 : decode cX2_place 37 = .ok (.getfield 9, 3) := by decide +kernel
theorem dX2_place_40 : decode cX2_place 40 = .ok (.iload_n 3, 1) := by decide +kernel
theorem dX2_place_41 : decode cX2_place 41 = .ok (.iaload, 1) := by decide +kernel
theorem dX2_place_42 : decode cX2_place 42 = .ok (.iconst 1, 1) := by decide +kernel
theorem dX2_place_43 : decode cX2_place 43 = .ok (.invokevirtual 40, 3) := by decide +kernel
theorem dX2_place_46 : decode cX2_place 46 = .ok (.istore 4, 2) := by decide +kernel
theorem dX2_place_48 : decode cX2_place 48 = .ok (.aload_n 0, 1) := by decide +kernel
theorem dX2_place_49 : decode cX2_place 49 = .ok (.getfield 27, 3) := by decide +kernel
theorem dX2_place_52 : decode cX2_place 52 = .ok (.astore 5, 2) := by decide +kernel
theorem dX2_place_54 : decode cX2_place 54 = .ok (.aload_n 1, 1) := by decide +kernel
theorem dX2_place_55 : decode cX2_place 55 = .ok (.getfield 67, 3) := by decide +kernel
theorem dX2_place_58 : decode cX2_place 58 = .ok (.iload 4, 2) := by decide +kernel
theorem dX2_place_60 : decode cX2_place 60 = .ok (.iconst 0, 1) := by decide +kernel
theorem dX2_place_61 : decode cX2_place 61 = .ok (.invokevirtual 40, 3) := by decide +kernel
theorem dX2_place_64 : decode cX2_place 64 = .ok (.istore 6, 2) := by decide +kernel
theorem dX2_place_66 : decode cX2_place 66 = .ok (.aload_n 1, 1) := by decide +kernel
theorem dX2_place_67 : decode cX2_place 67 = .ok (.getfield 67, 3) := by decide +kernel
theorem dX2_place_70 : decode cX2_place 70 = .ok (.iload 4, 2) := by decide +kernel
theorem dX2_place_72 : decode cX2_place 72 = .ok (.iconst 1, 1) := by decide +kernel
theorem dX2_place_73 : decode cX2_place 73 = .ok (.invokevirtual 40, 3) := by decide +kernel
theorem dX2_place_76 : decode cX2_place 76 = .ok (.istore 7, 2) := by decide +kernel
theorem dX2_place_78 : decode cX2_place 78 = .ok (.iconst 0, 1) := by decide +kernel
theorem dX2_place_79 : decode cX2_place 79 = .ok (.istore 8, 2) := by decide +kernel
theorem dX2_place_81 : decode cX2_place 81 = .ok (.iload 8, 2) := by decide +kernel
theorem dX2_place_83 : decode cX2_place 83 = .ok (.aload_n 1, 1) := by decide +kernel
theorem dX2_place_84 : decode cX2_place 84 = .ok (.getfield 44, 3) := by decide +kernel
theorem dX2_place_87 : decode cX2_place 87 = .ok (.getfield 49, 3) := by decide +kernel
theorem dX2_place_90 : decode cX2_place 90 = .ok (.if_icmp .ge 99, 3) := by decide +kernel
theorem dX2_place_93 : decode cX2_place 93 = .ok (.iload 6, 2) := by decide +kernel
theorem dX2_place_95 : decode cX2_place 95 = .ok (.aload 5, 2) := by decide +kernel
theorem dX2_place_97 : decode cX2_place 97 = .ok (.iload 8, 2) := by decide +kernel
theorem dX2_place_99 : decode cX2_place 99 = .ok (.iconst 0, 1) := by decide +kernel
theorem dX2_place_100 : decode cX2_place 100 = .ok (.invokevirtual 40, 3) := by decide +kernel
theorem dX2_place_103 : decode cX2_place 103 = .ok (.if_icmp .gt 80, 3) := by decide +kernel
theorem dX2_place_106 : decode cX2_place 106 = .ok (.iload 7, 2) := by decide +kernel
theorem dX2_place_108 : decode cX2_place 108 = .ok (.aload 5, 2) := by decide +kernel
theorem dX2_place_110 : decode cX2_place 110 = .ok (.iload 8, 2) := by decide +kernel
theorem dX2_place_112 : decode cX2_place 112 = .ok (.iconst 1, 1) := by decide +kernel
theorem dX2_place_113 : decode cX2_place 113 = .ok (.invokevirtual 40, 3) := by decide +kernel
theorem dX2_place_116 : decode cX2_place 116 = .ok (.if_icmp .gt 67, 3) := by decide +kernel
theorem dX2_place_119 : decode cX2_place 119 = .ok (.aload 5, 2) := by decide +kernel
theorem dX2_place_121 : decode cX2_place 121 = .ok (.iload 8, 2) := by decide +kernel
theorem dX2_place_123 : decode cX2_place 123 = .ok (.iconst 0, 1) := by decide +kernel
theorem dX2_place_124 : decode cX2_place 124 = .ok (.iload 6, 2) := by decide +kernel
theorem dX2_place_126 : decode cX2_place 126 = .ok (.ineg, 1) := by decide +kernel
theorem dX2_place_127 : decode cX2_place 127 = .ok (.invokevirtual 70, 3) := by decide +kernel
theorem dX2_place_130 : decode cX2_place 130 = .ok (.aload 5, 2) := by decide +kernel
theorem dX2_place_132 : decode cX2_place 132 = .ok (.iload 8, 2) := by decide +kernel
theorem dX2_place_134 : decode cX2_place 134 = .ok (.iconst 1, 1) := by decide +kernel
theorem dX2_place_135 : decode cX2_place 135 = .ok (.iload 7, 2) := by decide +kernel
theorem dX2_place_137 : decode cX2_place 137 = .ok (.ineg, 1) := by decide +kernel
theorem dX2_place_138 : decode cX2_place 138 = .ok (.invokevirtual 70, 3) := by decide +kernel
theorem dX2_place_141 : decode cX2_place 141 = .ok (.aload_n 0, 1) := by decide +kernel
theorem dX2_place_142 : decode cX2_place 142 = .ok (.getfield 15, 3) := by decide +kernel
theorem dX2_place_145 : decode cX2_place 145 = .ok (.iload_n 3, 1) := by decide +kernel
theorem dX2_place_146 : decode cX2_place 146 = .ok (.iload 8, 2) := by decide +kernel
theorem dX2_place_148 : decode cX2_place 148 = .ok (.iastore, 1) := by decide +kernel
theorem dX2_place_149 : decode cX2_place 149 = .ok (.aload_n 0, 1) := by decide +kernel
theorem dX2_place_150 : decode cX2_place 150 = .ok (.aload_n 1, 1) := by decide +kernel
theorem dX2_place_151 : decode cX2_place 151 = .ok (.aload_n 2, 1) := by decide +kernel
theorem dX2_place_152 : decode cX2_place 152 = .ok (.iload_n 3, 1) := by decide +kernel
theorem dX2_place_153 : decode cX2_place 153 = .ok (.iconst 1, 1) := by decide +kernel
theorem dX2_place_154 : decode cX2_place 154 = .ok (.iadd, 1) := by decide +kernel
theorem dX2_place_155 : decode cX2_place 155 = .ok (.invokestatic 60, 3) := by decide +kernel
theorem dX2_place_158 : decode cX2_place 158 = .ok (.ifCond .eq 5, 3) := by decide +kernel
theorem dX2_place_161 : decode cX2_place 161 = .ok (.iconst 1, 1) := by decide +kernel
theorem dX2_place_162 : decode cX2_place 162 = .ok (.ireturn, 1) := by decide +kernel
theorem dX2_place_163 : decode cX2_place 163 = .ok (.aload 5, 2) := by decide +kernel
theorem dX2_place_165 : decode cX2_place 165 = .ok (.iload 8, 2) := by decide +kernel
theorem dX2_place_167 : decode cX2_place 167 = .ok (.iconst 0, 1) := by decide +kernel
theorem dX2_place_168 : decode cX2_place 168 = .ok (.iload 6, 2) := by decide +kernel
theorem dX2_place_170 : decode cX2_place 170 = .ok (.invokevirtual 70, 3) := by decide +kernel
theorem dX2_place_173 : decode cX2_place 173 = .ok (.aload 5, 2) := by decide +kernel
theorem dX2_place_175 : decode cX2_place 175 = .ok (.iload 8, 2) := by decide +kernel
theorem dX2_place_177 : decode cX2_place 177 = .ok (.iconst 1, 1) := by decide +kernel
theorem dX2_place_178 : decode cX2_place 178 = .ok (.iload 7, 2) := by decide +kernel
theorem dX2_place_180 : decode cX2_place 180 = .ok (.invokevirtual 70, 3) := by decide +kernel
theorem dX2_place_183 : decode cX2_place 183 = .ok (.iinc 8 1, 3) := by decide +kernel
theorem dX2_place_186 : decode cX2_place 186 = .ok (.goto (-105), 3) := by decide +kernel
theorem dX2_place_189 : decode cX2_place 189 = .ok (.iconst 0, 1) := by decide +kernel
theorem dX2_place_190 : decode cX2_place 190 = .ok (.ireturn, 1) := by decide +kernel
theorem dX2_plan_0 : decode cX2_plan 0 = .ok (.aload_n 0, 1) := by decide +kernel
theorem dX2_plan_1 : decode cX2_plan 1 = .ok (.iconst 0, 1) := by decide +kernel
theorem dX2_plan_2 : decode cX2_plan 2 = .ok (.putfield 18, 3) := by decide +kernel
theorem dX2_plan_5 : decode cX2_plan 5 = .ok (.iconst 0, 1) := by decide +kernel
theorem dX2_plan_6 : decode cX2_plan 6 = .ok (.istore 4, 2) := by decide +kernel
theorem dX2_plan_8 : decode cX2_plan 8 = .ok (.iload 4, 2) := by decide +kernel
theorem dX2_plan_10 : decode cX2_plan 10 = .ok (.bipush 12, 2) := by decide +kernel
theorem dX2_plan_12 : decode cX2_plan 12 = .ok (.if_icmp .ge 84, 3) := by decide +kernel
theorem dX2_plan_15 : decode cX2_plan 15 = .ok (.aload_n 2, 1) := by decide +kernel
theorem dX2_plan_16 : decode cX2_plan 16 = .ok (.iload 4, 2) := by decide +kernel
theorem dX2_plan_18 : decode cX2_plan 18 = .ok (.invokevirtual 31, 3) := by decide +kernel
theorem dX2_plan_21 : decode cX2_plan 21 = .ok (.ifCond .eq 21, 3) := by decide +kernel
theorem dX2_plan_24 : decode cX2_plan 24 = .ok (.aload_n 2, 1) := by decide +kernel
theorem dX2_plan_25 : decode cX2_plan 25 = .ok (.getfield 37, 3) := by decide +kernel
theorem dX2_plan_28 : decode cX2_plan 28 = .ok (.iload 4, 2) := by decide +kernel
theorem dX2_plan_30 : decode cX2_plan 30 = .ok (.iconst 3, 1) := by decide +kernel
theorem dX2_plan_31 : decode cX2_plan 31 = .ok (.invokevirtual 40, 3) := by decide +kernel
theorem dX2_plan_34 : decode cX2_plan 34 = .ok (.iload_n 3, 1) := by decide +kernel
theorem dX2_plan_35 : decode cX2_plan 35 = .ok (.if_icmp .ne 7, 3) := by decide +kernel
theorem dX2_plan_38 : decode cX2_plan 38 = .ok (.iconst 1, 1) := by decide +kernel
theorem dX2_plan_39 : decode cX2_plan 39 = .ok (.goto 4, 3) := by decide +kernel
theorem dX2_plan_42 : decode cX2_plan 42 = .ok (.iconst 0, 1) := by decide +kernel
theorem dX2_plan_43 : decode cX2_plan 43 = .ok (.istore 5, 2) := by decide +kernel
theorem dX2_plan_45 : decode cX2_plan 45 = .ok (.iload 5, 2) := by decide +kernel
theorem dX2_plan_47 : decode cX2_plan 47 = .ok (.ifCond .eq 43, 3) := by decide +kernel
theorem dX2_plan_50 : decode cX2_plan 50 = .ok (.aload_n 0, 1) := by decide +kernel
theorem dX2_plan_51 : decode cX2_plan 51 = .ok (.getfield 18, 3) := by decide +kernel
theorem dX2_plan_54 : decode cX2_plan 54 = .ok (.ifCond .lt 36, 3) := by decide +kernel
theorem dX2_plan_57 : decode cX2_plan 57 = .ok (.aload_n 0, 1) := by decide +kernel
theorem dX2_plan_58 : decode cX2_plan 58 = .ok (.getfield 18, 3) := by decide +kernel
theorem dX2_plan_61 : decode cX2_plan 61 = .ok (.aload_n 0, 1) := by decide +kernel
theorem dX2_plan_62 : decode cX2_plan 62 = .ok (.getfield 9, 3) := by decide +kernel
theorem dX2_plan_65 : decode cX2_plan 65 = .ok (.arraylength, 1) := by decide +kernel
theorem dX2_plan_66 : decode cX2_plan 66 = .ok (.if_icmp .ge 24, 3) := by decide +kernel
theorem dX2_plan_69 : decode cX2_plan 69 = .ok (.aload_n 0, 1) := by decide +kernel
theorem dX2_plan_70 : decode cX2_plan 70 = .ok (.getfield 9, 3) := by decide +kernel
theorem dX2_plan_73 : decode cX2_plan 73 = .ok (.aload_n 0, 1) := by decide +kernel
theorem dX2_plan_74 : decode cX2_plan 74 = .ok (.getfield 18, 3) := by decide +kernel
theorem dX2_plan_77 : decode cX2_plan 77 = .ok (.iload 4, 2) := by decide +kernel
theorem dX2_plan_79 : decode cX2_plan 79 = .ok (.iastore, 1) := by decide +kernel
theorem dX2_plan_80 : decode cX2_plan 80 = .ok (.aload_n 0, 1) := by decide +kernel
theorem dX2_plan_81 : decode cX2_plan 81 = .ok (.dup, 1) := by decide +kernel
theorem dX2_plan_82 : decode cX2_plan 82 = .ok (.getfield 18, 3) := by decide +kernel
theorem dX2_plan_85 : decode cX2_plan 85 = .ok (.iconst 1, 1) := by decide +kernel
theorem dX2_plan_86 : decode cX2_plan 86 = .ok (.iadd, 1) := by decide +kernel
theorem dX2_plan_87 : decode cX2_plan 87 = .ok (.putfield 18, 3) := by decide +kernel
theorem dX2_plan_90 : decode cX2_plan 90 = .ok (.iinc 4 1, 3) := by decide +kernel
theorem dX2_plan_93 : decode cX2_plan 93 = .ok (.goto (-85), 3) := by decide +kernel
theorem dX2_plan_96 : decode cX2_plan 96 = .ok (.iconst 0, 1) := by decide +kernel
theorem dX2_plan_97 : decode cX2_plan 97 = .ok (.istore 4, 2) := by decide +kernel
theorem dX2_plan_99 : decode cX2_plan 99 = .ok (.iload 4, 2) := by decide +kernel
theorem dX2_plan_101 : decode cX2_plan 101 = .ok (.aload_n 1, 1) := by decide +kernel
theorem dX2_plan_102 : decode cX2_plan 102 = .ok (.getfield 44, 3) := by decide +kernel
theorem dX2_plan_105 : decode cX2_plan 105 = .ok (.getfield 49, 3) := by decide +kernel
theorem dX2_plan_108 : decode cX2_plan 108 = .ok (.if_icmp .ge 65, 3) := by decide +kernel
theorem dX2_plan_111 : decode cX2_plan 111 = .ok (.aload_n 0, 1) := by decide +kernel
theorem dX2_plan_112 : decode cX2_plan 112 = .ok (.getfield 27, 3) := by decide +kernel
theorem dX2_plan_115 : decode cX2_plan 115 = .ok (.iload 4, 2) := by decide +kernel
theorem dX2_plan_117 : decode cX2_plan 117 = .ok (.iconst 0, 1) := by decide +kernel
theorem dX2_plan_118 : decode cX2_plan 118 = .ok (.iload 4, 2) := by decide +kernel
theorem dX2_plan_120 : decode cX2_plan 120 = .ok (.iload_n 3, 1) := by decide +kernel
theorem dX2_plan_121 : decode cX2_plan 121 = .ok (.if_icmp .ne 7, 3) := by decide +kernel
theorem dX2_plan_124 : decode cX2_plan 124 = .ok (.iconst 0, 1) := by decide +kernel
theorem dX2_plan_125 : decode cX2_plan 125 = .ok (.goto 11, 3) := by decide +kernel
theorem dX2_plan_128 : decode cX2_plan 128 = .ok (.aload_n 2, 1) := by decide +kernel
theorem dX2_plan_129 : decode cX2_plan 129 = .ok (.aload_n 1, 1) := by decide +kernel
theorem dX2_plan_130 : decode cX2_plan 130 = .ok (.iload 4, 2) := by decide +kernel
theorem dX2_plan_132 : decode cX2_plan 132 = .ok (.iconst 0, 1) := by decide +kernel
theorem dX2_plan_133 : decode cX2_plan 133 = .ok (.invokevirtual 52, 3) := by decide +kernel
theorem dX2_plan_136 : decode cX2_plan 136 = .ok (.invokevirtual 56, 3) := by decide +kernel
theorem dX2_plan_139 : decode cX2_plan 139 = .ok (.aload_n 0, 1) := by decide +kernel
theorem dX2_plan_140 : decode cX2_plan 140 = .ok (.getfield 27, 3) := by decide +kernel
theorem dX2_plan_143 : decode cX2_plan 143 = .ok (.iload 4, 2) := by decide +kernel
theorem dX2_plan_145 : decode cX2_plan 145 = .ok (.iconst 1, 1) := by decide +kernel
theorem dX2_plan_146 : decode cX2_plan 146 = .ok (.iload 4, 2) := by decide +kernel
theorem dX2_plan_148 : decode cX2_plan 148 = .ok (.iload_n 3, 1) := by decide +kernel
theorem dX2_plan_149 : decode cX2_plan 149 = .ok (.if_icmp .ne 7, 3) := by decide +kernel
theorem dX2_plan_152 : decode cX2_plan 152 = .ok (.iconst 0, 1) := by decide +kernel
theorem dX2_plan_153 : decode cX2_plan 153 = .ok (.goto 11, 3) := by decide +kernel
theorem dX2_plan_156 : decode cX2_plan 156 = .ok (.aload_n 2, 1) := by decide +kernel
theorem dX2_plan_157 : decode cX2_plan 157 = .ok (.aload_n 1, 1) := by decide +kernel
theorem dX2_plan_158 : decode cX2_plan 158 = .ok (.iload 4, 2) := by decide +kernel
theorem dX2_plan_160 : decode cX2_plan 160 = .ok (.iconst 1, 1) := by decide +kernel
theorem dX2_plan_161 : decode cX2_plan 161 = .ok (.invokevirtual 52, 3) := by decide +kernel
theorem dX2_plan_164 : decode cX2_plan 164 = .ok (.invokevirtual 56, 3) := by decide +kernel
theorem dX2_plan_167 : decode cX2_plan 167 = .ok (.iinc 4 1, 3) := by decide +kernel
theorem dX2_plan_170 : decode cX2_plan 170 = .ok (.goto (-71), 3) := by decide +kernel
theorem dX2_plan_173 : decode cX2_plan 173 = .ok (.aload_n 0, 1) := by decide +kernel
theorem dX2_plan_174 : decode cX2_plan 174 = .ok (.aload_n 1, 1) := by decide +kernel
theorem dX2_plan_175 : decode cX2_plan 175 = .ok (.aload_n 2, 1) := by decide +kernel
theorem dX2_plan_176 : decode cX2_plan 176 = .ok (.iconst 0, 1) := by decide +kernel
theorem dX2_plan_177 : decode cX2_plan 177 = .ok (.invokestatic 60, 3) := by decide +kernel
theorem dX2_plan_180 : decode cX2_plan 180 = .ok (.ireturn, 1) := by decide +kernel
theorem dX2_targetOf_0 : decode cX2_targetOf 0 = .ok (.iconst 0, 1) := by decide +kernel
theorem dX2_targetOf_1 : decode cX2_targetOf 1 = .ok (.istore_n 2, 1) := by decide +kernel
theorem dX2_targetOf_2 : decode cX2_targetOf 2 = .ok (.iload_n 2, 1) := by decide +kernel
theorem dX2_targetOf_3 : decode cX2_targetOf 3 = .ok (.aload_n 0, 1) := by decide +kernel
theorem dX2_targetOf_4 : decode cX2_targetOf 4 = .ok (.getfield 18, 3) := by decide +kernel
theorem dX2_targetOf_7 : decode cX2_targetOf 7 = .ok (.if_icmp .ge 44, 3) := by decide +kernel
theorem dX2_targetOf_10 : decode cX2_targetOf 10 = .ok (.iload_n 2, 1) := by decide +kernel
theorem dX2_targetOf_11 : decode cX2_targetOf 11 = .ok (.aload_n 0, 1) := by decide +kernel
theorem dX2_targetOf_12 : decode cX2_targetOf 12 = .ok (.getfield 9, 3) := by decide +kernel
theorem dX2_targetOf_15 : decode cX2_targetOf 15 = .ok (.arraylength, 1) := by decide +kernel
theorem dX2_targetOf_16 : decode cX2_targetOf 16 = .ok (.if_icmp .ge 35, 3) := by decide +kernel
theorem dX2_targetOf_19 : decode cX2_targetOf 19 = .ok (.iload_n 2, 1) := by decide +kernel
theorem dX2_targetOf_20 : decode cX2_targetOf 20 = .ok (.aload_n 0, 1) := by decide +kernel
theorem dX2_targetOf_21 : decode cX2_targetOf 21 = .ok (.getfield 15, 3) := by decide +kernel
theorem dX2_targetOf_24 : decode cX2_targetOf 24 = .ok (.arraylength, 1) := by decide +kernel
theorem dX2_targetOf_25 : decode cX2_targetOf 25 = .ok (.if_icmp .ge 26, 3) := by decide +kernel
theorem dX2_targetOf_28 : decode cX2_targetOf 28 = .ok (.aload_n 0, 1) := by decide +kernel
theorem dX2_targetOf_29 : decode cX2_targetOf 29 = .ok (.getfield 9, 3) := by decide +kernel
theorem dX2_targetOf_32 : decode cX2_targetOf 32 = .ok (.iload_n 2, 1) := by decide +kernel
theorem dX2_targetOf_33 : decode cX2_targetOf 33 = .ok (.iaload, 1) := by decide +kernel
theorem dX2_targetOf_34 : decode cX2_targetOf 34 = .ok (.iload_n 1, 1) := by decide +kernel
theorem dX2_targetOf_35 : decode cX2_targetOf 35 = .ok (.if_icmp .ne 10, 3) := by decide +kernel
theorem dX2_targetOf_38 : decode cX2_targetOf 38 = .ok (.aload_n 0, 1) := by decide +kernel
theorem dX2_targetOf_39 : decode cX2_targetOf 39 = .ok (.getfield 15, 3) := by decide +kernel
theorem dX2_targetOf_42 : decode cX2_targetOf 42 = .ok (.iload_n 2, 1) := by decide +kernel
theorem dX2_targetOf_43 : decode cX2_targetOf 43 = .ok (.iaload, 1) := by decide +kernel
theorem dX2_targetOf_44 : decode cX2_targetOf 44 = .ok (.ireturn, 1) := by decide +kernel
theorem dX2_targetOf_45 : decode cX2_targetOf 45 = .ok (.iinc 2 1, 3) := by decide +kernel
theorem dX2_targetOf_48 : decode cX2_targetOf 48 = .ok (.goto (-46), 3) := by decide +kernel
theorem dX2_targetOf_51 : decode cX2_targetOf 51 = .ok (.iconst (-1), 1) := by decide +kernel
theorem dX2_targetOf_52 : decode cX2_targetOf 52 = .ok (.ireturn, 1) := by decide +kernel
theorem dX2_carryOut_0 : decode cX2_carryOut 0 = .ok (.iconst 0, 1) := by decide +kernel
theorem dX2_carryOut_1 : decode cX2_carryOut 1 = .ok (.istore_n 3, 1) := by decide +kernel
theorem dX2_carryOut_2 : decode cX2_carryOut 2 = .ok (.iload_n 3, 1) := by decide +kernel
theorem dX2_carryOut_3 : decode cX2_carryOut 3 = .ok (.aload_n 0, 1) := by decide +kernel
theorem dX2_carryOut_4 : decode cX2_carryOut 4 = .ok (.getfield 18, 3) := by decide +kernel
theorem dX2_carryOut_7 : decode cX2_carryOut 7 = .ok (.if_icmp .ge 45, 3) := by decide +kernel
theorem dX2_carryOut_10 : decode cX2_carryOut 10 = .ok (.iload_n 3, 1) := by decide +kernel
theorem dX2_carryOut_11 : decode cX2_carryOut 11 = .ok (.aload_n 0, 1) := by decide +kernel
theorem dX2_carryOut_12 : decode cX2_carryOut 12 = .ok (.getfield 9, 3) := by decide +kernel
theorem dX2_carryOut_15 : decode cX2_carryOut 15 = .ok (.arraylength, 1) := by decide +kernel
theorem dX2_carryOut_16 : decode cX2_carryOut 16 = .ok (.if_icmp .ge 36, 3) := by decide +kernel
theorem dX2_carryOut_19 : decode cX2_carryOut 19 = .ok (.iload_n 3, 1) := by decide +kernel
theorem dX2_carryOut_20 : decode cX2_carryOut 20 = .ok (.aload_n 0, 1) := by decide +kernel
theorem dX2_carryOut_21 : decode cX2_carryOut 21 = .ok (.getfield 15, 3) := by decide +kernel
theorem dX2_carryOut_24 : decode cX2_carryOut 24 = .ok (.arraylength, 1) := by decide +kernel
theorem dX2_carryOut_25 : decode cX2_carryOut 25 = .ok (.if_icmp .ge 27, 3) := by decide +kernel
theorem dX2_carryOut_28 : decode cX2_carryOut 28 = .ok (.aload_n 2, 1) := by decide +kernel
theorem dX2_carryOut_29 : decode cX2_carryOut 29 = .ok (.aload_n 1, 1) := by decide +kernel
theorem dX2_carryOut_30 : decode cX2_carryOut 30 = .ok (.aload_n 0, 1) := by decide +kernel
theorem dX2_carryOut_31 : decode cX2_carryOut 31 = .ok (.getfield 9, 3) := by decide +kernel
theorem dX2_carryOut_34 : decode cX2_carryOut 34 = .ok (.iload_n 3, 1) := by decide +kernel
theorem dX2_carryOut_35 : decode cX2_carryOut 35 = .ok (.iaload, 1) := by decide +kernel
theorem dX2_carryOut_36 : decode cX2_carryOut 36 = .ok (.aload_n 0, 1) := by decide +kernel
theorem dX2_carryOut_37 : decode cX2_carryOut 37 = .ok (.getfield 15, 3) := by decide +kernel
theorem dX2_carryOut_40 : decode cX2_carryOut 40 = .ok (.iload_n 3, 1) := by decide +kernel
theorem dX2_carryOut_41 : decode cX2_carryOut 41 = .ok (.iaload, 1) := by decide +kernel
theorem dX2_carryOut_42 : decode cX2_carryOut 42 = .ok (.invokevirtual 64, 3) := by decide +kernel
theorem dX2_carryOut_45 : decode cX2_carryOut 45 = .ok (.pop, 1) := by decide +kernel
theorem dX2_carryOut_46 : decode cX2_carryOut 46 = .ok (.iinc 3 1, 3) := by decide +kernel
theorem dX2_carryOut_49 : decode cX2_carryOut 49 = .ok (.goto (-47), 3) := by decide +kernel
theorem dX2_carryOut_52 : decode cX2_carryOut 52 = .ok (.return_, 1) := by decide +kernel
theorem dX3_init_0 : decode cX3_init 0 = .ok (.aload_n 0, 1) := by decide +kernel
theorem dX3_init_1 : decode cX3_init 1 = .ok (.invokespecial 3, 3) := by decide +kernel
theorem dX3_init_4 : decode cX3_init 4 = .ok (.aload_n 0, 1) := by decide +kernel
theorem dX3_init_5 : decode cX3_init 5 = .ok (.new 9, 3) := by decide +kernel
theorem dX3_init_8 : decode cX3_init 8 = .ok (.dup, 1) := by decide +kernel
theorem dX3_init_9 : decode cX3_init 9 = .ok (.bipush 12, 2) := by decide +kernel
theorem dX3_init_11 : decode cX3_init 11 = .ok (.iconst 4, 1) := by decide +kernel
theorem dX3_init_12 : decode cX3_init 12 = .ok (.invokespecial 11, 3) := by decide +kernel
theorem dX3_init_15 : decode cX3_init 15 = .ok (.putfield 14, 3) := by decide +kernel
theorem dX3_init_18 : decode cX3_init 18 = .ok (.aload_n 0, 1) := by decide +kernel
theorem dX3_init_19 : decode cX3_init 19 = .ok (.iconst (-1), 1) := by decide +kernel
theorem dX3_init_20 : decode cX3_init 20 = .ok (.putfield 20, 3) := by decide +kernel
theorem dX3_init_23 : decode cX3_init 23 = .ok (.aload_n 0, 1) := by decide +kernel
theorem dX3_init_24 : decode cX3_init 24 = .ok (.iconst 0, 1) := by decide +kernel
theorem dX3_init_25 : decode cX3_init 25 = .ok (.putfield 24, 3) := by decide +kernel
theorem dX3_init_28 : decode cX3_init 28 = .ok (.return_, 1) := by decide +kernel
theorem dX3_addSpot_0 : decode cX3_addSpot 0 = .ok (.aload_n 2, 1) := by decide +kernel
theorem dX3_addSpot_1 : decode cX3_addSpot 1 = .ok (.getfield 37, 3) := by decide +kernel
theorem dX3_addSpot_4 : decode cX3_addSpot 4 = .ok (.iload_n 3, 1) := by decide +kernel
theorem dX3_addSpot_5 : decode cX3_addSpot 5 = .ok (.iconst 1, 1) := by decide +kernel
theorem dX3_addSpot_6 : decode cX3_addSpot 6 = .ok (.invokevirtual 40, 3) := by decide +kernel
theorem dX3_addSpot_9 : decode cX3_addSpot 9 = .ok (.istore 4, 2) := by decide +kernel
theorem dX3_addSpot_11 : decode cX3_addSpot 11 = .ok (.aload_n 0, 1) := by decide +kernel
theorem dX3_addSpot_12 : decode cX3_addSpot 12 = .ok (.getfield 14, 3) := by decide +kernel
theorem dX3_addSpot_15 : decode cX3_addSpot 15 = .ok (.getfield 61, 3) := by decide +kernel
theorem dX3_addSpot_18 : decode cX3_addSpot 18 = .ok (.istore 5, 2) := by decide +kernel
theorem dX3_addSpot_20 : decode cX3_addSpot 20 = .ok (.aload_n 0, 1) := by decide +kernel
theorem dX3_addSpot_21 : decode cX3_addSpot 21 = .ok (.getfield 14, 3) := by decide +kernel
theorem dX3_addSpot_24 : decode cX3_addSpot 24 = .ok (.iload 5, 2) := by decide +kernel
theorem dX3_addSpot_26 : decode cX3_addSpot 26 = .ok (.invokevirtual 64, 3) := by decide +kernel
theorem dX3_addSpot_29 : decode cX3_addSpot 29 = .ok (.aload_n 0, 1) := by decide +kernel
theorem dX3_addSpot_30 : decode cX3_addSpot 30 = .ok (.getfield 14, 3) := by decide +kernel
theorem dX3_addSpot_33 : decode cX3_addSpot 33 = .ok (.iload 5, 2) := by decide +kernel
theorem dX3_addSpot_35 : decode cX3_addSpot 35 = .ok (.iconst 0, 1) := by decide +kernel
theorem dX3_addSpot_36 : decode cX3_addSpot 36 = .ok (.aload_n 1, 1) := by decide +kernel
theorem dX3_addSpot_37 : decode cX3_addSpot 37 = .ok (.getfield 48, 3) := by decide +kernel
theorem dX3_addSpot_40 : decode cX3_addSpot 40 = .ok (.iload 4, 2) := by decide +kernel
theorem dX3_addSpot_42 : decode cX3_addSpot 42 = .ok (.iconst 0, 1) := by decide +kernel
theorem dX3_addSpot_43 : decode cX3_addSpot 43 = .ok (.invokevirtual 40, 3) := by decide +kernel
theorem dX3_addSpot_46 : decode cX3_addSpot 46 = .ok (.invokevirtual 68, 3) := by decide +kernel
theorem dX3_addSpot_49 : decode cX3_addSpot 49 = .ok (.aload_n 0, 1) := by decide +kernel
theorem dX3_addSpot_50 : decode cX3_addSpot 50 = .ok (.getfield 14, 3) := by decide +kernel
theorem dX3_addSpot_53 : decode cX3_addSpot 53 = .ok (.iload 5, 2) := by decide +kernel
theorem dX3_addSpot_55 : decode cX3_addSpot 55 = .ok (.iconst 1, 1) := by decide +kernel
theorem dX3_addSpot_56 : decode cX3_addSpot 56 = .ok (.aload_n 1, 1) := by decide +kernel
theorem dX3_addSpot_57 : decode cX3_addSpot 57 = .ok (.getfield 48, 3) := by decide +kernel
theorem dX3_addSpot_60 : decode cX3_addSpot 60 = .ok (.iload 4, 2) := by decide +kernel
theorem dX3_addSpot_62 : decode cX3_addSpot 62 = .ok (.iconst 1, 1) := by decide +kernel
theorem dX3_addSpot_63 : decode cX3_addSpot 63 = .ok (.invokevirtual 40, 3) := by decide +kernel
theorem dX3_addSpot_66 : decode cX3_addSpot 66 = .ok (.invokevirtual 68, 3) := by decide +kernel
theorem dX3_addSpot_69 : decode cX3_addSpot 69 = .ok (.aload_n 0, 1) := by decide +kernel
theorem dX3_addSpot_70 : decode cX3_addSpot 70 = .ok (.getfield 14, 3) := by decide +kernel
theorem dX3_addSpot_73 : decode cX3_addSpot 73 = .ok (.iload 5, 2) := by decide +kernel
theorem dX3_addSpot_75 : decode cX3_addSpot 75 = .ok (.iconst 2, 1) := by decide +kernel
theorem dX3_addSpot_76 : decode cX3_addSpot 76 = .ok (.aload_n 2, 1) := by decide +kernel
theorem dX3_addSpot_77 : decode cX3_addSpot 77 = .ok (.getfield 37, 3) := by decide +kernel
theorem dX3_addSpot_80 : decode cX3_addSpot 80 = .ok (.iload_n 3, 1) := by decide +kernel
theorem dX3_addSpot_81 : decode cX3_addSpot 81 = .ok (.iconst 2, 1) := by decide +kernel
theorem dX3_addSpot_82 : decode cX3_addSpot 82 = .ok (.invokevirtual 40, 3) := by decide +kernel
theorem dX3_addSpot_85 : decode cX3_addSpot 85 = .ok (.invokevirtual 68, 3) := by decide +kernel
theorem dX3_addSpot_88 : decode cX3_addSpot 88 = .ok (.aload_n 0, 1) := by decide +kernel
theorem dX3_addSpot_89 : decode cX3_addSpot 89 = .ok (.getfield 14, 3) := by decide +kernel
theorem dX3_addSpot_92 : decode cX3_addSpot 92 = .ok (.iload 5, 2) := by decide +kernel
theorem dX3_addSpot_94 : decode cX3_addSpot 94 = .ok (.iconst 3, 1) := by decide +kernel
theorem dX3_addSpot_95 : decode cX3_addSpot 95 = .ok (.iload_n 3, 1) := by decide +kernel
theorem dX3_addSpot_96 : decode cX3_addSpot 96 = .ok (.invokevirtual 68, 3) := by decide +kernel
theorem dX3_addSpot_99 : decode cX3_addSpot 99 = .ok (.return_, 1) := by decide +kernel
theorem dX3_keep_0 : decode cX3_keep 0 = .ok (.aload_n 0, 1) := by decide +kernel
theorem dX3_keep_1 : decode cX3_keep 1 = .ok (.getfield 20, 3) := by decide +kernel
theorem dX3_keep_4 : decode cX3_keep 4 = .ok (.invokestatic 78, 3) := by decide +kernel
theorem dX3_keep_7 : decode cX3_keep 7 = .ok (.iload_n 1, 1) := by decide +kernel
theorem dX3_keep_8 : decode cX3_keep 8 = .ok (.invokestatic 78, 3) := by decide +kernel
theorem dX3_keep_11 : decode cX3_keep 11 = .ok (.isub, 1) := by decide +kernel
theorem dX3_keep_12 : decode cX3_keep 12 = .ok (.istore_n 3, 1) := by decide +kernel
theorem dX3_keep_13 : decode cX3_keep 13 = .ok (.aload_n 0, 1) := by decide +kernel
theorem dX3_keep_14 : decode cX3_keep 14 = .ok (.getfield 20, 3) := by decide +kernel
theorem dX3_keep_17 : decode cX3_keep 17 = .ok (.iconst (-1), 1) := by decide +kernel
theorem dX3_keep_18 : decode cX3_keep 18 = .ok (.if_icmp .eq 27, 3) := by decide +kernel
theorem dX3_keep_21 : decode cX3_keep 21 = .ok (.iload_n 2, 1) := by decide +kernel
theorem dX3_keep_22 : decode cX3_keep 22 = .ok (.aload_n 0, 1) := by decide +kernel
theorem dX3_keep_23 : decode cX3_keep 23 = .ok (.getfield 24, 3) := by decide +kernel
theorem dX3_keep_26 : decode cX3_keep 26 = .ok (.if_icmp .lt 19, 3) := by decide +kernel
theorem dX3_keep_29 : decode cX3_keep 29 = .ok (.iload_n 3, 1) := by decide +kernel
theorem dX3_keep_30 : decode cX3_keep 30 = .ok (.ifCond .gt 15, 3) := by decide +kernel
theorem dX3_keep_33 : decode cX3_keep 33 = .ok (.iload_n 3, 1) := by decide +kernel
theorem dX3_keep_34 : decode cX3_keep 34 = .ok (.ifCond .ne 21, 3) := by decide +kernel
theorem dX3_keep_37 : decode cX3_keep 37 = .ok (.iload_n 1, 1) := by decide +kernel
theorem dX3_keep_38 : decode cX3_keep 38 = .ok (.aload_n 0, 1) := by decide +kernel
theorem dX3_keep_39 : decode cX3_keep 39 = .ok (.getfield 20, 3) := by decide +kernel
theorem dX3_keep_42 : decode cX3_keep 42 = .ok (.if_icmp .ge 13, 3) := by decide +kernel
theorem dX3_keep_45 : decode cX3_keep 45 = .ok (.aload_n 0, 1) := by decide +kernel
theorem dX3_keep_46 : decode cX3_keep 46 = .ok (.iload_n 1, 1) := by decide +kernel
theorem dX3_keep_47 : decode cX3_keep 47 = .ok (.putfield 20, 3) := by decide +kernel
theorem dX3_keep_50 : decode cX3_keep 50 = .ok (.aload_n 0, 1) := by decide +kernel
theorem dX3_keep_51 : decode cX3_keep 51 = .ok (.iload_n 2, 1) := by decide +kernel
theorem dX3_keep_52 : decode cX3_keep 52 = .ok (.putfield 24, 3) := by decide +kernel
theorem dX3_keep_55 : decode cX3_keep 55 = .ok (.return_, 1) := by decide +kernel
theorem dX3_choose_0 : decode cX3_choose 0 = .ok (.iload 5, 2) := by decide +kernel
theorem dX3_choose_2 : decode cX3_choose 2 = .ok (.aload_n 0, 1) := by decide +kernel
theorem dX3_choose_3 : decode cX3_choose 3 = .ok (.getfield 24, 3) := by decide +kernel
theorem dX3_choose_6 : decode cX3_choose 6 = .ok (.if_icmp .le 4, 3) := by decide +kernel
theorem dX3_choose_9 : decode cX3_choose 9 = .ok (.return_, 1) := by decide +kernel
theorem dX3_choose_10 : decode cX3_choose 10 = .ok (.iload_n 3, 1) := by decide +kernel
theorem dX3_choose_11 : decode cX3_choose 11 = .ok (.ifCond .gt 16, 3) := by decide +kernel
theorem dX3_choose_14 : decode cX3_choose 14 = .ok (.iload 4, 2) := by decide +kernel
theorem dX3_choose_16 : decode cX3_choose 16 = .ok (.ifCond .gt 11, 3) := by decide +kernel
theorem dX3_choose_19 : decode cX3_choose 19 = .ok (.aload_n 0, 1) := by decide +kernel
theorem dX3_choose_20 : decode cX3_choose 20 = .ok (.iload_n 2, 1) := by decide +kernel
theorem dX3_choose_21 : decode cX3_choose 21 = .ok (.iload 5, 2) := by decide +kernel
theorem dX3_choose_23 : decode cX3_choose 23 = .ok (.invokevirtual 72, 3) := by decide +kernel
theorem dX3_choose_26 : decode cX3_choose 26 = .ok (.return_, 1) := by decide +kernel
theorem dX3_choose_27 : decode cX3_choose 27 = .ok (.aload_n 0, 1) := by decide +kernel
theorem dX3_choose_28 : decode cX3_choose 28 = .ok (.getfield 14, 3) := by decide +kernel
theorem dX3_choose_31 : decode cX3_choose 31 = .ok (.astore 6, 2) := by decide +kernel
theorem dX3_choose_33 : decode cX3_choose 33 = .ok (.aload 6, 2) := by decide +kernel
theorem dX3_choose_35 : decode cX3_choose 35 = .ok (.iload_n 1, 1) := by decide +kernel
theorem dX3_choose_36 : decode cX3_choose 36 = .ok (.invokevirtual 75, 3) := by decide +kernel
theorem dX3_choose_39 : decode cX3_choose 39 = .ok (.ifCond .ne 4, 3) := by decide +kernel
theorem dX3_choose_42 : decode cX3_choose 42 = .ok (.return_, 1) := by decide +kernel
theorem dX3_choose_43 : decode cX3_choose 43 = .ok (.aload_n 0, 1) := by decide +kernel
theorem dX3_choose_44 : decode cX3_choose 44 = .ok (.iload_n 1, 1) := by decide +kernel
theorem dX3_choose_45 : decode cX3_choose 45 = .ok (.iconst 1, 1) := by decide +kernel
theorem dX3_choose_46 : decode cX3_choose 46 = .ok (.iadd, 1) := by decide +kernel
theorem dX3_choose_47 : decode cX3_choose 47 = .ok (.iload_n 2, 1) := by decide +kernel
theorem dX3_choose_48 : decode cX3_choose 48 = .ok (.iconst 1, 1) := by decide +kernel
theorem dX3_choose_49 : decode cX3_choose 49 = .ok (.aload 6, 2) := by decide +kernel
theorem dX3_choose_51 : decode cX3_choose 51 = .ok (.iload_n 1, 1) := by decide +kernel
theorem dX3_choose_52 : decode cX3_choose 52 = .ok (.iconst 3, 1) := by decide +kernel
theorem dX3_choose_53 : decode cX3_choose 53 = .ok (.invokevirtual 40, 3) := by decide +kernel
theorem dX3_choose_56 : decode cX3_choose 56 = .ok (.ishl, 1) := by decide +kernel
theorem dX3_choose_57 : decode cX3_choose 57 = .ok (.ior, 1) := by decide +kernel
theorem dX3_choose_58 : decode cX3_choose 58 = .ok (.iload_n 3, 1) := by decide +kernel
theorem dX3_choose_59 : decode cX3_choose 59 = .ok (.aload 6, 2) := by decide +kernel
theorem dX3_choose_61 : decode cX3_choose 61 = .ok (.iload_n 1, 1) := by decide +kernel
theorem dX3_choose_62 : decode cX3_choose 62 = .ok (.iconst 0, 1) := by decide +kernel
theorem dX3_choose_63 : decode cX3_choose 63 = .ok (.invokevirtual 40, 3) := by decide +kernel
theorem dX3_choose_66 : decode cX3_choose 66 = .ok (.isub, 1) := by decide +kernel
theorem dX3_choose_67 : decode cX3_choose 67 = .ok (.iload 4, 2) := by decide +kernel
theorem dX3_choose_69 : decode cX3_choose 69 = .ok (.aload 6, 2) := by decide +kernel
theorem dX3_choose_71 : decode cX3_choose 71 = .ok (.iload_n 1, 1) := by decide +kernel
theorem dX3_choose_72 : decode cX3_choose 72 = .ok (.iconst 1, 1) := by decide +kernel
theorem dX3_choose_73 : decode cX3_choose 73 = .ok (.invokevirtual 40, 3) := by decide +kernel
theorem dX3_choose_76 : decode cX3_choose 76 = .ok (.isub, 1) := by decide +kernel
theorem dX3_choose_77 : decode cX3_choose 77 = .ok (.iload 5, 2) := by decide +kernel
theorem dX3_choose_79 : decode cX3_choose 79 = .ok (.aload 6, 2) := by decide +kernel
theorem dX3_choose_81 : decode cX3_choose 81 = .ok (.iload_n 1, 1) := by decide +kernel
theorem dX3_choose_82 : decode cX3_choose 82 = .ok (.iconst 2, 1) := by decide +kernel
theorem dX3_choose_83 : decode cX3_choose 83 = .ok (.invokevirtual 40, 3) := by decide +kernel
theorem dX3_choose_86 : decode cX3_choose 86 = .ok (.iadd, 1) := by decide +kernel
theorem dX3_choose_87 : decode cX3_choose 87 = .ok (.invokestatic 57, 3) := by decide +kernel
theorem dX3_choose_90 : decode cX3_choose 90 = .ok (.aload_n 0, 1) := by decide +kernel
theorem dX3_choose_91 : decode cX3_choose 91 = .ok (.iload_n 1, 1) := by decide +kernel
theorem dX3_choose_92 : decode cX3_choose 92 = .ok (.iconst 1, 1) := by decide +kernel
theorem dX3_choose_93 : decode cX3_choose 93 = .ok (.iadd, 1) := by decide +kernel
theorem dX3_choose_94 : decode cX3_choose 94 = .ok (.iload_n 2, 1) := by decide +kernel
theorem dX3_choose_95 : decode cX3_choose 95 = .ok (.iload_n 3, 1) := by decide +kernel
theorem dX3_choose_96 : decode cX3_choose 96 = .ok (.iload 4, 2) := by decide +kernel
theorem dX3_choose_98 : decode cX3_choose 98 = .ok (.iload 5, 2) := by decide +kernel
theorem dX3_choose_100 : decode cX3_choose 100 = .ok (.invokestatic 57, 3) := by decide +kernel
theorem dX3_choose_103 : decode cX3_choose 103 = .ok (.return_, 1) := by decide +kernel
theorem dX3_cheapest_0 : decode cX3_cheapest 0 = .ok (.aload_n 0, 1) := by decide +kernel
theorem dX3_cheapest_1 : decode cX3_cheapest 1 = .ok (.getfield 14, 3) := by decide +kernel
theorem dX3_cheapest_4 : decode cX3_cheapest 4 = .ok (.invokevirtual 27, 3) := by decide +kernel
theorem dX3_cheapest_7 : decode cX3_cheapest 7 = .ok (.aload_n 0, 1) := by decide +kernel
theorem dX3_cheapest_8 : decode cX3_cheapest 8 = .ok (.iconst (-1), 1) := by decide +kernel
theorem dX3_cheapest_9 : decode cX3_cheapest 9 = .ok (.putfield 20, 3) := by decide +kernel
theorem dX3_cheapest_12 : decode cX3_cheapest 12 = .ok (.aload_n 0, 1) := by decide +kernel
theorem dX3_cheapest_13 : decode cX3_cheapest 13 = .ok (.ldc 30, 2) := by decide +kernel
theorem dX3_cheapest_15 : decode cX3_cheapest 15 = .ok (.putfield 24, 3) := by decide +kernel
theorem dX3_cheapest_18 : decode cX3_cheapest 18 = .ok (.iconst 0, 1) := by decide +kernel
theorem dX3_cheapest_19 : decode cX3_cheapest 19 = .ok (.istore 5, 2) := by decide +kernel
theorem dX3_cheapest_21 : decode cX3_cheapest 21 = .ok (.iload 5, 2) := by decide +kernel
theorem dX3_cheapest_23 : decode cX3_cheapest 23 = .ok (.bipush 12, 2) := by decide +kernel
theorem dX3_cheapest_25 : decode cX3_cheapest 25 = .ok (.if_icmp .ge 66, 3) := by decide +kernel
theorem dX3_cheapest_28 : decode cX3_cheapest 28 = .ok (.aload_n 2, 1) := by decide +kernel
theorem dX3_cheapest_29 : decode cX3_cheapest 29 = .ok (.iload 5, 2) := by decide +kernel
theorem dX3_cheapest_31 : decode cX3_cheapest 31 = .ok (.invokevirtual 31, 3) := by decide +kernel
theorem dX3_cheapest_34 : decode cX3_cheapest 34 = .ok (.ifCond .eq 21, 3) := by decide +kernel
theorem dX3_cheapest_37 : decode cX3_cheapest 37 = .ok (.aload_n 2, 1) := by decide +kernel
theorem dX3_cheapest_38 : decode cX3_cheapest 38 = .ok (.getfield 37, 3) := by decide +kernel
theorem dX3_cheapest_41 : decode cX3_cheapest 41 = .ok (.iload 5, 2) := by decide +kernel
theorem dX3_cheapest_43 : decode cX3_cheapest 43 = .ok (.iconst 3, 1) := by decide +kernel
theorem dX3_cheapest_44 : decode cX3_cheapest 44 = .ok (.invokevirtual 40, 3) := by decide +kernel
theorem dX3_cheapest_47 : decode cX3_cheapest 47 = .ok (.iload_n 3, 1) := by decide +kernel
theorem dX3_cheapest_48 : decode cX3_cheapest 48 = .ok (.if_icmp .ne 7, 3) := by decide +kernel
theorem dX3_cheapest_51 : decode cX3_cheapest 51 = .ok (.iconst 1, 1) := by decide +kernel
theorem dX3_cheapest_52 : decode cX3_cheapest 52 = .ok (.goto 4, 3) := by decide +kernel
theorem dX3_cheapest_55 : decode cX3_cheapest 55 = .ok (.iconst 0, 1) := by decide +kernel
theorem dX3_cheapest_56 : decode cX3_cheapest 56 = .ok (.istore 6, 2) := by decide +kernel
theorem dX3_cheapest_58 : decode cX3_cheapest 58 = .ok (.iload 6, 2) := by decide +kernel
theorem dX3_cheapest_60 : decode cX3_cheapest 60 = .ok (.ifCond .eq 25, 3) := by decide +kernel
theorem dX3_cheapest_63 : decode cX3_cheapest 63 = .ok (.aload_n 2, 1) := by decide +kernel
theorem dX3_cheapest_64 : decode cX3_cheapest 64 = .ok (.getfield 37, 3) := by decide +kernel
theorem dX3_cheapest_67 : decode cX3_cheapest 67 = .ok (.iload 5, 2) := by decide +kernel
theorem dX3_cheapest_69 : decode cX3_cheapest 69 = .ok (.iconst 2, 1) := by decide +kernel
theorem dX3_cheapest_70 : decode cX3_cheapest 70 = .ok (.invokevirtual 40, 3) := by decide +kernel
theorem dX3_cheapest_73 : decode cX3_cheapest 73 = .ok (.iconst (-1), 1) := by decide +kernel
theorem dX3_cheapest_74 : decode cX3_cheapest 74 = .ok (.if_icmp .eq 11, 3) := by decide +kernel
theorem dX3_cheapest_77 : decode cX3_cheapest 77 = .ok (.aload_n 0, 1) := by decide +kernel
theorem dX3_cheapest_78 : decode cX3_cheapest 78 = .ok (.aload_n 1, 1) := by decide +kernel
theorem dX3_cheapest_79 : decode cX3_cheapest 79 = .ok (.aload_n 2, 1) := by decide +kernel
theorem dX3_cheapest_80 : decode cX3_cheapest 80 = .ok (.iload 5, 2) := by decide +kernel
theorem dX3_cheapest_82 : decode cX3_cheapest 82 = .ok (.invokevirtual 44, 3) := by decide +kernel
theorem dX3_cheapest_85 : decode cX3_cheapest 85 = .ok (.iinc 5 1, 3) := by decide +kernel
theorem dX3_cheapest_88 : decode cX3_cheapest 88 = .ok (.goto (-67), 3) := by decide +kernel
theorem dX3_cheapest_91 : decode cX3_cheapest 91 = .ok (.aload_n 1, 1) := by decide +kernel
theorem dX3_cheapest_92 : decode cX3_cheapest 92 = .ok (.getfield 48, 3) := by decide +kernel
theorem dX3_cheapest_95 : decode cX3_cheapest 95 = .ok (.iload 4, 2) := by decide +kernel
theorem dX3_cheapest_97 : decode cX3_cheapest 97 = .ok (.iconst 0, 1) := by decide +kernel
theorem dX3_cheapest_98 : decode cX3_cheapest 98 = .ok (.invokevirtual 40, 3) := by decide +kernel
theorem dX3_cheapest_101 : decode cX3_cheapest 101 = .ok (.aload_n 2, 1) := by decide +kernel
theorem dX3_cheapest_102 : decode cX3_cheapest 102 = .ok (.aload_n 1, 1) := by decide +kernel
theorem dX3_cheapest_103 : decode cX3_cheapest 103 = .ok (.iload_n 3, 1) := by decide +kernel
theorem dX3_cheapest_104 : decode cX3_cheapest 104 = .ok (.iconst 0, 1) := by decide +kernel
theorem dX3_cheapest_105 : decode cX3_cheapest 105 = .ok (.invokevirtual 53, 3) := by decide +kernel
theorem dX3_cheapest_108 : decode cX3_cheapest 108 = .ok (.isub, 1) := by decide +kernel
theorem dX3_cheapest_109 : decode cX3_cheapest 109 = .ok (.istore 5, 2) := by decide +kernel
theorem dX3_cheapest_111 : decode cX3_cheapest 111 = .ok (.aload_n 1, 1) := by decide +kernel
theorem dX3_cheapest_112 : decode cX3_cheapest 112 = .ok (.getfield 48, 3) := by decide +kernel
theorem dX3_cheapest_115 : decode cX3_cheapest 115 = .ok (.iload 4, 2) := by decide +kernel
theorem dX3_cheapest_117 : decode cX3_cheapest 117 = .ok (.iconst 1, 1) := by decide +kernel
theorem dX3_cheapest_118 : decode cX3_cheapest 118 = .ok (.invokevirtual 40, 3) := by decide +kernel
theorem dX3_cheapest_121 : decode cX3_cheapest 121 = .ok (.aload_n 2, 1) := by decide +kernel
theorem dX3_cheapest_122 : decode cX3_cheapest 122 = .ok (.aload_n 1, 1) := by decide +kernel
theorem dX3_cheapest_123 : decode cX3_cheapest 123 = .ok (.iload_n 3, 1) := by decide +kernel
theorem dX3_cheapest_124 : decode cX3_cheapest 124 = .ok (.iconst 1, 1) := by decide +kernel
theorem dX3_cheapest_125 : decode cX3_cheapest 125 = .ok (.invokevirtual 53, 3) := by decide +kernel
theorem dX3_cheapest_128 : decode cX3_cheapest 128 = .ok (.isub, 1) := by decide +kernel
theorem dX3_cheapest_129 : decode cX3_cheapest 129 = .ok (.istore 6, 2) := by decide +kernel
theorem dX3_cheapest_131 : decode cX3_cheapest 131 = .ok (.aload_n 0, 1) := by decide +kernel
theorem dX3_cheapest_132 : decode cX3_cheapest 132 = .ok (.iconst 0, 1) := by decide +kernel
theorem dX3_cheapest_133 : decode cX3_cheapest 133 = .ok (.iconst 0, 1) := by decide +kernel
theorem dX3_cheapest_134 : decode cX3_cheapest 134 = .ok (.iload 5, 2) := by decide +kernel
theorem dX3_cheapest_136 : decode cX3_cheapest 136 = .ok (.iload 6, 2) := by decide +kernel
theorem dX3_cheapest_138 : decode cX3_cheapest 138 = .ok (.iconst 0, 1) := by decide +kernel
theorem dX3_cheapest_139 : decode cX3_cheapest 139 = .ok (.invokestatic 57, 3) := by decide +kernel
theorem dX3_cheapest_142 : decode cX3_cheapest 142 = .ok (.aload_n 0, 1) := by decide +kernel
theorem dX3_cheapest_143 : decode cX3_cheapest 143 = .ok (.getfield 20, 3) := by decide +kernel
theorem dX3_cheapest_146 : decode cX3_cheapest 146 = .ok (.ireturn, 1) := by decide +kernel
theorem dX4_init_0 : decode cX4_init 0 = .ok (.aload_n 0, 1) := by decide +kernel
theorem dX4_init_1 : decode cX4_init 1 = .ok (.invokespecial 3, 3) := by decide +kernel
theorem dX4_init_4 : decode cX4_init 4 = .ok (.aload_n 0, 1) := by decide +kernel
theorem dX4_init_5 : decode cX4_init 5 = .ok (.bipush 10, 2) := by decide +kernel
theorem dX4_init_7 : decode cX4_init 7 = .ok (.anewarray 9, 3) := by decide +kernel
theorem dX4_init_10 : decode cX4_init 10 = .ok (.putfield 11, 3) := by decide +kernel
theorem dX4_init_13 : decode cX4_init 13 = .ok (.aload_n 0, 1) := by decide +kernel
theorem dX4_init_14 : decode cX4_init 14 = .ok (.iconst 2, 1) := by decide +kernel
theorem dX4_init_15 : decode cX4_init 15 = .ok (.anewarray 9, 3) := by decide +kernel
theorem dX4_init_18 : decode cX4_init 18 = .ok (.putfield 17, 3) := by decide +kernel
theorem dX4_init_21 : decode cX4_init 21 = .ok (.aload_n 0, 1) := by decide +kernel
theorem dX4_init_22 : decode cX4_init 22 = .ok (.iconst 0, 1) := by decide +kernel
theorem dX4_init_23 : decode cX4_init 23 = .ok (.putfield 20, 3) := by decide +kernel
theorem dX4_init_26 : decode cX4_init 26 = .ok (.aload_n 0, 1) := by decide +kernel
theorem dX4_init_27 : decode cX4_init 27 = .ok (.iconst 0, 1) := by decide +kernel
theorem dX4_init_28 : decode cX4_init 28 = .ok (.putfield 24, 3) := by decide +kernel
theorem dX4_init_31 : decode cX4_init 31 = .ok (.aload_n 0, 1) := by decide +kernel
theorem dX4_init_32 : decode cX4_init 32 = .ok (.iconst 0, 1) := by decide +kernel
theorem dX4_init_33 : decode cX4_init 33 = .ok (.putfield 27, 3) := by decide +kernel
theorem dX4_init_36 : decode cX4_init 36 = .ok (.iconst 0, 1) := by decide +kernel
theorem dX4_init_37 : decode cX4_init 37 = .ok (.istore_n 1, 1) := by decide +kernel
theorem dX4_init_38 : decode cX4_init 38 = .ok (.iload_n 1, 1) := by decide +kernel
theorem dX4_init_39 : decode cX4_init 39 = .ok (.aload_n 0, 1) := by decide +kernel
theorem dX4_init_40 : decode cX4_init 40 = .ok (.getfield 11, 3) := by decide +kernel
theorem dX4_init_43 : decode cX4_init 43 = .ok (.arraylength, 1) := by decide +kernel
theorem dX4_init_44 : decode cX4_init 44 = .ok (.if_icmp .ge 22, 3) := by decide +kernel
theorem dX4_init_47 : decode cX4_init 47 = .ok (.aload_n 0, 1) := by decide +kernel
theorem dX4_init_48 : decode cX4_init 48 = .ok (.getfield 11, 3) := by decide +kernel
theorem dX4_init_51 : decode cX4_init 51 = .ok (.iload_n 1, 1) := by decide +kernel
theorem dX4_init_52 : decode cX4_init 52 = .ok (.new 9, 3) := by decide +kernel
theorem dX4_init_55 : decode cX4_init 55 = .ok (.dup, 1) := by decide +kernel
theorem dX4_init_56 : decode cX4_init 56 = .ok (.invokespecial 30, 3) := by decide +kernel
theorem dX4_init_59 : decode cX4_init 59 = .ok (.aastore, 1) := by decide +kernel
theorem dX4_init_60 : decode cX4_init 60 = .ok (.iinc 1 1, 3) := by decide +kernel
theorem dX4_init_63 : decode cX4_init 63 = .ok (.goto (-25), 3) := by decide +kernel
theorem dX4_init_66 : decode cX4_init 66 = .ok (.iconst 0, 1) := by decide +kernel
theorem dX4_init_67 : decode cX4_init 67 = .ok (.istore_n 1, 1) := by decide +kernel
theorem dX4_init_68 : decode cX4_init 68 = .ok (.iload_n 1, 1) := by decide +kernel
theorem dX4_init_69 : decode cX4_init 69 = .ok (.aload_n 0, 1) := by decide +kernel
theorem dX4_init_70 : decode cX4_init 70 = .ok (.getfield 17, 3) := by decide +kernel
theorem dX4_init_73 : decode cX4_init 73 = .ok (.arraylength, 1) := by decide +kernel
theorem dX4_init_74 : decode cX4_init 74 = .ok (.if_icmp .ge 22, 3) := by decide +kernel
theorem dX4_init_77 : decode cX4_init 77 = .ok (.aload_n 0, 1) := by decide +kernel
theorem dX4_init_78 : decode cX4_init 78 = .ok (.getfield 17, 3) := by decide +kernel
theorem dX4_init_81 : decode cX4_init 81 = .ok (.iload_n 1, 1) := by decide +kernel
theorem dX4_init_82 : decode cX4_init 82 = .ok (.new 9, 3) := by decide +kernel
theorem dX4_init_85 : decode cX4_init 85 = .ok (.dup, 1) := by decide +kernel
theorem dX4_init_86 : decode cX4_init 86 = .ok (.invokespecial 30, 3) := by decide +kernel
theorem dX4_init_89 : decode cX4_init 89 = .ok (.aastore, 1) := by decide +kernel
theorem dX4_init_90 : decode cX4_init 90 = .ok (.iinc 1 1, 3) := by decide +kernel
theorem dX4_init_93 : decode cX4_init 93 = .ok (.goto (-25), 3) := by decide +kernel
theorem dX4_init_96 : decode cX4_init 96 = .ok (.return_, 1) := by decide +kernel
theorem dX4_clear_0 : decode cX4_clear 0 = .ok (.aload_n 0, 1) := by decide +kernel
theorem dX4_clear_1 : decode cX4_clear 1 = .ok (.iconst 0, 1) := by decide +kernel
theorem dX4_clear_2 : decode cX4_clear 2 = .ok (.putfield 20, 3) := by decide +kernel
theorem dX4_clear_5 : decode cX4_clear 5 = .ok (.aload_n 0, 1) := by decide +kernel
theorem dX4_clear_6 : decode cX4_clear 6 = .ok (.iconst 0, 1) := by decide +kernel
theorem dX4_clear_7 : decode cX4_clear 7 = .ok (.putfield 27, 3) := by decide +kernel
theorem dX4_clear_10 : decode cX4_clear 10 = .ok (.return_, 1) := by decide +kernel
theorem dX4_remember_0 : decode cX4_remember 0 = .ok (.aload_n 0, 1) := by decide +kernel
theorem dX4_remember_1 : decode cX4_remember 1 = .ok (.getfield 24, 3) := by decide +kernel
theorem dX4_remember_4 : decode cX4_remember 4 = .ok (.ifCond .lt 86, 3) := by decide +kernel
theorem dX4_remember_7 : decode cX4_remember 7 = .ok (.aload_n 0, 1) := by decide +kernel
theorem dX4_remember_8 : decode cX4_remember 8 = .ok (.getfield 24, 3) := by decide +kernel
theorem dX4_remember_11 : decode cX4_remember 11 = .ok (.aload_n 0, 1) := by decide +kernel
theorem dX4_remember_12 : decode cX4_remember 12 = .ok (.getfield 11, 3) := by decide +kernel
theorem dX4_remember_15 : decode cX4_remember 15 = .ok (.arraylength, 1) := by decide +kernel
theorem dX4_remember_16 : decode cX4_remember 16 = .ok (.if_icmp .ge 74, 3) := by decide +kernel
theorem dX4_remember_19 : decode cX4_remember 19 = .ok (.aload_n 0, 1) := by decide +kernel
theorem dX4_remember_20 : decode cX4_remember 20 = .ok (.getfield 11, 3) := by decide +kernel
theorem dX4_remember_23 : decode cX4_remember 23 = .ok (.aload_n 0, 1) := by decide +kernel
theorem dX4_remember_24 : decode cX4_remember 24 = .ok (.getfield 24, 3) := by decide +kernel
theorem dX4_remember_27 : decode cX4_remember 27 = .ok (.aaload, 1) := by decide +kernel
theorem dX4_remember_28 : decode cX4_remember 28 = .ok (.ifnull 62, 3) := by decide +kernel
theorem dX4_remember_31 : decode cX4_remember 31 = .ok (.aload_n 0, 1) := by decide +kernel
theorem dX4_remember_32 : decode cX4_remember 32 = .ok (.getfield 11, 3) := by decide +kernel
theorem dX4_remember_35 : decode cX4_remember 35 = .ok (.aload_n 0, 1) := by decide +kernel
theorem dX4_remember_36 : decode cX4_remember 36 = .ok (.getfield 24, 3) := by decide +kernel
theorem dX4_remember_39 : decode cX4_remember 39 = .ok (.aaload, 1) := by decide +kernel
theorem dX4_remember_40 : decode cX4_remember 40 = .ok (.aload_n 1, 1) := by decide +kernel
theorem dX4_remember_41 : decode cX4_remember 41 = .ok (.invokevirtual 31, 3) := by decide +kernel
theorem dX4_remember_44 : decode cX4_remember 44 = .ok (.aload_n 0, 1) := by decide +kernel
theorem dX4_remember_45 : decode cX4_remember 45 = .ok (.aload_n 0, 1) := by decide +kernel
theorem dX4_remember_46 : decode cX4_remember 46 = .ok (.getfield 24, 3) := by decide +kernel
theorem dX4_remember_49 : decode cX4_remember 49 = .ok (.iconst 1, 1) := by decide +kernel
theorem dX4_remember_50 : decode cX4_remember 50 = .ok (.iadd, 1) := by decide +kernel
theorem dX4_remember_51 : decode cX4_remember 51 = .ok (.aload_n 0, 1) := by decide +kernel
theorem dX4_remember_52 : decode cX4_remember 52 = .ok (.getfield 11, 3) := by decide +kernel
theorem dX4_remember_55 : decode cX4_remember 55 = .ok (.arraylength, 1) := by decide +kernel
theorem dX4_remember_56 : decode cX4_remember 56 = .ok (.if_icmp .ge 12, 3) := by decide +kernel
theorem dX4_remember_59 : decode cX4_remember 59 = .ok (.aload_n 0, 1) := by decide +kernel
theorem dX4_remember_60 : decode cX4_remember 60 = .ok (.getfield 24, 3) := by decide +kernel
theorem dX4_remember_63 : decode cX4_remember 63 = .ok (.iconst 1, 1) := by decide +kernel
theorem dX4_remember_64 : decode cX4_remember 64 = .ok (.iadd, 1) := by decide +kernel
theorem dX4_remember_65 : decode cX4_remember 65 = .ok (.goto 4, 3) := by decide +kernel
theorem dX4_remember_68 : decode cX4_remember 68 = .ok (.iconst 0, 1) := by decide +kernel
theorem dX4_remember_69 : decode cX4_remember 69 = .ok (.putfield 24, 3) := by decide +kernel
theorem dX4_remember_72 : decode cX4_remember 72 = .ok (.aload_n 0, 1) := by decide +kernel
theorem dX4_remember_73 : decode cX4_remember 73 = .ok (.aload_n 0, 1) := by decide +kernel
theorem dX4_remember_74 : decode cX4_remember 74 = .ok (.getfield 20, 3) := by decide +kernel
theorem dX4_remember_77 : decode cX4_remember 77 = .ok (.iconst 1, 1) := by decide +kernel
theorem dX4_remember_78 : decode cX4_remember 78 = .ok (.iadd, 1) := by decide +kernel
theorem dX4_remember_79 : decode cX4_remember 79 = .ok (.aload_n 0, 1) := by decide +kernel
theorem dX4_remember_80 : decode cX4_remember 80 = .ok (.getfield 11, 3) := by decide +kernel
theorem dX4_remember_83 : decode cX4_remember 83 = .ok (.arraylength, 1) := by decide +kernel
theorem dX4_remember_84 : decode cX4_remember 84 = .ok (.invokestatic 35, 3) := by decide +kernel
theorem dX4_remember_87 : decode cX4_remember 87 = .ok (.putfield 20, 3) := by decide +kernel
theorem dX4_remember_90 : decode cX4_remember 90 = .ok (.return_, 1) := by decide +kernel
theorem dX4_takeBack_0 : decode cX4_takeBack 0 = .ok (.aload_n 0, 1) := by decide +kernel
theorem dX4_takeBack_1 : decode cX4_takeBack 1 = .ok (.getfield 24, 3) := by decide +kernel
theorem dX4_takeBack_4 : decode cX4_takeBack 4 = .ok (.ifCond .le 12, 3) := by decide +kernel
theorem dX4_takeBack_7 : decode cX4_takeBack 7 = .ok (.aload_n 0, 1) := by decide +kernel
theorem dX4_takeBack_8 : decode cX4_takeBack 8 = .ok (.getfield 24, 3) := by decide +kernel
theorem dX4_takeBack_11 : decode cX4_takeBack 11 = .ok (.iconst 1, 1) := by decide +kernel
theorem dX4_takeBack_12 : decode cX4_takeBack 12 = .ok (.isub, 1) := by decide +kernel
theorem dX4_takeBack_13 : decode cX4_takeBack 13 = .ok (.goto 10, 3) := by decide +kernel
theorem dX4_takeBack_16 : decode cX4_takeBack 16 = .ok (.aload_n 0, 1) := by decide +kernel
theorem dX4_takeBack_17 : decode cX4_takeBack 17 = .ok (.getfield 11, 3) := by decide +kernel
theorem dX4_takeBack_20 : decode cX4_takeBack 20 = .ok (.arraylength, 1) := by decide +kernel
theorem dX4_takeBack_21 : decode cX4_takeBack 21 = .ok (.iconst 1, 1) := by decide +kernel
theorem dX4_takeBack_22 : decode cX4_takeBack 22 = .ok (.isub, 1) := by decide +kernel
theorem dX4_takeBack_23 : decode cX4_takeBack 23 = .ok (.istore_n 2, 1) := by decide +kernel
theorem dX4_takeBack_24 : decode cX4_takeBack 24 = .ok (.aload_n 0, 1) := by decide +kernel
theorem dX4_takeBack_25 : decode cX4_takeBack 25 = .ok (.getfield 20, 3) := by decide +kernel
theorem dX4_takeBack_28 : decode cX4_takeBack 28 = .ok (.ifCond .le 25, 3) := by decide +kernel
theorem dX4_takeBack_31 : decode cX4_takeBack 31 = .ok (.iload_n 2, 1) := by decide +kernel
theorem dX4_takeBack_32 : decode cX4_takeBack 32 = .ok (.ifCond .lt 21, 3) := by decide +kernel
theorem dX4_takeBack_35 : decode cX4_takeBack 35 = .ok (.iload_n 2, 1) := by decide +kernel
theorem dX4_takeBack_36 : decode cX4_takeBack 36 = .ok (.aload_n 0, 1) := by decide +kernel
theorem dX4_takeBack_37 : decode cX4_takeBack 37 = .ok (.getfield 11, 3) := by decide +kernel
theorem dX4_takeBack_40 : decode cX4_takeBack 40 = .ok (.arraylength, 1) := by decide +kernel
theorem dX4_takeBack_41 : decode cX4_takeBack 41 = .ok (.if_icmp .ge 12, 3) := by decide +kernel
theorem dX4_takeBack_44 : decode cX4_takeBack 44 = .ok (.aload_n 0, 1) := by decide +kernel
theorem dX4_takeBack_45 : decode cX4_takeBack 45 = .ok (.getfield 11, 3) := by decide +kernel
theorem dX4_takeBack_48 : decode cX4_takeBack 48 = .ok (.iload_n 2, 1) := by decide +kernel
theorem dX4_takeBack_49 : decode cX4_takeBack 49 = .ok (.aaload, 1) := by decide +kernel
theorem dX4_takeBack_50 : decode cX4_takeBack 50 = .ok (.ifnonnull 5, 3) := by decide +kernel
theorem dX4_takeBack_53 : decode cX4_takeBack 53 = .ok (.iconst 0, 1) := by decide +kernel
theorem dX4_takeBack_54 : decode cX4_takeBack 54 = .ok (.ireturn, 1) := by decide +kernel
theorem dX4_takeBack_55 : decode cX4_takeBack 55 = .ok (.aload_n 1, 1) := by decide +kernel
theorem dX4_takeBack_56 : decode cX4_takeBack 56 = .ok (.aload_n 0, 1) := by decide +kernel
theorem dX4_takeBack_57 : decode cX4_takeBack 57 = .ok (.getfield 11, 3) := by decide +kernel
theorem dX4_takeBack_60 : decode cX4_takeBack 60 = .ok (.iload_n 2, 1) := by decide +kernel
theorem dX4_takeBack_61 : decode cX4_takeBack 61 = .ok (.aaload, 1) := by decide +kernel
theorem dX4_takeBack_62 : decode cX4_takeBack 62 = .ok (.invokevirtual 31, 3) := by decide +kernel
theorem dX4_takeBack_65 : decode cX4_takeBack 65 = .ok (.aload_n 0, 1) := by decide +kernel
theorem dX4_takeBack_66 : decode cX4_takeBack 66 = .ok (.iload_n 2, 1) := by decide +kernel
theorem dX4_takeBack_67 : decode cX4_takeBack 67 = .ok (.putfield 24, 3) := by decide +kernel
theorem dX4_takeBack_70 : decode cX4_takeBack 70 = .ok (.aload_n 0, 1) := by decide +kernel
theorem dX4_takeBack_71 : decode cX4_takeBack 71 = .ok (.dup, 1) := by decide +kernel
theorem dX4_takeBack_72 : decode cX4_takeBack 72 = .ok (.getfield 20, 3) := by decide +kernel
theorem dX4_takeBack_75 : decode cX4_takeBack 75 = .ok (.iconst 1, 1) := by decide +kernel
theorem dX4_takeBack_76 : decode cX4_takeBack 76 = .ok (.isub, 1) := by decide +kernel
theorem dX4_takeBack_77 : decode cX4_takeBack 77 = .ok (.putfield 20, 3) := by decide +kernel
theorem dX4_takeBack_80 : decode cX4_takeBack 80 = .ok (.iconst 1, 1) := by decide +kernel
theorem dX4_takeBack_81 : decode cX4_takeBack 81 = .ok (.ireturn, 1) := by decide +kernel
theorem dX4_isSaved_0 : decode cX4_isSaved 0 = .ok (.iload_n 1, 1) := by decide +kernel
theorem dX4_isSaved_1 : decode cX4_isSaved 1 = .ok (.ifCond .lt 27, 3) := by decide +kernel
theorem dX4_isSaved_4 : decode cX4_isSaved 4 = .ok (.iload_n 1, 1) := by decide +kernel
theorem dX4_isSaved_5 : decode cX4_isSaved 5 = .ok (.aload_n 0, 1) := by decide +kernel
theorem dX4_isSaved_6 : decode cX4_isSaved 6 = .ok (.getfield 17, 3) := by decide +kernel
theorem dX4_isSaved_9 : decode cX4_isSaved 9 = .ok (.arraylength, 1) := by decide +kernel
theorem dX4_isSaved_10 : decode cX4_isSaved 10 = .ok (.if_icmp .ge 18, 3) := by decide +kernel
theorem dX4_isSaved_13 : decode cX4_isSaved 13 = .ok (.aload_n 0, 1) := by decide +kernel
theorem dX4_isSaved_14 : decode cX4_isSaved 14 = .ok (.getfield 27, 3) := by decide +kernel
theorem dX4_isSaved_17 : decode cX4_isSaved 17 = .ok (.iload_n 1, 1) := by decide +kernel
theorem dX4_isSaved_18 : decode cX4_isSaved 18 = .ok (.ishr, 1) := by decide +kernel
theorem dX4_isSaved_19 : decode cX4_isSaved 19 = .ok (.iconst 1, 1) := by decide +kernel
theorem dX4_isSaved_20 : decode cX4_isSaved 20 = .ok (.iand, 1) := by decide +kernel
theorem dX4_isSaved_21 : decode cX4_isSaved 21 = .ok (.ifCond .eq 7, 3) := by decide +kernel
theorem dX4_isSaved_24 : decode cX4_isSaved 24 = .ok (.iconst 1, 1) := by decide +kernel
theorem dX4_isSaved_25 : decode cX4_isSaved 25 = .ok (.goto 4, 3) := by decide +kernel
theorem dX4_isSaved_28 : decode cX4_isSaved 28 = .ok (.iconst 0, 1) := by decide +kernel
theorem dX4_isSaved_29 : decode cX4_isSaved 29 = .ok (.ireturn, 1) := by decide +kernel
theorem dX4_save_0 : decode cX4_save 0 = .ok (.iload_n 1, 1) := by decide +kernel
theorem dX4_save_1 : decode cX4_save 1 = .ok (.ifCond .lt 43, 3) := by decide +kernel
theorem dX4_save_4 : decode cX4_save 4 = .ok (.iload_n 1, 1) := by decide +kernel
theorem dX4_save_5 : decode cX4_save 5 = .ok (.aload_n 0, 1) := by decide +kernel
theorem dX4_save_6 : decode cX4_save 6 = .ok (.getfield 17, 3) := by decide +kernel
theorem dX4_save_9 : decode cX4_save 9 = .ok (.arraylength, 1) := by decide +kernel
theorem dX4_save_10 : decode cX4_save 10 = .ok (.if_icmp .ge 34, 3) := by decide +kernel
theorem dX4_save_13 : decode cX4_save 13 = .ok (.aload_n 0, 1) := by decide +kernel
theorem dX4_save_14 : decode cX4_save 14 = .ok (.getfield 17, 3) := by decide +kernel
theorem dX4_save_17 : decode cX4_save 17 = .ok (.iload_n 1, 1) := by decide +kernel
theorem dX4_save_18 : decode cX4_save 18 = .ok (.aaload, 1) := by decide +kernel
theorem dX4_save_19 : decode cX4_save 19 = .ok (.ifnull 25, 3) := by decide +kernel
theorem dX4_save_22 : decode cX4_save 22 = .ok (.aload_n 0, 1) := by decide +kernel
theorem dX4_save_23 : decode cX4_save 23 = .ok (.getfield 17, 3) := by decide +kernel
theorem dX4_save_26 : decode cX4_save 26 = .ok (.iload_n 1, 1) := by decide +kernel
theorem dX4_save_27 : decode cX4_save 27 = .ok (.aaload, 1) := by decide +kernel
theorem dX4_save_28 : decode cX4_save 28 = .ok (.aload_n 2, 1) := by decide +kernel
theorem dX4_save_29 : decode cX4_save 29 = .ok (.invokevirtual 31, 3) := by decide +kernel
theorem dX4_save_32 : decode cX4_save 32 = .ok (.aload_n 0, 1) := by decide +kernel
theorem dX4_save_33 : decode cX4_save 33 = .ok (.dup, 1) := by decide +kernel
theorem dX4_save_34 : decode cX4_save 34 = .ok (.getfield 27, 3) := by decide +kernel
theorem dX4_save_37 : decode cX4_save 37 = .ok (.iconst 1, 1) := by decide +kernel
theorem dX4_save_38 : decode cX4_save 38 = .ok (.iload_n 1, 1) := by decide +kernel
theorem dX4_save_39 : decode cX4_save 39 = .ok (.ishl, 1) := by decide +kernel
theorem dX4_save_40 : decode cX4_save 40 = .ok (.ior, 1) := by decide +kernel
theorem dX4_save_41 : decode cX4_save 41 = .ok (.putfield 27, 3) := by decide +kernel
theorem dX4_save_44 : decode cX4_save 44 = .ok (.return_, 1) := by decide +kernel
theorem dX4_restore_0 : decode cX4_restore 0 = .ok (.aload_n 0, 1) := by decide +kernel
theorem dX4_restore_1 : decode cX4_restore 1 = .ok (.iload_n 1, 1) := by decide +kernel
theorem dX4_restore_2 : decode cX4_restore 2 = .ok (.invokevirtual 41, 3) := by decide +kernel
theorem dX4_restore_5 : decode cX4_restore 5 = .ok (.ifCond .eq 40, 3) := by decide +kernel
theorem dX4_restore_8 : decode cX4_restore 8 = .ok (.iload_n 1, 1) := by decide +kernel
theorem dX4_restore_9 : decode cX4_restore 9 = .ok (.ifCond .lt 36, 3) := by decide +kernel
theorem dX4_restore_12 : decode cX4_restore 12 = .ok (.iload_n 1, 1) := by decide +kernel
theorem dX4_restore_13 : decode cX4_restore 13 = .ok (.aload_n 0, 1) := by decide +kernel
theorem dX4_restore_14 : decode cX4_restore 14 = .ok (.getfield 17, 3) := by decide +kernel
theorem dX4_restore_17 : decode cX4_restore 17 = .ok (.arraylength, 1) := by decide +kernel
theorem dX4_restore_18 : decode cX4_restore 18 = .ok (.if_icmp .ge 27, 3) := by decide +kernel
theorem dX4_restore_21 : decode cX4_restore 21 = .ok (.aload_n 0, 1) := by decide +kernel
theorem dX4_restore_22 : decode cX4_restore 22 = .ok (.getfield 17, 3) := by decide +kernel
theorem dX4_restore_25 : decode cX4_restore 25 = .ok (.iload_n 1, 1) := by decide +kernel
theorem dX4_restore_26 : decode cX4_restore 26 = .ok (.aaload, 1) := by decide +kernel
theorem dX4_restore_27 : decode cX4_restore 27 = .ok (.ifnull 18, 3) := by decide +kernel
theorem dX4_restore_30 : decode cX4_restore 30 = .ok (.aload_n 2, 1) := by decide +kernel
theorem dX4_restore_31 : decode cX4_restore 31 = .ok (.aload_n 0, 1) := by decide +kernel
theorem dX4_restore_32 : decode cX4_restore 32 = .ok (.getfield 17, 3) := by decide +kernel
theorem dX4_restore_35 : decode cX4_restore 35 = .ok (.iload_n 1, 1) := by decide +kernel
theorem dX4_restore_36 : decode cX4_restore 36 = .ok (.aaload, 1) := by decide +kernel
theorem dX4_restore_37 : decode cX4_restore 37 = .ok (.invokevirtual 31, 3) := by decide +kernel
theorem dX4_restore_40 : decode cX4_restore 40 = .ok (.aload_n 0, 1) := by decide +kernel
theorem dX4_restore_41 : decode cX4_restore 41 = .ok (.iconst 0, 1) := by decide +kernel
theorem dX4_restore_42 : decode cX4_restore 42 = .ok (.putfield 20, 3) := by decide +kernel
theorem dX4_restore_45 : decode cX4_restore 45 = .ok (.return_, 1) := by decide +kernel
theorem dX5_init_0 : decode cX5_init 0 = .ok (.aload_n 0, 1) := by decide +kernel
theorem dX5_init_1 : decode cX5_init 1 = .ok (.invokespecial 3, 3) := by decide +kernel
theorem dX5_init_4 : decode cX5_init 4 = .ok (.aload_n 0, 1) := by decide +kernel
theorem dX5_init_5 : decode cX5_init 5 = .ok (.bipush 6, 2) := by decide +kernel
theorem dX5_init_7 : decode cX5_init 7 = .ok (.newarray .int, 2) := by decide +kernel
theorem dX5_init_9 : decode cX5_init 9 = .ok (.putfield 9, 3) := by decide +kernel
theorem dX5_init_12 : decode cX5_init 12 = .ok (.aload_n 0, 1) := by decide +kernel
theorem dX5_init_13 : decode cX5_init 13 = .ok (.bipush 6, 2) := by decide +kernel
theorem dX5_init_15 : decode cX5_init 15 = .ok (.newarray .int, 2) := by decide +kernel
theorem dX5_init_17 : decode cX5_init 17 = .ok (.putfield 15, 3) := by decide +kernel
theorem dX5_init_20 : decode cX5_init 20 = .ok (.aload_n 0, 1) := by decide +kernel
theorem dX5_init_21 : decode cX5_init 21 = .ok (.iconst 0, 1) := by decide +kernel
theorem dX5_init_22 : decode cX5_init 22 = .ok (.putfield 18, 3) := by decide +kernel
theorem dX5_init_25 : decode cX5_init 25 = .ok (.return_, 1) := by decide +kernel
theorem dX5_restart_0 : decode cX5_restart 0 = .ok (.aload_n 0, 1) := by decide +kernel
theorem dX5_restart_1 : decode cX5_restart 1 = .ok (.getfield 9, 3) := by decide +kernel
theorem dX5_restart_4 : decode cX5_restart 4 = .ok (.iconst 0, 1) := by decide +kernel
theorem dX5_restart_5 : decode cX5_restart 5 = .ok (.invokestatic 22, 3) := by decide +kernel
theorem dX5_restart_8 : decode cX5_restart 8 = .ok (.aload_n 0, 1) := by decide +kernel
theorem dX5_restart_9 : decode cX5_restart 9 = .ok (.iconst 0, 1) := by decide +kernel
theorem dX5_restart_10 : decode cX5_restart 10 = .ok (.putfield 18, 3) := by decide +kernel
theorem dX5_restart_13 : decode cX5_restart 13 = .ok (.return_, 1) := by decide +kernel
theorem dX5_step_0 : decode cX5_step 0 = .ok (.iconst 0, 1) := by decide +kernel
theorem dX5_step_1 : decode cX5_step 1 = .ok (.istore_n 2, 1) := by decide +kernel
theorem dX5_step_2 : decode cX5_step 2 = .ok (.iload_n 2, 1) := by decide +kernel
theorem dX5_step_3 : decode cX5_step 3 = .ok (.aload_n 0, 1) := by decide +kernel
theorem dX5_step_4 : decode cX5_step 4 = .ok (.getfield 9, 3) := by decide +kernel
theorem dX5_step_7 : decode cX5_step 7 = .ok (.arraylength, 1) := by decide +kernel
theorem dX5_step_8 : decode cX5_step 8 = .ok (.if_icmp .ge 89, 3) := by decide +kernel
theorem dX5_step_11 : decode cX5_step 11 = .ok (.iload_n 2, 1) := by decide +kernel
theorem dX5_step_12 : decode cX5_step 12 = .ok (.aload_n 0, 1) := by decide +kernel
theorem dX5_step_13 : decode cX5_step 13 = .ok (.getfield 15, 3) := by decide +kernel
theorem dX5_step_16 : decode cX5_step 16 = .ok (.arraylength, 1) := by decide +kernel
theorem dX5_step_17 : decode cX5_step 17 = .ok (.if_icmp .ge 80, 3) := by decide +kernel
theorem dX5_step_20 : decode cX5_step 20 = .ok (.iload_n 2, 1) := by decide +kernel
theorem dX5_step_21 : decode cX5_step 21 = .ok (.aload_n 1, 1) := by decide +kernel
theorem dX5_step_22 : decode cX5_step 22 = .ok (.arraylength, 1) := by decide +kernel
theorem dX5_step_23 : decode cX5_step 23 = .ok (.if_icmp .ge 74, 3) := by decide +kernel
theorem dX5_step_26 : decode cX5_step 26 = .ok (.aload_n 0, 1) := by decide +kernel
theorem dX5_step_27 : decode cX5_step 27 = .ok (.getfield 9, 3) := by decide +kernel
theorem dX5_step_30 : decode cX5_step 30 = .ok (.iload_n 2, 1) := by decide +kernel
theorem dX5_step_31 : decode cX5_step 31 = .ok (.iaload, 1) := by decide +kernel
theorem dX5_step_32 : decode cX5_step 32 = .ok (.aload_n 0, 1) := by decide +kernel
theorem dX5_step_33 : decode cX5_step 33 = .ok (.getfield 15, 3) := by decide +kernel
theorem dX5_step_36 : decode cX5_step 36 = .ok (.iload_n 2, 1) := by decide +kernel
theorem dX5_step_37 : decode cX5_step 37 = .ok (.iaload, 1) := by decide +kernel
theorem dX5_step_38 : decode cX5_step 38 = .ok (.if_icmp .ge 27, 3) := by decide +kernel
theorem dX5_step_41 : decode cX5_step 41 = .ok (.aload_n 0, 1) := by decide +kernel
theorem dX5_step_42 : decode cX5_step 42 = .ok (.getfield 9, 3) := by decide +kernel
theorem dX5_step_45 : decode cX5_step 45 = .ok (.iload_n 2, 1) := by decide +kernel
theorem dX5_step_46 : decode cX5_step 46 = .ok (.dup2, 1) := by decide +kernel
theorem dX5_step_47 : decode cX5_step 47 = .ok (.iaload, 1) := by decide +kernel
theorem dX5_step_48 : decode cX5_step 48 = .ok (.iconst 1, 1) := by decide +kernel
theorem dX5_step_49 : decode cX5_step 49 = .ok (.iadd, 1) := by decide +kernel
theorem dX5_step_50 : decode cX5_step 50 = .ok (.iastore, 1) := by decide +kernel
theorem dX5_step_51 : decode cX5_step 51 = .ok (.aload_n 0, 1) := by decide +kernel
theorem dX5_step_52 : decode cX5_step 52 = .ok (.dup, 1) := by decide +kernel
theorem dX5_step_53 : decode cX5_step 53 = .ok (.getfield 18, 3) := by decide +kernel
theorem dX5_step_56 : decode cX5_step 56 = .ok (.aload_n 1, 1) := by decide +kernel
theorem dX5_step_57 : decode cX5_step 57 = .ok (.iload_n 2, 1) := by decide +kernel
theorem dX5_step_58 : decode cX5_step 58 = .ok (.iaload, 1) := by decide +kernel
theorem dX5_step_59 : decode cX5_step 59 = .ok (.iadd, 1) := by decide +kernel
theorem dX5_step_60 : decode cX5_step 60 = .ok (.putfield 18, 3) := by decide +kernel
theorem dX5_step_63 : decode cX5_step 63 = .ok (.iconst 1, 1) := by decide +kernel
theorem dX5_step_64 : decode cX5_step 64 = .ok (.ireturn, 1) := by decide +kernel
theorem dX5_step_65 : decode cX5_step 65 = .ok (.aload_n 0, 1) := by decide +kernel
theorem dX5_step_66 : decode cX5_step 66 = .ok (.dup, 1) := by decide +kernel
theorem dX5_step_67 : decode cX5_step 67 = .ok (.getfield 18, 3) := by decide +kernel
theorem dX5_step_70 : decode cX5_step 70 = .ok (.aload_n 0, 1) := by decide +kernel
theorem dX5_step_71 : decode cX5_step 71 = .ok (.getfield 9, 3) := by decide +kernel
theorem dX5_step_74 : decode cX5_step 74 = .ok (.iload_n 2, 1) := by decide +kernel
theorem dX5_step_75 : decode cX5_step 75 = .ok (.iaload, 1) := by decide +kernel
theorem dX5_step_76 : decode cX5_step 76 = .ok (.aload_n 1, 1) := by decide +kernel
theorem dX5_step_77 : decode cX5_step 77 = .ok (.iload_n 2, 1) := by decide +kernel
theorem dX5_step_78 : decode cX5_step 78 = .ok (.iaload, 1) := by decide +kernel
theorem dX5_step_79 : decode cX5_step 79 = .ok (.imul, 1) := by decide +kernel
theorem dX5_step_80 : decode cX5_step 80 = .ok (.isub, 1) := by decide +kernel
theorem dX5_step_81 : decode cX5_step 81 = .ok (.putfield 18, 3) := by decide +kernel
theorem dX5_step_84 : decode cX5_step 84 = .ok (.aload_n 0, 1) := by decide +kernel
theorem dX5_step_85 : decode cX5_step 85 = .ok (.getfield 9, 3) := by decide +kernel
theorem dX5_step_88 : decode cX5_step 88 = .ok (.iload_n 2, 1) := by decide +kernel
theorem dX5_step_89 : decode cX5_step 89 = .ok (.iconst 0, 1) := by decide +kernel
theorem dX5_step_90 : decode cX5_step 90 = .ok (.iastore, 1) := by decide +kernel
theorem dX5_step_91 : decode cX5_step 91 = .ok (.iinc 2 1, 3) := by decide +kernel
theorem dX5_step_94 : decode cX5_step 94 = .ok (.goto (-92), 3) := by decide +kernel
theorem dX5_step_97 : decode cX5_step 97 = .ok (.iconst 0, 1) := by decide +kernel
theorem dX5_step_98 : decode cX5_step 98 = .ok (.ireturn, 1) := by decide +kernel
theorem dX6_init_0 : decode cX6_init 0 = .ok (.aload_n 0, 1) := by decide +kernel
theorem dX6_init_1 : decode cX6_init 1 = .ok (.invokespecial 3, 3) := by decide +kernel
theorem dX6_init_4 : decode cX6_init 4 = .ok (.aload_n 0, 1) := by decide +kernel
theorem dX6_init_5 : decode cX6_init 5 = .ok (.sipush 729, 3) := by decide +kernel
theorem dX6_init_8 : decode cX6_init 8 = .ok (.newarray .int, 2) := by decide +kernel
theorem dX6_init_10 : decode cX6_init 10 = .ok (.putfield 11, 3) := by decide +kernel
theorem dX6_init_13 : decode cX6_init 13 = .ok (.aload_n 0, 1) := by decide +kernel
theorem dX6_init_14 : decode cX6_init 14 = .ok (.sipush 729, 3) := by decide +kernel
theorem dX6_init_17 : decode cX6_init 17 = .ok (.newarray .int, 2) := by decide +kernel
theorem dX6_init_19 : decode cX6_init 19 = .ok (.putfield 15, 3) := by decide +kernel
theorem dX6_init_22 : decode cX6_init 22 = .ok (.aload_n 0, 1) := by decide +kernel
theorem dX6_init_23 : decode cX6_init 23 = .ok (.new 18, 3) := by decide +kernel
theorem dX6_init_26 : decode cX6_init 26 = .ok (.dup, 1) := by decide +kernel
theorem dX6_init_27 : decode cX6_init 27 = .ok (.sipush 729, 3) := by decide +kernel
theorem dX6_init_30 : decode cX6_init 30 = .ok (.iconst 2, 1) := by decide +kernel
theorem dX6_init_31 : decode cX6_init 31 = .ok (.invokespecial 20, 3) := by decide +kernel
theorem dX6_init_34 : decode cX6_init 34 = .ok (.putfield 23, 3) := by decide +kernel
theorem dX6_init_37 : decode cX6_init 37 = .ok (.aload_n 0, 1) := by decide +kernel
theorem dX6_init_38 : decode cX6_init 38 = .ok (.bipush 6, 2) := by decide +kernel
theorem dX6_init_40 : decode cX6_init 40 = .ok (.newarray .int, 2) := by decide +kernel
theorem dX6_init_42 : decode cX6_init 42 = .ok (.putfield 27, 3) := by decide +kernel
theorem dX6_init_45 : decode cX6_init 45 = .ok (.aload_n 0, 1) := by decide +kernel
theorem dX6_init_46 : decode cX6_init 46 = .ok (.new 30, 3) := by decide +kernel
theorem dX6_init_49 : decode cX6_init 49 = .ok (.dup, 1) := by decide +kernel
theorem dX6_init_50 : decode cX6_init 50 = .ok (.invokespecial 32, 3) := by decide +kernel
theorem dX6_init_53 : decode cX6_init 53 = .ok (.putfield 33, 3) := by decide +kernel
theorem dX6_init_56 : decode cX6_init 56 = .ok (.aload_n 0, 1) := by decide +kernel
theorem dX6_init_57 : decode cX6_init 57 = .ok (.new 30, 3) := by decide +kernel
theorem dX6_init_60 : decode cX6_init 60 = .ok (.dup, 1) := by decide +kernel
theorem dX6_init_61 : decode cX6_init 61 = .ok (.invokespecial 32, 3) := by decide +kernel
theorem dX6_init_64 : decode cX6_init 64 = .ok (.putfield 37, 3) := by decide +kernel
theorem dX6_init_67 : decode cX6_init 67 = .ok (.return_, 1) := by decide +kernel
theorem dX6_countTypes_0 : decode cX6_countTypes 0 = .ok (.iconst 0, 1) := by decide +kernel
theorem dX6_countTypes_1 : decode cX6_countTypes 1 = .ok (.istore_n 2, 1) := by decide +kernel
theorem dX6_countTypes_2 : decode cX6_countTypes 2 = .ok (.iconst 1, 1) := by decide +kernel
theorem dX6_countTypes_3 : decode cX6_countTypes 3 = .ok (.istore_n 3, 1) := by decide +kernel
theorem dX6_countTypes_4 : decode cX6_countTypes 4 = .ok (.iconst 0, 1) := by decide +kernel
theorem dX6_countTypes_5 : decode cX6_countTypes 5 = .ok (.istore 4, 2) := by decide +kernel
theorem dX6_countTypes_7 : decode cX6_countTypes 7 = .ok (.iload 4, 2) := by decide +kernel
theorem dX6_countTypes_9 : decode cX6_countTypes 9 = .ok (.aload_n 0, 1) := by decide +kernel
theorem dX6_countTypes_10 : decode cX6_countTypes 10 = .ok (.getfield 27, 3) := by decide +kernel
theorem dX6_countTypes_13 : decode cX6_countTypes 13 = .ok (.arraylength, 1) := by decide +kernel
theorem dX6_countTypes_14 : decode cX6_countTypes 14 = .ok (.if_icmp .ge 64, 3) := by decide +kernel
theorem dX6_countTypes_17 : decode cX6_countTypes 17 = .ok (.iload 4, 2) := by decide +kernel
theorem dX6_countTypes_19 : decode cX6_countTypes 19 = .ok (.aload_n 0, 1) := by decide +kernel
theorem dX6_countTypes_20 : decode cX6_countTypes 20 = .ok (.getfield 33, 3) := by decide +kernel
theorem dX6_countTypes_23 : decode cX6_countTypes 23 = .ok (.getfield 92, 3) := by decide +kernel
theorem dX6_countTypes_26 : decode cX6_countTypes 26 = .ok (.arraylength, 1) := by decide +kernel
theorem dX6_countTypes_27 : decode cX6_countTypes 27 = .ok (.if_icmp .ge 51, 3) := by decide +kernel
theorem dX6_countTypes_30 : decode cX6_countTypes 30 = .ok (.aload_n 1, 1) := by decide +kernel
theorem dX6_countTypes_31 : decode cX6_countTypes 31 = .ok (.iload 4, 2) := by decide +kernel
theorem dX6_countTypes_33 : decode cX6_countTypes 33 = .ok (.invokevirtual 95, 3) := by decide +kernel
theorem dX6_countTypes_36 : decode cX6_countTypes 36 = .ok (.istore 5, 2) := by decide +kernel
theorem dX6_countTypes_38 : decode cX6_countTypes 38 = .ok (.aload_n 0, 1) := by decide +kernel
theorem dX6_countTypes_39 : decode cX6_countTypes 39 = .ok (.getfield 33, 3) := by decide +kernel
theorem dX6_countTypes_42 : decode cX6_countTypes 42 = .ok (.getfield 92, 3) := by decide +kernel
theorem dX6_countTypes_45 : decode cX6_countTypes 45 = .ok (.iload 4, 2) := by decide +kernel
theorem dX6_countTypes_47 : decode cX6_countTypes 47 = .ok (.iload 5, 2) := by decide +kernel
theorem dX6_countTypes_49 : decode cX6_countTypes 49 = .ok (.iastore, 1) := by decide +kernel
theorem dX6_countTypes_50 : decode cX6_countTypes 50 = .ok (.aload_n 0, 1) := by decide +kernel
theorem dX6_countTypes_51 : decode cX6_countTypes 51 = .ok (.getfield 27, 3) := by decide +kernel
theorem dX6_countTypes_54 : decode cX6_countTypes 54 = .ok (.iload 4, 2) := by decide +kernel
theorem dX6_countTypes_56 : decode cX6_countTypes 56 = .ok (.iload_n 3, 1) := by decide +kernel
theorem dX6_countTypes_57 : decode cX6_countTypes 57 = .ok (.iastore, 1) := by decide +kernel
theorem dX6_countTypes_58 : decode cX6_countTypes 58 = .ok (.iload_n 2, 1) := by decide +kernel
theorem dX6_countTypes_59 : decode cX6_countTypes 59 = .ok (.iload 5, 2) := by decide +kernel
theorem dX6_countTypes_61 : decode cX6_countTypes 61 = .ok (.iload_n 3, 1) := by decide +kernel
theorem dX6_countTypes_62 : decode cX6_countTypes 62 = .ok (.imul, 1) := by decide +kernel
theorem dX6_countTypes_63 : decode cX6_countTypes 63 = .ok (.iadd, 1) := by decide +kernel
theorem dX6_countTypes_64 : decode cX6_countTypes 64 = .ok (.istore_n 2, 1) := by decide +kernel
theorem dX6_countTypes_65 : decode cX6_countTypes 65 = .ok (.iload_n 3, 1) := by decide +kernel
theorem dX6_countTypes_66 : decode cX6_countTypes 66 = .ok (.iload 5, 2) := by decide +kernel
theorem dX6_countTypes_68 : decode cX6_countTypes 68 = .ok (.iconst 1, 1) := by decide +kernel
theorem dX6_countTypes_69 : decode cX6_countTypes 69 = .ok (.iadd, 1) := by decide +kernel
theorem dX6_countTypes_70 : decode cX6_countTypes 70 = .ok (.imul, 1) := by decide +kernel
theorem dX6_countTypes_71 : decode cX6_countTypes 71 = .ok (.istore_n 3, 1) := by decide +kernel
theorem dX6_countTypes_72 : decode cX6_countTypes 72 = .ok (.iinc 4 1, 3) := by decide +kernel
theorem dX6_countTypes_75 : decode cX6_countTypes 75 = .ok (.goto (-68), 3) := by decide +kernel
theorem dX6_countTypes_78 : decode cX6_countTypes 78 = .ok (.iload_n 2, 1) := by decide +kernel
theorem dX6_countTypes_79 : decode cX6_countTypes 79 = .ok (.ireturn, 1) := by decide +kernel
theorem dX6_addNeeds_0 : decode cX6_addNeeds 0 = .ok (.aload_n 0, 1) := by decide +kernel
theorem dX6_addNeeds_1 : decode cX6_addNeeds 1 = .ok (.getfield 33, 3) := by decide +kernel
theorem dX6_addNeeds_4 : decode cX6_addNeeds 4 = .ok (.invokevirtual 81, 3) := by decide +kernel
theorem dX6_addNeeds_7 : decode cX6_addNeeds 7 = .ok (.iconst 1, 1) := by decide +kernel
theorem dX6_addNeeds_8 : decode cX6_addNeeds 8 = .ok (.istore_n 2, 1) := by decide +kernel
theorem dX6_addNeeds_9 : decode cX6_addNeeds 9 = .ok (.iconst 0, 1) := by decide +kernel
theorem dX6_addNeeds_10 : decode cX6_addNeeds 10 = .ok (.istore_n 3, 1) := by decide +kernel
theorem dX6_addNeeds_11 : decode cX6_addNeeds 11 = .ok (.iload_n 3, 1) := by decide +kernel
theorem dX6_addNeeds_12 : decode cX6_addNeeds 12 = .ok (.sipush 729, 3) := by decide +kernel
theorem dX6_addNeeds_15 : decode cX6_addNeeds 15 = .ok (.if_icmp .ge 139, 3) := by decide +kernel
theorem dX6_addNeeds_18 : decode cX6_addNeeds 18 = .ok (.iload_n 2, 1) := by decide +kernel
theorem dX6_addNeeds_19 : decode cX6_addNeeds 19 = .ok (.ifCond .eq 135, 3) := by decide +kernel
theorem dX6_addNeeds_22 : decode cX6_addNeeds 22 = .ok (.iconst 0, 1) := by decide +kernel
theorem dX6_addNeeds_23 : decode cX6_addNeeds 23 = .ok (.istore 4, 2) := by decide +kernel
theorem dX6_addNeeds_25 : decode cX6_addNeeds 25 = .ok (.iconst 0, 1) := by decide +kernel
theorem dX6_addNeeds_26 : decode cX6_addNeeds 26 = .ok (.istore 5, 2) := by decide +kernel
theorem dX6_addNeeds_28 : decode cX6_addNeeds 28 = .ok (.iconst 0, 1) := by decide +kernel
theorem dX6_addNeeds_29 : decode cX6_addNeeds 29 = .ok (.istore 6, 2) := by decide +kernel
theorem dX6_addNeeds_31 : decode cX6_addNeeds 31 = .ok (.iload 6, 2) := by decide +kernel
theorem dX6_addNeeds_33 : decode cX6_addNeeds 33 = .ok (.aload_n 0, 1) := by decide +kernel
theorem dX6_addNeeds_34 : decode cX6_addNeeds 34 = .ok (.getfield 33, 3) := by decide +kernel
theorem dX6_addNeeds_37 : decode cX6_addNeeds 37 = .ok (.getfield 99, 3) := by decide +kernel
theorem dX6_addNeeds_40 : decode cX6_addNeeds 40 = .ok (.arraylength, 1) := by decide +kernel
theorem dX6_addNeeds_41 : decode cX6_addNeeds 41 = .ok (.if_icmp .ge 61, 3) := by decide +kernel
theorem dX6_addNeeds_44 : decode cX6_addNeeds 44 = .ok (.iload 4, 2) := by decide +kernel
theorem dX6_addNeeds_46 : decode cX6_addNeeds 46 = .ok (.aload_n 0, 1) := by decide +kernel
theorem dX6_addNeeds_47 : decode cX6_addNeeds 47 = .ok (.getfield 33, 3) := by decide +kernel
theorem dX6_addNeeds_50 : decode cX6_addNeeds 50 = .ok (.getfield 99, 3) := by decide +kernel
theorem dX6_addNeeds_53 : decode cX6_addNeeds 53 = .ok (.iload 6, 2) := by decide +kernel
theorem dX6_addNeeds_55 : decode cX6_addNeeds 55 = .ok (.iaload, 1) := by decide +kernel
theorem dX6_addNeeds_56 : decode cX6_addNeeds 56 = .ok (.aload_n 1, 1) := by decide +kernel
theorem dX6_addNeeds_57 : decode cX6_addNeeds 57 = .ok (.getfield 102, 3) := by decide +kernel
theorem dX6_addNeeds_60 : decode cX6_addNeeds 60 = .ok (.iload 6, 2) := by decide +kernel
theorem dX6_addNeeds_62 : decode cX6_addNeeds 62 = .ok (.iconst 0, 1) := by decide +kernel
theorem dX6_addNeeds_63 : decode cX6_addNeeds 63 = .ok (.invokevirtual 105, 3) := by decide +kernel
theorem dX6_addNeeds_66 : decode cX6_addNeeds 66 = .ok (.imul, 1) := by decide +kernel
theorem dX6_addNeeds_67 : decode cX6_addNeeds 67 = .ok (.iadd, 1) := by decide +kernel
theorem dX6_addNeeds_68 : decode cX6_addNeeds 68 = .ok (.istore 4, 2) := by decide +kernel
theorem dX6_addNeeds_70 : decode cX6_addNeeds 70 = .ok (.iload 5, 2) := by decide +kernel
theorem dX6_addNeeds_72 : decode cX6_addNeeds 72 = .ok (.aload_n 0, 1) := by decide +kernel
theorem dX6_addNeeds_73 : decode cX6_addNeeds 73 = .ok (.getfield 33, 3) := by decide +kernel
theorem dX6_addNeeds_76 : decode cX6_addNeeds 76 = .ok (.getfield 99, 3) := by decide +kernel
theorem dX6_addNeeds_79 : decode cX6_addNeeds 79 = .ok (.iload 6, 2) := by decide +kernel
theorem dX6_addNeeds_81 : decode cX6_addNeeds 81 = .ok (.iaload, 1) := by decide +kernel
theorem dX6_addNeeds_82 : decode cX6_addNeeds 82 = .ok (.aload_n 1, 1) := by decide +kernel
theorem dX6_addNeeds_83 : decode cX6_addNeeds 83 = .ok (.getfield 102, 3) := by decide +kernel
theorem dX6_addNeeds_86 : decode cX6_addNeeds 86 = .ok (.iload 6, 2) := by decide +kernel
theorem dX6_addNeeds_88 : decode cX6_addNeeds 88 = .ok (.iconst 1, 1) := by decide +kernel
theorem dX6_addNeeds_89 : decode cX6_addNeeds 89 = .ok (.invokevirtual 105, 3) := by decide +kernel
theorem dX6_addNeeds_92 : decode cX6_addNeeds 92 = .ok (.imul, 1) := by decide +kernel
theorem dX6_addNeeds_93 : decode cX6_addNeeds 93 = .ok (.iadd, 1) := by decide +kernel
theorem dX6_addNeeds_94 : decode cX6_addNeeds 94 = .ok (.istore 5, 2) := by decide +kernel
theorem dX6_addNeeds_96 : decode cX6_addNeeds 96 = .ok (.iinc 6 1, 3) := by decide +kernel
theorem dX6_addNeeds_99 : decode cX6_addNeeds 99 = .ok (.goto (-68), 3) := by decide +kernel
theorem dX6_addNeeds_102 : decode cX6_addNeeds 102 = .ok (.aload_n 0, 1) := by decide +kernel
theorem dX6_addNeeds_103 : decode cX6_addNeeds 103 = .ok (.getfield 23, 3) := by decide +kernel
theorem dX6_addNeeds_106 : decode cX6_addNeeds 106 = .ok (.aload_n 0, 1) := by decide +kernel
theorem dX6_addNeeds_107 : decode cX6_addNeeds 107 = .ok (.getfield 33, 3) := by decide +kernel
theorem dX6_addNeeds_110 : decode cX6_addNeeds 110 = .ok (.getfield 108, 3) := by decide +kernel
theorem dX6_addNeeds_113 : decode cX6_addNeeds 113 = .ok (.iconst 0, 1) := by decide +kernel
theorem dX6_addNeeds_114 : decode cX6_addNeeds 114 = .ok (.iload 4, 2) := by decide +kernel
theorem dX6_addNeeds_116 : decode cX6_addNeeds 116 = .ok (.invokevirtual 111, 3) := by decide +kernel
theorem dX6_addNeeds_119 : decode cX6_addNeeds 119 = .ok (.aload_n 0, 1) := by decide +kernel
theorem dX6_addNeeds_120 : decode cX6_addNeeds 120 = .ok (.getfield 23, 3) := by decide +kernel
theorem dX6_addNeeds_123 : decode cX6_addNeeds 123 = .ok (.aload_n 0, 1) := by decide +kernel
theorem dX6_addNeeds_124 : decode cX6_addNeeds 124 = .ok (.getfield 33, 3) := by decide +kernel
theorem dX6_addNeeds_127 : decode cX6_addNeeds 127 = .ok (.getfield 108, 3) := by decide +kernel
theorem dX6_addNeeds_130 : decode cX6_addNeeds 130 = .ok (.iconst 1, 1) := by decide +kernel
theorem dX6_addNeeds_131 : decode cX6_addNeeds 131 = .ok (.iload 5, 2) := by decide +kernel
theorem dX6_addNeeds_133 : decode cX6_addNeeds 133 = .ok (.invokevirtual 111, 3) := by decide +kernel
theorem dX6_addNeeds_136 : decode cX6_addNeeds 136 = .ok (.aload_n 0, 1) := by decide +kernel
theorem dX6_addNeeds_137 : decode cX6_addNeeds 137 = .ok (.getfield 33, 3) := by decide +kernel
theorem dX6_addNeeds_140 : decode cX6_addNeeds 140 = .ok (.aload_n 0, 1) := by decide +kernel
theorem dX6_addNeeds_141 : decode cX6_addNeeds 141 = .ok (.getfield 27, 3) := by decide +kernel
theorem dX6_addNeeds_144 : decode cX6_addNeeds 144 = .ok (.invokevirtual 88, 3) := by decide +kernel
theorem dX6_addNeeds_147 : decode cX6_addNeeds 147 = .ok (.istore_n 2, 1) := by decide +kernel
theorem dX6_addNeeds_148 : decode cX6_addNeeds 148 = .ok (.iinc 3 1, 3) := by decide +kernel
theorem dX6_addNeeds_151 : decode cX6_addNeeds 151 = .ok (.goto (-140), 3) := by decide +kernel
theorem dX6_addNeeds_154 : decode cX6_addNeeds 154 = .ok (.return_, 1) := by decide +kernel
theorem dX6_addHost_0 : decode cX6_addHost 0 = .ok (.aload_n 0, 1) := by decide +kernel
theorem dX6_addHost_1 : decode cX6_addHost 1 = .ok (.getfield 33, 3) := by decide +kernel
theorem dX6_addHost_4 : decode cX6_addHost 4 = .ok (.getfield 108, 3) := by decide +kernel
theorem dX6_addHost_7 : decode cX6_addHost 7 = .ok (.istore 4, 2) := by decide +kernel
theorem dX6_addHost_9 : decode cX6_addHost 9 = .ok (.iload 4, 2) := by decide +kernel
theorem dX6_addHost_11 : decode cX6_addHost 11 = .ok (.ifCond .lt 26, 3) := by decide +kernel
theorem dX6_addHost_14 : decode cX6_addHost 14 = .ok (.iload 4, 2) := by decide +kernel
theorem dX6_addHost_16 : decode cX6_addHost 16 = .ok (.aload_n 0, 1) := by decide +kernel
theorem dX6_addHost_17 : decode cX6_addHost 17 = .ok (.getfield 15, 3) := by decide +kernel
theorem dX6_addHost_20 : decode cX6_addHost 20 = .ok (.arraylength, 1) := by decide +kernel
theorem dX6_addHost_21 : decode cX6_addHost 21 = .ok (.if_icmp .ge 16, 3) := by decide +kernel
theorem dX6_addHost_24 : decode cX6_addHost 24 = .ok (.iload_n 3, 1) := by decide +kernel
theorem dX6_addHost_25 : decode cX6_addHost 25 = .ok (.ifCond .lt 12, 3) := by decide +kernel
theorem dX6_addHost_28 : decode cX6_addHost 28 = .ok (.iload_n 3, 1) := by decide +kernel
theorem dX6_addHost_29 : decode cX6_addHost 29 = .ok (.aload_n 0, 1) := by decide +kernel
theorem dX6_addHost_30 : decode cX6_addHost 30 = .ok (.getfield 11, 3) := by decide +kernel
theorem dX6_addHost_33 : decode cX6_addHost 33 = .ok (.arraylength, 1) := by decide +kernel
theorem dX6_addHost_34 : decode cX6_addHost 34 = .ok (.if_icmp .lt 4, 3) := by decide +kernel
theorem dX6_addHost_37 : decode cX6_addHost 37 = .ok (.return_, 1) := by decide +kernel
theorem dX6_addHost_38 : decode cX6_addHost 38 = .ok (.aload_n 0, 1) := by decide +kernel
theorem dX6_addHost_39 : decode cX6_addHost 39 = .ok (.getfield 15, 3) := by decide +kernel
theorem dX6_addHost_42 : decode cX6_addHost 42 = .ok (.iload 4, 2) := by decide +kernel
theorem dX6_addHost_44 : decode cX6_addHost 44 = .ok (.iaload, 1) := by decide +kernel
theorem dX6_addHost_45 : decode cX6_addHost 45 = .ok (.iconst 1, 1) := by decide +kernel
theorem dX6_addHost_46 : decode cX6_addHost 46 = .ok (.iadd, 1) := by decide +kernel
theorem dX6_addHost_47 : decode cX6_addHost 47 = .ok (.istore 5, 2) := by decide +kernel
theorem dX6_addHost_49 : decode cX6_addHost 49 = .ok (.iload 5, 2) := by decide +kernel
theorem dX6_addHost_51 : decode cX6_addHost 51 = .ok (.aload_n 0, 1) := by decide +kernel
theorem dX6_addHost_52 : decode cX6_addHost 52 = .ok (.getfield 11, 3) := by decide +kernel
theorem dX6_addHost_55 : decode cX6_addHost 55 = .ok (.iload_n 3, 1) := by decide +kernel
theorem dX6_addHost_56 : decode cX6_addHost 56 = .ok (.iaload, 1) := by decide +kernel
theorem dX6_addHost_57 : decode cX6_addHost 57 = .ok (.if_icmp .lt 4, 3) := by decide +kernel
theorem dX6_addHost_60 : decode cX6_addHost 60 = .ok (.return_, 1) := by decide +kernel
theorem dX6_addHost_61 : decode cX6_addHost 61 = .ok (.iconst 0, 1) := by decide +kernel
theorem dX6_addHost_62 : decode cX6_addHost 62 = .ok (.istore 6, 2) := by decide +kernel
theorem dX6_addHost_64 : decode cX6_addHost 64 = .ok (.iload 6, 2) := by decide +kernel
theorem dX6_addHost_66 : decode cX6_addHost 66 = .ok (.aload_n 0, 1) := by decide +kernel
theorem dX6_addHost_67 : decode cX6_addHost 67 = .ok (.getfield 37, 3) := by decide +kernel
theorem dX6_addHost_70 : decode cX6_addHost 70 = .ok (.getfield 92, 3) := by decide +kernel
theorem dX6_addHost_73 : decode cX6_addHost 73 = .ok (.arraylength, 1) := by decide +kernel
theorem dX6_addHost_74 : decode cX6_addHost 74 = .ok (.if_icmp .ge 66, 3) := by decide +kernel
theorem dX6_addHost_77 : decode cX6_addHost 77 = .ok (.iload 6, 2) := by decide +kernel
theorem dX6_addHost_79 : decode cX6_addHost 79 = .ok (.aload_n 0, 1) := by decide +kernel
theorem dX6_addHost_80 : decode cX6_addHost 80 = .ok (.getfield 33, 3) := by decide +kernel
theorem dX6_addHost_83 : decode cX6_addHost 83 = .ok (.getfield 92, 3) := by decide +kernel
theorem dX6_addHost_86 : decode cX6_addHost 86 = .ok (.arraylength, 1) := by decide +kernel
theorem dX6_addHost_87 : decode cX6_addHost 87 = .ok (.if_icmp .ge 53, 3) := by decide +kernel
theorem dX6_addHost_90 : decode cX6_addHost 90 = .ok (.iload 6, 2) := by decide +kernel
theorem dX6_addHost_92 : decode cX6_addHost 92 = .ok (.aload_n 0, 1) := by decide +kernel
theorem dX6_addHost_93 : decode cX6_addHost 93 = .ok (.getfield 33, 3) := by decide +kernel
theorem dX6_addHost_96 : decode cX6_addHost 96 = .ok (.getfield 99, 3) := by decide +kernel
theorem dX6_addHost_99 : decode cX6_addHost 99 = .ok (.arraylength, 1) := by decide +kernel
theorem dX6_addHost_100 : decode cX6_addHost 100 = .ok (.if_icmp .ge 40, 3) := by decide +kernel
theorem dX6_addHost_103 : decode cX6_addHost 103 = .ok (.aload_n 0, 1) := by decide +kernel
theorem dX6_addHost_104 : decode cX6_addHost 104 = .ok (.getfield 37, 3) := by decide +kernel
theorem dX6_addHost_107 : decode cX6_addHost 107 = .ok (.getfield 92, 3) := by decide +kernel
theorem dX6_addHost_110 : decode cX6_addHost 110 = .ok (.iload 6, 2) := by decide +kernel
theorem dX6_addHost_112 : decode cX6_addHost 112 = .ok (.aload_n 0, 1) := by decide +kernel
theorem dX6_addHost_113 : decode cX6_addHost 113 = .ok (.getfield 33, 3) := by decide +kernel
theorem dX6_addHost_116 : decode cX6_addHost 116 = .ok (.getfield 92, 3) := by decide +kernel
theorem dX6_addHost_119 : decode cX6_addHost 119 = .ok (.iload 6, 2) := by decide +kernel
theorem dX6_addHost_121 : decode cX6_addHost 121 = .ok (.iaload, 1) := by decide +kernel
theorem dX6_addHost_122 : decode cX6_addHost 122 = .ok (.aload_n 0, 1) := by decide +kernel
theorem dX6_addHost_123 : decode cX6_addHost 123 = .ok (.getfield 33, 3) := by decide +kernel
theorem dX6_addHost_126 : decode cX6_addHost 126 = .ok (.getfield 99, 3) := by decide +kernel
theorem dX6_addHost_129 : decode cX6_addHost 129 = .ok (.iload 6, 2) := by decide +kernel
theorem dX6_addHost_131 : decode cX6_addHost 131 = .ok (.iaload, 1) := by decide +kernel
theorem dX6_addHost_132 : decode cX6_addHost 132 = .ok (.isub, 1) := by decide +kernel
theorem dX6_addHost_133 : decode cX6_addHost 133 = .ok (.iastore, 1) := by decide +kernel
theorem dX6_addHost_134 : decode cX6_addHost 134 = .ok (.iinc 6 1, 3) := by decide +kernel
theorem dX6_addHost_137 : decode cX6_addHost 137 = .ok (.goto (-73), 3) := by decide +kernel
theorem dX6_addHost_140 : decode cX6_addHost 140 = .ok (.aload_n 1, 1) := by decide +kernel
theorem dX6_addHost_141 : decode cX6_addHost 141 = .ok (.getfield 60, 3) := by decide +kernel
theorem dX6_addHost_144 : decode cX6_addHost 144 = .ok (.iload_n 2, 1) := by decide +kernel
theorem dX6_addHost_145 : decode cX6_addHost 145 = .ok (.iconst 0, 1) := by decide +kernel
theorem dX6_addHost_146 : decode cX6_addHost 146 = .ok (.invokevirtual 105, 3) := by decide +kernel
theorem dX6_addHost_149 : decode cX6_addHost 149 = .ok (.istore 6, 2) := by decide +kernel
theorem dX6_addHost_151 : decode cX6_addHost 151 = .ok (.aload_n 1, 1) := by decide +kernel
theorem dX6_addHost_152 : decode cX6_addHost 152 = .ok (.getfield 60, 3) := by decide +kernel
theorem dX6_addHost_155 : decode cX6_addHost 155 = .ok (.iload_n 2, 1) := by decide +kernel
theorem dX6_addHost_156 : decode cX6_addHost 156 = .ok (.iconst 1, 1) := by decide +kernel
theorem dX6_addHost_157 : decode cX6_addHost 157 = .ok (.invokevirtual 105, 3) := by decide +kernel
theorem dX6_addHost_160 : decode cX6_addHost 160 = .ok (.istore 7, 2) := by decide +kernel
theorem dX6_addHost_162 : decode cX6_addHost 162 = .ok (.aload_n 0, 1) := by decide +kernel
theorem dX6_addHost_163 : decode cX6_addHost 163 = .ok (.getfield 37, 3) := by decide +kernel
theorem dX6_addHost_166 : decode cX6_addHost 166 = .ok (.invokevirtual 81, 3) := by decide +kernel
theorem dX6_addHost_169 : decode cX6_addHost 169 = .ok (.iconst 0, 1) := by decide +kernel
theorem dX6_addHost_170 : decode cX6_addHost 170 = .ok (.istore 8, 2) := by decide +kernel
theorem dX6_addHost_172 : decode cX6_addHost 172 = .ok (.iload 8, 2) := by decide +kernel
theorem dX6_addHost_174 : decode cX6_addHost 174 = .ok (.sipush 729, 3) := by decide +kernel
theorem dX6_addHost_177 : decode cX6_addHost 177 = .ok (.if_icmp .ge 121, 3) := by decide +kernel
theorem dX6_addHost_180 : decode cX6_addHost 180 = .ok (.aload_n 0, 1) := by decide +kernel
theorem dX6_addHost_181 : decode cX6_addHost 181 = .ok (.getfield 37, 3) := by decide +kernel
theorem dX6_addHost_184 : decode cX6_addHost 184 = .ok (.aload_n 0, 1) := by decide +kernel
theorem dX6_addHost_185 : decode cX6_addHost 185 = .ok (.getfield 27, 3) := by decide +kernel
theorem dX6_addHost_188 : decode cX6_addHost 188 = .ok (.invokevirtual 88, 3) := by decide +kernel
theorem dX6_addHost_191 : decode cX6_addHost 191 = .ok (.ifCond .eq 107, 3) := by decide +kernel
theorem dX6_addHost_194 : decode cX6_addHost 194 = .ok (.iload 4, 2) := by decide +kernel
theorem dX6_addHost_196 : decode cX6_addHost 196 = .ok (.aload_n 0, 1) := by decide +kernel
theorem dX6_addHost_197 : decode cX6_addHost 197 = .ok (.getfield 37, 3) := by decide +kernel
theorem dX6_addHost_200 : decode cX6_addHost 200 = .ok (.getfield 108, 3) := by decide +kernel
theorem dX6_addHost_203 : decode cX6_addHost 203 = .ok (.iadd, 1) := by decide +kernel
theorem dX6_addHost_204 : decode cX6_addHost 204 = .ok (.istore 9, 2) := by decide +kernel
theorem dX6_addHost_206 : decode cX6_addHost 206 = .ok (.aload_n 0, 1) := by decide +kernel
theorem dX6_addHost_207 : decode cX6_addHost 207 = .ok (.getfield 23, 3) := by decide +kernel
theorem dX6_addHost_210 : decode cX6_addHost 210 = .ok (.aload_n 0, 1) := by decide +kernel
theorem dX6_addHost_211 : decode cX6_addHost 211 = .ok (.getfield 37, 3) := by decide +kernel
theorem dX6_addHost_214 : decode cX6_addHost 214 = .ok (.getfield 108, 3) := by decide +kernel
theorem dX6_addHost_217 : decode cX6_addHost 217 = .ok (.iconst 0, 1) := by decide +kernel
theorem dX6_addHost_218 : decode cX6_addHost 218 = .ok (.invokevirtual 105, 3) := by decide +kernel
theorem dX6_addHost_221 : decode cX6_addHost 221 = .ok (.iload 6, 2) := by decide +kernel
theorem dX6_addHost_223 : decode cX6_addHost 223 = .ok (.if_icmp .gt 27, 3) := by decide +kernel
theorem dX6_addHost_226 : decode cX6_addHost 226 = .ok (.aload_n 0, 1) := by decide +kernel
theorem dX6_addHost_227 : decode cX6_addHost 227 = .ok (.getfield 23, 3) := by decide +kernel
theorem dX6_addHost_230 : decode cX6_addHost 230 = .ok (.aload_n 0, 1) := by decide +kernel
theorem dX6_addHost_231 : decode cX6_addHost 231 = .ok (.getfield 37, 3) := by decide +kernel
theorem dX6_addHost_234 : decode cX6_addHost 234 = .ok (.getfield 108, 3) := by decide +kernel
theorem dX6_addHost_237 : decode cX6_addHost 237 = .ok (.iconst 1, 1) := by decide +kernel
theorem dX6_addHost_238 : decode cX6_addHost 238 = .ok (.invokevirtual 105, 3) := by decide +kernel
theorem dX6_addHost_241 : decode cX6_addHost 241 = .ok (.iload 7, 2) := by decide +kernel
theorem dX6_addHost_243 : decode cX6_addHost 243 = .ok (.if_icmp .gt 7, 3) := by decide +kernel
theorem dX6_addHost_246 : decode cX6_addHost 246 = .ok (.iconst 1, 1) := by decide +kernel
theorem dX6_addHost_247 : decode cX6_addHost 247 = .ok (.goto 4, 3) := by decide +kernel
theorem dX6_addHost_250 : decode cX6_addHost 250 = .ok (.iconst 0, 1) := by decide +kernel
theorem dX6_addHost_251 : decode cX6_addHost 251 = .ok (.istore 10, 2) := by decide +kernel
theorem dX6_addHost_253 : decode cX6_addHost 253 = .ok (.iload 10, 2) := by decide +kernel
theorem dX6_addHost_255 : decode cX6_addHost 255 = .ok (.ifCond .eq 37, 3) := by decide +kernel
theorem dX6_addHost_258 : decode cX6_addHost 258 = .ok (.iload 9, 2) := by decide +kernel
theorem dX6_addHost_260 : decode cX6_addHost 260 = .ok (.ifCond .lt 32, 3) := by decide +kernel
theorem dX6_addHost_263 : decode cX6_addHost 263 = .ok (.iload 9, 2) := by decide +kernel
theorem dX6_addHost_265 : decode cX6_addHost 265 = .ok (.aload_n 0, 1) := by decide +kernel
theorem dX6_addHost_266 : decode cX6_addHost 266 = .ok (.getfield 11, 3) := by decide +kernel
theorem dX6_addHost_269 : decode cX6_addHost 269 = .ok (.arraylength, 1) := by decide +kernel
theorem dX6_addHost_270 : decode cX6_addHost 270 = .ok (.if_icmp .ge 22, 3) := by decide +kernel
theorem dX6_addHost_273 : decode cX6_addHost 273 = .ok (.aload_n 0, 1) := by decide +kernel
theorem dX6_addHost_274 : decode cX6_addHost 274 = .ok (.getfield 11, 3) := by decide +kernel
theorem dX6_addHost_277 : decode cX6_addHost 277 = .ok (.iload 9, 2) := by decide +kernel
theorem dX6_addHost_279 : decode cX6_addHost 279 = .ok (.aload_n 0, 1) := by decide +kernel
theorem dX6_addHost_280 : decode cX6_addHost 280 = .ok (.getfield 11, 3) := by decide +kernel
theorem dX6_addHost_283 : decode cX6_addHost 283 = .ok (.iload 9, 2) := by decide +kernel
theorem dX6_addHost_285 : decode cX6_addHost 285 = .ok (.iaload, 1) := by decide +kernel
theorem dX6_addHost_286 : decode cX6_addHost 286 = .ok (.iload 5, 2) := by decide +kernel
theorem dX6_addHost_288 : decode cX6_addHost 288 = .ok (.invokestatic 69, 3) := by decide +kernel
theorem dX6_addHost_291 : decode cX6_addHost 291 = .ok (.iastore, 1) := by decide +kernel
theorem dX6_addHost_292 : decode cX6_addHost 292 = .ok (.iinc 8 1, 3) := by decide +kernel
theorem dX6_addHost_295 : decode cX6_addHost 295 = .ok (.goto (-123), 3) := by decide +kernel
theorem dX6_addHost_298 : decode cX6_addHost 298 = .ok (.return_, 1) := by decide +kernel
theorem dX6_fewestFor_0 : decode cX6_fewestFor 0 = .ok (.aload_n 0, 1) := by decide +kernel
theorem dX6_fewestFor_1 : decode cX6_fewestFor 1 = .ok (.aload_n 2, 1) := by decide +kernel
theorem dX6_fewestFor_2 : decode cX6_fewestFor 2 = .ok (.invokevirtual 40, 3) := by decide +kernel
theorem dX6_fewestFor_5 : decode cX6_fewestFor 5 = .ok (.istore_n 3, 1) := by decide +kernel
theorem dX6_fewestFor_6 : decode cX6_fewestFor 6 = .ok (.iload_n 3, 1) := by decide +kernel
theorem dX6_fewestFor_7 : decode cX6_fewestFor 7 = .ok (.ifCond .le 12, 3) := by decide +kernel
theorem dX6_fewestFor_10 : decode cX6_fewestFor 10 = .ok (.iload_n 3, 1) := by decide +kernel
theorem dX6_fewestFor_11 : decode cX6_fewestFor 11 = .ok (.aload_n 0, 1) := by decide +kernel
theorem dX6_fewestFor_12 : decode cX6_fewestFor 12 = .ok (.getfield 11, 3) := by decide +kernel
theorem dX6_fewestFor_15 : decode cX6_fewestFor 15 = .ok (.arraylength, 1) := by decide +kernel
theorem dX6_fewestFor_16 : decode cX6_fewestFor 16 = .ok (.if_icmp .lt 5, 3) := by decide +kernel
theorem dX6_fewestFor_19 : decode cX6_fewestFor 19 = .ok (.iconst 0, 1) := by decide +kernel
theorem dX6_fewestFor_20 : decode cX6_fewestFor 20 = .ok (.ireturn, 1) := by decide +kernel
theorem dX6_fewestFor_21 : decode cX6_fewestFor 21 = .ok (.aload_n 0, 1) := by decide +kernel
theorem dX6_fewestFor_22 : decode cX6_fewestFor 22 = .ok (.aload_n 1, 1) := by decide +kernel
theorem dX6_fewestFor_23 : decode cX6_fewestFor 23 = .ok (.invokevirtual 44, 3) := by decide +kernel
theorem dX6_fewestFor_26 : decode cX6_fewestFor 26 = .ok (.aload_n 0, 1) := by decide +kernel
theorem dX6_fewestFor_27 : decode cX6_fewestFor 27 = .ok (.getfield 11, 3) := by decide +kernel
theorem dX6_fewestFor_30 : decode cX6_fewestFor 30 = .ok (.bipush 99, 2) := by decide +kernel
theorem dX6_fewestFor_32 : decode cX6_fewestFor 32 = .ok (.invokestatic 48, 3) := by decide +kernel
theorem dX6_fewestFor_35 : decode cX6_fewestFor 35 = .ok (.aload_n 0, 1) := by decide +kernel
theorem dX6_fewestFor_36 : decode cX6_fewestFor 36 = .ok (.getfield 11, 3) := by decide +kernel
theorem dX6_fewestFor_39 : decode cX6_fewestFor 39 = .ok (.iconst 0, 1) := by decide +kernel
theorem dX6_fewestFor_40 : decode cX6_fewestFor 40 = .ok (.iconst 0, 1) := by decide +kernel
theorem dX6_fewestFor_41 : decode cX6_fewestFor 41 = .ok (.iastore, 1) := by decide +kernel
theorem dX6_fewestFor_42 : decode cX6_fewestFor 42 = .ok (.aload_n 0, 1) := by decide +kernel
theorem dX6_fewestFor_43 : decode cX6_fewestFor 43 = .ok (.getfield 11, 3) := by decide +kernel
theorem dX6_fewestFor_46 : decode cX6_fewestFor 46 = .ok (.iload_n 3, 1) := by decide +kernel
theorem dX6_fewestFor_47 : decode cX6_fewestFor 47 = .ok (.aload_n 2, 1) := by decide +kernel
theorem dX6_fewestFor_48 : decode cX6_fewestFor 48 = .ok (.invokevirtual 54, 3) := by decide +kernel
theorem dX6_fewestFor_51 : decode cX6_fewestFor 51 = .ok (.iastore, 1) := by decide +kernel
theorem dX6_fewestFor_52 : decode cX6_fewestFor 52 = .ok (.iconst 0, 1) := by decide +kernel
theorem dX6_fewestFor_53 : decode cX6_fewestFor 53 = .ok (.istore 4, 2) := by decide +kernel
theorem dX6_fewestFor_55 : decode cX6_fewestFor 55 = .ok (.iload 4, 2) := by decide +kernel
theorem dX6_fewestFor_57 : decode cX6_fewestFor 57 = .ok (.aload_n 1, 1) := by decide +kernel
theorem dX6_fewestFor_58 : decode cX6_fewestFor 58 = .ok (.getfield 60, 3) := by decide +kernel
theorem dX6_fewestFor_61 : decode cX6_fewestFor 61 = .ok (.getfield 65, 3) := by decide +kernel
theorem dX6_fewestFor_64 : decode cX6_fewestFor 64 = .ok (.if_icmp .ge 88, 3) := by decide +kernel
theorem dX6_fewestFor_67 : decode cX6_fewestFor 67 = .ok (.aload_n 0, 1) := by decide +kernel
theorem dX6_fewestFor_68 : decode cX6_fewestFor 68 = .ok (.getfield 11, 3) := by decide +kernel
theorem dX6_fewestFor_71 : decode cX6_fewestFor 71 = .ok (.iconst 0, 1) := by decide +kernel
theorem dX6_fewestFor_72 : decode cX6_fewestFor 72 = .ok (.aload_n 0, 1) := by decide +kernel
theorem dX6_fewestFor_73 : decode cX6_fewestFor 73 = .ok (.getfield 15, 3) := by decide +kernel
theorem dX6_fewestFor_76 : decode cX6_fewestFor 76 = .ok (.iconst 0, 1) := by decide +kernel
theorem dX6_fewestFor_77 : decode cX6_fewestFor 77 = .ok (.aload_n 0, 1) := by decide +kernel
theorem dX6_fewestFor_78 : decode cX6_fewestFor 78 = .ok (.getfield 11, 3) := by decide +kernel
theorem dX6_fewestFor_81 : decode cX6_fewestFor 81 = .ok (.arraylength, 1) := by decide +kernel
theorem dX6_fewestFor_82 : decode cX6_fewestFor 82 = .ok (.aload_n 0, 1) := by decide +kernel
theorem dX6_fewestFor_83 : decode cX6_fewestFor 83 = .ok (.getfield 15, 3) := by decide +kernel
theorem dX6_fewestFor_86 : decode cX6_fewestFor 86 = .ok (.arraylength, 1) := by decide +kernel
theorem dX6_fewestFor_87 : decode cX6_fewestFor 87 = .ok (.invokestatic 69, 3) := by decide +kernel
theorem dX6_fewestFor_90 : decode cX6_fewestFor 90 = .ok (.invokestatic 75, 3) := by decide +kernel
theorem dX6_fewestFor_93 : decode cX6_fewestFor 93 = .ok (.aload_n 0, 1) := by decide +kernel
theorem dX6_fewestFor_94 : decode cX6_fewestFor 94 = .ok (.getfield 33, 3) := by decide +kernel
theorem dX6_fewestFor_97 : decode cX6_fewestFor 97 = .ok (.invokevirtual 81, 3) := by decide +kernel
theorem dX6_fewestFor_100 : decode cX6_fewestFor 100 = .ok (.iconst 1, 1) := by decide +kernel
theorem dX6_fewestFor_101 : decode cX6_fewestFor 101 = .ok (.istore 5, 2) := by decide +kernel
theorem dX6_fewestFor_103 : decode cX6_fewestFor 103 = .ok (.iconst 0, 1) := by decide +kernel
theorem dX6_fewestFor_104 : decode cX6_fewestFor 104 = .ok (.istore 6, 2) := by decide +kernel
theorem dX6_fewestFor_106 : decode cX6_fewestFor 106 = .ok (.iload 6, 2) := by decide +kernel
theorem dX6_fewestFor_108 : decode cX6_fewestFor 108 = .ok (.sipush 729, 3) := by decide +kernel
theorem dX6_fewestFor_111 : decode cX6_fewestFor 111 = .ok (.if_icmp .ge 35, 3) := by decide +kernel
theorem dX6_fewestFor_114 : decode cX6_fewestFor 114 = .ok (.iload 5, 2) := by decide +kernel
theorem dX6_fewestFor_116 : decode cX6_fewestFor 116 = .ok (.ifCond .eq 30, 3) := by decide +kernel
theorem dX6_fewestFor_119 : decode cX6_fewestFor 119 = .ok (.aload_n 0, 1) := by decide +kernel
theorem dX6_fewestFor_120 : decode cX6_fewestFor 120 = .ok (.aload_n 1, 1) := by decide +kernel
theorem dX6_fewestFor_121 : decode cX6_fewestFor 121 = .ok (.iload 4, 2) := by decide +kernel
theorem dX6_fewestFor_123 : decode cX6_fewestFor 123 = .ok (.iload_n 3, 1) := by decide +kernel
theorem dX6_fewestFor_124 : decode cX6_fewestFor 124 = .ok (.invokevirtual 84, 3) := by decide +kernel
theorem dX6_fewestFor_127 : decode cX6_fewestFor 127 = .ok (.aload_n 0, 1) := by decide +kernel
theorem dX6_fewestFor_128 : decode cX6_fewestFor 128 = .ok (.getfield 33, 3) := by decide +kernel
theorem dX6_fewestFor_131 : decode cX6_fewestFor 131 = .ok (.aload_n 0, 1) := by decide +kernel
theorem dX6_fewestFor_132 : decode cX6_fewestFor 132 = .ok (.getfield 27, 3) := by decide +kernel
theorem dX6_fewestFor_135 : decode cX6_fewestFor 135 = .ok (.invokevirtual 88, 3) := by decide +kernel
theorem dX6_fewestFor_138 : decode cX6_fewestFor 138 = .ok (.istore 5, 2) := by decide +kernel
theorem dX6_fewestFor_140 : decode cX6_fewestFor 140 = .ok (.iinc 6 1, 3) := by decide +kernel
theorem dX6_fewestFor_143 : decode cX6_fewestFor 143 = .ok (.goto (-37), 3) := by decide +kernel
theorem dX6_fewestFor_146 : decode cX6_fewestFor 146 = .ok (.iinc 4 1, 3) := by decide +kernel
theorem dX6_fewestFor_149 : decode cX6_fewestFor 149 = .ok (.goto (-94), 3) := by decide +kernel
theorem dX6_fewestFor_152 : decode cX6_fewestFor 152 = .ok (.aload_n 0, 1) := by decide +kernel
theorem dX6_fewestFor_153 : decode cX6_fewestFor 153 = .ok (.getfield 11, 3) := by decide +kernel
theorem dX6_fewestFor_156 : decode cX6_fewestFor 156 = .ok (.iload_n 3, 1) := by decide +kernel
theorem dX6_fewestFor_157 : decode cX6_fewestFor 157 = .ok (.iaload, 1) := by decide +kernel
theorem dX6_fewestFor_158 : decode cX6_fewestFor 158 = .ok (.ireturn, 1) := by decide +kernel
