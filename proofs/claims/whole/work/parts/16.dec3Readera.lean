theorem dX7_init_0 : decode cX7_init 0 = .ok (.aload_n 0, 1) := by decide +kernel
theorem dX7_init_1 : decode cX7_init 1 = .ok (.invokespecial 3, 3) := by decide +kernel
theorem dX7_init_4 : decode cX7_init 4 = .ok (.aload_n 0, 1) := by decide +kernel
theorem dX7_init_5 : decode cX7_init 5 = .ok (.sipush 800, 3) := by decide +kernel
theorem dX7_init_8 : decode cX7_init 8 = .ok (.newarray .byte, 2) := by decide +kernel
theorem dX7_init_10 : decode cX7_init 10 = .ok (.putfield 9, 3) := by decide +kernel
theorem dX7_init_13 : decode cX7_init 13 = .ok (.aload_n 0, 1) := by decide +kernel
theorem dX7_init_14 : decode cX7_init 14 = .ok (.iconst 0, 1) := by decide +kernel
theorem dX7_init_15 : decode cX7_init 15 = .ok (.putfield 15, 3) := by decide +kernel
theorem dX7_init_18 : decode cX7_init 18 = .ok (.aload_n 0, 1) := by decide +kernel
theorem dX7_init_19 : decode cX7_init 19 = .ok (.sipush 800, 3) := by decide +kernel
theorem dX7_init_22 : decode cX7_init 22 = .ok (.newarray .byte, 2) := by decide +kernel
theorem dX7_init_24 : decode cX7_init 24 = .ok (.putfield 19, 3) := by decide +kernel
theorem dX7_init_27 : decode cX7_init 27 = .ok (.aload_n 0, 1) := by decide +kernel
theorem dX7_init_28 : decode cX7_init 28 = .ok (.new 22, 3) := by decide +kernel
theorem dX7_init_31 : decode cX7_init 31 = .ok (.dup, 1) := by decide +kernel
theorem dX7_init_32 : decode cX7_init 32 = .ok (.invokespecial 24, 3) := by decide +kernel
theorem dX7_init_35 : decode cX7_init 35 = .ok (.putfield 25, 3) := by decide +kernel
theorem dX7_init_38 : decode cX7_init 38 = .ok (.aload_n 0, 1) := by decide +kernel
theorem dX7_init_39 : decode cX7_init 39 = .ok (.iconst (-1), 1) := by decide +kernel
theorem dX7_init_40 : decode cX7_init 40 = .ok (.putfield 29, 3) := by decide +kernel
theorem dX7_init_43 : decode cX7_init 43 = .ok (.aload_n 0, 1) := by decide +kernel
theorem dX7_init_44 : decode cX7_init 44 = .ok (.iconst 0, 1) := by decide +kernel
theorem dX7_init_45 : decode cX7_init 45 = .ok (.putfield 32, 3) := by decide +kernel
theorem dX7_init_48 : decode cX7_init 48 = .ok (.aload_n 0, 1) := by decide +kernel
theorem dX7_init_49 : decode cX7_init 49 = .ok (.iconst 0, 1) := by decide +kernel
theorem dX7_init_50 : decode cX7_init 50 = .ok (.putfield 35, 3) := by decide +kernel
theorem dX7_init_53 : decode cX7_init 53 = .ok (.aload_n 0, 1) := by decide +kernel
theorem dX7_init_54 : decode cX7_init 54 = .ok (.iconst 0, 1) := by decide +kernel
theorem dX7_init_55 : decode cX7_init 55 = .ok (.putfield 38, 3) := by decide +kernel
theorem dX7_init_58 : decode cX7_init 58 = .ok (.aload_n 0, 1) := by decide +kernel
theorem dX7_init_59 : decode cX7_init 59 = .ok (.iconst 0, 1) := by decide +kernel
theorem dX7_init_60 : decode cX7_init 60 = .ok (.putfield 41, 3) := by decide +kernel
theorem dX7_init_63 : decode cX7_init 63 = .ok (.aload_n 0, 1) := by decide +kernel
theorem dX7_init_64 : decode cX7_init 64 = .ok (.iconst 0, 1) := by decide +kernel
theorem dX7_init_65 : decode cX7_init 65 = .ok (.putfield 44, 3) := by decide +kernel
theorem dX7_init_68 : decode cX7_init 68 = .ok (.aload_n 0, 1) := by decide +kernel
theorem dX7_init_69 : decode cX7_init 69 = .ok (.iconst 0, 1) := by decide +kernel
theorem dX7_init_70 : decode cX7_init 70 = .ok (.putfield 47, 3) := by decide +kernel
theorem dX7_init_73 : decode cX7_init 73 = .ok (.return_, 1) := by decide +kernel
theorem dX7_putWord_0 : decode cX7_putWord 0 = .ok (.bipush 24, 2) := by decide +kernel
theorem dX7_putWord_2 : decode cX7_putWord 2 = .ok (.istore_n 2, 1) := by decide +kernel
theorem dX7_putWord_3 : decode cX7_putWord 3 = .ok (.iload_n 2, 1) := by decide +kernel
theorem dX7_putWord_4 : decode cX7_putWord 4 = .ok (.ifCond .lt 51, 3) := by decide +kernel
theorem dX7_putWord_7 : decode cX7_putWord 7 = .ok (.aload_n 0, 1) := by decide +kernel
theorem dX7_putWord_8 : decode cX7_putWord 8 = .ok (.getfield 15, 3) := by decide +kernel
theorem dX7_putWord_11 : decode cX7_putWord 11 = .ok (.ifCond .lt 38, 3) := by decide +kernel
theorem dX7_putWord_14 : decode cX7_putWord 14 = .ok (.aload_n 0, 1) := by decide +kernel
theorem dX7_putWord_15 : decode cX7_putWord 15 = .ok (.getfield 15, 3) := by decide +kernel
theorem dX7_putWord_18 : decode cX7_putWord 18 = .ok (.aload_n 0, 1) := by decide +kernel
theorem dX7_putWord_19 : decode cX7_putWord 19 = .ok (.getfield 9, 3) := by decide +kernel
theorem dX7_putWord_22 : decode cX7_putWord 22 = .ok (.arraylength, 1) := by decide +kernel
theorem dX7_putWord_23 : decode cX7_putWord 23 = .ok (.if_icmp .ge 26, 3) := by decide +kernel
theorem dX7_putWord_26 : decode cX7_putWord 26 = .ok (.aload_n 0, 1) := by decide +kernel
theorem dX7_putWord_27 : decode cX7_putWord 27 = .ok (.getfield 9, 3) := by decide +kernel
theorem dX7_putWord_30 : decode cX7_putWord 30 = .ok (.aload_n 0, 1) := by decide +kernel
theorem dX7_putWord_31 : decode cX7_putWord 31 = .ok (.getfield 15, 3) := by decide +kernel
theorem dX7_putWord_34 : decode cX7_putWord 34 = .ok (.iload_n 1, 1) := by decide +kernel
theorem dX7_putWord_35 : decode cX7_putWord 35 = .ok (.iload_n 2, 1) := by decide +kernel
theorem dX7_putWord_36 : decode cX7_putWord 36 = .ok (.ishr, 1) := by decide +kernel
theorem dX7_putWord_37 : decode cX7_putWord 37 = .ok (.i2b, 1) := by decide +kernel
theorem dX7_putWord_38 : decode cX7_putWord 38 = .ok (.bastore, 1) := by decide +kernel
theorem dX7_putWord_39 : decode cX7_putWord 39 = .ok (.aload_n 0, 1) := by decide +kernel
theorem dX7_putWord_40 : decode cX7_putWord 40 = .ok (.dup, 1) := by decide +kernel
theorem dX7_putWord_41 : decode cX7_putWord 41 = .ok (.getfield 15, 3) := by decide +kernel
theorem dX7_putWord_44 : decode cX7_putWord 44 = .ok (.iconst 1, 1) := by decide +kernel
theorem dX7_putWord_45 : decode cX7_putWord 45 = .ok (.iadd, 1) := by decide +kernel
theorem dX7_putWord_46 : decode cX7_putWord 46 = .ok (.putfield 15, 3) := by decide +kernel
theorem dX7_putWord_49 : decode cX7_putWord 49 = .ok (.iinc 2 (-8), 3) := by decide +kernel
theorem dX7_putWord_52 : decode cX7_putWord 52 = .ok (.goto (-49), 3) := by decide +kernel
theorem dX7_putWord_55 : decode cX7_putWord 55 = .ok (.return_, 1) := by decide +kernel
theorem dX7_sortOf_0 : decode cX7_sortOf 0 = .ok (.iload_n 0, 1) := by decide +kernel
theorem dX7_sortOf_1 : decode cX7_sortOf 1 = .ok (.bipush 97, 2) := by decide +kernel
theorem dX7_sortOf_3 : decode cX7_sortOf 3 = .ok (.if_icmp .lt 11, 3) := by decide +kernel
theorem dX7_sortOf_6 : decode cX7_sortOf 6 = .ok (.iload_n 0, 1) := by decide +kernel
theorem dX7_sortOf_7 : decode cX7_sortOf 7 = .ok (.bipush 122, 2) := by decide +kernel
theorem dX7_sortOf_9 : decode cX7_sortOf 9 = .ok (.if_icmp .gt 5, 3) := by decide +kernel
theorem dX7_sortOf_12 : decode cX7_sortOf 12 = .ok (.iconst 1, 1) := by decide +kernel
theorem dX7_sortOf_13 : decode cX7_sortOf 13 = .ok (.ireturn, 1) := by decide +kernel
theorem dX7_sortOf_14 : decode cX7_sortOf 14 = .ok (.iload_n 0, 1) := by decide +kernel
theorem dX7_sortOf_15 : decode cX7_sortOf 15 = .ok (.bipush 48, 2) := by decide +kernel
theorem dX7_sortOf_17 : decode cX7_sortOf 17 = .ok (.if_icmp .lt 11, 3) := by decide +kernel
theorem dX7_sortOf_20 : decode cX7_sortOf 20 = .ok (.iload_n 0, 1) := by decide +kernel
theorem dX7_sortOf_21 : decode cX7_sortOf 21 = .ok (.bipush 57, 2) := by decide +kernel
theorem dX7_sortOf_23 : decode cX7_sortOf 23 = .ok (.if_icmp .gt 5, 3) := by decide +kernel
theorem dX7_sortOf_26 : decode cX7_sortOf 26 = .ok (.iconst 2, 1) := by decide +kernel
theorem dX7_sortOf_27 : decode cX7_sortOf 27 = .ok (.ireturn, 1) := by decide +kernel
theorem dX7_sortOf_28 : decode cX7_sortOf 28 = .ok (.iload_n 0, 1) := by decide +kernel
theorem dX7_sortOf_29 : decode cX7_sortOf 29 = .ok (.lookupswitch 87 #[(10, 83), (32, 83), (40, 85), (41, 85), (42, 85), (43, 85), (45, 85), (47, 85), (59, 85)], 83) := by decide +kernel
theorem dX7_sortOf_112 : decode cX7_sortOf 112 = .ok (.iconst 5, 1) := by decide +kernel
theorem dX7_sortOf_113 : decode cX7_sortOf 113 = .ok (.ireturn, 1) := by decide +kernel
theorem dX7_sortOf_114 : decode cX7_sortOf 114 = .ok (.iconst 4, 1) := by decide +kernel
theorem dX7_sortOf_115 : decode cX7_sortOf 115 = .ok (.ireturn, 1) := by decide +kernel
theorem dX7_sortOf_116 : decode cX7_sortOf 116 = .ok (.iconst 3, 1) := by decide +kernel
theorem dX7_sortOf_117 : decode cX7_sortOf 117 = .ok (.ireturn, 1) := by decide +kernel
theorem dX7_runEnd_0 : decode cX7_runEnd 0 = .ok (.iload_n 1, 1) := by decide +kernel
theorem dX7_runEnd_1 : decode cX7_runEnd 1 = .ok (.ifCond .ge 7, 3) := by decide +kernel
theorem dX7_runEnd_4 : decode cX7_runEnd 4 = .ok (.iconst 0, 1) := by decide +kernel
theorem dX7_runEnd_5 : decode cX7_runEnd 5 = .ok (.goto 4, 3) := by decide +kernel
theorem dX7_runEnd_8 : decode cX7_runEnd 8 = .ok (.iload_n 1, 1) := by decide +kernel
theorem dX7_runEnd_9 : decode cX7_runEnd 9 = .ok (.istore_n 3, 1) := by decide +kernel
theorem dX7_runEnd_10 : decode cX7_runEnd 10 = .ok (.iload_n 3, 1) := by decide +kernel
theorem dX7_runEnd_11 : decode cX7_runEnd 11 = .ok (.aload_n 0, 1) := by decide +kernel
theorem dX7_runEnd_12 : decode cX7_runEnd 12 = .ok (.getfield 35, 3) := by decide +kernel
theorem dX7_runEnd_15 : decode cX7_runEnd 15 = .ok (.if_icmp .ge 28, 3) := by decide +kernel
theorem dX7_runEnd_18 : decode cX7_runEnd 18 = .ok (.iload_n 3, 1) := by decide +kernel
theorem dX7_runEnd_19 : decode cX7_runEnd 19 = .ok (.aload_n 0, 1) := by decide +kernel
theorem dX7_runEnd_20 : decode cX7_runEnd 20 = .ok (.getfield 19, 3) := by decide +kernel
theorem dX7_runEnd_23 : decode cX7_runEnd 23 = .ok (.arraylength, 1) := by decide +kernel
theorem dX7_runEnd_24 : decode cX7_runEnd 24 = .ok (.if_icmp .ge 19, 3) := by decide +kernel
theorem dX7_runEnd_27 : decode cX7_runEnd 27 = .ok (.aload_n 0, 1) := by decide +kernel
theorem dX7_runEnd_28 : decode cX7_runEnd 28 = .ok (.getfield 19, 3) := by decide +kernel
theorem dX7_runEnd_31 : decode cX7_runEnd 31 = .ok (.iload_n 3, 1) := by decide +kernel
theorem dX7_runEnd_32 : decode cX7_runEnd 32 = .ok (.baload, 1) := by decide +kernel
theorem dX7_runEnd_33 : decode cX7_runEnd 33 = .ok (.iload_n 2, 1) := by decide +kernel
theorem dX7_runEnd_34 : decode cX7_runEnd 34 = .ok (.if_icmp .ne 9, 3) := by decide +kernel
theorem dX7_runEnd_37 : decode cX7_runEnd 37 = .ok (.iinc 3 1, 3) := by decide +kernel
theorem dX7_runEnd_40 : decode cX7_runEnd 40 = .ok (.goto (-30), 3) := by decide +kernel
theorem dX7_runEnd_43 : decode cX7_runEnd 43 = .ok (.iload_n 3, 1) := by decide +kernel
theorem dX7_runEnd_44 : decode cX7_runEnd 44 = .ok (.ireturn, 1) := by decide +kernel
theorem dX7_advance_0 : decode cX7_advance 0 = .ok (.aload_n 0, 1) := by decide +kernel
theorem dX7_advance_1 : decode cX7_advance 1 = .ok (.aload_n 0, 1) := by decide +kernel
theorem dX7_advance_2 : decode cX7_advance 2 = .ok (.aload_n 0, 1) := by decide +kernel
theorem dX7_advance_3 : decode cX7_advance 3 = .ok (.getfield 38, 3) := by decide +kernel
theorem dX7_advance_6 : decode cX7_advance 6 = .ok (.iconst 5, 1) := by decide +kernel
theorem dX7_advance_7 : decode cX7_advance 7 = .ok (.invokevirtual 184, 3) := by decide +kernel
theorem dX7_advance_10 : decode cX7_advance 10 = .ok (.putfield 41, 3) := by decide +kernel
theorem dX7_advance_13 : decode cX7_advance 13 = .ok (.aload_n 0, 1) := by decide +kernel
theorem dX7_advance_14 : decode cX7_advance 14 = .ok (.getfield 41, 3) := by decide +kernel
theorem dX7_advance_17 : decode cX7_advance 17 = .ok (.aload_n 0, 1) := by decide +kernel
theorem dX7_advance_18 : decode cX7_advance 18 = .ok (.getfield 35, 3) := by decide +kernel
theorem dX7_advance_21 : decode cX7_advance 21 = .ok (.if_icmp .ge 27, 3) := by decide +kernel
theorem dX7_advance_24 : decode cX7_advance 24 = .ok (.aload_n 0, 1) := by decide +kernel
theorem dX7_advance_25 : decode cX7_advance 25 = .ok (.getfield 41, 3) := by decide +kernel
theorem dX7_advance_28 : decode cX7_advance 28 = .ok (.aload_n 0, 1) := by decide +kernel
theorem dX7_advance_29 : decode cX7_advance 29 = .ok (.getfield 9, 3) := by decide +kernel
theorem dX7_advance_32 : decode cX7_advance 32 = .ok (.arraylength, 1) := by decide +kernel
theorem dX7_advance_33 : decode cX7_advance 33 = .ok (.if_icmp .ge 15, 3) := by decide +kernel
theorem dX7_advance_36 : decode cX7_advance 36 = .ok (.aload_n 0, 1) := by decide +kernel
theorem dX7_advance_37 : decode cX7_advance 37 = .ok (.getfield 41, 3) := by decide +kernel
theorem dX7_advance_40 : decode cX7_advance 40 = .ok (.aload_n 0, 1) := by decide +kernel
theorem dX7_advance_41 : decode cX7_advance 41 = .ok (.getfield 19, 3) := by decide +kernel
theorem dX7_advance_44 : decode cX7_advance 44 = .ok (.arraylength, 1) := by decide +kernel
theorem dX7_advance_45 : decode cX7_advance 45 = .ok (.if_icmp .lt 25, 3) := by decide +kernel
theorem dX7_advance_48 : decode cX7_advance 48 = .ok (.aload_n 0, 1) := by decide +kernel
theorem dX7_advance_49 : decode cX7_advance 49 = .ok (.iconst 0, 1) := by decide +kernel
theorem dX7_advance_50 : decode cX7_advance 50 = .ok (.putfield 44, 3) := by decide +kernel
theorem dX7_advance_53 : decode cX7_advance 53 = .ok (.aload_n 0, 1) := by decide +kernel
theorem dX7_advance_54 : decode cX7_advance 54 = .ok (.aload_n 0, 1) := by decide +kernel
theorem dX7_advance_55 : decode cX7_advance 55 = .ok (.getfield 35, 3) := by decide +kernel
theorem dX7_advance_58 : decode cX7_advance 58 = .ok (.putfield 41, 3) := by decide +kernel
theorem dX7_advance_61 : decode cX7_advance 61 = .ok (.aload_n 0, 1) := by decide +kernel
theorem dX7_advance_62 : decode cX7_advance 62 = .ok (.aload_n 0, 1) := by decide +kernel
theorem dX7_advance_63 : decode cX7_advance 63 = .ok (.getfield 35, 3) := by decide +kernel
theorem dX7_advance_66 : decode cX7_advance 66 = .ok (.putfield 38, 3) := by decide +kernel
theorem dX7_advance_69 : decode cX7_advance 69 = .ok (.return_, 1) := by decide +kernel
theorem dX7_advance_70 : decode cX7_advance 70 = .ok (.aload_n 0, 1) := by decide +kernel
theorem dX7_advance_71 : decode cX7_advance 71 = .ok (.getfield 19, 3) := by decide +kernel
theorem dX7_advance_74 : decode cX7_advance 74 = .ok (.aload_n 0, 1) := by decide +kernel
theorem dX7_advance_75 : decode cX7_advance 75 = .ok (.getfield 41, 3) := by decide +kernel
theorem dX7_advance_78 : decode cX7_advance 78 = .ok (.baload, 1) := by decide +kernel
theorem dX7_advance_79 : decode cX7_advance 79 = .ok (.istore_n 1, 1) := by decide +kernel
theorem dX7_advance_80 : decode cX7_advance 80 = .ok (.aload_n 0, 1) := by decide +kernel
theorem dX7_advance_81 : decode cX7_advance 81 = .ok (.iload_n 1, 1) := by decide +kernel
theorem dX7_advance_82 : decode cX7_advance 82 = .ok (.iconst 1, 1) := by decide +kernel
theorem dX7_advance_83 : decode cX7_advance 83 = .ok (.if_icmp .eq 8, 3) := by decide +kernel
theorem dX7_advance_86 : decode cX7_advance 86 = .ok (.iload_n 1, 1) := by decide +kernel
theorem dX7_advance_87 : decode cX7_advance 87 = .ok (.iconst 2, 1) := by decide +kernel
theorem dX7_advance_88 : decode cX7_advance 88 = .ok (.if_icmp .ne 15, 3) := by decide +kernel
theorem dX7_advance_91 : decode cX7_advance 91 = .ok (.aload_n 0, 1) := by decide +kernel
theorem dX7_advance_92 : decode cX7_advance 92 = .ok (.aload_n 0, 1) := by decide +kernel
theorem dX7_advance_93 : decode cX7_advance 93 = .ok (.getfield 41, 3) := by decide +kernel
theorem dX7_advance_96 : decode cX7_advance 96 = .ok (.iload_n 1, 1) := by decide +kernel
theorem dX7_advance_97 : decode cX7_advance 97 = .ok (.invokevirtual 184, 3) := by decide +kernel
theorem dX7_advance_100 : decode cX7_advance 100 = .ok (.goto 9, 3) := by decide +kernel
theorem dX7_advance_103 : decode cX7_advance 103 = .ok (.aload_n 0, 1) := by decide +kernel
theorem dX7_advance_104 : decode cX7_advance 104 = .ok (.getfield 41, 3) := by decide +kernel
theorem dX7_advance_107 : decode cX7_advance 107 = .ok (.iconst 1, 1) := by decide +kernel
theorem dX7_advance_108 : decode cX7_advance 108 = .ok (.iadd, 1) := by decide +kernel
theorem dX7_advance_109 : decode cX7_advance 109 = .ok (.putfield 38, 3) := by decide +kernel
theorem dX7_advance_112 : decode cX7_advance 112 = .ok (.iload_n 1, 1) := by decide +kernel
theorem dX7_advance_113 : decode cX7_advance 113 = .ok (.iconst 1, 1) := by decide +kernel
theorem dX7_advance_114 : decode cX7_advance 114 = .ok (.if_icmp .ne 8, 3) := by decide +kernel
theorem dX7_advance_117 : decode cX7_advance 117 = .ok (.bipush 8, 2) := by decide +kernel
theorem dX7_advance_119 : decode cX7_advance 119 = .ok (.goto 4, 3) := by decide +kernel
theorem dX7_advance_122 : decode cX7_advance 122 = .ok (.iconst 4, 1) := by decide +kernel
theorem dX7_advance_123 : decode cX7_advance 123 = .ok (.istore_n 2, 1) := by decide +kernel
theorem dX7_advance_124 : decode cX7_advance 124 = .ok (.iload_n 1, 1) := by decide +kernel
theorem dX7_advance_125 : decode cX7_advance 125 = .ok (.iconst 4, 1) := by decide +kernel
theorem dX7_advance_126 : decode cX7_advance 126 = .ok (.if_icmp .ne 19, 3) := by decide +kernel
theorem dX7_advance_129 : decode cX7_advance 129 = .ok (.aload_n 0, 1) := by decide +kernel
theorem dX7_advance_130 : decode cX7_advance 130 = .ok (.aload_n 0, 1) := by decide +kernel
theorem dX7_advance_131 : decode cX7_advance 131 = .ok (.getfield 9, 3) := by decide +kernel
theorem dX7_advance_134 : decode cX7_advance 134 = .ok (.aload_n 0, 1) := by decide +kernel
theorem dX7_advance_135 : decode cX7_advance 135 = .ok (.getfield 41, 3) := by decide +kernel
theorem dX7_advance_138 : decode cX7_advance 138 = .ok (.baload, 1) := by decide +kernel
theorem dX7_advance_139 : decode cX7_advance 139 = .ok (.putfield 44, 3) := by decide +kernel
theorem dX7_advance_142 : decode cX7_advance 142 = .ok (.goto 35, 3) := by decide +kernel
theorem dX7_advance_145 : decode cX7_advance 145 = .ok (.aload_n 0, 1) := by decide +kernel
theorem dX7_advance_146 : decode cX7_advance 146 = .ok (.aload_n 0, 1) := by decide +kernel
theorem dX7_advance_147 : decode cX7_advance 147 = .ok (.getfield 38, 3) := by decide +kernel
theorem dX7_advance_150 : decode cX7_advance 150 = .ok (.aload_n 0, 1) := by decide +kernel
theorem dX7_advance_151 : decode cX7_advance 151 = .ok (.getfield 41, 3) := by decide +kernel
theorem dX7_advance_154 : decode cX7_advance 154 = .ok (.isub, 1) := by decide +kernel
theorem dX7_advance_155 : decode cX7_advance 155 = .ok (.iload_n 2, 1) := by decide +kernel
theorem dX7_advance_156 : decode cX7_advance 156 = .ok (.if_icmp .gt 17, 3) := by decide +kernel
theorem dX7_advance_159 : decode cX7_advance 159 = .ok (.iload_n 1, 1) := by decide +kernel
theorem dX7_advance_160 : decode cX7_advance 160 = .ok (.iconst 1, 1) := by decide +kernel
theorem dX7_advance_161 : decode cX7_advance 161 = .ok (.if_icmp .eq 8, 3) := by decide +kernel
theorem dX7_advance_164 : decode cX7_advance 164 = .ok (.iload_n 1, 1) := by decide +kernel
theorem dX7_advance_165 : decode cX7_advance 165 = .ok (.iconst 2, 1) := by decide +kernel
theorem dX7_advance_166 : decode cX7_advance 166 = .ok (.if_icmp .ne 7, 3) := by decide +kernel
theorem dX7_advance_169 : decode cX7_advance 169 = .ok (.iload_n 1, 1) := by decide +kernel
theorem dX7_advance_170 : decode cX7_advance 170 = .ok (.goto 4, 3) := by decide +kernel
theorem dX7_advance_173 : decode cX7_advance 173 = .ok (.iconst 3, 1) := by decide +kernel
theorem dX7_advance_174 : decode cX7_advance 174 = .ok (.putfield 44, 3) := by decide +kernel
theorem dX7_advance_177 : decode cX7_advance 177 = .ok (.return_, 1) := by decide +kernel
theorem dX7_isWord_0 : decode cX7_isWord 0 = .ok (.aload_n 0, 1) := by decide +kernel
theorem dX7_isWord_1 : decode cX7_isWord 1 = .ok (.getfield 44, 3) := by decide +kernel
theorem dX7_isWord_4 : decode cX7_isWord 4 = .ok (.iconst 1, 1) := by decide +kernel
theorem dX7_isWord_5 : decode cX7_isWord 5 = .ok (.if_icmp .ne 19, 3) := by decide +kernel
theorem dX7_isWord_8 : decode cX7_isWord 8 = .ok (.aload_n 0, 1) := by decide +kernel
theorem dX7_isWord_9 : decode cX7_isWord 9 = .ok (.getfield 38, 3) := by decide +kernel
theorem dX7_isWord_12 : decode cX7_isWord 12 = .ok (.aload_n 0, 1) := by decide +kernel
theorem dX7_isWord_13 : decode cX7_isWord 13 = .ok (.getfield 41, 3) := by decide +kernel
theorem dX7_isWord_16 : decode cX7_isWord 16 = .ok (.isub, 1) := by decide +kernel
theorem dX7_isWord_17 : decode cX7_isWord 17 = .ok (.aload_n 1, 1) := by decide +kernel
theorem dX7_isWord_18 : decode cX7_isWord 18 = .ok (.invokevirtual 187, 3) := by decide +kernel
theorem dX7_isWord_21 : decode cX7_isWord 21 = .ok (.if_icmp .eq 5, 3) := by decide +kernel
theorem dX7_isWord_24 : decode cX7_isWord 24 = .ok (.iconst 0, 1) := by decide +kernel
theorem dX7_isWord_25 : decode cX7_isWord 25 = .ok (.ireturn, 1) := by decide +kernel
theorem dX7_isWord_26 : decode cX7_isWord 26 = .ok (.iconst 0, 1) := by decide +kernel
theorem dX7_isWord_27 : decode cX7_isWord 27 = .ok (.istore_n 2, 1) := by decide +kernel
theorem dX7_isWord_28 : decode cX7_isWord 28 = .ok (.iload_n 2, 1) := by decide +kernel
theorem dX7_isWord_29 : decode cX7_isWord 29 = .ok (.aload_n 1, 1) := by decide +kernel
theorem dX7_isWord_30 : decode cX7_isWord 30 = .ok (.invokevirtual 187, 3) := by decide +kernel
theorem dX7_isWord_33 : decode cX7_isWord 33 = .ok (.if_icmp .ge 45, 3) := by decide +kernel
theorem dX7_isWord_36 : decode cX7_isWord 36 = .ok (.aload_n 0, 1) := by decide +kernel
theorem dX7_isWord_37 : decode cX7_isWord 37 = .ok (.getfield 41, 3) := by decide +kernel
theorem dX7_isWord_40 : decode cX7_isWord 40 = .ok (.iload_n 2, 1) := by decide +kernel
theorem dX7_isWord_41 : decode cX7_isWord 41 = .ok (.iadd, 1) := by decide +kernel
theorem dX7_isWord_42 : decode cX7_isWord 42 = .ok (.istore_n 3, 1) := by decide +kernel
theorem dX7_isWord_43 : decode cX7_isWord 43 = .ok (.iload_n 3, 1) := by decide +kernel
theorem dX7_isWord_44 : decode cX7_isWord 44 = .ok (.ifCond .lt 26, 3) := by decide +kernel
theorem dX7_isWord_47 : decode cX7_isWord 47 = .ok (.iload_n 3, 1) := by decide +kernel
theorem dX7_isWord_48 : decode cX7_isWord 48 = .ok (.aload_n 0, 1) := by decide +kernel
theorem dX7_isWord_49 : decode cX7_isWord 49 = .ok (.getfield 9, 3) := by decide +kernel
theorem dX7_isWord_52 : decode cX7_isWord 52 = .ok (.arraylength, 1) := by decide +kernel
theorem dX7_isWord_53 : decode cX7_isWord 53 = .ok (.if_icmp .ge 17, 3) := by decide +kernel
theorem dX7_isWord_56 : decode cX7_isWord 56 = .ok (.aload_n 0, 1) := by decide +kernel
theorem dX7_isWord_57 : decode cX7_isWord 57 = .ok (.getfield 9, 3) := by decide +kernel
theorem dX7_isWord_60 : decode cX7_isWord 60 = .ok (.iload_n 3, 1) := by decide +kernel
theorem dX7_isWord_61 : decode cX7_isWord 61 = .ok (.baload, 1) := by decide +kernel
theorem dX7_isWord_62 : decode cX7_isWord 62 = .ok (.aload_n 1, 1) := by decide +kernel
theorem dX7_isWord_63 : decode cX7_isWord 63 = .ok (.iload_n 2, 1) := by decide +kernel
theorem dX7_isWord_64 : decode cX7_isWord 64 = .ok (.invokevirtual 191, 3) := by decide +kernel
theorem dX7_isWord_67 : decode cX7_isWord 67 = .ok (.if_icmp .eq 5, 3) := by decide +kernel
theorem dX7_isWord_70 : decode cX7_isWord 70 = .ok (.iconst 0, 1) := by decide +kernel
theorem dX7_isWord_71 : decode cX7_isWord 71 = .ok (.ireturn, 1) := by decide +kernel
theorem dX7_isWord_72 : decode cX7_isWord 72 = .ok (.iinc 2 1, 3) := by decide +kernel
theorem dX7_isWord_75 : decode cX7_isWord 75 = .ok (.goto (-47), 3) := by decide +kernel
theorem dX7_isWord_78 : decode cX7_isWord 78 = .ok (.iconst 1, 1) := by decide +kernel
theorem dX7_isWord_79 : decode cX7_isWord 79 = .ok (.ireturn, 1) := by decide +kernel
theorem dX7_fail_0 : decode cX7_fail 0 = .ok (.aload_n 0, 1) := by decide +kernel
theorem dX7_fail_1 : decode cX7_fail 1 = .ok (.iload_n 1, 1) := by decide +kernel
theorem dX7_fail_2 : decode cX7_fail 2 = .ok (.putfield 32, 3) := by decide +kernel
theorem dX7_fail_5 : decode cX7_fail 5 = .ok (.aload_n 0, 1) := by decide +kernel
theorem dX7_fail_6 : decode cX7_fail 6 = .ok (.aload_n 0, 1) := by decide +kernel
theorem dX7_fail_7 : decode cX7_fail 7 = .ok (.getfield 41, 3) := by decide +kernel
theorem dX7_fail_10 : decode cX7_fail 10 = .ok (.putfield 29, 3) := by decide +kernel
theorem dX7_fail_13 : decode cX7_fail 13 = .ok (.iconst 0, 1) := by decide +kernel
theorem dX7_fail_14 : decode cX7_fail 14 = .ok (.ireturn, 1) := by decide +kernel
theorem dX7_opens_0 : decode cX7_opens 0 = .ok (.aload_n 1, 1) := by decide +kernel
theorem dX7_opens_1 : decode cX7_opens 1 = .ok (.invokevirtual 152, 3) := by decide +kernel
theorem dX7_opens_4 : decode cX7_opens 4 = .ok (.ifCond .eq 9, 3) := by decide +kernel
theorem dX7_opens_7 : decode cX7_opens 7 = .ok (.aload_n 0, 1) := by decide +kernel
theorem dX7_opens_8 : decode cX7_opens 8 = .ok (.iconst 4, 1) := by decide +kernel
theorem dX7_opens_9 : decode cX7_opens 9 = .ok (.invokevirtual 141, 3) := by decide +kernel
theorem dX7_opens_12 : decode cX7_opens 12 = .ok (.ireturn, 1) := by decide +kernel
theorem dX7_opens_13 : decode cX7_opens 13 = .ok (.aload_n 0, 1) := by decide +kernel
theorem dX7_opens_14 : decode cX7_opens 14 = .ok (.invokevirtual 66, 3) := by decide +kernel
theorem dX7_opens_17 : decode cX7_opens 17 = .ok (.iconst 1, 1) := by decide +kernel
theorem dX7_opens_18 : decode cX7_opens 18 = .ok (.ireturn, 1) := by decide +kernel
theorem dX7_number_0 : decode cX7_number 0 = .ok (.iconst 0, 1) := by decide +kernel
theorem dX7_number_1 : decode cX7_number 1 = .ok (.istore_n 1, 1) := by decide +kernel
theorem dX7_number_2 : decode cX7_number 2 = .ok (.iconst 0, 1) := by decide +kernel
theorem dX7_number_3 : decode cX7_number 3 = .ok (.aload_n 0, 1) := by decide +kernel
theorem dX7_number_4 : decode cX7_number 4 = .ok (.getfield 41, 3) := by decide +kernel
theorem dX7_number_7 : decode cX7_number 7 = .ok (.invokestatic 59, 3) := by decide +kernel
theorem dX7_number_10 : decode cX7_number 10 = .ok (.istore_n 2, 1) := by decide +kernel
theorem dX7_number_11 : decode cX7_number 11 = .ok (.iload_n 2, 1) := by decide +kernel
theorem dX7_number_12 : decode cX7_number 12 = .ok (.aload_n 0, 1) := by decide +kernel
theorem dX7_number_13 : decode cX7_number 13 = .ok (.getfield 38, 3) := by decide +kernel
theorem dX7_number_16 : decode cX7_number 16 = .ok (.if_icmp .ge 33, 3) := by decide +kernel
theorem dX7_number_19 : decode cX7_number 19 = .ok (.iload_n 2, 1) := by decide +kernel
theorem dX7_number_20 : decode cX7_number 20 = .ok (.aload_n 0, 1) := by decide +kernel
theorem dX7_number_21 : decode cX7_number 21 = .ok (.getfield 9, 3) := by decide +kernel
theorem dX7_number_24 : decode cX7_number 24 = .ok (.arraylength, 1) := by decide +kernel
theorem dX7_number_25 : decode cX7_number 25 = .ok (.if_icmp .ge 24, 3) := by decide +kernel
theorem dX7_number_28 : decode cX7_number 28 = .ok (.iload_n 1, 1) := by decide +kernel
theorem dX7_number_29 : decode cX7_number 29 = .ok (.bipush 10, 2) := by decide +kernel
theorem dX7_number_31 : decode cX7_number 31 = .ok (.imul, 1) := by decide +kernel
theorem dX7_number_32 : decode cX7_number 32 = .ok (.aload_n 0, 1) := by decide +kernel
theorem dX7_number_33 : decode cX7_number 33 = .ok (.getfield 9, 3) := by decide +kernel
theorem dX7_number_36 : decode cX7_number 36 = .ok (.iload_n 2, 1) := by decide +kernel
theorem dX7_number_37 : decode cX7_number 37 = .ok (.baload, 1) := by decide +kernel
theorem dX7_number_38 : decode cX7_number 38 = .ok (.iadd, 1) := by decide +kernel
theorem dX7_number_39 : decode cX7_number 39 = .ok (.bipush 48, 2) := by decide +kernel
theorem dX7_number_41 : decode cX7_number 41 = .ok (.isub, 1) := by decide +kernel
theorem dX7_number_42 : decode cX7_number 42 = .ok (.istore_n 1, 1) := by decide +kernel
theorem dX7_number_43 : decode cX7_number 43 = .ok (.iinc 2 1, 3) := by decide +kernel
theorem dX7_number_46 : decode cX7_number 46 = .ok (.goto (-35), 3) := by decide +kernel
theorem dX7_number_49 : decode cX7_number 49 = .ok (.iload_n 1, 1) := by decide +kernel
theorem dX7_number_50 : decode cX7_number 50 = .ok (.ireturn, 1) := by decide +kernel
theorem dX7_puts_0 : decode cX7_puts 0 = .ok (.aload_n 0, 1) := by decide +kernel
theorem dX7_puts_1 : decode cX7_puts 1 = .ok (.getfield 44, 3) := by decide +kernel
theorem dX7_puts_4 : decode cX7_puts 4 = .ok (.iconst 2, 1) := by decide +kernel
theorem dX7_puts_5 : decode cX7_puts 5 = .ok (.if_icmp .eq 9, 3) := by decide +kernel
theorem dX7_puts_8 : decode cX7_puts 8 = .ok (.aload_n 0, 1) := by decide +kernel
theorem dX7_puts_9 : decode cX7_puts 9 = .ok (.iconst 1, 1) := by decide +kernel
theorem dX7_puts_10 : decode cX7_puts 10 = .ok (.invokevirtual 141, 3) := by decide +kernel
theorem dX7_puts_13 : decode cX7_puts 13 = .ok (.ireturn, 1) := by decide +kernel
theorem dX7_puts_14 : decode cX7_puts 14 = .ok (.aload_n 0, 1) := by decide +kernel
theorem dX7_puts_15 : decode cX7_puts 15 = .ok (.invokevirtual 155, 3) := by decide +kernel
theorem dX7_puts_18 : decode cX7_puts 18 = .ok (.istore 5, 2) := by decide +kernel
theorem dX7_puts_20 : decode cX7_puts 20 = .ok (.iload 5, 2) := by decide +kernel
theorem dX7_puts_22 : decode cX7_puts 22 = .ok (.iload_n 3, 1) := by decide +kernel
theorem dX7_puts_23 : decode cX7_puts 23 = .ok (.if_icmp .lt 10, 3) := by decide +kernel
theorem dX7_puts_26 : decode cX7_puts 26 = .ok (.iload 5, 2) := by decide +kernel
theorem dX7_puts_28 : decode cX7_puts 28 = .ok (.iload 4, 2) := by decide +kernel
theorem dX7_puts_30 : decode cX7_puts 30 = .ok (.if_icmp .le 9, 3) := by decide +kernel
theorem dX7_puts_33 : decode cX7_puts 33 = .ok (.aload_n 0, 1) := by decide +kernel
theorem dX7_puts_34 : decode cX7_puts 34 = .ok (.iconst 3, 1) := by decide +kernel
theorem dX7_puts_35 : decode cX7_puts 35 = .ok (.invokevirtual 141, 3) := by decide +kernel
theorem dX7_puts_38 : decode cX7_puts 38 = .ok (.ireturn, 1) := by decide +kernel
theorem dX7_puts_39 : decode cX7_puts 39 = .ok (.aload_n 1, 1) := by decide +kernel
theorem dX7_puts_40 : decode cX7_puts 40 = .ok (.aload_n 1, 1) := by decide +kernel
theorem dX7_puts_41 : decode cX7_puts 41 = .ok (.getfield 144, 3) := by decide +kernel
theorem dX7_puts_44 : decode cX7_puts 44 = .ok (.iload_n 2, 1) := by decide +kernel
theorem dX7_puts_45 : decode cX7_puts 45 = .ok (.iload 5, 2) := by decide +kernel
theorem dX7_puts_47 : decode cX7_puts 47 = .ok (.invokevirtual 159, 3) := by decide +kernel
theorem dX7_puts_50 : decode cX7_puts 50 = .ok (.aload_n 0, 1) := by decide +kernel
theorem dX7_puts_51 : decode cX7_puts 51 = .ok (.invokevirtual 66, 3) := by decide +kernel
theorem dX7_puts_54 : decode cX7_puts 54 = .ok (.iconst 1, 1) := by decide +kernel
theorem dX7_puts_55 : decode cX7_puts 55 = .ok (.ireturn, 1) := by decide +kernel
theorem dX7_keeps_0 : decode cX7_keeps 0 = .ok (.aload_n 1, 1) := by decide +kernel
theorem dX7_keeps_1 : decode cX7_keeps 1 = .ok (.aload_n 1, 1) := by decide +kernel
theorem dX7_keeps_2 : decode cX7_keeps 2 = .ok (.getfield 144, 3) := by decide +kernel
theorem dX7_keeps_5 : decode cX7_keeps 5 = .ok (.invokevirtual 163, 3) := by decide +kernel
theorem dX7_keeps_8 : decode cX7_keeps 8 = .ok (.iconst 1, 1) := by decide +kernel
theorem dX7_keeps_9 : decode cX7_keeps 9 = .ok (.ireturn, 1) := by decide +kernel
theorem dX7_reservation_0 : decode cX7_reservation 0 = .ok (.aload_n 0, 1) := by decide +kernel
theorem dX7_reservation_1 : decode cX7_reservation 1 = .ok (.aload_n 1, 1) := by decide +kernel
theorem dX7_reservation_2 : decode cX7_reservation 2 = .ok (.invokevirtual 87, 3) := by decide +kernel
theorem dX7_reservation_5 : decode cX7_reservation 5 = .ok (.ifCond .eq 119, 3) := by decide +kernel
theorem dX7_reservation_8 : decode cX7_reservation 8 = .ok (.aload_n 0, 1) := by decide +kernel
theorem dX7_reservation_9 : decode cX7_reservation 9 = .ok (.aload_n 1, 1) := by decide +kernel
theorem dX7_reservation_10 : decode cX7_reservation 10 = .ok (.iconst 0, 1) := by decide +kernel
theorem dX7_reservation_11 : decode cX7_reservation 11 = .ok (.iconst 0, 1) := by decide +kernel
theorem dX7_reservation_12 : decode cX7_reservation 12 = .ok (.aload_n 0, 1) := by decide +kernel
theorem dX7_reservation_13 : decode cX7_reservation 13 = .ok (.getfield 25, 3) := by decide +kernel
theorem dX7_reservation_16 : decode cX7_reservation 16 = .ok (.getfield 105, 3) := by decide +kernel
theorem dX7_reservation_19 : decode cX7_reservation 19 = .ok (.getfield 144, 3) := by decide +kernel
theorem dX7_reservation_22 : decode cX7_reservation 22 = .ok (.iconst 1, 1) := by decide +kernel
theorem dX7_reservation_23 : decode cX7_reservation 23 = .ok (.isub, 1) := by decide +kernel
theorem dX7_reservation_24 : decode cX7_reservation 24 = .ok (.invokevirtual 91, 3) := by decide +kernel
theorem dX7_reservation_27 : decode cX7_reservation 27 = .ok (.ifCond .eq 97, 3) := by decide +kernel
theorem dX7_reservation_30 : decode cX7_reservation 30 = .ok (.aload_n 0, 1) := by decide +kernel
theorem dX7_reservation_31 : decode cX7_reservation 31 = .ok (.aload_n 1, 1) := by decide +kernel
theorem dX7_reservation_32 : decode cX7_reservation 32 = .ok (.iconst 1, 1) := by decide +kernel
theorem dX7_reservation_33 : decode cX7_reservation 33 = .ok (.iconst 0, 1) := by decide +kernel
theorem dX7_reservation_34 : decode cX7_reservation 34 = .ok (.aload_n 0, 1) := by decide +kernel
theorem dX7_reservation_35 : decode cX7_reservation 35 = .ok (.getfield 25, 3) := by decide +kernel
theorem dX7_reservation_38 : decode cX7_reservation 38 = .ok (.getfield 100, 3) := by decide +kernel
theorem dX7_reservation_41 : decode cX7_reservation 41 = .ok (.getfield 144, 3) := by decide +kernel
theorem dX7_reservation_44 : decode cX7_reservation 44 = .ok (.iconst 1, 1) := by decide +kernel
theorem dX7_reservation_45 : decode cX7_reservation 45 = .ok (.isub, 1) := by decide +kernel
theorem dX7_reservation_46 : decode cX7_reservation 46 = .ok (.invokevirtual 91, 3) := by decide +kernel
theorem dX7_reservation_49 : decode cX7_reservation 49 = .ok (.ifCond .eq 75, 3) := by decide +kernel
theorem dX7_reservation_52 : decode cX7_reservation 52 = .ok (.aload_n 0, 1) := by decide +kernel
theorem dX7_reservation_53 : decode cX7_reservation 53 = .ok (.aload_n 1, 1) := by decide +kernel
theorem dX7_reservation_54 : decode cX7_reservation 54 = .ok (.iconst 2, 1) := by decide +kernel
theorem dX7_reservation_55 : decode cX7_reservation 55 = .ok (.iconst 1, 1) := by decide +kernel
theorem dX7_reservation_56 : decode cX7_reservation 56 = .ok (.bipush 9, 2) := by decide +kernel
theorem dX7_reservation_58 : decode cX7_reservation 58 = .ok (.invokevirtual 91, 3) := by decide +kernel
theorem dX7_reservation_61 : decode cX7_reservation 61 = .ok (.ifCond .eq 63, 3) := by decide +kernel
theorem dX7_reservation_64 : decode cX7_reservation 64 = .ok (.aload_n 0, 1) := by decide +kernel
theorem dX7_reservation_65 : decode cX7_reservation 65 = .ok (.aload_n 1, 1) := by decide +kernel
theorem dX7_reservation_66 : decode cX7_reservation 66 = .ok (.iconst 3, 1) := by decide +kernel
theorem dX7_reservation_67 : decode cX7_reservation 67 = .ok (.iconst 0, 1) := by decide +kernel
theorem dX7_reservation_68 : decode cX7_reservation 68 = .ok (.sipush 9998, 3) := by decide +kernel
theorem dX7_reservation_71 : decode cX7_reservation 71 = .ok (.invokevirtual 91, 3) := by decide +kernel
theorem dX7_reservation_74 : decode cX7_reservation 74 = .ok (.ifCond .eq 50, 3) := by decide +kernel
theorem dX7_reservation_77 : decode cX7_reservation 77 = .ok (.aload_n 0, 1) := by decide +kernel
theorem dX7_reservation_78 : decode cX7_reservation 78 = .ok (.aload_n 1, 1) := by decide +kernel
theorem dX7_reservation_79 : decode cX7_reservation 79 = .ok (.iconst 4, 1) := by decide +kernel
theorem dX7_reservation_80 : decode cX7_reservation 80 = .ok (.aload_n 1, 1) := by decide +kernel
theorem dX7_reservation_81 : decode cX7_reservation 81 = .ok (.aload_n 1, 1) := by decide +kernel
theorem dX7_reservation_82 : decode cX7_reservation 82 = .ok (.getfield 144, 3) := by decide +kernel
theorem dX7_reservation_85 : decode cX7_reservation 85 = .ok (.iconst 3, 1) := by decide +kernel
theorem dX7_reservation_86 : decode cX7_reservation 86 = .ok (.invokevirtual 149, 3) := by decide +kernel
theorem dX7_reservation_89 : decode cX7_reservation 89 = .ok (.iconst 1, 1) := by decide +kernel
theorem dX7_reservation_90 : decode cX7_reservation 90 = .ok (.iadd, 1) := by decide +kernel
theorem dX7_reservation_91 : decode cX7_reservation 91 = .ok (.sipush 9999, 3) := by decide +kernel
theorem dX7_reservation_94 : decode cX7_reservation 94 = .ok (.invokevirtual 91, 3) := by decide +kernel
theorem dX7_reservation_97 : decode cX7_reservation 97 = .ok (.ifCond .eq 27, 3) := by decide +kernel
theorem dX7_reservation_100 : decode cX7_reservation 100 = .ok (.aload_n 0, 1) := by decide +kernel
theorem dX7_reservation_101 : decode cX7_reservation 101 = .ok (.aload_n 1, 1) := by decide +kernel
theorem dX7_reservation_102 : decode cX7_reservation 102 = .ok (.iconst 5, 1) := by decide +kernel
theorem dX7_reservation_103 : decode cX7_reservation 103 = .ok (.iconst 0, 1) := by decide +kernel
theorem dX7_reservation_104 : decode cX7_reservation 104 = .ok (.bipush 100, 2) := by decide +kernel
theorem dX7_reservation_106 : decode cX7_reservation 106 = .ok (.invokevirtual 91, 3) := by decide +kernel
theorem dX7_reservation_109 : decode cX7_reservation 109 = .ok (.ifCond .eq 15, 3) := by decide +kernel
theorem dX7_reservation_112 : decode cX7_reservation 112 = .ok (.aload_n 0, 1) := by decide +kernel
theorem dX7_reservation_113 : decode cX7_reservation 113 = .ok (.aload_n 1, 1) := by decide +kernel
theorem dX7_reservation_114 : decode cX7_reservation 114 = .ok (.invokevirtual 95, 3) := by decide +kernel
theorem dX7_reservation_117 : decode cX7_reservation 117 = .ok (.ifCond .eq 7, 3) := by decide +kernel
theorem dX7_reservation_120 : decode cX7_reservation 120 = .ok (.iconst 1, 1) := by decide +kernel
theorem dX7_reservation_121 : decode cX7_reservation 121 = .ok (.goto 4, 3) := by decide +kernel
theorem dX7_reservation_124 : decode cX7_reservation 124 = .ok (.iconst 0, 1) := by decide +kernel
theorem dX7_reservation_125 : decode cX7_reservation 125 = .ok (.ireturn, 1) := by decide +kernel
theorem dX7_isFirst_0 : decode cX7_isFirst 0 = .ok (.aload_n 0, 1) := by decide +kernel
theorem dX7_isFirst_1 : decode cX7_isFirst 1 = .ok (.getfield 47, 3) := by decide +kernel
theorem dX7_isFirst_4 : decode cX7_isFirst 4 = .ok (.iload_n 1, 1) := by decide +kernel
theorem dX7_isFirst_5 : decode cX7_isFirst 5 = .ok (.iand, 1) := by decide +kernel
theorem dX7_isFirst_6 : decode cX7_isFirst 6 = .ok (.ifCond .eq 9, 3) := by decide +kernel
theorem dX7_isFirst_9 : decode cX7_isFirst 9 = .ok (.aload_n 0, 1) := by decide +kernel
theorem dX7_isFirst_10 : decode cX7_isFirst 10 = .ok (.iconst 2, 1) := by decide +kernel
theorem dX7_isFirst_11 : decode cX7_isFirst 11 = .ok (.invokevirtual 141, 3) := by decide +kernel
theorem dX7_isFirst_14 : decode cX7_isFirst 14 = .ok (.ireturn, 1) := by decide +kernel
theorem dX7_isFirst_15 : decode cX7_isFirst 15 = .ok (.aload_n 0, 1) := by decide +kernel
theorem dX7_isFirst_16 : decode cX7_isFirst 16 = .ok (.dup, 1) := by decide +kernel
theorem dX7_isFirst_17 : decode cX7_isFirst 17 = .ok (.getfield 47, 3) := by decide +kernel
theorem dX7_isFirst_20 : decode cX7_isFirst 20 = .ok (.iload_n 1, 1) := by decide +kernel
theorem dX7_isFirst_21 : decode cX7_isFirst 21 = .ok (.ior, 1) := by decide +kernel
theorem dX7_isFirst_22 : decode cX7_isFirst 22 = .ok (.putfield 47, 3) := by decide +kernel
theorem dX7_isFirst_25 : decode cX7_isFirst 25 = .ok (.aload_n 0, 1) := by decide +kernel
theorem dX7_isFirst_26 : decode cX7_isFirst 26 = .ok (.invokevirtual 66, 3) := by decide +kernel
theorem dX7_isFirst_29 : decode cX7_isFirst 29 = .ok (.iconst 1, 1) := by decide +kernel
theorem dX7_isFirst_30 : decode cX7_isFirst 30 = .ok (.ireturn, 1) := by decide +kernel
theorem dX7_takes_0 : decode cX7_takes 0 = .ok (.aload_n 0, 1) := by decide +kernel
theorem dX7_takes_1 : decode cX7_takes 1 = .ok (.getfield 44, 3) := by decide +kernel
theorem dX7_takes_4 : decode cX7_takes 4 = .ok (.iload_n 1, 1) := by decide +kernel
theorem dX7_takes_5 : decode cX7_takes 5 = .ok (.if_icmp .eq 9, 3) := by decide +kernel
theorem dX7_takes_8 : decode cX7_takes 8 = .ok (.aload_n 0, 1) := by decide +kernel
theorem dX7_takes_9 : decode cX7_takes 9 = .ok (.iconst 1, 1) := by decide +kernel
theorem dX7_takes_10 : decode cX7_takes 10 = .ok (.invokevirtual 141, 3) := by decide +kernel
theorem dX7_takes_13 : decode cX7_takes 13 = .ok (.ireturn, 1) := by decide +kernel
theorem dX7_takes_14 : decode cX7_takes 14 = .ok (.aload_n 0, 1) := by decide +kernel
theorem dX7_takes_15 : decode cX7_takes 15 = .ok (.invokevirtual 66, 3) := by decide +kernel
theorem dX7_takes_18 : decode cX7_takes 18 = .ok (.iconst 1, 1) := by decide +kernel
theorem dX7_takes_19 : decode cX7_takes 19 = .ok (.ireturn, 1) := by decide +kernel
theorem dX7_name_0 : decode cX7_name 0 = .ok (.aload_n 0, 1) := by decide +kernel
theorem dX7_name_1 : decode cX7_name 1 = .ok (.ldc 176, 2) := by decide +kernel
theorem dX7_name_3 : decode cX7_name 3 = .ok (.invokevirtual 79, 3) := by decide +kernel
theorem dX7_name_6 : decode cX7_name 6 = .ok (.ifCond .eq 5, 3) := by decide +kernel
theorem dX7_name_9 : decode cX7_name 9 = .ok (.iconst (-1), 1) := by decide +kernel
theorem dX7_name_10 : decode cX7_name 10 = .ok (.ireturn, 1) := by decide +kernel
theorem dX7_name_11 : decode cX7_name 11 = .ok (.aload_n 0, 1) := by decide +kernel
theorem dX7_name_12 : decode cX7_name 12 = .ok (.ldc 178, 2) := by decide +kernel
theorem dX7_name_14 : decode cX7_name 14 = .ok (.invokevirtual 79, 3) := by decide +kernel
theorem dX7_name_17 : decode cX7_name 17 = .ok (.ifCond .eq 6, 3) := by decide +kernel
theorem dX7_name_20 : decode cX7_name 20 = .ok (.bipush (-2), 2) := by decide +kernel
theorem dX7_name_22 : decode cX7_name 22 = .ok (.ireturn, 1) := by decide +kernel
theorem dX7_name_23 : decode cX7_name 23 = .ok (.aload_n 0, 1) := by decide +kernel
theorem dX7_name_24 : decode cX7_name 24 = .ok (.ldc 180, 2) := by decide +kernel
theorem dX7_name_26 : decode cX7_name 26 = .ok (.invokevirtual 79, 3) := by decide +kernel
theorem dX7_name_29 : decode cX7_name 29 = .ok (.ifCond .eq 6, 3) := by decide +kernel
theorem dX7_name_32 : decode cX7_name 32 = .ok (.bipush (-3), 2) := by decide +kernel
theorem dX7_name_34 : decode cX7_name 34 = .ok (.ireturn, 1) := by decide +kernel
theorem dX7_name_35 : decode cX7_name 35 = .ok (.aload_n 0, 1) := by decide +kernel
theorem dX7_name_36 : decode cX7_name 36 = .ok (.ldc 182, 2) := by decide +kernel
theorem dX7_name_38 : decode cX7_name 38 = .ok (.invokevirtual 79, 3) := by decide +kernel
theorem dX7_name_41 : decode cX7_name 41 = .ok (.ifCond .eq 8, 3) := by decide +kernel
theorem dX7_name_44 : decode cX7_name 44 = .ok (.bipush (-4), 2) := by decide +kernel
theorem dX7_name_46 : decode cX7_name 46 = .ok (.goto 4, 3) := by decide +kernel
theorem dX7_name_49 : decode cX7_name 49 = .ok (.iconst 0, 1) := by decide +kernel
theorem dX7_name_50 : decode cX7_name 50 = .ok (.ireturn, 1) := by decide +kernel
theorem dX7_factor_0 : decode cX7_factor 0 = .ok (.aload_n 0, 1) := by decide +kernel
theorem dX7_factor_1 : decode cX7_factor 1 = .ok (.getfield 44, 3) := by decide +kernel
theorem dX7_factor_4 : decode cX7_factor 4 = .ok (.bipush 40, 2) := by decide +kernel
theorem dX7_factor_6 : decode cX7_factor 6 = .ok (.if_icmp .ne 43, 3) := by decide +kernel
theorem dX7_factor_9 : decode cX7_factor 9 = .ok (.iload_n 1, 1) := by decide +kernel
theorem dX7_factor_10 : decode cX7_factor 10 = .ok (.iconst 5, 1) := by decide +kernel
theorem dX7_factor_11 : decode cX7_factor 11 = .ok (.if_icmp .lt 9, 3) := by decide +kernel
theorem dX7_factor_14 : decode cX7_factor 14 = .ok (.aload_n 0, 1) := by decide +kernel
theorem dX7_factor_15 : decode cX7_factor 15 = .ok (.iconst 4, 1) := by decide +kernel
theorem dX7_factor_16 : decode cX7_factor 16 = .ok (.invokevirtual 141, 3) := by decide +kernel
theorem dX7_factor_19 : decode cX7_factor 19 = .ok (.ireturn, 1) := by decide +kernel
theorem dX7_factor_20 : decode cX7_factor 20 = .ok (.aload_n 0, 1) := by decide +kernel
theorem dX7_factor_21 : decode cX7_factor 21 = .ok (.invokevirtual 66, 3) := by decide +kernel
theorem dX7_factor_24 : decode cX7_factor 24 = .ok (.aload_n 0, 1) := by decide +kernel
theorem dX7_factor_25 : decode cX7_factor 25 = .ok (.iload_n 1, 1) := by decide +kernel
theorem dX7_factor_26 : decode cX7_factor 26 = .ok (.iconst 1, 1) := by decide +kernel
theorem dX7_factor_27 : decode cX7_factor 27 = .ok (.iadd, 1) := by decide +kernel
theorem dX7_factor_28 : decode cX7_factor 28 = .ok (.invokevirtual 138, 3) := by decide +kernel
theorem dX7_factor_31 : decode cX7_factor 31 = .ok (.ifCond .eq 16, 3) := by decide +kernel
theorem dX7_factor_34 : decode cX7_factor 34 = .ok (.aload_n 0, 1) := by decide +kernel
theorem dX7_factor_35 : decode cX7_factor 35 = .ok (.bipush 41, 2) := by decide +kernel
theorem dX7_factor_37 : decode cX7_factor 37 = .ok (.invokevirtual 73, 3) := by decide +kernel
theorem dX7_factor_40 : decode cX7_factor 40 = .ok (.ifCond .eq 7, 3) := by decide +kernel
theorem dX7_factor_43 : decode cX7_factor 43 = .ok (.iconst 1, 1) := by decide +kernel
theorem dX7_factor_44 : decode cX7_factor 44 = .ok (.goto 4, 3) := by decide +kernel
theorem dX7_factor_47 : decode cX7_factor 47 = .ok (.iconst 0, 1) := by decide +kernel
theorem dX7_factor_48 : decode cX7_factor 48 = .ok (.ireturn, 1) := by decide +kernel
theorem dX7_factor_49 : decode cX7_factor 49 = .ok (.aload_n 0, 1) := by decide +kernel
theorem dX7_factor_50 : decode cX7_factor 50 = .ok (.getfield 44, 3) := by decide +kernel
theorem dX7_factor_53 : decode cX7_factor 53 = .ok (.iconst 2, 1) := by decide +kernel
theorem dX7_factor_54 : decode cX7_factor 54 = .ok (.if_icmp .ne 10, 3) := by decide +kernel
theorem dX7_factor_57 : decode cX7_factor 57 = .ok (.aload_n 0, 1) := by decide +kernel
theorem dX7_factor_58 : decode cX7_factor 58 = .ok (.invokevirtual 155, 3) := by decide +kernel
theorem dX7_factor_61 : decode cX7_factor 61 = .ok (.goto 7, 3) := by decide +kernel
theorem dX7_factor_64 : decode cX7_factor 64 = .ok (.aload_n 0, 1) := by decide +kernel
theorem dX7_factor_65 : decode cX7_factor 65 = .ok (.invokevirtual 173, 3) := by decide +kernel
theorem dX7_factor_68 : decode cX7_factor 68 = .ok (.istore_n 2, 1) := by decide +kernel
theorem dX7_factor_69 : decode cX7_factor 69 = .ok (.iload_n 2, 1) := by decide +kernel
theorem dX7_factor_70 : decode cX7_factor 70 = .ok (.ifCond .ne 17, 3) := by decide +kernel
theorem dX7_factor_73 : decode cX7_factor 73 = .ok (.aload_n 0, 1) := by decide +kernel
theorem dX7_factor_74 : decode cX7_factor 74 = .ok (.getfield 44, 3) := by decide +kernel
theorem dX7_factor_77 : decode cX7_factor 77 = .ok (.iconst 2, 1) := by decide +kernel
theorem dX7_factor_78 : decode cX7_factor 78 = .ok (.if_icmp .eq 9, 3) := by decide +kernel
theorem dX7_factor_81 : decode cX7_factor 81 = .ok (.aload_n 0, 1) := by decide +kernel
theorem dX7_factor_82 : decode cX7_factor 82 = .ok (.iconst 1, 1) := by decide +kernel
theorem dX7_factor_83 : decode cX7_factor 83 = .ok (.invokevirtual 141, 3) := by decide +kernel
theorem dX7_factor_86 : decode cX7_factor 86 = .ok (.ireturn, 1) := by decide +kernel
theorem dX7_factor_87 : decode cX7_factor 87 = .ok (.aload_n 0, 1) := by decide +kernel
theorem dX7_factor_88 : decode cX7_factor 88 = .ok (.getfield 25, 3) := by decide +kernel
theorem dX7_factor_91 : decode cX7_factor 91 = .ok (.getfield 130, 3) := by decide +kernel
theorem dX7_factor_94 : decode cX7_factor 94 = .ok (.iload_n 2, 1) := by decide +kernel
theorem dX7_factor_95 : decode cX7_factor 95 = .ok (.invokevirtual 170, 3) := by decide +kernel
theorem dX7_factor_98 : decode cX7_factor 98 = .ok (.aload_n 0, 1) := by decide +kernel
theorem dX7_factor_99 : decode cX7_factor 99 = .ok (.invokevirtual 66, 3) := by decide +kernel
theorem dX7_factor_102 : decode cX7_factor 102 = .ok (.iconst 1, 1) := by decide +kernel
theorem dX7_factor_103 : decode cX7_factor 103 = .ok (.ireturn, 1) := by decide +kernel
theorem dX7_sum_0 : decode cX7_sum 0 = .ok (.iconst 0, 1) := by decide +kernel
theorem dX7_sum_1 : decode cX7_sum 1 = .ok (.istore_n 2, 1) := by decide +kernel
theorem dX7_sum_2 : decode cX7_sum 2 = .ok (.aload_n 0, 1) := by decide +kernel
theorem dX7_sum_3 : decode cX7_sum 3 = .ok (.iload_n 1, 1) := by decide +kernel
theorem dX7_sum_4 : decode cX7_sum 4 = .ok (.invokevirtual 167, 3) := by decide +kernel
theorem dX7_sum_7 : decode cX7_sum 7 = .ok (.istore_n 3, 1) := by decide +kernel
theorem dX7_sum_8 : decode cX7_sum 8 = .ok (.iconst 0, 1) := by decide +kernel
theorem dX7_sum_9 : decode cX7_sum 9 = .ok (.istore 4, 2) := by decide +kernel
theorem dX7_sum_11 : decode cX7_sum 11 = .ok (.iload 4, 2) := by decide +kernel
theorem dX7_sum_13 : decode cX7_sum 13 = .ok (.sipush 800, 3) := by decide +kernel
theorem dX7_sum_16 : decode cX7_sum 16 = .ok (.if_icmp .gt 130, 3) := by decide +kernel
theorem dX7_sum_19 : decode cX7_sum 19 = .ok (.iload_n 3, 1) := by decide +kernel
theorem dX7_sum_20 : decode cX7_sum 20 = .ok (.ifCond .eq 126, 3) := by decide +kernel
theorem dX7_sum_23 : decode cX7_sum 23 = .ok (.aload_n 0, 1) := by decide +kernel
theorem dX7_sum_24 : decode cX7_sum 24 = .ok (.getfield 44, 3) := by decide +kernel
theorem dX7_sum_27 : decode cX7_sum 27 = .ok (.istore 5, 2) := by decide +kernel
theorem dX7_sum_29 : decode cX7_sum 29 = .ok (.iload 5, 2) := by decide +kernel
theorem dX7_sum_31 : decode cX7_sum 31 = .ok (.bipush 42, 2) := by decide +kernel
theorem dX7_sum_33 : decode cX7_sum 33 = .ok (.if_icmp .eq 10, 3) := by decide +kernel
theorem dX7_sum_36 : decode cX7_sum 36 = .ok (.iload 5, 2) := by decide +kernel
theorem dX7_sum_38 : decode cX7_sum 38 = .ok (.bipush 47, 2) := by decide +kernel
theorem dX7_sum_40 : decode cX7_sum 40 = .ok (.if_icmp .ne 7, 3) := by decide +kernel
theorem dX7_sum_43 : decode cX7_sum 43 = .ok (.iconst 1, 1) := by decide +kernel
theorem dX7_sum_44 : decode cX7_sum 44 = .ok (.goto 4, 3) := by decide +kernel
theorem dX7_sum_47 : decode cX7_sum 47 = .ok (.iconst 0, 1) := by decide +kernel
theorem dX7_sum_48 : decode cX7_sum 48 = .ok (.istore 6, 2) := by decide +kernel
theorem dX7_sum_50 : decode cX7_sum 50 = .ok (.iload 5, 2) := by decide +kernel
theorem dX7_sum_52 : decode cX7_sum 52 = .ok (.bipush 43, 2) := by decide +kernel
theorem dX7_sum_54 : decode cX7_sum 54 = .ok (.if_icmp .eq 10, 3) := by decide +kernel
theorem dX7_sum_57 : decode cX7_sum 57 = .ok (.iload 5, 2) := by decide +kernel
theorem dX7_sum_59 : decode cX7_sum 59 = .ok (.bipush 45, 2) := by decide +kernel
theorem dX7_sum_61 : decode cX7_sum 61 = .ok (.if_icmp .ne 7, 3) := by decide +kernel
theorem dX7_sum_64 : decode cX7_sum 64 = .ok (.iconst 1, 1) := by decide +kernel
theorem dX7_sum_65 : decode cX7_sum 65 = .ok (.goto 4, 3) := by decide +kernel
theorem dX7_sum_68 : decode cX7_sum 68 = .ok (.iconst 0, 1) := by decide +kernel
theorem dX7_sum_69 : decode cX7_sum 69 = .ok (.istore 7, 2) := by decide +kernel
theorem dX7_sum_71 : decode cX7_sum 71 = .ok (.iload 6, 2) := by decide +kernel
theorem dX7_sum_73 : decode cX7_sum 73 = .ok (.ifCond .ne 21, 3) := by decide +kernel
theorem dX7_sum_76 : decode cX7_sum 76 = .ok (.iload_n 2, 1) := by decide +kernel
theorem dX7_sum_77 : decode cX7_sum 77 = .ok (.ifCond .eq 17, 3) := by decide +kernel
theorem dX7_sum_80 : decode cX7_sum 80 = .ok (.aload_n 0, 1) := by decide +kernel
theorem dX7_sum_81 : decode cX7_sum 81 = .ok (.getfield 25, 3) := by decide +kernel
theorem dX7_sum_84 : decode cX7_sum 84 = .ok (.getfield 130, 3) := by decide +kernel
theorem dX7_sum_87 : decode cX7_sum 87 = .ok (.iload_n 2, 1) := by decide +kernel
theorem dX7_sum_88 : decode cX7_sum 88 = .ok (.ineg, 1) := by decide +kernel
theorem dX7_sum_89 : decode cX7_sum 89 = .ok (.invokevirtual 170, 3) := by decide +kernel
theorem dX7_sum_92 : decode cX7_sum 92 = .ok (.iconst 0, 1) := by decide +kernel
theorem dX7_sum_93 : decode cX7_sum 93 = .ok (.istore_n 2, 1) := by decide +kernel
theorem dX7_sum_94 : decode cX7_sum 94 = .ok (.iload 6, 2) := by decide +kernel
theorem dX7_sum_96 : decode cX7_sum 96 = .ok (.ifCond .ne 10, 3) := by decide +kernel
theorem dX7_sum_99 : decode cX7_sum 99 = .ok (.iload 7, 2) := by decide +kernel
theorem dX7_sum_101 : decode cX7_sum 101 = .ok (.ifCond .ne 5, 3) := by decide +kernel
theorem dX7_sum_104 : decode cX7_sum 104 = .ok (.iconst 1, 1) := by decide +kernel
theorem dX7_sum_105 : decode cX7_sum 105 = .ok (.ireturn, 1) := by decide +kernel
theorem dX7_sum_106 : decode cX7_sum 106 = .ok (.aload_n 0, 1) := by decide +kernel
theorem dX7_sum_107 : decode cX7_sum 107 = .ok (.invokevirtual 66, 3) := by decide +kernel
theorem dX7_sum_110 : decode cX7_sum 110 = .ok (.aload_n 0, 1) := by decide +kernel
theorem dX7_sum_111 : decode cX7_sum 111 = .ok (.iload_n 1, 1) := by decide +kernel
theorem dX7_sum_112 : decode cX7_sum 112 = .ok (.invokevirtual 167, 3) := by decide +kernel
theorem dX7_sum_115 : decode cX7_sum 115 = .ok (.istore_n 3, 1) := by decide +kernel
theorem dX7_sum_116 : decode cX7_sum 116 = .ok (.iload 6, 2) := by decide +kernel
theorem dX7_sum_118 : decode cX7_sum 118 = .ok (.ifCond .eq 19, 3) := by decide +kernel
theorem dX7_sum_121 : decode cX7_sum 121 = .ok (.aload_n 0, 1) := by decide +kernel
theorem dX7_sum_122 : decode cX7_sum 122 = .ok (.getfield 25, 3) := by decide +kernel
theorem dX7_sum_125 : decode cX7_sum 125 = .ok (.getfield 130, 3) := by decide +kernel
theorem dX7_sum_128 : decode cX7_sum 128 = .ok (.iload 5, 2) := by decide +kernel
theorem dX7_sum_130 : decode cX7_sum 130 = .ok (.ineg, 1) := by decide +kernel
theorem dX7_sum_131 : decode cX7_sum 131 = .ok (.invokevirtual 170, 3) := by decide +kernel
theorem dX7_sum_134 : decode cX7_sum 134 = .ok (.goto 6, 3) := by decide +kernel
theorem dX7_sum_137 : decode cX7_sum 137 = .ok (.iload 5, 2) := by decide +kernel
theorem dX7_sum_139 : decode cX7_sum 139 = .ok (.istore_n 2, 1) := by decide +kernel
theorem dX7_sum_140 : decode cX7_sum 140 = .ok (.iinc 4 1, 3) := by decide +kernel
theorem dX7_sum_143 : decode cX7_sum 143 = .ok (.goto (-132), 3) := by decide +kernel
theorem dX7_sum_146 : decode cX7_sum 146 = .ok (.iload_n 3, 1) := by decide +kernel
theorem dX7_sum_147 : decode cX7_sum 147 = .ok (.ireturn, 1) := by decide +kernel
theorem dX7_statement_0 : decode cX7_statement 0 = .ok (.aload_n 0, 1) := by decide +kernel
theorem dX7_statement_1 : decode cX7_statement 1 = .ok (.ldc 77, 2) := by decide +kernel
theorem dX7_statement_3 : decode cX7_statement 3 = .ok (.invokevirtual 79, 3) := by decide +kernel
theorem dX7_statement_6 : decode cX7_statement 6 = .ok (.ifCond .eq 74, 3) := by decide +kernel
theorem dX7_statement_9 : decode cX7_statement 9 = .ok (.aload_n 0, 1) := by decide +kernel
theorem dX7_statement_10 : decode cX7_statement 10 = .ok (.aload_n 0, 1) := by decide +kernel
theorem dX7_statement_11 : decode cX7_statement 11 = .ok (.getfield 25, 3) := by decide +kernel
theorem dX7_statement_14 : decode cX7_statement 14 = .ok (.getfield 83, 3) := by decide +kernel
theorem dX7_statement_17 : decode cX7_statement 17 = .ok (.invokevirtual 87, 3) := by decide +kernel
theorem dX7_statement_20 : decode cX7_statement 20 = .ok (.ifCond .eq 58, 3) := by decide +kernel
theorem dX7_statement_23 : decode cX7_statement 23 = .ok (.aload_n 0, 1) := by decide +kernel
theorem dX7_statement_24 : decode cX7_statement 24 = .ok (.aload_n 0, 1) := by decide +kernel
theorem dX7_statement_25 : decode cX7_statement 25 = .ok (.getfield 25, 3) := by decide +kernel
theorem dX7_statement_28 : decode cX7_statement 28 = .ok (.getfield 83, 3) := by decide +kernel
theorem dX7_statement_31 : decode cX7_statement 31 = .ok (.iconst 0, 1) := by decide +kernel
theorem dX7_statement_32 : decode cX7_statement 32 = .ok (.iconst 1, 1) := by decide +kernel
theorem dX7_statement_33 : decode cX7_statement 33 = .ok (.bipush 64, 2) := by decide +kernel
theorem dX7_statement_35 : decode cX7_statement 35 = .ok (.invokevirtual 91, 3) := by decide +kernel
theorem dX7_statement_38 : decode cX7_statement 38 = .ok (.ifCond .eq 40, 3) := by decide +kernel
theorem dX7_statement_41 : decode cX7_statement 41 = .ok (.aload_n 0, 1) := by decide +kernel
theorem dX7_statement_42 : decode cX7_statement 42 = .ok (.aload_n 0, 1) := by decide +kernel
theorem dX7_statement_43 : decode cX7_statement 43 = .ok (.getfield 25, 3) := by decide +kernel
theorem dX7_statement_46 : decode cX7_statement 46 = .ok (.getfield 83, 3) := by decide +kernel
theorem dX7_statement_49 : decode cX7_statement 49 = .ok (.iconst 1, 1) := by decide +kernel
theorem dX7_statement_50 : decode cX7_statement 50 = .ok (.iconst 1, 1) := by decide +kernel
theorem dX7_statement_51 : decode cX7_statement 51 = .ok (.sipush 256, 3) := by decide +kernel
theorem dX7_statement_54 : decode cX7_statement 54 = .ok (.invokevirtual 91, 3) := by decide +kernel
theorem dX7_statement_57 : decode cX7_statement 57 = .ok (.ifCond .eq 21, 3) := by decide +kernel
theorem dX7_statement_60 : decode cX7_statement 60 = .ok (.aload_n 0, 1) := by decide +kernel
theorem dX7_statement_61 : decode cX7_statement 61 = .ok (.aload_n 0, 1) := by decide +kernel
theorem dX7_statement_62 : decode cX7_statement 62 = .ok (.getfield 25, 3) := by decide +kernel
theorem dX7_statement_65 : decode cX7_statement 65 = .ok (.getfield 83, 3) := by decide +kernel
theorem dX7_statement_68 : decode cX7_statement 68 = .ok (.invokevirtual 95, 3) := by decide +kernel
theorem dX7_statement_71 : decode cX7_statement 71 = .ok (.ifCond .eq 7, 3) := by decide +kernel
theorem dX7_statement_74 : decode cX7_statement 74 = .ok (.iconst 1, 1) := by decide +kernel
theorem dX7_statement_75 : decode cX7_statement 75 = .ok (.goto 4, 3) := by decide +kernel
theorem dX7_statement_78 : decode cX7_statement 78 = .ok (.iconst 0, 1) := by decide +kernel
theorem dX7_statement_79 : decode cX7_statement 79 = .ok (.ireturn, 1) := by decide +kernel
theorem dX7_statement_80 : decode cX7_statement 80 = .ok (.aload_n 0, 1) := by decide +kernel
theorem dX7_statement_81 : decode cX7_statement 81 = .ok (.ldc 98, 2) := by decide +kernel
theorem dX7_statement_83 : decode cX7_statement 83 = .ok (.invokevirtual 79, 3) := by decide +kernel
theorem dX7_statement_86 : decode cX7_statement 86 = .ok (.ifCond .eq 93, 3) := by decide +kernel
theorem dX7_statement_89 : decode cX7_statement 89 = .ok (.aload_n 0, 1) := by decide +kernel
theorem dX7_statement_90 : decode cX7_statement 90 = .ok (.aload_n 0, 1) := by decide +kernel
theorem dX7_statement_91 : decode cX7_statement 91 = .ok (.getfield 25, 3) := by decide +kernel
theorem dX7_statement_94 : decode cX7_statement 94 = .ok (.getfield 100, 3) := by decide +kernel
theorem dX7_statement_97 : decode cX7_statement 97 = .ok (.invokevirtual 87, 3) := by decide +kernel
theorem dX7_statement_100 : decode cX7_statement 100 = .ok (.ifCond .eq 77, 3) := by decide +kernel
theorem dX7_statement_103 : decode cX7_statement 103 = .ok (.aload_n 0, 1) := by decide +kernel
theorem dX7_statement_104 : decode cX7_statement 104 = .ok (.aload_n 0, 1) := by decide +kernel
theorem dX7_statement_105 : decode cX7_statement 105 = .ok (.getfield 25, 3) := by decide +kernel
theorem dX7_statement_108 : decode cX7_statement 108 = .ok (.getfield 100, 3) := by decide +kernel
theorem dX7_statement_111 : decode cX7_statement 111 = .ok (.iconst 0, 1) := by decide +kernel
theorem dX7_statement_112 : decode cX7_statement 112 = .ok (.iconst 1, 1) := by decide +kernel
theorem dX7_statement_113 : decode cX7_statement 113 = .ok (.bipush 64, 2) := by decide +kernel
theorem dX7_statement_115 : decode cX7_statement 115 = .ok (.invokevirtual 91, 3) := by decide +kernel
theorem dX7_statement_118 : decode cX7_statement 118 = .ok (.ifCond .eq 59, 3) := by decide +kernel
theorem dX7_statement_121 : decode cX7_statement 121 = .ok (.aload_n 0, 1) := by decide +kernel
theorem dX7_statement_122 : decode cX7_statement 122 = .ok (.aload_n 0, 1) := by decide +kernel
theorem dX7_statement_123 : decode cX7_statement 123 = .ok (.getfield 25, 3) := by decide +kernel
theorem dX7_statement_126 : decode cX7_statement 126 = .ok (.getfield 100, 3) := by decide +kernel
theorem dX7_statement_129 : decode cX7_statement 129 = .ok (.iconst 1, 1) := by decide +kernel
theorem dX7_statement_130 : decode cX7_statement 130 = .ok (.iconst 1, 1) := by decide +kernel
theorem dX7_statement_131 : decode cX7_statement 131 = .ok (.sipush 256, 3) := by decide +kernel
theorem dX7_statement_134 : decode cX7_statement 134 = .ok (.invokevirtual 91, 3) := by decide +kernel
theorem dX7_statement_137 : decode cX7_statement 137 = .ok (.ifCond .eq 40, 3) := by decide +kernel
theorem dX7_statement_140 : decode cX7_statement 140 = .ok (.aload_n 0, 1) := by decide +kernel
theorem dX7_statement_141 : decode cX7_statement 141 = .ok (.aload_n 0, 1) := by decide +kernel
theorem dX7_statement_142 : decode cX7_statement 142 = .ok (.getfield 25, 3) := by decide +kernel
theorem dX7_statement_145 : decode cX7_statement 145 = .ok (.getfield 100, 3) := by decide +kernel
theorem dX7_statement_148 : decode cX7_statement 148 = .ok (.iconst 2, 1) := by decide +kernel
theorem dX7_statement_149 : decode cX7_statement 149 = .ok (.iconst 1, 1) := by decide +kernel
theorem dX7_statement_150 : decode cX7_statement 150 = .ok (.sipush 9999, 3) := by decide +kernel
theorem dX7_statement_153 : decode cX7_statement 153 = .ok (.invokevirtual 91, 3) := by decide +kernel
theorem dX7_statement_156 : decode cX7_statement 156 = .ok (.ifCond .eq 21, 3) := by decide +kernel
theorem dX7_statement_159 : decode cX7_statement 159 = .ok (.aload_n 0, 1) := by decide +kernel
theorem dX7_statement_160 : decode cX7_statement 160 = .ok (.aload_n 0, 1) := by decide +kernel
theorem dX7_statement_161 : decode cX7_statement 161 = .ok (.getfield 25, 3) := by decide +kernel
theorem dX7_statement_164 : decode cX7_statement 164 = .ok (.getfield 100, 3) := by decide +kernel
theorem dX7_statement_167 : decode cX7_statement 167 = .ok (.invokevirtual 95, 3) := by decide +kernel
theorem dX7_statement_170 : decode cX7_statement 170 = .ok (.ifCond .eq 7, 3) := by decide +kernel
theorem dX7_statement_173 : decode cX7_statement 173 = .ok (.iconst 1, 1) := by decide +kernel
theorem dX7_statement_174 : decode cX7_statement 174 = .ok (.goto 4, 3) := by decide +kernel
theorem dX7_statement_177 : decode cX7_statement 177 = .ok (.iconst 0, 1) := by decide +kernel
theorem dX7_statement_178 : decode cX7_statement 178 = .ok (.ireturn, 1) := by decide +kernel
theorem dX7_statement_179 : decode cX7_statement 179 = .ok (.aload_n 0, 1) := by decide +kernel
theorem dX7_statement_180 : decode cX7_statement 180 = .ok (.ldc 103, 2) := by decide +kernel
theorem dX7_statement_182 : decode cX7_statement 182 = .ok (.invokevirtual 79, 3) := by decide +kernel
theorem dX7_statement_185 : decode cX7_statement 185 = .ok (.ifCond .eq 56, 3) := by decide +kernel
theorem dX7_statement_188 : decode cX7_statement 188 = .ok (.aload_n 0, 1) := by decide +kernel
theorem dX7_statement_189 : decode cX7_statement 189 = .ok (.aload_n 0, 1) := by decide +kernel
theorem dX7_statement_190 : decode cX7_statement 190 = .ok (.getfield 25, 3) := by decide +kernel
theorem dX7_statement_193 : decode cX7_statement 193 = .ok (.getfield 105, 3) := by decide +kernel
theorem dX7_statement_196 : decode cX7_statement 196 = .ok (.invokevirtual 87, 3) := by decide +kernel
theorem dX7_statement_199 : decode cX7_statement 199 = .ok (.ifCond .eq 40, 3) := by decide +kernel
theorem dX7_statement_202 : decode cX7_statement 202 = .ok (.aload_n 0, 1) := by decide +kernel
theorem dX7_statement_203 : decode cX7_statement 203 = .ok (.aload_n 0, 1) := by decide +kernel
theorem dX7_statement_204 : decode cX7_statement 204 = .ok (.getfield 25, 3) := by decide +kernel
theorem dX7_statement_207 : decode cX7_statement 207 = .ok (.getfield 105, 3) := by decide +kernel
theorem dX7_statement_210 : decode cX7_statement 210 = .ok (.iconst 0, 1) := by decide +kernel
theorem dX7_statement_211 : decode cX7_statement 211 = .ok (.iconst 0, 1) := by decide +kernel
theorem dX7_statement_212 : decode cX7_statement 212 = .ok (.sipush 9999, 3) := by decide +kernel
theorem dX7_statement_215 : decode cX7_statement 215 = .ok (.invokevirtual 91, 3) := by decide +kernel
theorem dX7_statement_218 : decode cX7_statement 218 = .ok (.ifCond .eq 21, 3) := by decide +kernel
theorem dX7_statement_221 : decode cX7_statement 221 = .ok (.aload_n 0, 1) := by decide +kernel
theorem dX7_statement_222 : decode cX7_statement 222 = .ok (.aload_n 0, 1) := by decide +kernel
theorem dX7_statement_223 : decode cX7_statement 223 = .ok (.getfield 25, 3) := by decide +kernel
theorem dX7_statement_226 : decode cX7_statement 226 = .ok (.getfield 105, 3) := by decide +kernel
theorem dX7_statement_229 : decode cX7_statement 229 = .ok (.invokevirtual 95, 3) := by decide +kernel
theorem dX7_statement_232 : decode cX7_statement 232 = .ok (.ifCond .eq 7, 3) := by decide +kernel
theorem dX7_statement_235 : decode cX7_statement 235 = .ok (.iconst 1, 1) := by decide +kernel
theorem dX7_statement_236 : decode cX7_statement 236 = .ok (.goto 4, 3) := by decide +kernel
theorem dX7_statement_239 : decode cX7_statement 239 = .ok (.iconst 0, 1) := by decide +kernel
theorem dX7_statement_240 : decode cX7_statement 240 = .ok (.ireturn, 1) := by decide +kernel
theorem dX7_statement_241 : decode cX7_statement 241 = .ok (.aload_n 0, 1) := by decide +kernel
theorem dX7_statement_242 : decode cX7_statement 242 = .ok (.ldc 108, 2) := by decide +kernel
theorem dX7_statement_244 : decode cX7_statement 244 = .ok (.invokevirtual 79, 3) := by decide +kernel
theorem dX7_statement_247 : decode cX7_statement 247 = .ok (.ifCond .eq 15, 3) := by decide +kernel
theorem dX7_statement_250 : decode cX7_statement 250 = .ok (.aload_n 0, 1) := by decide +kernel
theorem dX7_statement_251 : decode cX7_statement 251 = .ok (.aload_n 0, 1) := by decide +kernel
theorem dX7_statement_252 : decode cX7_statement 252 = .ok (.getfield 25, 3) := by decide +kernel
theorem dX7_statement_255 : decode cX7_statement 255 = .ok (.getfield 110, 3) := by decide +kernel
theorem dX7_statement_258 : decode cX7_statement 258 = .ok (.invokevirtual 113, 3) := by decide +kernel
theorem dX7_statement_261 : decode cX7_statement 261 = .ok (.ireturn, 1) := by decide +kernel
theorem dX7_statement_262 : decode cX7_statement 262 = .ok (.aload_n 0, 1) := by decide +kernel
theorem dX7_statement_263 : decode cX7_statement 263 = .ok (.ldc 116, 2) := by decide +kernel
theorem dX7_statement_265 : decode cX7_statement 265 = .ok (.invokevirtual 79, 3) := by decide +kernel
theorem dX7_statement_268 : decode cX7_statement 268 = .ok (.ifCond .eq 35, 3) := by decide +kernel
theorem dX7_statement_271 : decode cX7_statement 271 = .ok (.aload_n 0, 1) := by decide +kernel
theorem dX7_statement_272 : decode cX7_statement 272 = .ok (.iconst 1, 1) := by decide +kernel
theorem dX7_statement_273 : decode cX7_statement 273 = .ok (.invokevirtual 118, 3) := by decide +kernel
theorem dX7_statement_276 : decode cX7_statement 276 = .ok (.ifCond .eq 25, 3) := by decide +kernel
theorem dX7_statement_279 : decode cX7_statement 279 = .ok (.aload_n 0, 1) := by decide +kernel
theorem dX7_statement_280 : decode cX7_statement 280 = .ok (.aload_n 0, 1) := by decide +kernel
theorem dX7_statement_281 : decode cX7_statement 281 = .ok (.getfield 25, 3) := by decide +kernel
theorem dX7_statement_284 : decode cX7_statement 284 = .ok (.getfield 121, 3) := by decide +kernel
theorem dX7_statement_287 : decode cX7_statement 287 = .ok (.iconst 0, 1) := by decide +kernel
theorem dX7_statement_288 : decode cX7_statement 288 = .ok (.iconst 1, 1) := by decide +kernel
theorem dX7_statement_289 : decode cX7_statement 289 = .ok (.bipush 100, 2) := by decide +kernel
theorem dX7_statement_291 : decode cX7_statement 291 = .ok (.invokevirtual 91, 3) := by decide +kernel
theorem dX7_statement_294 : decode cX7_statement 294 = .ok (.ifCond .eq 7, 3) := by decide +kernel
theorem dX7_statement_297 : decode cX7_statement 297 = .ok (.iconst 1, 1) := by decide +kernel
theorem dX7_statement_298 : decode cX7_statement 298 = .ok (.goto 4, 3) := by decide +kernel
theorem dX7_statement_301 : decode cX7_statement 301 = .ok (.iconst 0, 1) := by decide +kernel
theorem dX7_statement_302 : decode cX7_statement 302 = .ok (.ireturn, 1) := by decide +kernel
theorem dX7_statement_303 : decode cX7_statement 303 = .ok (.aload_n 0, 1) := by decide +kernel
theorem dX7_statement_304 : decode cX7_statement 304 = .ok (.ldc 124, 2) := by decide +kernel
theorem dX7_statement_306 : decode cX7_statement 306 = .ok (.invokevirtual 79, 3) := by decide +kernel
theorem dX7_statement_309 : decode cX7_statement 309 = .ok (.ifCond .eq 35, 3) := by decide +kernel
theorem dX7_statement_312 : decode cX7_statement 312 = .ok (.aload_n 0, 1) := by decide +kernel
theorem dX7_statement_313 : decode cX7_statement 313 = .ok (.iconst 2, 1) := by decide +kernel
theorem dX7_statement_314 : decode cX7_statement 314 = .ok (.invokevirtual 118, 3) := by decide +kernel
theorem dX7_statement_317 : decode cX7_statement 317 = .ok (.ifCond .eq 25, 3) := by decide +kernel
theorem dX7_statement_320 : decode cX7_statement 320 = .ok (.aload_n 0, 1) := by decide +kernel
theorem dX7_statement_321 : decode cX7_statement 321 = .ok (.aload_n 0, 1) := by decide +kernel
theorem dX7_statement_322 : decode cX7_statement 322 = .ok (.getfield 25, 3) := by decide +kernel
theorem dX7_statement_325 : decode cX7_statement 325 = .ok (.getfield 121, 3) := by decide +kernel
theorem dX7_statement_328 : decode cX7_statement 328 = .ok (.iconst 1, 1) := by decide +kernel
theorem dX7_statement_329 : decode cX7_statement 329 = .ok (.iconst 0, 1) := by decide +kernel
theorem dX7_statement_330 : decode cX7_statement 330 = .ok (.bipush 48, 2) := by decide +kernel
theorem dX7_statement_332 : decode cX7_statement 332 = .ok (.invokevirtual 91, 3) := by decide +kernel
theorem dX7_statement_335 : decode cX7_statement 335 = .ok (.ifCond .eq 7, 3) := by decide +kernel
theorem dX7_statement_338 : decode cX7_statement 338 = .ok (.iconst 1, 1) := by decide +kernel
theorem dX7_statement_339 : decode cX7_statement 339 = .ok (.goto 4, 3) := by decide +kernel
theorem dX7_statement_342 : decode cX7_statement 342 = .ok (.iconst 0, 1) := by decide +kernel
theorem dX7_statement_343 : decode cX7_statement 343 = .ok (.ireturn, 1) := by decide +kernel
theorem dX7_statement_344 : decode cX7_statement 344 = .ok (.aload_n 0, 1) := by decide +kernel
theorem dX7_statement_345 : decode cX7_statement 345 = .ok (.ldc 126, 2) := by decide +kernel
theorem dX7_statement_347 : decode cX7_statement 347 = .ok (.invokevirtual 79, 3) := by decide +kernel
theorem dX7_statement_350 : decode cX7_statement 350 = .ok (.ifCond .eq 36, 3) := by decide +kernel
theorem dX7_statement_353 : decode cX7_statement 353 = .ok (.aload_n 0, 1) := by decide +kernel
theorem dX7_statement_354 : decode cX7_statement 354 = .ok (.iconst 4, 1) := by decide +kernel
theorem dX7_statement_355 : decode cX7_statement 355 = .ok (.invokevirtual 118, 3) := by decide +kernel
theorem dX7_statement_358 : decode cX7_statement 358 = .ok (.ifCond .eq 26, 3) := by decide +kernel
theorem dX7_statement_361 : decode cX7_statement 361 = .ok (.aload_n 0, 1) := by decide +kernel
theorem dX7_statement_362 : decode cX7_statement 362 = .ok (.aload_n 0, 1) := by decide +kernel
theorem dX7_statement_363 : decode cX7_statement 363 = .ok (.getfield 25, 3) := by decide +kernel
theorem dX7_statement_366 : decode cX7_statement 366 = .ok (.getfield 121, 3) := by decide +kernel
theorem dX7_statement_369 : decode cX7_statement 369 = .ok (.iconst 2, 1) := by decide +kernel
theorem dX7_statement_370 : decode cX7_statement 370 = .ok (.iconst 0, 1) := by decide +kernel
theorem dX7_statement_371 : decode cX7_statement 371 = .ok (.sipush 400, 3) := by decide +kernel
theorem dX7_statement_374 : decode cX7_statement 374 = .ok (.invokevirtual 91, 3) := by decide +kernel
theorem dX7_statement_377 : decode cX7_statement 377 = .ok (.ifCond .eq 7, 3) := by decide +kernel
theorem dX7_statement_380 : decode cX7_statement 380 = .ok (.iconst 1, 1) := by decide +kernel
theorem dX7_statement_381 : decode cX7_statement 381 = .ok (.goto 4, 3) := by decide +kernel
theorem dX7_statement_384 : decode cX7_statement 384 = .ok (.iconst 0, 1) := by decide +kernel
theorem dX7_statement_385 : decode cX7_statement 385 = .ok (.ireturn, 1) := by decide +kernel
theorem dX7_statement_386 : decode cX7_statement 386 = .ok (.aload_n 0, 1) := by decide +kernel
theorem dX7_statement_387 : decode cX7_statement 387 = .ok (.ldc 128, 2) := by decide +kernel
theorem dX7_statement_389 : decode cX7_statement 389 = .ok (.invokevirtual 79, 3) := by decide +kernel
theorem dX7_statement_392 : decode cX7_statement 392 = .ok (.ifCond .eq 36, 3) := by decide +kernel
theorem dX7_statement_395 : decode cX7_statement 395 = .ok (.aload_n 0, 1) := by decide +kernel
theorem dX7_statement_396 : decode cX7_statement 396 = .ok (.getfield 25, 3) := by decide +kernel
theorem dX7_statement_399 : decode cX7_statement 399 = .ok (.getfield 130, 3) := by decide +kernel
theorem dX7_statement_402 : decode cX7_statement 402 = .ok (.invokevirtual 133, 3) := by decide +kernel
theorem dX7_statement_405 : decode cX7_statement 405 = .ok (.aload_n 0, 1) := by decide +kernel
theorem dX7_statement_406 : decode cX7_statement 406 = .ok (.bipush 8, 2) := by decide +kernel
theorem dX7_statement_408 : decode cX7_statement 408 = .ok (.invokevirtual 118, 3) := by decide +kernel
theorem dX7_statement_411 : decode cX7_statement 411 = .ok (.ifCond .eq 15, 3) := by decide +kernel
theorem dX7_statement_414 : decode cX7_statement 414 = .ok (.aload_n 0, 1) := by decide +kernel
theorem dX7_statement_415 : decode cX7_statement 415 = .ok (.iconst 0, 1) := by decide +kernel
theorem dX7_statement_416 : decode cX7_statement 416 = .ok (.invokevirtual 138, 3) := by decide +kernel
theorem dX7_statement_419 : decode cX7_statement 419 = .ok (.ifCond .eq 7, 3) := by decide +kernel
theorem dX7_statement_422 : decode cX7_statement 422 = .ok (.iconst 1, 1) := by decide +kernel
theorem dX7_statement_423 : decode cX7_statement 423 = .ok (.goto 4, 3) := by decide +kernel
theorem dX7_statement_426 : decode cX7_statement 426 = .ok (.iconst 0, 1) := by decide +kernel
theorem dX7_statement_427 : decode cX7_statement 427 = .ok (.ireturn, 1) := by decide +kernel
theorem dX7_statement_428 : decode cX7_statement 428 = .ok (.aload_n 0, 1) := by decide +kernel
theorem dX7_statement_429 : decode cX7_statement 429 = .ok (.iconst 1, 1) := by decide +kernel
theorem dX7_statement_430 : decode cX7_statement 430 = .ok (.invokevirtual 141, 3) := by decide +kernel
theorem dX7_statement_433 : decode cX7_statement 433 = .ok (.ireturn, 1) := by decide +kernel
theorem dX7_read_0 : decode cX7_read 0 = .ok (.aload_n 0, 1) := by decide +kernel
theorem dX7_read_1 : decode cX7_read 1 = .ok (.getfield 25, 3) := by decide +kernel
theorem dX7_read_4 : decode cX7_read 4 = .ok (.invokevirtual 50, 3) := by decide +kernel
theorem dX7_read_7 : decode cX7_read 7 = .ok (.aload_n 0, 1) := by decide +kernel
theorem dX7_read_8 : decode cX7_read 8 = .ok (.iconst (-1), 1) := by decide +kernel
theorem dX7_read_9 : decode cX7_read 9 = .ok (.putfield 29, 3) := by decide +kernel
theorem dX7_read_12 : decode cX7_read 12 = .ok (.aload_n 0, 1) := by decide +kernel
theorem dX7_read_13 : decode cX7_read 13 = .ok (.iconst 0, 1) := by decide +kernel
theorem dX7_read_14 : decode cX7_read 14 = .ok (.putfield 32, 3) := by decide +kernel
theorem dX7_read_17 : decode cX7_read 17 = .ok (.aload_n 0, 1) := by decide +kernel
theorem dX7_read_18 : decode cX7_read 18 = .ok (.iconst 0, 1) := by decide +kernel
theorem dX7_read_19 : decode cX7_read 19 = .ok (.iload_n 1, 1) := by decide +kernel
theorem dX7_read_20 : decode cX7_read 20 = .ok (.aload_n 0, 1) := by decide +kernel
theorem dX7_read_21 : decode cX7_read 21 = .ok (.getfield 9, 3) := by decide +kernel
theorem dX7_read_24 : decode cX7_read 24 = .ok (.arraylength, 1) := by decide +kernel
theorem dX7_read_25 : decode cX7_read 25 = .ok (.invokestatic 53, 3) := by decide +kernel
theorem dX7_read_28 : decode cX7_read 28 = .ok (.invokestatic 59, 3) := by decide +kernel
theorem dX7_read_31 : decode cX7_read 31 = .ok (.putfield 35, 3) := by decide +kernel
theorem dX7_read_34 : decode cX7_read 34 = .ok (.aload_n 0, 1) := by decide +kernel
theorem dX7_read_35 : decode cX7_read 35 = .ok (.iconst 0, 1) := by decide +kernel
theorem dX7_read_36 : decode cX7_read 36 = .ok (.putfield 15, 3) := by decide +kernel
theorem dX7_read_39 : decode cX7_read 39 = .ok (.aload_n 0, 1) := by decide +kernel
theorem dX7_read_40 : decode cX7_read 40 = .ok (.iconst 0, 1) := by decide +kernel
theorem dX7_read_41 : decode cX7_read 41 = .ok (.putfield 38, 3) := by decide +kernel
theorem dX7_read_44 : decode cX7_read 44 = .ok (.aload_n 0, 1) := by decide +kernel
theorem dX7_read_45 : decode cX7_read 45 = .ok (.iconst 0, 1) := by decide +kernel
theorem dX7_read_46 : decode cX7_read 46 = .ok (.putfield 47, 3) := by decide +kernel
theorem dX7_read_49 : decode cX7_read 49 = .ok (.iconst 0, 1) := by decide +kernel
theorem dX7_read_50 : decode cX7_read 50 = .ok (.istore_n 2, 1) := by decide +kernel
theorem dX7_read_51 : decode cX7_read 51 = .ok (.iload_n 2, 1) := by decide +kernel
theorem dX7_read_52 : decode cX7_read 52 = .ok (.aload_n 0, 1) := by decide +kernel
theorem dX7_read_53 : decode cX7_read 53 = .ok (.getfield 35, 3) := by decide +kernel
theorem dX7_read_56 : decode cX7_read 56 = .ok (.if_icmp .ge 43, 3) := by decide +kernel
theorem dX7_read_59 : decode cX7_read 59 = .ok (.iload_n 2, 1) := by decide +kernel
theorem dX7_read_60 : decode cX7_read 60 = .ok (.aload_n 0, 1) := by decide +kernel
theorem dX7_read_61 : decode cX7_read 61 = .ok (.getfield 9, 3) := by decide +kernel
theorem dX7_read_64 : decode cX7_read 64 = .ok (.arraylength, 1) := by decide +kernel
theorem dX7_read_65 : decode cX7_read 65 = .ok (.if_icmp .ge 34, 3) := by decide +kernel
theorem dX7_read_68 : decode cX7_read 68 = .ok (.iload_n 2, 1) := by decide +kernel
theorem dX7_read_69 : decode cX7_read 69 = .ok (.aload_n 0, 1) := by decide +kernel
theorem dX7_read_70 : decode cX7_read 70 = .ok (.getfield 19, 3) := by decide +kernel
theorem dX7_read_73 : decode cX7_read 73 = .ok (.arraylength, 1) := by decide +kernel
theorem dX7_read_74 : decode cX7_read 74 = .ok (.if_icmp .ge 25, 3) := by decide +kernel
theorem dX7_read_77 : decode cX7_read 77 = .ok (.aload_n 0, 1) := by decide +kernel
theorem dX7_read_78 : decode cX7_read 78 = .ok (.getfield 19, 3) := by decide +kernel
theorem dX7_read_81 : decode cX7_read 81 = .ok (.iload_n 2, 1) := by decide +kernel
theorem dX7_read_82 : decode cX7_read 82 = .ok (.aload_n 0, 1) := by decide +kernel
theorem dX7_read_83 : decode cX7_read 83 = .ok (.getfield 9, 3) := by decide +kernel
theorem dX7_read_86 : decode cX7_read 86 = .ok (.iload_n 2, 1) := by decide +kernel
theorem dX7_read_87 : decode cX7_read 87 = .ok (.baload, 1) := by decide +kernel
theorem dX7_read_88 : decode cX7_read 88 = .ok (.invokestatic 62, 3) := by decide +kernel
theorem dX7_read_91 : decode cX7_read 91 = .ok (.i2b, 1) := by decide +kernel
theorem dX7_read_92 : decode cX7_read 92 = .ok (.bastore, 1) := by decide +kernel
theorem dX7_read_93 : decode cX7_read 93 = .ok (.iinc 2 1, 3) := by decide +kernel
theorem dX7_read_96 : decode cX7_read 96 = .ok (.goto (-45), 3) := by decide +kernel
theorem dX7_read_99 : decode cX7_read 99 = .ok (.aload_n 0, 1) := by decide +kernel
theorem dX7_read_100 : decode cX7_read 100 = .ok (.invokevirtual 66, 3) := by decide +kernel
theorem dX7_read_103 : decode cX7_read 103 = .ok (.iconst 1, 1) := by decide +kernel
theorem dX7_read_104 : decode cX7_read 104 = .ok (.istore_n 2, 1) := by decide +kernel
theorem dX7_read_105 : decode cX7_read 105 = .ok (.iconst 0, 1) := by decide +kernel
theorem dX7_read_106 : decode cX7_read 106 = .ok (.istore_n 3, 1) := by decide +kernel
theorem dX7_read_107 : decode cX7_read 107 = .ok (.iload_n 3, 1) := by decide +kernel
theorem dX7_read_108 : decode cX7_read 108 = .ok (.sipush 800, 3) := by decide +kernel
theorem dX7_read_111 : decode cX7_read 111 = .ok (.if_icmp .gt 42, 3) := by decide +kernel
theorem dX7_read_114 : decode cX7_read 114 = .ok (.iload_n 2, 1) := by decide +kernel
theorem dX7_read_115 : decode cX7_read 115 = .ok (.ifCond .eq 38, 3) := by decide +kernel
theorem dX7_read_118 : decode cX7_read 118 = .ok (.aload_n 0, 1) := by decide +kernel
theorem dX7_read_119 : decode cX7_read 119 = .ok (.getfield 44, 3) := by decide +kernel
theorem dX7_read_122 : decode cX7_read 122 = .ok (.ifCond .eq 31, 3) := by decide +kernel
theorem dX7_read_125 : decode cX7_read 125 = .ok (.aload_n 0, 1) := by decide +kernel
theorem dX7_read_126 : decode cX7_read 126 = .ok (.invokevirtual 69, 3) := by decide +kernel
theorem dX7_read_129 : decode cX7_read 129 = .ok (.ifCond .eq 16, 3) := by decide +kernel
theorem dX7_read_132 : decode cX7_read 132 = .ok (.aload_n 0, 1) := by decide +kernel
theorem dX7_read_133 : decode cX7_read 133 = .ok (.bipush 59, 2) := by decide +kernel
theorem dX7_read_135 : decode cX7_read 135 = .ok (.invokevirtual 73, 3) := by decide +kernel
theorem dX7_read_138 : decode cX7_read 138 = .ok (.ifCond .eq 7, 3) := by decide +kernel
theorem dX7_read_141 : decode cX7_read 141 = .ok (.iconst 1, 1) := by decide +kernel
theorem dX7_read_142 : decode cX7_read 142 = .ok (.goto 4, 3) := by decide +kernel
theorem dX7_read_145 : decode cX7_read 145 = .ok (.iconst 0, 1) := by decide +kernel
theorem dX7_read_146 : decode cX7_read 146 = .ok (.istore_n 2, 1) := by decide +kernel
theorem dX7_read_147 : decode cX7_read 147 = .ok (.iinc 3 1, 3) := by decide +kernel
theorem dX7_read_150 : decode cX7_read 150 = .ok (.goto (-43), 3) := by decide +kernel
theorem dX7_read_153 : decode cX7_read 153 = .ok (.aload_n 0, 1) := by decide +kernel
theorem dX7_read_154 : decode cX7_read 154 = .ok (.getfield 32, 3) := by decide +kernel
theorem dX7_read_157 : decode cX7_read 157 = .ok (.ireturn, 1) := by decide +kernel
