theorem dX8_runs_0 : decode cX8_runs 0 = .ok (.iload_n 1, 1) := by decide +kernel
theorem dX8_runs_1 : decode cX8_runs 1 = .ok (.ifCond .lt 24, 3) := by decide +kernel
theorem dX8_runs_4 : decode cX8_runs 4 = .ok (.iload_n 1, 1) := by decide +kernel
theorem dX8_runs_5 : decode cX8_runs 5 = .ok (.bipush 12, 2) := by decide +kernel
theorem dX8_runs_7 : decode cX8_runs 7 = .ok (.if_icmp .ge 18, 3) := by decide +kernel
theorem dX8_runs_10 : decode cX8_runs 10 = .ok (.aload_n 0, 1) := by decide +kernel
theorem dX8_runs_11 : decode cX8_runs 11 = .ok (.getfield 15, 3) := by decide +kernel
theorem dX8_runs_14 : decode cX8_runs 14 = .ok (.iload_n 1, 1) := by decide +kernel
theorem dX8_runs_15 : decode cX8_runs 15 = .ok (.ishr, 1) := by decide +kernel
theorem dX8_runs_16 : decode cX8_runs 16 = .ok (.iconst 1, 1) := by decide +kernel
theorem dX8_runs_17 : decode cX8_runs 17 = .ok (.iand, 1) := by decide +kernel
theorem dX8_runs_18 : decode cX8_runs 18 = .ok (.ifCond .eq 7, 3) := by decide +kernel
theorem dX8_runs_21 : decode cX8_runs 21 = .ok (.iconst 1, 1) := by decide +kernel
theorem dX8_runs_22 : decode cX8_runs 22 = .ok (.goto 4, 3) := by decide +kernel
theorem dX8_runs_25 : decode cX8_runs 25 = .ok (.iconst 0, 1) := by decide +kernel
theorem dX8_runs_26 : decode cX8_runs 26 = .ok (.ireturn, 1) := by decide +kernel
theorem dX8_charge_0 : decode cX8_charge 0 = .ok (.iload_n 1, 1) := by decide +kernel
theorem dX8_charge_1 : decode cX8_charge 1 = .ok (.ifCond .lt 23, 3) := by decide +kernel
theorem dX8_charge_4 : decode cX8_charge 4 = .ok (.iload_n 1, 1) := by decide +kernel
theorem dX8_charge_5 : decode cX8_charge 5 = .ok (.aload_n 0, 1) := by decide +kernel
theorem dX8_charge_6 : decode cX8_charge 6 = .ok (.getfield 36, 3) := by decide +kernel
theorem dX8_charge_9 : decode cX8_charge 9 = .ok (.arraylength, 1) := by decide +kernel
theorem dX8_charge_10 : decode cX8_charge 10 = .ok (.if_icmp .ge 14, 3) := by decide +kernel
theorem dX8_charge_13 : decode cX8_charge 13 = .ok (.aload_n 0, 1) := by decide +kernel
theorem dX8_charge_14 : decode cX8_charge 14 = .ok (.getfield 36, 3) := by decide +kernel
theorem dX8_charge_17 : decode cX8_charge 17 = .ok (.iload_n 1, 1) := by decide +kernel
theorem dX8_charge_18 : decode cX8_charge 18 = .ok (.dup2, 1) := by decide +kernel
theorem dX8_charge_19 : decode cX8_charge 19 = .ok (.laload, 1) := by decide +kernel
theorem dX8_charge_20 : decode cX8_charge 20 = .ok (.iload_n 2, 1) := by decide +kernel
theorem dX8_charge_21 : decode cX8_charge 21 = .ok (.i2l, 1) := by decide +kernel
theorem dX8_charge_22 : decode cX8_charge 22 = .ok (.ladd, 1) := by decide +kernel
theorem dX8_charge_23 : decode cX8_charge 23 = .ok (.lastore, 1) := by decide +kernel
theorem dX8_charge_24 : decode cX8_charge 24 = .ok (.return_, 1) := by decide +kernel
theorem dX8_left_0 : decode cX8_left 0 = .ok (.aload_n 1, 1) := by decide +kernel
theorem dX8_left_1 : decode cX8_left 1 = .ok (.getfield 93, 3) := by decide +kernel
theorem dX8_left_4 : decode cX8_left 4 = .ok (.iload_n 2, 1) := by decide +kernel
theorem dX8_left_5 : decode cX8_left 5 = .ok (.iload_n 3, 1) := by decide +kernel
theorem dX8_left_6 : decode cX8_left 6 = .ok (.invokevirtual 79, 3) := by decide +kernel
theorem dX8_left_9 : decode cX8_left 9 = .ok (.aload_n 0, 1) := by decide +kernel
theorem dX8_left_10 : decode cX8_left 10 = .ok (.getfield 33, 3) := by decide +kernel
theorem dX8_left_13 : decode cX8_left 13 = .ok (.iload_n 2, 1) := by decide +kernel
theorem dX8_left_14 : decode cX8_left 14 = .ok (.iload_n 3, 1) := by decide +kernel
theorem dX8_left_15 : decode cX8_left 15 = .ok (.invokevirtual 79, 3) := by decide +kernel
theorem dX8_left_18 : decode cX8_left 18 = .ok (.isub, 1) := by decide +kernel
theorem dX8_left_19 : decode cX8_left 19 = .ok (.ireturn, 1) := by decide +kernel
theorem dX8_moveCost_0 : decode cX8_moveCost 0 = .ok (.aload_n 0, 1) := by decide +kernel
theorem dX8_moveCost_1 : decode cX8_moveCost 1 = .ok (.getfield 9, 3) := by decide +kernel
theorem dX8_moveCost_4 : decode cX8_moveCost 4 = .ok (.aload_n 0, 1) := by decide +kernel
theorem dX8_moveCost_5 : decode cX8_moveCost 5 = .ok (.getfield 23, 3) := by decide +kernel
theorem dX8_moveCost_8 : decode cX8_moveCost 8 = .ok (.iload_n 2, 1) := by decide +kernel
theorem dX8_moveCost_9 : decode cX8_moveCost 9 = .ok (.iconst 5, 1) := by decide +kernel
theorem dX8_moveCost_10 : decode cX8_moveCost 10 = .ok (.invokevirtual 79, 3) := by decide +kernel
theorem dX8_moveCost_13 : decode cX8_moveCost 13 = .ok (.isub, 1) := by decide +kernel
theorem dX8_moveCost_14 : decode cX8_moveCost 14 = .ok (.istore_n 3, 1) := by decide +kernel
theorem dX8_moveCost_15 : decode cX8_moveCost 15 = .ok (.iconst 0, 1) := by decide +kernel
theorem dX8_moveCost_16 : decode cX8_moveCost 16 = .ok (.aload_n 1, 1) := by decide +kernel
theorem dX8_moveCost_17 : decode cX8_moveCost 17 = .ok (.getfield 110, 3) := by decide +kernel
theorem dX8_moveCost_20 : decode cX8_moveCost 20 = .ok (.aload_n 1, 1) := by decide +kernel
theorem dX8_moveCost_21 : decode cX8_moveCost 21 = .ok (.getfield 96, 3) := by decide +kernel
theorem dX8_moveCost_24 : decode cX8_moveCost 24 = .ok (.aload_n 0, 1) := by decide +kernel
theorem dX8_moveCost_25 : decode cX8_moveCost 25 = .ok (.getfield 23, 3) := by decide +kernel
theorem dX8_moveCost_28 : decode cX8_moveCost 28 = .ok (.iload_n 2, 1) := by decide +kernel
theorem dX8_moveCost_29 : decode cX8_moveCost 29 = .ok (.iconst 1, 1) := by decide +kernel
theorem dX8_moveCost_30 : decode cX8_moveCost 30 = .ok (.invokevirtual 79, 3) := by decide +kernel
theorem dX8_moveCost_33 : decode cX8_moveCost 33 = .ok (.iload_n 3, 1) := by decide +kernel
theorem dX8_moveCost_34 : decode cX8_moveCost 34 = .ok (.invokevirtual 114, 3) := by decide +kernel
theorem dX8_moveCost_37 : decode cX8_moveCost 37 = .ok (.invokestatic 120, 3) := by decide +kernel
theorem dX8_moveCost_40 : decode cX8_moveCost 40 = .ok (.ireturn, 1) := by decide +kernel
theorem dX8_load_0 : decode cX8_load 0 = .ok (.aload_n 0, 1) := by decide +kernel
theorem dX8_load_1 : decode cX8_load 1 = .ok (.getfield 23, 3) := by decide +kernel
theorem dX8_load_4 : decode cX8_load 4 = .ok (.iload_n 2, 1) := by decide +kernel
theorem dX8_load_5 : decode cX8_load 5 = .ok (.iconst 1, 1) := by decide +kernel
theorem dX8_load_6 : decode cX8_load 6 = .ok (.invokevirtual 79, 3) := by decide +kernel
theorem dX8_load_9 : decode cX8_load 9 = .ok (.istore 4, 2) := by decide +kernel
theorem dX8_load_11 : decode cX8_load 11 = .ok (.aload_n 0, 1) := by decide +kernel
theorem dX8_load_12 : decode cX8_load 12 = .ok (.getfield 23, 3) := by decide +kernel
theorem dX8_load_15 : decode cX8_load 15 = .ok (.iload_n 2, 1) := by decide +kernel
theorem dX8_load_16 : decode cX8_load 16 = .ok (.iconst 3, 1) := by decide +kernel
theorem dX8_load_17 : decode cX8_load 17 = .ok (.invokevirtual 79, 3) := by decide +kernel
theorem dX8_load_20 : decode cX8_load 20 = .ok (.istore 5, 2) := by decide +kernel
theorem dX8_load_22 : decode cX8_load 22 = .ok (.aload_n 0, 1) := by decide +kernel
theorem dX8_load_23 : decode cX8_load 23 = .ok (.getfield 33, 3) := by decide +kernel
theorem dX8_load_26 : decode cX8_load 26 = .ok (.iload 5, 2) := by decide +kernel
theorem dX8_load_28 : decode cX8_load 28 = .ok (.iconst 0, 1) := by decide +kernel
theorem dX8_load_29 : decode cX8_load 29 = .ok (.iload_n 3, 1) := by decide +kernel
theorem dX8_load_30 : decode cX8_load 30 = .ok (.aload_n 1, 1) := by decide +kernel
theorem dX8_load_31 : decode cX8_load 31 = .ok (.getfield 96, 3) := by decide +kernel
theorem dX8_load_34 : decode cX8_load 34 = .ok (.iload 4, 2) := by decide +kernel
theorem dX8_load_36 : decode cX8_load 36 = .ok (.iconst 0, 1) := by decide +kernel
theorem dX8_load_37 : decode cX8_load 37 = .ok (.invokevirtual 79, 3) := by decide +kernel
theorem dX8_load_40 : decode cX8_load 40 = .ok (.imul, 1) := by decide +kernel
theorem dX8_load_41 : decode cX8_load 41 = .ok (.invokevirtual 185, 3) := by decide +kernel
theorem dX8_load_44 : decode cX8_load 44 = .ok (.aload_n 0, 1) := by decide +kernel
theorem dX8_load_45 : decode cX8_load 45 = .ok (.getfield 33, 3) := by decide +kernel
theorem dX8_load_48 : decode cX8_load 48 = .ok (.iload 5, 2) := by decide +kernel
theorem dX8_load_50 : decode cX8_load 50 = .ok (.iconst 1, 1) := by decide +kernel
theorem dX8_load_51 : decode cX8_load 51 = .ok (.iload_n 3, 1) := by decide +kernel
theorem dX8_load_52 : decode cX8_load 52 = .ok (.aload_n 1, 1) := by decide +kernel
theorem dX8_load_53 : decode cX8_load 53 = .ok (.getfield 96, 3) := by decide +kernel
theorem dX8_load_56 : decode cX8_load 56 = .ok (.iload 4, 2) := by decide +kernel
theorem dX8_load_58 : decode cX8_load 58 = .ok (.iconst 1, 1) := by decide +kernel
theorem dX8_load_59 : decode cX8_load 59 = .ok (.invokevirtual 79, 3) := by decide +kernel
theorem dX8_load_62 : decode cX8_load 62 = .ok (.imul, 1) := by decide +kernel
theorem dX8_load_63 : decode cX8_load 63 = .ok (.invokevirtual 185, 3) := by decide +kernel
theorem dX8_load_66 : decode cX8_load 66 = .ok (.return_, 1) := by decide +kernel
theorem dX8_moveTo_0 : decode cX8_moveTo 0 = .ok (.aload_n 0, 1) := by decide +kernel
theorem dX8_moveTo_1 : decode cX8_moveTo 1 = .ok (.aload_n 1, 1) := by decide +kernel
theorem dX8_moveTo_2 : decode cX8_moveTo 2 = .ok (.iload_n 2, 1) := by decide +kernel
theorem dX8_moveTo_3 : decode cX8_moveTo 3 = .ok (.invokevirtual 134, 3) := by decide +kernel
theorem dX8_moveTo_6 : decode cX8_moveTo 6 = .ok (.istore 4, 2) := by decide +kernel
theorem dX8_moveTo_8 : decode cX8_moveTo 8 = .ok (.aload_n 0, 1) := by decide +kernel
theorem dX8_moveTo_9 : decode cX8_moveTo 9 = .ok (.aload_n 1, 1) := by decide +kernel
theorem dX8_moveTo_10 : decode cX8_moveTo 10 = .ok (.iload_n 2, 1) := by decide +kernel
theorem dX8_moveTo_11 : decode cX8_moveTo 11 = .ok (.iconst (-1), 1) := by decide +kernel
theorem dX8_moveTo_12 : decode cX8_moveTo 12 = .ok (.invokevirtual 130, 3) := by decide +kernel
theorem dX8_moveTo_15 : decode cX8_moveTo 15 = .ok (.aload_n 0, 1) := by decide +kernel
theorem dX8_moveTo_16 : decode cX8_moveTo 16 = .ok (.getfield 23, 3) := by decide +kernel
theorem dX8_moveTo_19 : decode cX8_moveTo 19 = .ok (.iload_n 2, 1) := by decide +kernel
theorem dX8_moveTo_20 : decode cX8_moveTo 20 = .ok (.iconst 3, 1) := by decide +kernel
theorem dX8_moveTo_21 : decode cX8_moveTo 21 = .ok (.iload_n 3, 1) := by decide +kernel
theorem dX8_moveTo_22 : decode cX8_moveTo 22 = .ok (.invokevirtual 127, 3) := by decide +kernel
theorem dX8_moveTo_25 : decode cX8_moveTo 25 = .ok (.aload_n 0, 1) := by decide +kernel
theorem dX8_moveTo_26 : decode cX8_moveTo 26 = .ok (.aload_n 1, 1) := by decide +kernel
theorem dX8_moveTo_27 : decode cX8_moveTo 27 = .ok (.iload_n 2, 1) := by decide +kernel
theorem dX8_moveTo_28 : decode cX8_moveTo 28 = .ok (.iconst 1, 1) := by decide +kernel
theorem dX8_moveTo_29 : decode cX8_moveTo 29 = .ok (.invokevirtual 130, 3) := by decide +kernel
theorem dX8_moveTo_32 : decode cX8_moveTo 32 = .ok (.aload_n 0, 1) := by decide +kernel
theorem dX8_moveTo_33 : decode cX8_moveTo 33 = .ok (.aload_n 0, 1) := by decide +kernel
theorem dX8_moveTo_34 : decode cX8_moveTo 34 = .ok (.getfield 23, 3) := by decide +kernel
theorem dX8_moveTo_37 : decode cX8_moveTo 37 = .ok (.iload_n 2, 1) := by decide +kernel
theorem dX8_moveTo_38 : decode cX8_moveTo 38 = .ok (.iconst 0, 1) := by decide +kernel
theorem dX8_moveTo_39 : decode cX8_moveTo 39 = .ok (.invokevirtual 79, 3) := by decide +kernel
theorem dX8_moveTo_42 : decode cX8_moveTo 42 = .ok (.iload 4, 2) := by decide +kernel
theorem dX8_moveTo_44 : decode cX8_moveTo 44 = .ok (.invokevirtual 138, 3) := by decide +kernel
theorem dX8_moveTo_47 : decode cX8_moveTo 47 = .ok (.iload 4, 2) := by decide +kernel
theorem dX8_moveTo_49 : decode cX8_moveTo 49 = .ok (.ireturn, 1) := by decide +kernel
theorem dX8_init_0 : decode cX8_init 0 = .ok (.aload_n 0, 1) := by decide +kernel
theorem dX8_init_1 : decode cX8_init 1 = .ok (.invokespecial 3, 3) := by decide +kernel
theorem dX8_init_4 : decode cX8_init 4 = .ok (.aload_n 0, 1) := by decide +kernel
theorem dX8_init_5 : decode cX8_init 5 = .ok (.iconst 0, 1) := by decide +kernel
theorem dX8_init_6 : decode cX8_init 6 = .ok (.putfield 9, 3) := by decide +kernel
theorem dX8_init_9 : decode cX8_init 9 = .ok (.aload_n 0, 1) := by decide +kernel
theorem dX8_init_10 : decode cX8_init 10 = .ok (.iconst 0, 1) := by decide +kernel
theorem dX8_init_11 : decode cX8_init 11 = .ok (.putfield 15, 3) := by decide +kernel
theorem dX8_init_14 : decode cX8_init 14 = .ok (.aload_n 0, 1) := by decide +kernel
theorem dX8_init_15 : decode cX8_init 15 = .ok (.new 18, 3) := by decide +kernel
theorem dX8_init_18 : decode cX8_init 18 = .ok (.dup, 1) := by decide +kernel
theorem dX8_init_19 : decode cX8_init 19 = .ok (.bipush 12, 2) := by decide +kernel
theorem dX8_init_21 : decode cX8_init 21 = .ok (.bipush 6, 2) := by decide +kernel
theorem dX8_init_23 : decode cX8_init 23 = .ok (.invokespecial 20, 3) := by decide +kernel
theorem dX8_init_26 : decode cX8_init 26 = .ok (.putfield 23, 3) := by decide +kernel
theorem dX8_init_29 : decode cX8_init 29 = .ok (.aload_n 0, 1) := by decide +kernel
theorem dX8_init_30 : decode cX8_init 30 = .ok (.new 18, 3) := by decide +kernel
theorem dX8_init_33 : decode cX8_init 33 = .ok (.dup, 1) := by decide +kernel
theorem dX8_init_34 : decode cX8_init 34 = .ok (.bipush 10, 2) := by decide +kernel
theorem dX8_init_36 : decode cX8_init 36 = .ok (.iconst 3, 1) := by decide +kernel
theorem dX8_init_37 : decode cX8_init 37 = .ok (.invokespecial 20, 3) := by decide +kernel
theorem dX8_init_40 : decode cX8_init 40 = .ok (.putfield 27, 3) := by decide +kernel
theorem dX8_init_43 : decode cX8_init 43 = .ok (.aload_n 0, 1) := by decide +kernel
theorem dX8_init_44 : decode cX8_init 44 = .ok (.new 18, 3) := by decide +kernel
theorem dX8_init_47 : decode cX8_init 47 = .ok (.dup, 1) := by decide +kernel
theorem dX8_init_48 : decode cX8_init 48 = .ok (.bipush 6, 2) := by decide +kernel
theorem dX8_init_50 : decode cX8_init 50 = .ok (.iconst 1, 1) := by decide +kernel
theorem dX8_init_51 : decode cX8_init 51 = .ok (.invokespecial 20, 3) := by decide +kernel
theorem dX8_init_54 : decode cX8_init 54 = .ok (.putfield 30, 3) := by decide +kernel
theorem dX8_init_57 : decode cX8_init 57 = .ok (.aload_n 0, 1) := by decide +kernel
theorem dX8_init_58 : decode cX8_init 58 = .ok (.new 18, 3) := by decide +kernel
theorem dX8_init_61 : decode cX8_init 61 = .ok (.dup, 1) := by decide +kernel
theorem dX8_init_62 : decode cX8_init 62 = .ok (.bipush 8, 2) := by decide +kernel
theorem dX8_init_64 : decode cX8_init 64 = .ok (.iconst 2, 1) := by decide +kernel
theorem dX8_init_65 : decode cX8_init 65 = .ok (.invokespecial 20, 3) := by decide +kernel
theorem dX8_init_68 : decode cX8_init 68 = .ok (.putfield 33, 3) := by decide +kernel
theorem dX8_init_71 : decode cX8_init 71 = .ok (.aload_n 0, 1) := by decide +kernel
theorem dX8_init_72 : decode cX8_init 72 = .ok (.bipush 6, 2) := by decide +kernel
theorem dX8_init_74 : decode cX8_init 74 = .ok (.newarray .long, 2) := by decide +kernel
theorem dX8_init_76 : decode cX8_init 76 = .ok (.putfield 36, 3) := by decide +kernel
theorem dX8_init_79 : decode cX8_init 79 = .ok (.return_, 1) := by decide +kernel
theorem dX8_copyFrom_0 : decode cX8_copyFrom 0 = .ok (.aload_n 0, 1) := by decide +kernel
theorem dX8_copyFrom_1 : decode cX8_copyFrom 1 = .ok (.aload_n 1, 1) := by decide +kernel
theorem dX8_copyFrom_2 : decode cX8_copyFrom 2 = .ok (.getfield 9, 3) := by decide +kernel
theorem dX8_copyFrom_5 : decode cX8_copyFrom 5 = .ok (.putfield 9, 3) := by decide +kernel
theorem dX8_copyFrom_8 : decode cX8_copyFrom 8 = .ok (.aload_n 0, 1) := by decide +kernel
theorem dX8_copyFrom_9 : decode cX8_copyFrom 9 = .ok (.aload_n 1, 1) := by decide +kernel
theorem dX8_copyFrom_10 : decode cX8_copyFrom 10 = .ok (.getfield 15, 3) := by decide +kernel
theorem dX8_copyFrom_13 : decode cX8_copyFrom 13 = .ok (.putfield 15, 3) := by decide +kernel
theorem dX8_copyFrom_16 : decode cX8_copyFrom 16 = .ok (.aload_n 0, 1) := by decide +kernel
theorem dX8_copyFrom_17 : decode cX8_copyFrom 17 = .ok (.getfield 23, 3) := by decide +kernel
theorem dX8_copyFrom_20 : decode cX8_copyFrom 20 = .ok (.aload_n 1, 1) := by decide +kernel
theorem dX8_copyFrom_21 : decode cX8_copyFrom 21 = .ok (.getfield 23, 3) := by decide +kernel
theorem dX8_copyFrom_24 : decode cX8_copyFrom 24 = .ok (.invokevirtual 53, 3) := by decide +kernel
theorem dX8_copyFrom_27 : decode cX8_copyFrom 27 = .ok (.aload_n 0, 1) := by decide +kernel
theorem dX8_copyFrom_28 : decode cX8_copyFrom 28 = .ok (.getfield 27, 3) := by decide +kernel
theorem dX8_copyFrom_31 : decode cX8_copyFrom 31 = .ok (.aload_n 1, 1) := by decide +kernel
theorem dX8_copyFrom_32 : decode cX8_copyFrom 32 = .ok (.getfield 27, 3) := by decide +kernel
theorem dX8_copyFrom_35 : decode cX8_copyFrom 35 = .ok (.invokevirtual 53, 3) := by decide +kernel
theorem dX8_copyFrom_38 : decode cX8_copyFrom 38 = .ok (.aload_n 0, 1) := by decide +kernel
theorem dX8_copyFrom_39 : decode cX8_copyFrom 39 = .ok (.getfield 30, 3) := by decide +kernel
theorem dX8_copyFrom_42 : decode cX8_copyFrom 42 = .ok (.aload_n 1, 1) := by decide +kernel
theorem dX8_copyFrom_43 : decode cX8_copyFrom 43 = .ok (.getfield 30, 3) := by decide +kernel
theorem dX8_copyFrom_46 : decode cX8_copyFrom 46 = .ok (.invokevirtual 53, 3) := by decide +kernel
theorem dX8_copyFrom_49 : decode cX8_copyFrom 49 = .ok (.aload_n 0, 1) := by decide +kernel
theorem dX8_copyFrom_50 : decode cX8_copyFrom 50 = .ok (.getfield 33, 3) := by decide +kernel
theorem dX8_copyFrom_53 : decode cX8_copyFrom 53 = .ok (.aload_n 1, 1) := by decide +kernel
theorem dX8_copyFrom_54 : decode cX8_copyFrom 54 = .ok (.getfield 33, 3) := by decide +kernel
theorem dX8_copyFrom_57 : decode cX8_copyFrom 57 = .ok (.invokevirtual 53, 3) := by decide +kernel
theorem dX8_copyFrom_60 : decode cX8_copyFrom 60 = .ok (.aload_n 1, 1) := by decide +kernel
theorem dX8_copyFrom_61 : decode cX8_copyFrom 61 = .ok (.getfield 36, 3) := by decide +kernel
theorem dX8_copyFrom_64 : decode cX8_copyFrom 64 = .ok (.iconst 0, 1) := by decide +kernel
theorem dX8_copyFrom_65 : decode cX8_copyFrom 65 = .ok (.aload_n 0, 1) := by decide +kernel
theorem dX8_copyFrom_66 : decode cX8_copyFrom 66 = .ok (.getfield 36, 3) := by decide +kernel
theorem dX8_copyFrom_69 : decode cX8_copyFrom 69 = .ok (.iconst 0, 1) := by decide +kernel
theorem dX8_copyFrom_70 : decode cX8_copyFrom 70 = .ok (.aload_n 0, 1) := by decide +kernel
theorem dX8_copyFrom_71 : decode cX8_copyFrom 71 = .ok (.getfield 36, 3) := by decide +kernel
theorem dX8_copyFrom_74 : decode cX8_copyFrom 74 = .ok (.arraylength, 1) := by decide +kernel
theorem dX8_copyFrom_75 : decode cX8_copyFrom 75 = .ok (.aload_n 1, 1) := by decide +kernel
theorem dX8_copyFrom_76 : decode cX8_copyFrom 76 = .ok (.getfield 36, 3) := by decide +kernel
theorem dX8_copyFrom_79 : decode cX8_copyFrom 79 = .ok (.arraylength, 1) := by decide +kernel
theorem dX8_copyFrom_80 : decode cX8_copyFrom 80 = .ok (.invokestatic 57, 3) := by decide +kernel
theorem dX8_copyFrom_83 : decode cX8_copyFrom 83 = .ok (.invokestatic 63, 3) := by decide +kernel
theorem dX8_copyFrom_86 : decode cX8_copyFrom 86 = .ok (.return_, 1) := by decide +kernel
theorem dX8_manyOf_0 : decode cX8_manyOf 0 = .ok (.iconst 0, 1) := by decide +kernel
theorem dX8_manyOf_1 : decode cX8_manyOf 1 = .ok (.istore_n 2, 1) := by decide +kernel
theorem dX8_manyOf_2 : decode cX8_manyOf 2 = .ok (.iconst 0, 1) := by decide +kernel
theorem dX8_manyOf_3 : decode cX8_manyOf 3 = .ok (.istore_n 3, 1) := by decide +kernel
theorem dX8_manyOf_4 : decode cX8_manyOf 4 = .ok (.iload_n 3, 1) := by decide +kernel
theorem dX8_manyOf_5 : decode cX8_manyOf 5 = .ok (.bipush 12, 2) := by decide +kernel
theorem dX8_manyOf_7 : decode cX8_manyOf 7 = .ok (.if_icmp .ge 38, 3) := by decide +kernel
theorem dX8_manyOf_10 : decode cX8_manyOf 10 = .ok (.iload_n 2, 1) := by decide +kernel
theorem dX8_manyOf_11 : decode cX8_manyOf 11 = .ok (.aload_n 0, 1) := by decide +kernel
theorem dX8_manyOf_12 : decode cX8_manyOf 12 = .ok (.iload_n 3, 1) := by decide +kernel
theorem dX8_manyOf_13 : decode cX8_manyOf 13 = .ok (.invokevirtual 75, 3) := by decide +kernel
theorem dX8_manyOf_16 : decode cX8_manyOf 16 = .ok (.ifCond .eq 20, 3) := by decide +kernel
theorem dX8_manyOf_19 : decode cX8_manyOf 19 = .ok (.aload_n 0, 1) := by decide +kernel
theorem dX8_manyOf_20 : decode cX8_manyOf 20 = .ok (.getfield 23, 3) := by decide +kernel
theorem dX8_manyOf_23 : decode cX8_manyOf 23 = .ok (.iload_n 3, 1) := by decide +kernel
theorem dX8_manyOf_24 : decode cX8_manyOf 24 = .ok (.iconst 1, 1) := by decide +kernel
theorem dX8_manyOf_25 : decode cX8_manyOf 25 = .ok (.invokevirtual 79, 3) := by decide +kernel
theorem dX8_manyOf_28 : decode cX8_manyOf 28 = .ok (.iload_n 1, 1) := by decide +kernel
theorem dX8_manyOf_29 : decode cX8_manyOf 29 = .ok (.if_icmp .ne 7, 3) := by decide +kernel
theorem dX8_manyOf_32 : decode cX8_manyOf 32 = .ok (.iconst 1, 1) := by decide +kernel
theorem dX8_manyOf_33 : decode cX8_manyOf 33 = .ok (.goto 4, 3) := by decide +kernel
theorem dX8_manyOf_36 : decode cX8_manyOf 36 = .ok (.iconst 0, 1) := by decide +kernel
theorem dX8_manyOf_37 : decode cX8_manyOf 37 = .ok (.iadd, 1) := by decide +kernel
theorem dX8_manyOf_38 : decode cX8_manyOf 38 = .ok (.istore_n 2, 1) := by decide +kernel
theorem dX8_manyOf_39 : decode cX8_manyOf 39 = .ok (.iinc 3 1, 3) := by decide +kernel
theorem dX8_manyOf_42 : decode cX8_manyOf 42 = .ok (.goto (-38), 3) := by decide +kernel
theorem dX8_manyOf_45 : decode cX8_manyOf 45 = .ok (.iload_n 2, 1) := by decide +kernel
theorem dX8_manyOf_46 : decode cX8_manyOf 46 = .ok (.ireturn, 1) := by decide +kernel
theorem dX8_hostsInUse_0 : decode cX8_hostsInUse 0 = .ok (.iconst 0, 1) := by decide +kernel
theorem dX8_hostsInUse_1 : decode cX8_hostsInUse 1 = .ok (.istore_n 1, 1) := by decide +kernel
theorem dX8_hostsInUse_2 : decode cX8_hostsInUse 2 = .ok (.iconst 0, 1) := by decide +kernel
theorem dX8_hostsInUse_3 : decode cX8_hostsInUse 3 = .ok (.istore_n 2, 1) := by decide +kernel
theorem dX8_hostsInUse_4 : decode cX8_hostsInUse 4 = .ok (.iload_n 2, 1) := by decide +kernel
theorem dX8_hostsInUse_5 : decode cX8_hostsInUse 5 = .ok (.bipush 8, 2) := by decide +kernel
theorem dX8_hostsInUse_7 : decode cX8_hostsInUse 7 = .ok (.if_icmp .ge 29, 3) := by decide +kernel
theorem dX8_hostsInUse_10 : decode cX8_hostsInUse 10 = .ok (.iload_n 1, 1) := by decide +kernel
theorem dX8_hostsInUse_11 : decode cX8_hostsInUse 11 = .ok (.aload_n 0, 1) := by decide +kernel
theorem dX8_hostsInUse_12 : decode cX8_hostsInUse 12 = .ok (.getfield 33, 3) := by decide +kernel
theorem dX8_hostsInUse_15 : decode cX8_hostsInUse 15 = .ok (.iload_n 2, 1) := by decide +kernel
theorem dX8_hostsInUse_16 : decode cX8_hostsInUse 16 = .ok (.iconst 0, 1) := by decide +kernel
theorem dX8_hostsInUse_17 : decode cX8_hostsInUse 17 = .ok (.invokevirtual 79, 3) := by decide +kernel
theorem dX8_hostsInUse_20 : decode cX8_hostsInUse 20 = .ok (.ifCond .le 7, 3) := by decide +kernel
theorem dX8_hostsInUse_23 : decode cX8_hostsInUse 23 = .ok (.iconst 1, 1) := by decide +kernel
theorem dX8_hostsInUse_24 : decode cX8_hostsInUse 24 = .ok (.goto 4, 3) := by decide +kernel
theorem dX8_hostsInUse_27 : decode cX8_hostsInUse 27 = .ok (.iconst 0, 1) := by decide +kernel
theorem dX8_hostsInUse_28 : decode cX8_hostsInUse 28 = .ok (.iadd, 1) := by decide +kernel
theorem dX8_hostsInUse_29 : decode cX8_hostsInUse 29 = .ok (.istore_n 1, 1) := by decide +kernel
theorem dX8_hostsInUse_30 : decode cX8_hostsInUse 30 = .ok (.iinc 2 1, 3) := by decide +kernel
theorem dX8_hostsInUse_33 : decode cX8_hostsInUse 33 = .ok (.goto (-29), 3) := by decide +kernel
theorem dX8_hostsInUse_36 : decode cX8_hostsInUse 36 = .ok (.iload_n 1, 1) := by decide +kernel
theorem dX8_hostsInUse_37 : decode cX8_hostsInUse 37 = .ok (.ireturn, 1) := by decide +kernel
theorem dX8_setPrices_0 : decode cX8_setPrices 0 = .ok (.aload_n 1, 1) := by decide +kernel
theorem dX8_setPrices_1 : decode cX8_setPrices 1 = .ok (.getfield 93, 3) := by decide +kernel
theorem dX8_setPrices_4 : decode cX8_setPrices 4 = .ok (.iconst 0, 1) := by decide +kernel
theorem dX8_setPrices_5 : decode cX8_setPrices 5 = .ok (.invokevirtual 165, 3) := by decide +kernel
theorem dX8_setPrices_8 : decode cX8_setPrices 8 = .ok (.istore_n 2, 1) := by decide +kernel
theorem dX8_setPrices_9 : decode cX8_setPrices 9 = .ok (.iload_n 2, 1) := by decide +kernel
theorem dX8_setPrices_10 : decode cX8_setPrices 10 = .ok (.ifCond .le 19, 3) := by decide +kernel
theorem dX8_setPrices_13 : decode cX8_setPrices 13 = .ok (.bipush 100, 2) := by decide +kernel
theorem dX8_setPrices_15 : decode cX8_setPrices 15 = .ok (.aload_n 0, 1) := by decide +kernel
theorem dX8_setPrices_16 : decode cX8_setPrices 16 = .ok (.getfield 33, 3) := by decide +kernel
theorem dX8_setPrices_19 : decode cX8_setPrices 19 = .ok (.iconst 0, 1) := by decide +kernel
theorem dX8_setPrices_20 : decode cX8_setPrices 20 = .ok (.invokevirtual 165, 3) := by decide +kernel
theorem dX8_setPrices_23 : decode cX8_setPrices 23 = .ok (.imul, 1) := by decide +kernel
theorem dX8_setPrices_24 : decode cX8_setPrices 24 = .ok (.iload_n 2, 1) := by decide +kernel
theorem dX8_setPrices_25 : decode cX8_setPrices 25 = .ok (.idiv, 1) := by decide +kernel
theorem dX8_setPrices_26 : decode cX8_setPrices 26 = .ok (.goto 4, 3) := by decide +kernel
theorem dX8_setPrices_29 : decode cX8_setPrices 29 = .ok (.iconst 0, 1) := by decide +kernel
theorem dX8_setPrices_30 : decode cX8_setPrices 30 = .ok (.istore_n 3, 1) := by decide +kernel
theorem dX8_setPrices_31 : decode cX8_setPrices 31 = .ok (.iconst 0, 1) := by decide +kernel
theorem dX8_setPrices_32 : decode cX8_setPrices 32 = .ok (.istore 4, 2) := by decide +kernel
theorem dX8_setPrices_34 : decode cX8_setPrices 34 = .ok (.iload 4, 2) := by decide +kernel
theorem dX8_setPrices_36 : decode cX8_setPrices 36 = .ok (.aload_n 1, 1) := by decide +kernel
theorem dX8_setPrices_37 : decode cX8_setPrices 37 = .ok (.getfield 96, 3) := by decide +kernel
theorem dX8_setPrices_40 : decode cX8_setPrices 40 = .ok (.getfield 103, 3) := by decide +kernel
theorem dX8_setPrices_43 : decode cX8_setPrices 43 = .ok (.if_icmp .ge 26, 3) := by decide +kernel
theorem dX8_setPrices_46 : decode cX8_setPrices 46 = .ok (.aload_n 0, 1) := by decide +kernel
theorem dX8_setPrices_47 : decode cX8_setPrices 47 = .ok (.getfield 30, 3) := by decide +kernel
theorem dX8_setPrices_50 : decode cX8_setPrices 50 = .ok (.iload 4, 2) := by decide +kernel
theorem dX8_setPrices_52 : decode cX8_setPrices 52 = .ok (.iconst 0, 1) := by decide +kernel
theorem dX8_setPrices_53 : decode cX8_setPrices 53 = .ok (.aload_n 1, 1) := by decide +kernel
theorem dX8_setPrices_54 : decode cX8_setPrices 54 = .ok (.iload 4, 2) := by decide +kernel
theorem dX8_setPrices_56 : decode cX8_setPrices 56 = .ok (.iload_n 3, 1) := by decide +kernel
theorem dX8_setPrices_57 : decode cX8_setPrices 57 = .ok (.invokevirtual 168, 3) := by decide +kernel
theorem dX8_setPrices_60 : decode cX8_setPrices 60 = .ok (.invokevirtual 127, 3) := by decide +kernel
theorem dX8_setPrices_63 : decode cX8_setPrices 63 = .ok (.iinc 4 1, 3) := by decide +kernel
theorem dX8_setPrices_66 : decode cX8_setPrices 66 = .ok (.goto (-32), 3) := by decide +kernel
theorem dX8_setPrices_69 : decode cX8_setPrices 69 = .ok (.return_, 1) := by decide +kernel
theorem dX8_reset_0 : decode cX8_reset 0 = .ok (.aload_n 0, 1) := by decide +kernel
theorem dX8_reset_1 : decode cX8_reset 1 = .ok (.iconst 0, 1) := by decide +kernel
theorem dX8_reset_2 : decode cX8_reset 2 = .ok (.putfield 9, 3) := by decide +kernel
theorem dX8_reset_5 : decode cX8_reset 5 = .ok (.aload_n 0, 1) := by decide +kernel
theorem dX8_reset_6 : decode cX8_reset 6 = .ok (.iconst 0, 1) := by decide +kernel
theorem dX8_reset_7 : decode cX8_reset 7 = .ok (.putfield 15, 3) := by decide +kernel
theorem dX8_reset_10 : decode cX8_reset 10 = .ok (.aload_n 0, 1) := by decide +kernel
theorem dX8_reset_11 : decode cX8_reset 11 = .ok (.getfield 23, 3) := by decide +kernel
theorem dX8_reset_14 : decode cX8_reset 14 = .ok (.invokevirtual 40, 3) := by decide +kernel
theorem dX8_reset_17 : decode cX8_reset 17 = .ok (.aload_n 0, 1) := by decide +kernel
theorem dX8_reset_18 : decode cX8_reset 18 = .ok (.getfield 27, 3) := by decide +kernel
theorem dX8_reset_21 : decode cX8_reset 21 = .ok (.invokevirtual 40, 3) := by decide +kernel
theorem dX8_reset_24 : decode cX8_reset 24 = .ok (.aload_n 0, 1) := by decide +kernel
theorem dX8_reset_25 : decode cX8_reset 25 = .ok (.getfield 33, 3) := by decide +kernel
theorem dX8_reset_28 : decode cX8_reset 28 = .ok (.invokevirtual 40, 3) := by decide +kernel
theorem dX8_reset_31 : decode cX8_reset 31 = .ok (.aload_n 0, 1) := by decide +kernel
theorem dX8_reset_32 : decode cX8_reset 32 = .ok (.getfield 36, 3) := by decide +kernel
theorem dX8_reset_35 : decode cX8_reset 35 = .ok (.lconst 0, 1) := by decide +kernel
theorem dX8_reset_36 : decode cX8_reset 36 = .ok (.invokestatic 43, 3) := by decide +kernel
theorem dX8_reset_39 : decode cX8_reset 39 = .ok (.aload_n 0, 1) := by decide +kernel
theorem dX8_reset_40 : decode cX8_reset 40 = .ok (.aload_n 1, 1) := by decide +kernel
theorem dX8_reset_41 : decode cX8_reset 41 = .ok (.invokevirtual 49, 3) := by decide +kernel
theorem dX8_reset_44 : decode cX8_reset 44 = .ok (.return_, 1) := by decide +kernel
theorem dX8_isFull_0 : decode cX8_isFull 0 = .ok (.aload_n 0, 1) := by decide +kernel
theorem dX8_isFull_1 : decode cX8_isFull 1 = .ok (.getfield 15, 3) := by decide +kernel
theorem dX8_isFull_4 : decode cX8_isFull 4 = .ok (.invokestatic 69, 3) := by decide +kernel
theorem dX8_isFull_7 : decode cX8_isFull 7 = .ok (.bipush 12, 2) := by decide +kernel
theorem dX8_isFull_9 : decode cX8_isFull 9 = .ok (.if_icmp .lt 7, 3) := by decide +kernel
theorem dX8_isFull_12 : decode cX8_isFull 12 = .ok (.iconst 1, 1) := by decide +kernel
theorem dX8_isFull_13 : decode cX8_isFull 13 = .ok (.goto 4, 3) := by decide +kernel
theorem dX8_isFull_16 : decode cX8_isFull 16 = .ok (.iconst 0, 1) := by decide +kernel
theorem dX8_isFull_17 : decode cX8_isFull 17 = .ok (.ireturn, 1) := by decide +kernel
theorem dX8_setOn_0 : decode cX8_setOn 0 = .ok (.iconst 0, 1) := by decide +kernel
theorem dX8_setOn_1 : decode cX8_setOn 1 = .ok (.istore_n 2, 1) := by decide +kernel
theorem dX8_setOn_2 : decode cX8_setOn 2 = .ok (.iconst 0, 1) := by decide +kernel
theorem dX8_setOn_3 : decode cX8_setOn 3 = .ok (.istore_n 3, 1) := by decide +kernel
theorem dX8_setOn_4 : decode cX8_setOn 4 = .ok (.iload_n 3, 1) := by decide +kernel
theorem dX8_setOn_5 : decode cX8_setOn 5 = .ok (.bipush 12, 2) := by decide +kernel
theorem dX8_setOn_7 : decode cX8_setOn 7 = .ok (.if_icmp .ge 36, 3) := by decide +kernel
theorem dX8_setOn_10 : decode cX8_setOn 10 = .ok (.aload_n 0, 1) := by decide +kernel
theorem dX8_setOn_11 : decode cX8_setOn 11 = .ok (.iload_n 3, 1) := by decide +kernel
theorem dX8_setOn_12 : decode cX8_setOn 12 = .ok (.invokevirtual 75, 3) := by decide +kernel
theorem dX8_setOn_15 : decode cX8_setOn 15 = .ok (.ifCond .eq 22, 3) := by decide +kernel
theorem dX8_setOn_18 : decode cX8_setOn 18 = .ok (.aload_n 0, 1) := by decide +kernel
theorem dX8_setOn_19 : decode cX8_setOn 19 = .ok (.getfield 23, 3) := by decide +kernel
theorem dX8_setOn_22 : decode cX8_setOn 22 = .ok (.iload_n 3, 1) := by decide +kernel
theorem dX8_setOn_23 : decode cX8_setOn 23 = .ok (.iconst 3, 1) := by decide +kernel
theorem dX8_setOn_24 : decode cX8_setOn 24 = .ok (.invokevirtual 79, 3) := by decide +kernel
theorem dX8_setOn_27 : decode cX8_setOn 27 = .ok (.iload_n 1, 1) := by decide +kernel
theorem dX8_setOn_28 : decode cX8_setOn 28 = .ok (.if_icmp .ne 9, 3) := by decide +kernel
theorem dX8_setOn_31 : decode cX8_setOn 31 = .ok (.iload_n 2, 1) := by decide +kernel
theorem dX8_setOn_32 : decode cX8_setOn 32 = .ok (.iconst 1, 1) := by decide +kernel
theorem dX8_setOn_33 : decode cX8_setOn 33 = .ok (.iload_n 3, 1) := by decide +kernel
theorem dX8_setOn_34 : decode cX8_setOn 34 = .ok (.ishl, 1) := by decide +kernel
theorem dX8_setOn_35 : decode cX8_setOn 35 = .ok (.ior, 1) := by decide +kernel
theorem dX8_setOn_36 : decode cX8_setOn 36 = .ok (.istore_n 2, 1) := by decide +kernel
theorem dX8_setOn_37 : decode cX8_setOn 37 = .ok (.iinc 3 1, 3) := by decide +kernel
theorem dX8_setOn_40 : decode cX8_setOn 40 = .ok (.goto (-36), 3) := by decide +kernel
theorem dX8_setOn_43 : decode cX8_setOn 43 = .ok (.iload_n 2, 1) := by decide +kernel
theorem dX8_setOn_44 : decode cX8_setOn 44 = .ok (.ireturn, 1) := by decide +kernel
theorem dX8_regulars_0 : decode cX8_regulars 0 = .ok (.iconst 0, 1) := by decide +kernel
theorem dX8_regulars_1 : decode cX8_regulars 1 = .ok (.istore_n 3, 1) := by decide +kernel
theorem dX8_regulars_2 : decode cX8_regulars 2 = .ok (.iconst 0, 1) := by decide +kernel
theorem dX8_regulars_3 : decode cX8_regulars 3 = .ok (.istore 4, 2) := by decide +kernel
theorem dX8_regulars_5 : decode cX8_regulars 5 = .ok (.iload 4, 2) := by decide +kernel
theorem dX8_regulars_7 : decode cX8_regulars 7 = .ok (.bipush 12, 2) := by decide +kernel
theorem dX8_regulars_9 : decode cX8_regulars 9 = .ok (.if_icmp .ge 75, 3) := by decide +kernel
theorem dX8_regulars_12 : decode cX8_regulars 12 = .ok (.aload_n 0, 1) := by decide +kernel
theorem dX8_regulars_13 : decode cX8_regulars 13 = .ok (.getfield 23, 3) := by decide +kernel
theorem dX8_regulars_16 : decode cX8_regulars 16 = .ok (.iload 4, 2) := by decide +kernel
theorem dX8_regulars_18 : decode cX8_regulars 18 = .ok (.iconst 0, 1) := by decide +kernel
theorem dX8_regulars_19 : decode cX8_regulars 19 = .ok (.invokevirtual 79, 3) := by decide +kernel
theorem dX8_regulars_22 : decode cX8_regulars 22 = .ok (.iload_n 1, 1) := by decide +kernel
theorem dX8_regulars_23 : decode cX8_regulars 23 = .ok (.if_icmp .ne 21, 3) := by decide +kernel
theorem dX8_regulars_26 : decode cX8_regulars 26 = .ok (.aload_n 0, 1) := by decide +kernel
theorem dX8_regulars_27 : decode cX8_regulars 27 = .ok (.getfield 23, 3) := by decide +kernel
theorem dX8_regulars_30 : decode cX8_regulars 30 = .ok (.iload 4, 2) := by decide +kernel
theorem dX8_regulars_32 : decode cX8_regulars 32 = .ok (.iconst 1, 1) := by decide +kernel
theorem dX8_regulars_33 : decode cX8_regulars 33 = .ok (.invokevirtual 79, 3) := by decide +kernel
theorem dX8_regulars_36 : decode cX8_regulars 36 = .ok (.iload_n 2, 1) := by decide +kernel
theorem dX8_regulars_37 : decode cX8_regulars 37 = .ok (.if_icmp .ne 7, 3) := by decide +kernel
theorem dX8_regulars_40 : decode cX8_regulars 40 = .ok (.iconst 1, 1) := by decide +kernel
theorem dX8_regulars_41 : decode cX8_regulars 41 = .ok (.goto 4, 3) := by decide +kernel
theorem dX8_regulars_44 : decode cX8_regulars 44 = .ok (.iconst 0, 1) := by decide +kernel
theorem dX8_regulars_45 : decode cX8_regulars 45 = .ok (.istore 5, 2) := by decide +kernel
theorem dX8_regulars_47 : decode cX8_regulars 47 = .ok (.aload_n 0, 1) := by decide +kernel
theorem dX8_regulars_48 : decode cX8_regulars 48 = .ok (.iload 4, 2) := by decide +kernel
theorem dX8_regulars_50 : decode cX8_regulars 50 = .ok (.invokevirtual 75, 3) := by decide +kernel
theorem dX8_regulars_53 : decode cX8_regulars 53 = .ok (.ifCond .eq 25, 3) := by decide +kernel
theorem dX8_regulars_56 : decode cX8_regulars 56 = .ok (.iload 5, 2) := by decide +kernel
theorem dX8_regulars_58 : decode cX8_regulars 58 = .ok (.ifCond .eq 20, 3) := by decide +kernel
theorem dX8_regulars_61 : decode cX8_regulars 61 = .ok (.aload_n 0, 1) := by decide +kernel
theorem dX8_regulars_62 : decode cX8_regulars 62 = .ok (.getfield 23, 3) := by decide +kernel
theorem dX8_regulars_65 : decode cX8_regulars 65 = .ok (.iload 4, 2) := by decide +kernel
theorem dX8_regulars_67 : decode cX8_regulars 67 = .ok (.iconst 2, 1) := by decide +kernel
theorem dX8_regulars_68 : decode cX8_regulars 68 = .ok (.invokevirtual 79, 3) := by decide +kernel
theorem dX8_regulars_71 : decode cX8_regulars 71 = .ok (.iconst (-1), 1) := by decide +kernel
theorem dX8_regulars_72 : decode cX8_regulars 72 = .ok (.if_icmp .ne 6, 3) := by decide +kernel
theorem dX8_regulars_75 : decode cX8_regulars 75 = .ok (.iinc 3 1, 3) := by decide +kernel
theorem dX8_regulars_78 : decode cX8_regulars 78 = .ok (.iinc 4 1, 3) := by decide +kernel
theorem dX8_regulars_81 : decode cX8_regulars 81 = .ok (.goto (-76), 3) := by decide +kernel
theorem dX8_regulars_84 : decode cX8_regulars 84 = .ok (.iload_n 3, 1) := by decide +kernel
theorem dX8_regulars_85 : decode cX8_regulars 85 = .ok (.ireturn, 1) := by decide +kernel
theorem dX8_spentBy_0 : decode cX8_spentBy 0 = .ok (.iload_n 1, 1) := by decide +kernel
theorem dX8_spentBy_1 : decode cX8_spentBy 1 = .ok (.ifCond .lt 21, 3) := by decide +kernel
theorem dX8_spentBy_4 : decode cX8_spentBy 4 = .ok (.iload_n 1, 1) := by decide +kernel
theorem dX8_spentBy_5 : decode cX8_spentBy 5 = .ok (.aload_n 0, 1) := by decide +kernel
theorem dX8_spentBy_6 : decode cX8_spentBy 6 = .ok (.getfield 36, 3) := by decide +kernel
theorem dX8_spentBy_9 : decode cX8_spentBy 9 = .ok (.arraylength, 1) := by decide +kernel
theorem dX8_spentBy_10 : decode cX8_spentBy 10 = .ok (.if_icmp .ge 12, 3) := by decide +kernel
theorem dX8_spentBy_13 : decode cX8_spentBy 13 = .ok (.aload_n 0, 1) := by decide +kernel
theorem dX8_spentBy_14 : decode cX8_spentBy 14 = .ok (.getfield 36, 3) := by decide +kernel
theorem dX8_spentBy_17 : decode cX8_spentBy 17 = .ok (.iload_n 1, 1) := by decide +kernel
theorem dX8_spentBy_18 : decode cX8_spentBy 18 = .ok (.laload, 1) := by decide +kernel
theorem dX8_spentBy_19 : decode cX8_spentBy 19 = .ok (.goto 4, 3) := by decide +kernel
theorem dX8_spentBy_22 : decode cX8_spentBy 22 = .ok (.lconst 0, 1) := by decide +kernel
theorem dX8_spentBy_23 : decode cX8_spentBy 23 = .ok (.lreturn, 1) := by decide +kernel
theorem dX8_isOver_0 : decode cX8_isOver 0 = .ok (.aload_n 0, 1) := by decide +kernel
theorem dX8_isOver_1 : decode cX8_isOver 1 = .ok (.iload_n 2, 1) := by decide +kernel
theorem dX8_isOver_2 : decode cX8_isOver 2 = .ok (.invokevirtual 82, 3) := by decide +kernel
theorem dX8_isOver_5 : decode cX8_isOver 5 = .ok (.ldc2_w 86, 3) := by decide +kernel
theorem dX8_isOver_8 : decode cX8_isOver 8 = .ok (.aload_n 1, 1) := by decide +kernel
theorem dX8_isOver_9 : decode cX8_isOver 9 = .ok (.getfield 88, 3) := by decide +kernel
theorem dX8_isOver_12 : decode cX8_isOver 12 = .ok (.iload_n 2, 1) := by decide +kernel
theorem dX8_isOver_13 : decode cX8_isOver 13 = .ok (.iconst 0, 1) := by decide +kernel
theorem dX8_isOver_14 : decode cX8_isOver 14 = .ok (.invokevirtual 79, 3) := by decide +kernel
theorem dX8_isOver_17 : decode cX8_isOver 17 = .ok (.i2l, 1) := by decide +kernel
theorem dX8_isOver_18 : decode cX8_isOver 18 = .ok (.lmul, 1) := by decide +kernel
theorem dX8_isOver_19 : decode cX8_isOver 19 = .ok (.lcmp, 1) := by decide +kernel
theorem dX8_isOver_20 : decode cX8_isOver 20 = .ok (.ifCond .le 7, 3) := by decide +kernel
theorem dX8_isOver_23 : decode cX8_isOver 23 = .ok (.iconst 1, 1) := by decide +kernel
theorem dX8_isOver_24 : decode cX8_isOver 24 = .ok (.goto 4, 3) := by decide +kernel
theorem dX8_isOver_27 : decode cX8_isOver 27 = .ok (.iconst 0, 1) := by decide +kernel
theorem dX8_isOver_28 : decode cX8_isOver 28 = .ok (.ireturn, 1) := by decide +kernel
theorem dX8_fits_0 : decode cX8_fits 0 = .ok (.aload_n 1, 1) := by decide +kernel
theorem dX8_fits_1 : decode cX8_fits 1 = .ok (.getfield 96, 3) := by decide +kernel
theorem dX8_fits_4 : decode cX8_fits 4 = .ok (.iload_n 2, 1) := by decide +kernel
theorem dX8_fits_5 : decode cX8_fits 5 = .ok (.iconst 0, 1) := by decide +kernel
theorem dX8_fits_6 : decode cX8_fits 6 = .ok (.invokevirtual 79, 3) := by decide +kernel
theorem dX8_fits_9 : decode cX8_fits 9 = .ok (.aload_n 0, 1) := by decide +kernel
theorem dX8_fits_10 : decode cX8_fits 10 = .ok (.aload_n 1, 1) := by decide +kernel
theorem dX8_fits_11 : decode cX8_fits 11 = .ok (.iload_n 3, 1) := by decide +kernel
theorem dX8_fits_12 : decode cX8_fits 12 = .ok (.iconst 0, 1) := by decide +kernel
theorem dX8_fits_13 : decode cX8_fits 13 = .ok (.invokevirtual 99, 3) := by decide +kernel
theorem dX8_fits_16 : decode cX8_fits 16 = .ok (.if_icmp .gt 26, 3) := by decide +kernel
theorem dX8_fits_19 : decode cX8_fits 19 = .ok (.aload_n 1, 1) := by decide +kernel
theorem dX8_fits_20 : decode cX8_fits 20 = .ok (.getfield 96, 3) := by decide +kernel
theorem dX8_fits_23 : decode cX8_fits 23 = .ok (.iload_n 2, 1) := by decide +kernel
theorem dX8_fits_24 : decode cX8_fits 24 = .ok (.iconst 1, 1) := by decide +kernel
theorem dX8_fits_25 : decode cX8_fits 25 = .ok (.invokevirtual 79, 3) := by decide +kernel
theorem dX8_fits_28 : decode cX8_fits 28 = .ok (.aload_n 0, 1) := by decide +kernel
theorem dX8_fits_29 : decode cX8_fits 29 = .ok (.aload_n 1, 1) := by decide +kernel
theorem dX8_fits_30 : decode cX8_fits 30 = .ok (.iload_n 3, 1) := by decide +kernel
theorem dX8_fits_31 : decode cX8_fits 31 = .ok (.iconst 1, 1) := by decide +kernel
theorem dX8_fits_32 : decode cX8_fits 32 = .ok (.invokevirtual 99, 3) := by decide +kernel
theorem dX8_fits_35 : decode cX8_fits 35 = .ok (.if_icmp .gt 7, 3) := by decide +kernel
theorem dX8_fits_38 : decode cX8_fits 38 = .ok (.iconst 1, 1) := by decide +kernel
theorem dX8_fits_39 : decode cX8_fits 39 = .ok (.goto 4, 3) := by decide +kernel
theorem dX8_fits_42 : decode cX8_fits 42 = .ok (.iconst 0, 1) := by decide +kernel
theorem dX8_fits_43 : decode cX8_fits 43 = .ok (.ireturn, 1) := by decide +kernel
theorem dX8_tightestHost_0 : decode cX8_tightestHost 0 = .ok (.iconst (-1), 1) := by decide +kernel
theorem dX8_tightestHost_1 : decode cX8_tightestHost 1 = .ok (.istore_n 3, 1) := by decide +kernel
theorem dX8_tightestHost_2 : decode cX8_tightestHost 2 = .ok (.iconst 0, 1) := by decide +kernel
theorem dX8_tightestHost_3 : decode cX8_tightestHost 3 = .ok (.istore 4, 2) := by decide +kernel
theorem dX8_tightestHost_5 : decode cX8_tightestHost 5 = .ok (.iconst 0, 1) := by decide +kernel
theorem dX8_tightestHost_6 : decode cX8_tightestHost 6 = .ok (.istore 5, 2) := by decide +kernel
theorem dX8_tightestHost_8 : decode cX8_tightestHost 8 = .ok (.iload 5, 2) := by decide +kernel
theorem dX8_tightestHost_10 : decode cX8_tightestHost 10 = .ok (.aload_n 1, 1) := by decide +kernel
theorem dX8_tightestHost_11 : decode cX8_tightestHost 11 = .ok (.getfield 93, 3) := by decide +kernel
theorem dX8_tightestHost_14 : decode cX8_tightestHost 14 = .ok (.getfield 103, 3) := by decide +kernel
theorem dX8_tightestHost_17 : decode cX8_tightestHost 17 = .ok (.if_icmp .ge 58, 3) := by decide +kernel
theorem dX8_tightestHost_20 : decode cX8_tightestHost 20 = .ok (.aload_n 0, 1) := by decide +kernel
theorem dX8_tightestHost_21 : decode cX8_tightestHost 21 = .ok (.aload_n 1, 1) := by decide +kernel
theorem dX8_tightestHost_22 : decode cX8_tightestHost 22 = .ok (.iload_n 2, 1) := by decide +kernel
theorem dX8_tightestHost_23 : decode cX8_tightestHost 23 = .ok (.iload 5, 2) := by decide +kernel
theorem dX8_tightestHost_25 : decode cX8_tightestHost 25 = .ok (.invokevirtual 106, 3) := by decide +kernel
theorem dX8_tightestHost_28 : decode cX8_tightestHost 28 = .ok (.ifCond .eq 41, 3) := by decide +kernel
theorem dX8_tightestHost_31 : decode cX8_tightestHost 31 = .ok (.aload_n 0, 1) := by decide +kernel
theorem dX8_tightestHost_32 : decode cX8_tightestHost 32 = .ok (.aload_n 1, 1) := by decide +kernel
theorem dX8_tightestHost_33 : decode cX8_tightestHost 33 = .ok (.iload 5, 2) := by decide +kernel
theorem dX8_tightestHost_35 : decode cX8_tightestHost 35 = .ok (.iconst 0, 1) := by decide +kernel
theorem dX8_tightestHost_36 : decode cX8_tightestHost 36 = .ok (.invokevirtual 99, 3) := by decide +kernel
theorem dX8_tightestHost_39 : decode cX8_tightestHost 39 = .ok (.aload_n 0, 1) := by decide +kernel
theorem dX8_tightestHost_40 : decode cX8_tightestHost 40 = .ok (.aload_n 1, 1) := by decide +kernel
theorem dX8_tightestHost_41 : decode cX8_tightestHost 41 = .ok (.iload 5, 2) := by decide +kernel
theorem dX8_tightestHost_43 : decode cX8_tightestHost 43 = .ok (.iconst 1, 1) := by decide +kernel
theorem dX8_tightestHost_44 : decode cX8_tightestHost 44 = .ok (.invokevirtual 99, 3) := by decide +kernel
theorem dX8_tightestHost_47 : decode cX8_tightestHost 47 = .ok (.iadd, 1) := by decide +kernel
theorem dX8_tightestHost_48 : decode cX8_tightestHost 48 = .ok (.istore 6, 2) := by decide +kernel
theorem dX8_tightestHost_50 : decode cX8_tightestHost 50 = .ok (.iload_n 3, 1) := by decide +kernel
theorem dX8_tightestHost_51 : decode cX8_tightestHost 51 = .ok (.iconst (-1), 1) := by decide +kernel
theorem dX8_tightestHost_52 : decode cX8_tightestHost 52 = .ok (.if_icmp .eq 10, 3) := by decide +kernel
theorem dX8_tightestHost_55 : decode cX8_tightestHost 55 = .ok (.iload 6, 2) := by decide +kernel
theorem dX8_tightestHost_57 : decode cX8_tightestHost 57 = .ok (.iload 4, 2) := by decide +kernel
theorem dX8_tightestHost_59 : decode cX8_tightestHost 59 = .ok (.if_icmp .ge 10, 3) := by decide +kernel
theorem dX8_tightestHost_62 : decode cX8_tightestHost 62 = .ok (.iload 5, 2) := by decide +kernel
theorem dX8_tightestHost_64 : decode cX8_tightestHost 64 = .ok (.istore_n 3, 1) := by decide +kernel
theorem dX8_tightestHost_65 : decode cX8_tightestHost 65 = .ok (.iload 6, 2) := by decide +kernel
theorem dX8_tightestHost_67 : decode cX8_tightestHost 67 = .ok (.istore 4, 2) := by decide +kernel
theorem dX8_tightestHost_69 : decode cX8_tightestHost 69 = .ok (.iinc 5 1, 3) := by decide +kernel
theorem dX8_tightestHost_72 : decode cX8_tightestHost 72 = .ok (.goto (-64), 3) := by decide +kernel
theorem dX8_tightestHost_75 : decode cX8_tightestHost 75 = .ok (.iload_n 3, 1) := by decide +kernel
theorem dX8_tightestHost_76 : decode cX8_tightestHost 76 = .ok (.ireturn, 1) := by decide +kernel
theorem dX8_roomOn_0 : decode cX8_roomOn 0 = .ok (.aload_n 1, 1) := by decide +kernel
theorem dX8_roomOn_1 : decode cX8_roomOn 1 = .ok (.getfield 96, 3) := by decide +kernel
theorem dX8_roomOn_4 : decode cX8_roomOn 4 = .ok (.iload_n 3, 1) := by decide +kernel
theorem dX8_roomOn_5 : decode cX8_roomOn 5 = .ok (.iconst 0, 1) := by decide +kernel
theorem dX8_roomOn_6 : decode cX8_roomOn 6 = .ok (.invokevirtual 79, 3) := by decide +kernel
theorem dX8_roomOn_9 : decode cX8_roomOn 9 = .ok (.istore 4, 2) := by decide +kernel
theorem dX8_roomOn_11 : decode cX8_roomOn 11 = .ok (.aload_n 1, 1) := by decide +kernel
theorem dX8_roomOn_12 : decode cX8_roomOn 12 = .ok (.getfield 96, 3) := by decide +kernel
theorem dX8_roomOn_15 : decode cX8_roomOn 15 = .ok (.iload_n 3, 1) := by decide +kernel
theorem dX8_roomOn_16 : decode cX8_roomOn 16 = .ok (.iconst 1, 1) := by decide +kernel
theorem dX8_roomOn_17 : decode cX8_roomOn 17 = .ok (.invokevirtual 79, 3) := by decide +kernel
theorem dX8_roomOn_20 : decode cX8_roomOn 20 = .ok (.istore 5, 2) := by decide +kernel
theorem dX8_roomOn_22 : decode cX8_roomOn 22 = .ok (.iload 4, 2) := by decide +kernel
theorem dX8_roomOn_24 : decode cX8_roomOn 24 = .ok (.ifCond .le 8, 3) := by decide +kernel
theorem dX8_roomOn_27 : decode cX8_roomOn 27 = .ok (.iload 5, 2) := by decide +kernel
theorem dX8_roomOn_29 : decode cX8_roomOn 29 = .ok (.ifCond .gt 5, 3) := by decide +kernel
theorem dX8_roomOn_32 : decode cX8_roomOn 32 = .ok (.iconst 0, 1) := by decide +kernel
theorem dX8_roomOn_33 : decode cX8_roomOn 33 = .ok (.ireturn, 1) := by decide +kernel
theorem dX8_roomOn_34 : decode cX8_roomOn 34 = .ok (.aload_n 0, 1) := by decide +kernel
theorem dX8_roomOn_35 : decode cX8_roomOn 35 = .ok (.aload_n 1, 1) := by decide +kernel
theorem dX8_roomOn_36 : decode cX8_roomOn 36 = .ok (.iload_n 2, 1) := by decide +kernel
theorem dX8_roomOn_37 : decode cX8_roomOn 37 = .ok (.iconst 0, 1) := by decide +kernel
theorem dX8_roomOn_38 : decode cX8_roomOn 38 = .ok (.invokevirtual 99, 3) := by decide +kernel
theorem dX8_roomOn_41 : decode cX8_roomOn 41 = .ok (.iload 4, 2) := by decide +kernel
theorem dX8_roomOn_43 : decode cX8_roomOn 43 = .ok (.idiv, 1) := by decide +kernel
theorem dX8_roomOn_44 : decode cX8_roomOn 44 = .ok (.aload_n 0, 1) := by decide +kernel
theorem dX8_roomOn_45 : decode cX8_roomOn 45 = .ok (.aload_n 1, 1) := by decide +kernel
theorem dX8_roomOn_46 : decode cX8_roomOn 46 = .ok (.iload_n 2, 1) := by decide +kernel
theorem dX8_roomOn_47 : decode cX8_roomOn 47 = .ok (.iconst 1, 1) := by decide +kernel
theorem dX8_roomOn_48 : decode cX8_roomOn 48 = .ok (.invokevirtual 99, 3) := by decide +kernel
theorem dX8_roomOn_51 : decode cX8_roomOn 51 = .ok (.iload 5, 2) := by decide +kernel
theorem dX8_roomOn_53 : decode cX8_roomOn 53 = .ok (.idiv, 1) := by decide +kernel
theorem dX8_roomOn_54 : decode cX8_roomOn 54 = .ok (.invokestatic 57, 3) := by decide +kernel
theorem dX8_roomOn_57 : decode cX8_roomOn 57 = .ok (.ireturn, 1) := by decide +kernel
theorem dX8_lowestFree_0 : decode cX8_lowestFree 0 = .ok (.iconst 0, 1) := by decide +kernel
theorem dX8_lowestFree_1 : decode cX8_lowestFree 1 = .ok (.istore_n 1, 1) := by decide +kernel
theorem dX8_lowestFree_2 : decode cX8_lowestFree 2 = .ok (.iload_n 1, 1) := by decide +kernel
theorem dX8_lowestFree_3 : decode cX8_lowestFree 3 = .ok (.bipush 11, 2) := by decide +kernel
theorem dX8_lowestFree_5 : decode cX8_lowestFree 5 = .ok (.if_icmp .ge 17, 3) := by decide +kernel
theorem dX8_lowestFree_8 : decode cX8_lowestFree 8 = .ok (.aload_n 0, 1) := by decide +kernel
theorem dX8_lowestFree_9 : decode cX8_lowestFree 9 = .ok (.iload_n 1, 1) := by decide +kernel
theorem dX8_lowestFree_10 : decode cX8_lowestFree 10 = .ok (.invokevirtual 75, 3) := by decide +kernel
theorem dX8_lowestFree_13 : decode cX8_lowestFree 13 = .ok (.ifCond .eq 9, 3) := by decide +kernel
theorem dX8_lowestFree_16 : decode cX8_lowestFree 16 = .ok (.iinc 1 1, 3) := by decide +kernel
theorem dX8_lowestFree_19 : decode cX8_lowestFree 19 = .ok (.goto (-17), 3) := by decide +kernel
theorem dX8_lowestFree_22 : decode cX8_lowestFree 22 = .ok (.iload_n 1, 1) := by decide +kernel
theorem dX8_lowestFree_23 : decode cX8_lowestFree 23 = .ok (.ireturn, 1) := by decide +kernel
theorem dX8_start_0 : decode cX8_start 0 = .ok (.aload_n 0, 1) := by decide +kernel
theorem dX8_start_1 : decode cX8_start 1 = .ok (.invokevirtual 123, 3) := by decide +kernel
theorem dX8_start_4 : decode cX8_start 4 = .ok (.istore 6, 2) := by decide +kernel
theorem dX8_start_6 : decode cX8_start 6 = .ok (.aload_n 0, 1) := by decide +kernel
theorem dX8_start_7 : decode cX8_start 7 = .ok (.dup, 1) := by decide +kernel
theorem dX8_start_8 : decode cX8_start 8 = .ok (.getfield 15, 3) := by decide +kernel
theorem dX8_start_11 : decode cX8_start 11 = .ok (.iconst 1, 1) := by decide +kernel
theorem dX8_start_12 : decode cX8_start 12 = .ok (.iload 6, 2) := by decide +kernel
theorem dX8_start_14 : decode cX8_start 14 = .ok (.ishl, 1) := by decide +kernel
theorem dX8_start_15 : decode cX8_start 15 = .ok (.ior, 1) := by decide +kernel
theorem dX8_start_16 : decode cX8_start 16 = .ok (.putfield 15, 3) := by decide +kernel
theorem dX8_start_19 : decode cX8_start 19 = .ok (.aload_n 0, 1) := by decide +kernel
theorem dX8_start_20 : decode cX8_start 20 = .ok (.getfield 23, 3) := by decide +kernel
theorem dX8_start_23 : decode cX8_start 23 = .ok (.iload 6, 2) := by decide +kernel
theorem dX8_start_25 : decode cX8_start 25 = .ok (.iconst 0, 1) := by decide +kernel
theorem dX8_start_26 : decode cX8_start 26 = .ok (.iload_n 2, 1) := by decide +kernel
theorem dX8_start_27 : decode cX8_start 27 = .ok (.invokevirtual 127, 3) := by decide +kernel
theorem dX8_start_30 : decode cX8_start 30 = .ok (.aload_n 0, 1) := by decide +kernel
theorem dX8_start_31 : decode cX8_start 31 = .ok (.getfield 23, 3) := by decide +kernel
theorem dX8_start_34 : decode cX8_start 34 = .ok (.iload 6, 2) := by decide +kernel
theorem dX8_start_36 : decode cX8_start 36 = .ok (.iconst 1, 1) := by decide +kernel
theorem dX8_start_37 : decode cX8_start 37 = .ok (.iload_n 3, 1) := by decide +kernel
theorem dX8_start_38 : decode cX8_start 38 = .ok (.invokevirtual 127, 3) := by decide +kernel
theorem dX8_start_41 : decode cX8_start 41 = .ok (.aload_n 0, 1) := by decide +kernel
theorem dX8_start_42 : decode cX8_start 42 = .ok (.getfield 23, 3) := by decide +kernel
theorem dX8_start_45 : decode cX8_start 45 = .ok (.iload 6, 2) := by decide +kernel
theorem dX8_start_47 : decode cX8_start 47 = .ok (.iconst 2, 1) := by decide +kernel
theorem dX8_start_48 : decode cX8_start 48 = .ok (.iload 4, 2) := by decide +kernel
theorem dX8_start_50 : decode cX8_start 50 = .ok (.invokevirtual 127, 3) := by decide +kernel
theorem dX8_start_53 : decode cX8_start 53 = .ok (.aload_n 0, 1) := by decide +kernel
theorem dX8_start_54 : decode cX8_start 54 = .ok (.getfield 23, 3) := by decide +kernel
theorem dX8_start_57 : decode cX8_start 57 = .ok (.iload 6, 2) := by decide +kernel
theorem dX8_start_59 : decode cX8_start 59 = .ok (.iconst 3, 1) := by decide +kernel
theorem dX8_start_60 : decode cX8_start 60 = .ok (.iload 5, 2) := by decide +kernel
theorem dX8_start_62 : decode cX8_start 62 = .ok (.invokevirtual 127, 3) := by decide +kernel
theorem dX8_start_65 : decode cX8_start 65 = .ok (.aload_n 0, 1) := by decide +kernel
theorem dX8_start_66 : decode cX8_start 66 = .ok (.getfield 23, 3) := by decide +kernel
theorem dX8_start_69 : decode cX8_start 69 = .ok (.iload 6, 2) := by decide +kernel
theorem dX8_start_71 : decode cX8_start 71 = .ok (.iconst 4, 1) := by decide +kernel
theorem dX8_start_72 : decode cX8_start 72 = .ok (.iconst (-1), 1) := by decide +kernel
theorem dX8_start_73 : decode cX8_start 73 = .ok (.invokevirtual 127, 3) := by decide +kernel
theorem dX8_start_76 : decode cX8_start 76 = .ok (.aload_n 0, 1) := by decide +kernel
theorem dX8_start_77 : decode cX8_start 77 = .ok (.getfield 23, 3) := by decide +kernel
theorem dX8_start_80 : decode cX8_start 80 = .ok (.iload 6, 2) := by decide +kernel
theorem dX8_start_82 : decode cX8_start 82 = .ok (.iconst 5, 1) := by decide +kernel
theorem dX8_start_83 : decode cX8_start 83 = .ok (.aload_n 0, 1) := by decide +kernel
theorem dX8_start_84 : decode cX8_start 84 = .ok (.getfield 9, 3) := by decide +kernel
theorem dX8_start_87 : decode cX8_start 87 = .ok (.invokevirtual 127, 3) := by decide +kernel
theorem dX8_start_90 : decode cX8_start 90 = .ok (.aload_n 0, 1) := by decide +kernel
theorem dX8_start_91 : decode cX8_start 91 = .ok (.aload_n 1, 1) := by decide +kernel
theorem dX8_start_92 : decode cX8_start 92 = .ok (.iload 6, 2) := by decide +kernel
theorem dX8_start_94 : decode cX8_start 94 = .ok (.iconst 1, 1) := by decide +kernel
theorem dX8_start_95 : decode cX8_start 95 = .ok (.invokevirtual 130, 3) := by decide +kernel
theorem dX8_start_98 : decode cX8_start 98 = .ok (.iload 6, 2) := by decide +kernel
theorem dX8_start_100 : decode cX8_start 100 = .ok (.ireturn, 1) := by decide +kernel
theorem dX8_end_0 : decode cX8_end 0 = .ok (.aload_n 0, 1) := by decide +kernel
theorem dX8_end_1 : decode cX8_end 1 = .ok (.aload_n 1, 1) := by decide +kernel
theorem dX8_end_2 : decode cX8_end 2 = .ok (.iload_n 2, 1) := by decide +kernel
theorem dX8_end_3 : decode cX8_end 3 = .ok (.iconst (-1), 1) := by decide +kernel
theorem dX8_end_4 : decode cX8_end 4 = .ok (.invokevirtual 130, 3) := by decide +kernel
theorem dX8_end_7 : decode cX8_end 7 = .ok (.aload_n 0, 1) := by decide +kernel
theorem dX8_end_8 : decode cX8_end 8 = .ok (.dup, 1) := by decide +kernel
theorem dX8_end_9 : decode cX8_end 9 = .ok (.getfield 15, 3) := by decide +kernel
theorem dX8_end_12 : decode cX8_end 12 = .ok (.iconst 1, 1) := by decide +kernel
theorem dX8_end_13 : decode cX8_end 13 = .ok (.iload_n 2, 1) := by decide +kernel
theorem dX8_end_14 : decode cX8_end 14 = .ok (.ishl, 1) := by decide +kernel
theorem dX8_end_15 : decode cX8_end 15 = .ok (.iconst (-1), 1) := by decide +kernel
theorem dX8_end_16 : decode cX8_end 16 = .ok (.ixor, 1) := by decide +kernel
theorem dX8_end_17 : decode cX8_end 17 = .ok (.iand, 1) := by decide +kernel
theorem dX8_end_18 : decode cX8_end 18 = .ok (.putfield 15, 3) := by decide +kernel
theorem dX8_end_21 : decode cX8_end 21 = .ok (.return_, 1) := by decide +kernel
theorem dX8_giveNotice_0 : decode cX8_giveNotice 0 = .ok (.aload_n 0, 1) := by decide +kernel
theorem dX8_giveNotice_1 : decode cX8_giveNotice 1 = .ok (.getfield 23, 3) := by decide +kernel
theorem dX8_giveNotice_4 : decode cX8_giveNotice 4 = .ok (.iload_n 2, 1) := by decide +kernel
theorem dX8_giveNotice_5 : decode cX8_giveNotice 5 = .ok (.iconst 4, 1) := by decide +kernel
theorem dX8_giveNotice_6 : decode cX8_giveNotice 6 = .ok (.aload_n 0, 1) := by decide +kernel
theorem dX8_giveNotice_7 : decode cX8_giveNotice 7 = .ok (.getfield 9, 3) := by decide +kernel
theorem dX8_giveNotice_10 : decode cX8_giveNotice 10 = .ok (.aload_n 1, 1) := by decide +kernel
theorem dX8_giveNotice_11 : decode cX8_giveNotice 11 = .ok (.getfield 141, 3) := by decide +kernel
theorem dX8_giveNotice_14 : decode cX8_giveNotice 14 = .ok (.iconst 0, 1) := by decide +kernel
theorem dX8_giveNotice_15 : decode cX8_giveNotice 15 = .ok (.iconst 1, 1) := by decide +kernel
theorem dX8_giveNotice_16 : decode cX8_giveNotice 16 = .ok (.invokevirtual 79, 3) := by decide +kernel
theorem dX8_giveNotice_19 : decode cX8_giveNotice 19 = .ok (.iadd, 1) := by decide +kernel
theorem dX8_giveNotice_20 : decode cX8_giveNotice 20 = .ok (.invokevirtual 127, 3) := by decide +kernel
theorem dX8_giveNotice_23 : decode cX8_giveNotice 23 = .ok (.return_, 1) := by decide +kernel
theorem dX8_queue_0 : decode cX8_queue 0 = .ok (.iconst 0, 1) := by decide +kernel
theorem dX8_queue_1 : decode cX8_queue 1 = .ok (.istore 4, 2) := by decide +kernel
theorem dX8_queue_3 : decode cX8_queue 3 = .ok (.iload 4, 2) := by decide +kernel
theorem dX8_queue_5 : decode cX8_queue 5 = .ok (.aload_n 0, 1) := by decide +kernel
theorem dX8_queue_6 : decode cX8_queue 6 = .ok (.getfield 27, 3) := by decide +kernel
theorem dX8_queue_9 : decode cX8_queue 9 = .ok (.getfield 103, 3) := by decide +kernel
theorem dX8_queue_12 : decode cX8_queue 12 = .ok (.if_icmp .ge 23, 3) := by decide +kernel
theorem dX8_queue_15 : decode cX8_queue 15 = .ok (.aload_n 0, 1) := by decide +kernel
theorem dX8_queue_16 : decode cX8_queue 16 = .ok (.getfield 27, 3) := by decide +kernel
theorem dX8_queue_19 : decode cX8_queue 19 = .ok (.iload 4, 2) := by decide +kernel
theorem dX8_queue_21 : decode cX8_queue 21 = .ok (.iconst 2, 1) := by decide +kernel
theorem dX8_queue_22 : decode cX8_queue 22 = .ok (.invokevirtual 79, 3) := by decide +kernel
theorem dX8_queue_25 : decode cX8_queue 25 = .ok (.iload_n 3, 1) := by decide +kernel
theorem dX8_queue_26 : decode cX8_queue 26 = .ok (.if_icmp .lt 9, 3) := by decide +kernel
theorem dX8_queue_29 : decode cX8_queue 29 = .ok (.iinc 4 1, 3) := by decide +kernel
theorem dX8_queue_32 : decode cX8_queue 32 = .ok (.goto (-29), 3) := by decide +kernel
theorem dX8_queue_35 : decode cX8_queue 35 = .ok (.aload_n 0, 1) := by decide +kernel
theorem dX8_queue_36 : decode cX8_queue 36 = .ok (.getfield 27, 3) := by decide +kernel
theorem dX8_queue_39 : decode cX8_queue 39 = .ok (.iload 4, 2) := by decide +kernel
theorem dX8_queue_41 : decode cX8_queue 41 = .ok (.invokevirtual 144, 3) := by decide +kernel
theorem dX8_queue_44 : decode cX8_queue 44 = .ok (.aload_n 0, 1) := by decide +kernel
theorem dX8_queue_45 : decode cX8_queue 45 = .ok (.getfield 27, 3) := by decide +kernel
theorem dX8_queue_48 : decode cX8_queue 48 = .ok (.iload 4, 2) := by decide +kernel
theorem dX8_queue_50 : decode cX8_queue 50 = .ok (.iconst 0, 1) := by decide +kernel
theorem dX8_queue_51 : decode cX8_queue 51 = .ok (.iload_n 1, 1) := by decide +kernel
theorem dX8_queue_52 : decode cX8_queue 52 = .ok (.invokevirtual 127, 3) := by decide +kernel
theorem dX8_queue_55 : decode cX8_queue 55 = .ok (.aload_n 0, 1) := by decide +kernel
theorem dX8_queue_56 : decode cX8_queue 56 = .ok (.getfield 27, 3) := by decide +kernel
theorem dX8_queue_59 : decode cX8_queue 59 = .ok (.iload 4, 2) := by decide +kernel
theorem dX8_queue_61 : decode cX8_queue 61 = .ok (.iconst 1, 1) := by decide +kernel
theorem dX8_queue_62 : decode cX8_queue 62 = .ok (.iload_n 2, 1) := by decide +kernel
theorem dX8_queue_63 : decode cX8_queue 63 = .ok (.invokevirtual 127, 3) := by decide +kernel
theorem dX8_queue_66 : decode cX8_queue 66 = .ok (.aload_n 0, 1) := by decide +kernel
theorem dX8_queue_67 : decode cX8_queue 67 = .ok (.getfield 27, 3) := by decide +kernel
theorem dX8_queue_70 : decode cX8_queue 70 = .ok (.iload 4, 2) := by decide +kernel
theorem dX8_queue_72 : decode cX8_queue 72 = .ok (.iconst 2, 1) := by decide +kernel
theorem dX8_queue_73 : decode cX8_queue 73 = .ok (.iload_n 3, 1) := by decide +kernel
theorem dX8_queue_74 : decode cX8_queue 74 = .ok (.invokevirtual 127, 3) := by decide +kernel
theorem dX8_queue_77 : decode cX8_queue 77 = .ok (.return_, 1) := by decide +kernel
theorem dX8_dropRequests_0 : decode cX8_dropRequests 0 = .ok (.aload_n 0, 1) := by decide +kernel
theorem dX8_dropRequests_1 : decode cX8_dropRequests 1 = .ok (.getfield 27, 3) := by decide +kernel
theorem dX8_dropRequests_4 : decode cX8_dropRequests 4 = .ok (.getfield 103, 3) := by decide +kernel
theorem dX8_dropRequests_7 : decode cX8_dropRequests 7 = .ok (.istore_n 2, 1) := by decide +kernel
theorem dX8_dropRequests_8 : decode cX8_dropRequests 8 = .ok (.iload_n 2, 1) := by decide +kernel
theorem dX8_dropRequests_9 : decode cX8_dropRequests 9 = .ok (.iconst 1, 1) := by decide +kernel
theorem dX8_dropRequests_10 : decode cX8_dropRequests 10 = .ok (.isub, 1) := by decide +kernel
theorem dX8_dropRequests_11 : decode cX8_dropRequests 11 = .ok (.istore_n 3, 1) := by decide +kernel
theorem dX8_dropRequests_12 : decode cX8_dropRequests 12 = .ok (.iload_n 3, 1) := by decide +kernel
theorem dX8_dropRequests_13 : decode cX8_dropRequests 13 = .ok (.ifCond .lt 30, 3) := by decide +kernel
theorem dX8_dropRequests_16 : decode cX8_dropRequests 16 = .ok (.aload_n 0, 1) := by decide +kernel
theorem dX8_dropRequests_17 : decode cX8_dropRequests 17 = .ok (.getfield 27, 3) := by decide +kernel
theorem dX8_dropRequests_20 : decode cX8_dropRequests 20 = .ok (.iload_n 3, 1) := by decide +kernel
theorem dX8_dropRequests_21 : decode cX8_dropRequests 21 = .ok (.iconst 0, 1) := by decide +kernel
theorem dX8_dropRequests_22 : decode cX8_dropRequests 22 = .ok (.invokevirtual 79, 3) := by decide +kernel
theorem dX8_dropRequests_25 : decode cX8_dropRequests 25 = .ok (.iload_n 1, 1) := by decide +kernel
theorem dX8_dropRequests_26 : decode cX8_dropRequests 26 = .ok (.if_icmp .ne 11, 3) := by decide +kernel
theorem dX8_dropRequests_29 : decode cX8_dropRequests 29 = .ok (.aload_n 0, 1) := by decide +kernel
theorem dX8_dropRequests_30 : decode cX8_dropRequests 30 = .ok (.getfield 27, 3) := by decide +kernel
theorem dX8_dropRequests_33 : decode cX8_dropRequests 33 = .ok (.iload_n 3, 1) := by decide +kernel
theorem dX8_dropRequests_34 : decode cX8_dropRequests 34 = .ok (.invokevirtual 148, 3) := by decide +kernel
theorem dX8_dropRequests_37 : decode cX8_dropRequests 37 = .ok (.iinc 3 (-1), 3) := by decide +kernel
theorem dX8_dropRequests_40 : decode cX8_dropRequests 40 = .ok (.goto (-28), 3) := by decide +kernel
theorem dX8_dropRequests_43 : decode cX8_dropRequests 43 = .ok (.iload_n 2, 1) := by decide +kernel
theorem dX8_dropRequests_44 : decode cX8_dropRequests 44 = .ok (.aload_n 0, 1) := by decide +kernel
theorem dX8_dropRequests_45 : decode cX8_dropRequests 45 = .ok (.getfield 27, 3) := by decide +kernel
theorem dX8_dropRequests_48 : decode cX8_dropRequests 48 = .ok (.getfield 103, 3) := by decide +kernel
theorem dX8_dropRequests_51 : decode cX8_dropRequests 51 = .ok (.isub, 1) := by decide +kernel
theorem dX8_dropRequests_52 : decode cX8_dropRequests 52 = .ok (.ireturn, 1) := by decide +kernel
theorem dX8_endDue_0 : decode cX8_endDue 0 = .ok (.iconst 0, 1) := by decide +kernel
theorem dX8_endDue_1 : decode cX8_endDue 1 = .ok (.istore_n 2, 1) := by decide +kernel
theorem dX8_endDue_2 : decode cX8_endDue 2 = .ok (.iconst 0, 1) := by decide +kernel
theorem dX8_endDue_3 : decode cX8_endDue 3 = .ok (.istore_n 3, 1) := by decide +kernel
theorem dX8_endDue_4 : decode cX8_endDue 4 = .ok (.iload_n 3, 1) := by decide +kernel
theorem dX8_endDue_5 : decode cX8_endDue 5 = .ok (.bipush 12, 2) := by decide +kernel
theorem dX8_endDue_7 : decode cX8_endDue 7 = .ok (.if_icmp .ge 55, 3) := by decide +kernel
theorem dX8_endDue_10 : decode cX8_endDue 10 = .ok (.aload_n 0, 1) := by decide +kernel
theorem dX8_endDue_11 : decode cX8_endDue 11 = .ok (.getfield 23, 3) := by decide +kernel
theorem dX8_endDue_14 : decode cX8_endDue 14 = .ok (.iload_n 3, 1) := by decide +kernel
theorem dX8_endDue_15 : decode cX8_endDue 15 = .ok (.iconst 4, 1) := by decide +kernel
theorem dX8_endDue_16 : decode cX8_endDue 16 = .ok (.invokevirtual 79, 3) := by decide +kernel
theorem dX8_endDue_19 : decode cX8_endDue 19 = .ok (.istore 4, 2) := by decide +kernel
theorem dX8_endDue_21 : decode cX8_endDue 21 = .ok (.aload_n 0, 1) := by decide +kernel
theorem dX8_endDue_22 : decode cX8_endDue 22 = .ok (.iload_n 3, 1) := by decide +kernel
theorem dX8_endDue_23 : decode cX8_endDue 23 = .ok (.invokevirtual 75, 3) := by decide +kernel
theorem dX8_endDue_26 : decode cX8_endDue 26 = .ok (.ifCond .eq 30, 3) := by decide +kernel
theorem dX8_endDue_29 : decode cX8_endDue 29 = .ok (.iload 4, 2) := by decide +kernel
theorem dX8_endDue_31 : decode cX8_endDue 31 = .ok (.iconst (-1), 1) := by decide +kernel
theorem dX8_endDue_32 : decode cX8_endDue 32 = .ok (.if_icmp .eq 24, 3) := by decide +kernel
theorem dX8_endDue_35 : decode cX8_endDue 35 = .ok (.iload 4, 2) := by decide +kernel
theorem dX8_endDue_37 : decode cX8_endDue 37 = .ok (.aload_n 0, 1) := by decide +kernel
theorem dX8_endDue_38 : decode cX8_endDue 38 = .ok (.getfield 9, 3) := by decide +kernel
theorem dX8_endDue_41 : decode cX8_endDue 41 = .ok (.if_icmp .gt 15, 3) := by decide +kernel
theorem dX8_endDue_44 : decode cX8_endDue 44 = .ok (.aload_n 0, 1) := by decide +kernel
theorem dX8_endDue_45 : decode cX8_endDue 45 = .ok (.aload_n 1, 1) := by decide +kernel
theorem dX8_endDue_46 : decode cX8_endDue 46 = .ok (.iload_n 3, 1) := by decide +kernel
theorem dX8_endDue_47 : decode cX8_endDue 47 = .ok (.invokevirtual 161, 3) := by decide +kernel
theorem dX8_endDue_50 : decode cX8_endDue 50 = .ok (.iload_n 2, 1) := by decide +kernel
theorem dX8_endDue_51 : decode cX8_endDue 51 = .ok (.iconst 1, 1) := by decide +kernel
theorem dX8_endDue_52 : decode cX8_endDue 52 = .ok (.iload_n 3, 1) := by decide +kernel
theorem dX8_endDue_53 : decode cX8_endDue 53 = .ok (.ishl, 1) := by decide +kernel
theorem dX8_endDue_54 : decode cX8_endDue 54 = .ok (.ior, 1) := by decide +kernel
theorem dX8_endDue_55 : decode cX8_endDue 55 = .ok (.istore_n 2, 1) := by decide +kernel
theorem dX8_endDue_56 : decode cX8_endDue 56 = .ok (.iinc 3 1, 3) := by decide +kernel
theorem dX8_endDue_59 : decode cX8_endDue 59 = .ok (.goto (-55), 3) := by decide +kernel
theorem dX8_endDue_62 : decode cX8_endDue 62 = .ok (.iload_n 2, 1) := by decide +kernel
theorem dX8_endDue_63 : decode cX8_endDue 63 = .ok (.ireturn, 1) := by decide +kernel
theorem dX8_setNotices_0 : decode cX8_setNotices 0 = .ok (.iconst 0, 1) := by decide +kernel
theorem dX8_setNotices_1 : decode cX8_setNotices 1 = .ok (.istore_n 2, 1) := by decide +kernel
theorem dX8_setNotices_2 : decode cX8_setNotices 2 = .ok (.iload_n 2, 1) := by decide +kernel
theorem dX8_setNotices_3 : decode cX8_setNotices 3 = .ok (.bipush 12, 2) := by decide +kernel
theorem dX8_setNotices_5 : decode cX8_setNotices 5 = .ok (.if_icmp .ge 85, 3) := by decide +kernel
theorem dX8_setNotices_8 : decode cX8_setNotices 8 = .ok (.aload_n 0, 1) := by decide +kernel
theorem dX8_setNotices_9 : decode cX8_setNotices 9 = .ok (.getfield 23, 3) := by decide +kernel
theorem dX8_setNotices_12 : decode cX8_setNotices 12 = .ok (.iload_n 2, 1) := by decide +kernel
theorem dX8_setNotices_13 : decode cX8_setNotices 13 = .ok (.iconst 2, 1) := by decide +kernel
theorem dX8_setNotices_14 : decode cX8_setNotices 14 = .ok (.invokevirtual 79, 3) := by decide +kernel
theorem dX8_setNotices_17 : decode cX8_setNotices 17 = .ok (.istore_n 3, 1) := by decide +kernel
theorem dX8_setNotices_18 : decode cX8_setNotices 18 = .ok (.aload_n 0, 1) := by decide +kernel
theorem dX8_setNotices_19 : decode cX8_setNotices 19 = .ok (.iload_n 2, 1) := by decide +kernel
theorem dX8_setNotices_20 : decode cX8_setNotices 20 = .ok (.invokevirtual 75, 3) := by decide +kernel
theorem dX8_setNotices_23 : decode cX8_setNotices 23 = .ok (.ifCond .eq 61, 3) := by decide +kernel
theorem dX8_setNotices_26 : decode cX8_setNotices 26 = .ok (.iload_n 3, 1) := by decide +kernel
theorem dX8_setNotices_27 : decode cX8_setNotices 27 = .ok (.iconst (-1), 1) := by decide +kernel
theorem dX8_setNotices_28 : decode cX8_setNotices 28 = .ok (.if_icmp .eq 56, 3) := by decide +kernel
theorem dX8_setNotices_31 : decode cX8_setNotices 31 = .ok (.iload_n 3, 1) := by decide +kernel
theorem dX8_setNotices_32 : decode cX8_setNotices 32 = .ok (.aload_n 0, 1) := by decide +kernel
theorem dX8_setNotices_33 : decode cX8_setNotices 33 = .ok (.getfield 30, 3) := by decide +kernel
theorem dX8_setNotices_36 : decode cX8_setNotices 36 = .ok (.aload_n 0, 1) := by decide +kernel
theorem dX8_setNotices_37 : decode cX8_setNotices 37 = .ok (.getfield 23, 3) := by decide +kernel
theorem dX8_setNotices_40 : decode cX8_setNotices 40 = .ok (.iload_n 2, 1) := by decide +kernel
theorem dX8_setNotices_41 : decode cX8_setNotices 41 = .ok (.iconst 1, 1) := by decide +kernel
theorem dX8_setNotices_42 : decode cX8_setNotices 42 = .ok (.invokevirtual 79, 3) := by decide +kernel
theorem dX8_setNotices_45 : decode cX8_setNotices 45 = .ok (.iconst 0, 1) := by decide +kernel
theorem dX8_setNotices_46 : decode cX8_setNotices 46 = .ok (.invokevirtual 79, 3) := by decide +kernel
theorem dX8_setNotices_49 : decode cX8_setNotices 49 = .ok (.if_icmp .lt 16, 3) := by decide +kernel
theorem dX8_setNotices_52 : decode cX8_setNotices 52 = .ok (.aload_n 0, 1) := by decide +kernel
theorem dX8_setNotices_53 : decode cX8_setNotices 53 = .ok (.getfield 23, 3) := by decide +kernel
theorem dX8_setNotices_56 : decode cX8_setNotices 56 = .ok (.iload_n 2, 1) := by decide +kernel
theorem dX8_setNotices_57 : decode cX8_setNotices 57 = .ok (.iconst 4, 1) := by decide +kernel
theorem dX8_setNotices_58 : decode cX8_setNotices 58 = .ok (.iconst (-1), 1) := by decide +kernel
theorem dX8_setNotices_59 : decode cX8_setNotices 59 = .ok (.invokevirtual 127, 3) := by decide +kernel
theorem dX8_setNotices_62 : decode cX8_setNotices 62 = .ok (.goto 22, 3) := by decide +kernel
theorem dX8_setNotices_65 : decode cX8_setNotices 65 = .ok (.aload_n 0, 1) := by decide +kernel
theorem dX8_setNotices_66 : decode cX8_setNotices 66 = .ok (.getfield 23, 3) := by decide +kernel
theorem dX8_setNotices_69 : decode cX8_setNotices 69 = .ok (.iload_n 2, 1) := by decide +kernel
theorem dX8_setNotices_70 : decode cX8_setNotices 70 = .ok (.iconst 4, 1) := by decide +kernel
theorem dX8_setNotices_71 : decode cX8_setNotices 71 = .ok (.invokevirtual 79, 3) := by decide +kernel
theorem dX8_setNotices_74 : decode cX8_setNotices 74 = .ok (.iconst (-1), 1) := by decide +kernel
theorem dX8_setNotices_75 : decode cX8_setNotices 75 = .ok (.if_icmp .ne 9, 3) := by decide +kernel
theorem dX8_setNotices_78 : decode cX8_setNotices 78 = .ok (.aload_n 0, 1) := by decide +kernel
theorem dX8_setNotices_79 : decode cX8_setNotices 79 = .ok (.aload_n 1, 1) := by decide +kernel
theorem dX8_setNotices_80 : decode cX8_setNotices 80 = .ok (.iload_n 2, 1) := by decide +kernel
theorem dX8_setNotices_81 : decode cX8_setNotices 81 = .ok (.invokevirtual 171, 3) := by decide +kernel
theorem dX8_setNotices_84 : decode cX8_setNotices 84 = .ok (.iinc 2 1, 3) := by decide +kernel
theorem dX8_setNotices_87 : decode cX8_setNotices 87 = .ok (.goto (-85), 3) := by decide +kernel
theorem dX8_setNotices_90 : decode cX8_setNotices 90 = .ok (.return_, 1) := by decide +kernel
theorem dX8_grantRequests_0 : decode cX8_grantRequests 0 = .ok (.iconst 0, 1) := by decide +kernel
theorem dX8_grantRequests_1 : decode cX8_grantRequests 1 = .ok (.istore_n 2, 1) := by decide +kernel
theorem dX8_grantRequests_2 : decode cX8_grantRequests 2 = .ok (.iconst 0, 1) := by decide +kernel
theorem dX8_grantRequests_3 : decode cX8_grantRequests 3 = .ok (.istore_n 3, 1) := by decide +kernel
theorem dX8_grantRequests_4 : decode cX8_grantRequests 4 = .ok (.iload_n 3, 1) := by decide +kernel
theorem dX8_grantRequests_5 : decode cX8_grantRequests 5 = .ok (.bipush 10, 2) := by decide +kernel
theorem dX8_grantRequests_7 : decode cX8_grantRequests 7 = .ok (.if_icmp .ge 130, 3) := by decide +kernel
theorem dX8_grantRequests_10 : decode cX8_grantRequests 10 = .ok (.iload_n 2, 1) := by decide +kernel
theorem dX8_grantRequests_11 : decode cX8_grantRequests 11 = .ok (.aload_n 0, 1) := by decide +kernel
theorem dX8_grantRequests_12 : decode cX8_grantRequests 12 = .ok (.getfield 27, 3) := by decide +kernel
theorem dX8_grantRequests_15 : decode cX8_grantRequests 15 = .ok (.getfield 103, 3) := by decide +kernel
theorem dX8_grantRequests_18 : decode cX8_grantRequests 18 = .ok (.if_icmp .ge 119, 3) := by decide +kernel
theorem dX8_grantRequests_21 : decode cX8_grantRequests 21 = .ok (.aload_n 0, 1) := by decide +kernel
theorem dX8_grantRequests_22 : decode cX8_grantRequests 22 = .ok (.getfield 27, 3) := by decide +kernel
theorem dX8_grantRequests_25 : decode cX8_grantRequests 25 = .ok (.iload_n 2, 1) := by decide +kernel
theorem dX8_grantRequests_26 : decode cX8_grantRequests 26 = .ok (.iconst 1, 1) := by decide +kernel
theorem dX8_grantRequests_27 : decode cX8_grantRequests 27 = .ok (.invokevirtual 79, 3) := by decide +kernel
theorem dX8_grantRequests_30 : decode cX8_grantRequests 30 = .ok (.istore 4, 2) := by decide +kernel
theorem dX8_grantRequests_32 : decode cX8_grantRequests 32 = .ok (.aload_n 0, 1) := by decide +kernel
theorem dX8_grantRequests_33 : decode cX8_grantRequests 33 = .ok (.getfield 27, 3) := by decide +kernel
theorem dX8_grantRequests_36 : decode cX8_grantRequests 36 = .ok (.iload_n 2, 1) := by decide +kernel
theorem dX8_grantRequests_37 : decode cX8_grantRequests 37 = .ok (.iconst 2, 1) := by decide +kernel
theorem dX8_grantRequests_38 : decode cX8_grantRequests 38 = .ok (.invokevirtual 79, 3) := by decide +kernel
theorem dX8_grantRequests_41 : decode cX8_grantRequests 41 = .ok (.istore 5, 2) := by decide +kernel
theorem dX8_grantRequests_43 : decode cX8_grantRequests 43 = .ok (.iload 5, 2) := by decide +kernel
theorem dX8_grantRequests_45 : decode cX8_grantRequests 45 = .ok (.aload_n 0, 1) := by decide +kernel
theorem dX8_grantRequests_46 : decode cX8_grantRequests 46 = .ok (.getfield 30, 3) := by decide +kernel
theorem dX8_grantRequests_49 : decode cX8_grantRequests 49 = .ok (.iload 4, 2) := by decide +kernel
theorem dX8_grantRequests_51 : decode cX8_grantRequests 51 = .ok (.iconst 0, 1) := by decide +kernel
theorem dX8_grantRequests_52 : decode cX8_grantRequests 52 = .ok (.invokevirtual 79, 3) := by decide +kernel
theorem dX8_grantRequests_55 : decode cX8_grantRequests 55 = .ok (.if_icmp .lt 14, 3) := by decide +kernel
theorem dX8_grantRequests_58 : decode cX8_grantRequests 58 = .ok (.aload_n 0, 1) := by decide +kernel
theorem dX8_grantRequests_59 : decode cX8_grantRequests 59 = .ok (.invokevirtual 174, 3) := by decide +kernel
theorem dX8_grantRequests_62 : decode cX8_grantRequests 62 = .ok (.ifCond .ne 7, 3) := by decide +kernel
theorem dX8_grantRequests_65 : decode cX8_grantRequests 65 = .ok (.iconst 1, 1) := by decide +kernel
theorem dX8_grantRequests_66 : decode cX8_grantRequests 66 = .ok (.goto 4, 3) := by decide +kernel
theorem dX8_grantRequests_69 : decode cX8_grantRequests 69 = .ok (.iconst 0, 1) := by decide +kernel
theorem dX8_grantRequests_70 : decode cX8_grantRequests 70 = .ok (.istore 6, 2) := by decide +kernel
theorem dX8_grantRequests_72 : decode cX8_grantRequests 72 = .ok (.iload 6, 2) := by decide +kernel
theorem dX8_grantRequests_74 : decode cX8_grantRequests 74 = .ok (.ifCond .eq 13, 3) := by decide +kernel
theorem dX8_grantRequests_77 : decode cX8_grantRequests 77 = .ok (.aload_n 0, 1) := by decide +kernel
theorem dX8_grantRequests_78 : decode cX8_grantRequests 78 = .ok (.aload_n 1, 1) := by decide +kernel
theorem dX8_grantRequests_79 : decode cX8_grantRequests 79 = .ok (.iload 4, 2) := by decide +kernel
theorem dX8_grantRequests_81 : decode cX8_grantRequests 81 = .ok (.invokevirtual 178, 3) := by decide +kernel
theorem dX8_grantRequests_84 : decode cX8_grantRequests 84 = .ok (.goto 4, 3) := by decide +kernel
theorem dX8_grantRequests_87 : decode cX8_grantRequests 87 = .ok (.iconst (-1), 1) := by decide +kernel
theorem dX8_grantRequests_88 : decode cX8_grantRequests 88 = .ok (.istore 7, 2) := by decide +kernel
theorem dX8_grantRequests_90 : decode cX8_grantRequests 90 = .ok (.iload 7, 2) := by decide +kernel
theorem dX8_grantRequests_92 : decode cX8_grantRequests 92 = .ok (.iconst (-1), 1) := by decide +kernel
theorem dX8_grantRequests_93 : decode cX8_grantRequests 93 = .ok (.if_icmp .ne 9, 3) := by decide +kernel
theorem dX8_grantRequests_96 : decode cX8_grantRequests 96 = .ok (.iinc 2 1, 3) := by decide +kernel
theorem dX8_grantRequests_99 : decode cX8_grantRequests 99 = .ok (.goto 32, 3) := by decide +kernel
theorem dX8_grantRequests_102 : decode cX8_grantRequests 102 = .ok (.aload_n 0, 1) := by decide +kernel
theorem dX8_grantRequests_103 : decode cX8_grantRequests 103 = .ok (.aload_n 1, 1) := by decide +kernel
theorem dX8_grantRequests_104 : decode cX8_grantRequests 104 = .ok (.aload_n 0, 1) := by decide +kernel
theorem dX8_grantRequests_105 : decode cX8_grantRequests 105 = .ok (.getfield 27, 3) := by decide +kernel
theorem dX8_grantRequests_108 : decode cX8_grantRequests 108 = .ok (.iload_n 2, 1) := by decide +kernel
theorem dX8_grantRequests_109 : decode cX8_grantRequests 109 = .ok (.iconst 0, 1) := by decide +kernel
theorem dX8_grantRequests_110 : decode cX8_grantRequests 110 = .ok (.invokevirtual 79, 3) := by decide +kernel
theorem dX8_grantRequests_113 : decode cX8_grantRequests 113 = .ok (.iload 4, 2) := by decide +kernel
theorem dX8_grantRequests_115 : decode cX8_grantRequests 115 = .ok (.iload 5, 2) := by decide +kernel
theorem dX8_grantRequests_117 : decode cX8_grantRequests 117 = .ok (.iload 7, 2) := by decide +kernel
theorem dX8_grantRequests_119 : decode cX8_grantRequests 119 = .ok (.invokevirtual 181, 3) := by decide +kernel
theorem dX8_grantRequests_122 : decode cX8_grantRequests 122 = .ok (.pop, 1) := by decide +kernel
theorem dX8_grantRequests_123 : decode cX8_grantRequests 123 = .ok (.aload_n 0, 1) := by decide +kernel
theorem dX8_grantRequests_124 : decode cX8_grantRequests 124 = .ok (.getfield 27, 3) := by decide +kernel
theorem dX8_grantRequests_127 : decode cX8_grantRequests 127 = .ok (.iload_n 2, 1) := by decide +kernel
theorem dX8_grantRequests_128 : decode cX8_grantRequests 128 = .ok (.invokevirtual 148, 3) := by decide +kernel
theorem dX8_grantRequests_131 : decode cX8_grantRequests 131 = .ok (.iinc 3 1, 3) := by decide +kernel
theorem dX8_grantRequests_134 : decode cX8_grantRequests 134 = .ok (.goto (-130), 3) := by decide +kernel
theorem dX8_grantRequests_137 : decode cX8_grantRequests 137 = .ok (.return_, 1) := by decide +kernel
theorem dX8_nextHour_0 : decode cX8_nextHour 0 = .ok (.aload_n 0, 1) := by decide +kernel
theorem dX8_nextHour_1 : decode cX8_nextHour 1 = .ok (.dup, 1) := by decide +kernel
theorem dX8_nextHour_2 : decode cX8_nextHour 2 = .ok (.getfield 9, 3) := by decide +kernel
theorem dX8_nextHour_5 : decode cX8_nextHour 5 = .ok (.iconst 1, 1) := by decide +kernel
theorem dX8_nextHour_6 : decode cX8_nextHour 6 = .ok (.iadd, 1) := by decide +kernel
theorem dX8_nextHour_7 : decode cX8_nextHour 7 = .ok (.putfield 9, 3) := by decide +kernel
theorem dX8_nextHour_10 : decode cX8_nextHour 10 = .ok (.aload_n 0, 1) := by decide +kernel
theorem dX8_nextHour_11 : decode cX8_nextHour 11 = .ok (.aload_n 1, 1) := by decide +kernel
theorem dX8_nextHour_12 : decode cX8_nextHour 12 = .ok (.invokevirtual 151, 3) := by decide +kernel
theorem dX8_nextHour_15 : decode cX8_nextHour 15 = .ok (.istore_n 2, 1) := by decide +kernel
theorem dX8_nextHour_16 : decode cX8_nextHour 16 = .ok (.aload_n 0, 1) := by decide +kernel
theorem dX8_nextHour_17 : decode cX8_nextHour 17 = .ok (.aload_n 1, 1) := by decide +kernel
theorem dX8_nextHour_18 : decode cX8_nextHour 18 = .ok (.invokevirtual 49, 3) := by decide +kernel
theorem dX8_nextHour_21 : decode cX8_nextHour 21 = .ok (.aload_n 0, 1) := by decide +kernel
theorem dX8_nextHour_22 : decode cX8_nextHour 22 = .ok (.aload_n 1, 1) := by decide +kernel
theorem dX8_nextHour_23 : decode cX8_nextHour 23 = .ok (.invokevirtual 155, 3) := by decide +kernel
theorem dX8_nextHour_26 : decode cX8_nextHour 26 = .ok (.aload_n 0, 1) := by decide +kernel
theorem dX8_nextHour_27 : decode cX8_nextHour 27 = .ok (.aload_n 1, 1) := by decide +kernel
theorem dX8_nextHour_28 : decode cX8_nextHour 28 = .ok (.invokevirtual 158, 3) := by decide +kernel
theorem dX8_nextHour_31 : decode cX8_nextHour 31 = .ok (.iload_n 2, 1) := by decide +kernel
theorem dX8_nextHour_32 : decode cX8_nextHour 32 = .ok (.ireturn, 1) := by decide +kernel
