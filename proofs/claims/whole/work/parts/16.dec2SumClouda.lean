theorem dX1_isActive_0 : decode cX1_isActive 0 = .ok (.aload_n 0, 1) := by decide +kernel
theorem dX1_isActive_1 : decode cX1_isActive 1 = .ok (.getfield 26, 3) := by decide +kernel
theorem dX1_isActive_4 : decode cX1_isActive 4 = .ok (.iload_n 1, 1) := by decide +kernel
theorem dX1_isActive_5 : decode cX1_isActive 5 = .ok (.iconst 3, 1) := by decide +kernel
theorem dX1_isActive_6 : decode cX1_isActive 6 = .ok (.invokevirtual 61, 3) := by decide +kernel
theorem dX1_isActive_9 : decode cX1_isActive 9 = .ok (.iload_n 2, 1) := by decide +kernel
theorem dX1_isActive_10 : decode cX1_isActive 10 = .ok (.if_icmp .gt 20, 3) := by decide +kernel
theorem dX1_isActive_13 : decode cX1_isActive 13 = .ok (.iload_n 2, 1) := by decide +kernel
theorem dX1_isActive_14 : decode cX1_isActive 14 = .ok (.aload_n 0, 1) := by decide +kernel
theorem dX1_isActive_15 : decode cX1_isActive 15 = .ok (.getfield 26, 3) := by decide +kernel
theorem dX1_isActive_18 : decode cX1_isActive 18 = .ok (.iload_n 1, 1) := by decide +kernel
theorem dX1_isActive_19 : decode cX1_isActive 19 = .ok (.iconst 4, 1) := by decide +kernel
theorem dX1_isActive_20 : decode cX1_isActive 20 = .ok (.invokevirtual 61, 3) := by decide +kernel
theorem dX1_isActive_23 : decode cX1_isActive 23 = .ok (.if_icmp .ge 7, 3) := by decide +kernel
theorem dX1_isActive_26 : decode cX1_isActive 26 = .ok (.iconst 1, 1) := by decide +kernel
theorem dX1_isActive_27 : decode cX1_isActive 27 = .ok (.goto 4, 3) := by decide +kernel
theorem dX1_isActive_30 : decode cX1_isActive 30 = .ok (.iconst 0, 1) := by decide +kernel
theorem dX1_isActive_31 : decode cX1_isActive 31 = .ok (.ireturn, 1) := by decide +kernel
theorem dX1_payment_0 : decode cX1_payment 0 = .ok (.aload_n 0, 1) := by decide +kernel
theorem dX1_payment_1 : decode cX1_payment 1 = .ok (.getfield 20, 3) := by decide +kernel
theorem dX1_payment_4 : decode cX1_payment 4 = .ok (.aload_n 0, 1) := by decide +kernel
theorem dX1_payment_5 : decode cX1_payment 5 = .ok (.getfield 26, 3) := by decide +kernel
theorem dX1_payment_8 : decode cX1_payment 8 = .ok (.iload_n 1, 1) := by decide +kernel
theorem dX1_payment_9 : decode cX1_payment 9 = .ok (.iconst 1, 1) := by decide +kernel
theorem dX1_payment_10 : decode cX1_payment 10 = .ok (.invokevirtual 61, 3) := by decide +kernel
theorem dX1_payment_13 : decode cX1_payment 13 = .ok (.iconst 2, 1) := by decide +kernel
theorem dX1_payment_14 : decode cX1_payment 14 = .ok (.invokevirtual 61, 3) := by decide +kernel
theorem dX1_payment_17 : decode cX1_payment 17 = .ok (.istore_n 2, 1) := by decide +kernel
theorem dX1_payment_18 : decode cX1_payment 18 = .ok (.iload_n 2, 1) := by decide +kernel
theorem dX1_payment_19 : decode cX1_payment 19 = .ok (.bipush 100, 2) := by decide +kernel
theorem dX1_payment_21 : decode cX1_payment 21 = .ok (.aload_n 0, 1) := by decide +kernel
theorem dX1_payment_22 : decode cX1_payment 22 = .ok (.getfield 26, 3) := by decide +kernel
theorem dX1_payment_25 : decode cX1_payment 25 = .ok (.iload_n 1, 1) := by decide +kernel
theorem dX1_payment_26 : decode cX1_payment 26 = .ok (.iconst 5, 1) := by decide +kernel
theorem dX1_payment_27 : decode cX1_payment 27 = .ok (.invokevirtual 61, 3) := by decide +kernel
theorem dX1_payment_30 : decode cX1_payment 30 = .ok (.isub, 1) := by decide +kernel
theorem dX1_payment_31 : decode cX1_payment 31 = .ok (.imul, 1) := by decide +kernel
theorem dX1_payment_32 : decode cX1_payment 32 = .ok (.bipush 100, 2) := by decide +kernel
theorem dX1_payment_34 : decode cX1_payment 34 = .ok (.idiv, 1) := by decide +kernel
theorem dX1_payment_35 : decode cX1_payment 35 = .ok (.istore_n 3, 1) := by decide +kernel
theorem dX1_payment_36 : decode cX1_payment 36 = .ok (.aload_n 0, 1) := by decide +kernel
theorem dX1_payment_37 : decode cX1_payment 37 = .ok (.getfield 26, 3) := by decide +kernel
theorem dX1_payment_40 : decode cX1_payment 40 = .ok (.iload_n 1, 1) := by decide +kernel
theorem dX1_payment_41 : decode cX1_payment 41 = .ok (.iconst 2, 1) := by decide +kernel
theorem dX1_payment_42 : decode cX1_payment 42 = .ok (.invokevirtual 61, 3) := by decide +kernel
theorem dX1_payment_45 : decode cX1_payment 45 = .ok (.iload_n 3, 1) := by decide +kernel
theorem dX1_payment_46 : decode cX1_payment 46 = .ok (.imul, 1) := by decide +kernel
theorem dX1_payment_47 : decode cX1_payment 47 = .ok (.ireturn, 1) := by decide +kernel
theorem dX9_init_0 : decode cX9_init 0 = .ok (.aload_n 0, 1) := by decide +kernel
theorem dX9_init_1 : decode cX9_init 1 = .ok (.invokespecial 3, 3) := by decide +kernel
theorem dX9_init_4 : decode cX9_init 4 = .ok (.aload_n 0, 1) := by decide +kernel
theorem dX9_init_5 : decode cX9_init 5 = .ok (.sipush 800, 3) := by decide +kernel
theorem dX9_init_8 : decode cX9_init 8 = .ok (.newarray .int, 2) := by decide +kernel
theorem dX9_init_10 : decode cX9_init 10 = .ok (.putfield 9, 3) := by decide +kernel
theorem dX9_init_13 : decode cX9_init 13 = .ok (.aload_n 0, 1) := by decide +kernel
theorem dX9_init_14 : decode cX9_init 14 = .ok (.iconst 0, 1) := by decide +kernel
theorem dX9_init_15 : decode cX9_init 15 = .ok (.putfield 15, 3) := by decide +kernel
theorem dX9_init_18 : decode cX9_init 18 = .ok (.aload_n 0, 1) := by decide +kernel
theorem dX9_init_19 : decode cX9_init 19 = .ok (.bipush 16, 2) := by decide +kernel
theorem dX9_init_21 : decode cX9_init 21 = .ok (.newarray .int, 2) := by decide +kernel
theorem dX9_init_23 : decode cX9_init 23 = .ok (.putfield 19, 3) := by decide +kernel
theorem dX9_init_26 : decode cX9_init 26 = .ok (.return_, 1) := by decide +kernel
theorem dX9_clear_0 : decode cX9_clear 0 = .ok (.aload_n 0, 1) := by decide +kernel
theorem dX9_clear_1 : decode cX9_clear 1 = .ok (.iconst 0, 1) := by decide +kernel
theorem dX9_clear_2 : decode cX9_clear 2 = .ok (.putfield 15, 3) := by decide +kernel
theorem dX9_clear_5 : decode cX9_clear 5 = .ok (.return_, 1) := by decide +kernel
theorem dX9_add_0 : decode cX9_add 0 = .ok (.aload_n 0, 1) := by decide +kernel
theorem dX9_add_1 : decode cX9_add 1 = .ok (.getfield 15, 3) := by decide +kernel
theorem dX9_add_4 : decode cX9_add 4 = .ok (.ifCond .lt 35, 3) := by decide +kernel
theorem dX9_add_7 : decode cX9_add 7 = .ok (.aload_n 0, 1) := by decide +kernel
theorem dX9_add_8 : decode cX9_add 8 = .ok (.getfield 15, 3) := by decide +kernel
theorem dX9_add_11 : decode cX9_add 11 = .ok (.aload_n 0, 1) := by decide +kernel
theorem dX9_add_12 : decode cX9_add 12 = .ok (.getfield 9, 3) := by decide +kernel
theorem dX9_add_15 : decode cX9_add 15 = .ok (.arraylength, 1) := by decide +kernel
theorem dX9_add_16 : decode cX9_add 16 = .ok (.if_icmp .ge 23, 3) := by decide +kernel
theorem dX9_add_19 : decode cX9_add 19 = .ok (.aload_n 0, 1) := by decide +kernel
theorem dX9_add_20 : decode cX9_add 20 = .ok (.getfield 9, 3) := by decide +kernel
theorem dX9_add_23 : decode cX9_add 23 = .ok (.aload_n 0, 1) := by decide +kernel
theorem dX9_add_24 : decode cX9_add 24 = .ok (.getfield 15, 3) := by decide +kernel
theorem dX9_add_27 : decode cX9_add 27 = .ok (.iload_n 1, 1) := by decide +kernel
theorem dX9_add_28 : decode cX9_add 28 = .ok (.iastore, 1) := by decide +kernel
theorem dX9_add_29 : decode cX9_add 29 = .ok (.aload_n 0, 1) := by decide +kernel
theorem dX9_add_30 : decode cX9_add 30 = .ok (.dup, 1) := by decide +kernel
theorem dX9_add_31 : decode cX9_add 31 = .ok (.getfield 15, 3) := by decide +kernel
theorem dX9_add_34 : decode cX9_add 34 = .ok (.iconst 1, 1) := by decide +kernel
theorem dX9_add_35 : decode cX9_add 35 = .ok (.iadd, 1) := by decide +kernel
theorem dX9_add_36 : decode cX9_add 36 = .ok (.putfield 15, 3) := by decide +kernel
theorem dX9_add_39 : decode cX9_add 39 = .ok (.return_, 1) := by decide +kernel
theorem dX1_reset_0 : decode cX1_reset 0 = .ok (.aload_n 0, 1) := by decide +kernel
theorem dX1_reset_1 : decode cX1_reset 1 = .ok (.getfield 14, 3) := by decide +kernel
theorem dX1_reset_4 : decode cX1_reset 4 = .ok (.invokevirtual 42, 3) := by decide +kernel
theorem dX1_reset_7 : decode cX1_reset 7 = .ok (.aload_n 0, 1) := by decide +kernel
theorem dX1_reset_8 : decode cX1_reset 8 = .ok (.getfield 20, 3) := by decide +kernel
theorem dX1_reset_11 : decode cX1_reset 11 = .ok (.invokevirtual 42, 3) := by decide +kernel
theorem dX1_reset_14 : decode cX1_reset 14 = .ok (.aload_n 0, 1) := by decide +kernel
theorem dX1_reset_15 : decode cX1_reset 15 = .ok (.getfield 23, 3) := by decide +kernel
theorem dX1_reset_18 : decode cX1_reset 18 = .ok (.invokevirtual 42, 3) := by decide +kernel
theorem dX1_reset_21 : decode cX1_reset 21 = .ok (.aload_n 0, 1) := by decide +kernel
theorem dX1_reset_22 : decode cX1_reset 22 = .ok (.getfield 26, 3) := by decide +kernel
theorem dX1_reset_25 : decode cX1_reset 25 = .ok (.invokevirtual 42, 3) := by decide +kernel
theorem dX1_reset_28 : decode cX1_reset 28 = .ok (.aload_n 0, 1) := by decide +kernel
theorem dX1_reset_29 : decode cX1_reset 29 = .ok (.getfield 29, 3) := by decide +kernel
theorem dX1_reset_32 : decode cX1_reset 32 = .ok (.invokevirtual 42, 3) := by decide +kernel
theorem dX1_reset_35 : decode cX1_reset 35 = .ok (.aload_n 0, 1) := by decide +kernel
theorem dX1_reset_36 : decode cX1_reset 36 = .ok (.getfield 29, 3) := by decide +kernel
theorem dX1_reset_39 : decode cX1_reset 39 = .ok (.iconst 0, 1) := by decide +kernel
theorem dX1_reset_40 : decode cX1_reset 40 = .ok (.iconst 0, 1) := by decide +kernel
theorem dX1_reset_41 : decode cX1_reset 41 = .ok (.bipush 20, 2) := by decide +kernel
theorem dX1_reset_43 : decode cX1_reset 43 = .ok (.invokevirtual 45, 3) := by decide +kernel
theorem dX1_reset_46 : decode cX1_reset 46 = .ok (.aload_n 0, 1) := by decide +kernel
theorem dX1_reset_47 : decode cX1_reset 47 = .ok (.getfield 29, 3) := by decide +kernel
theorem dX1_reset_50 : decode cX1_reset 50 = .ok (.iconst 0, 1) := by decide +kernel
theorem dX1_reset_51 : decode cX1_reset 51 = .ok (.iconst 1, 1) := by decide +kernel
theorem dX1_reset_52 : decode cX1_reset 52 = .ok (.iconst 2, 1) := by decide +kernel
theorem dX1_reset_53 : decode cX1_reset 53 = .ok (.invokevirtual 45, 3) := by decide +kernel
theorem dX1_reset_56 : decode cX1_reset 56 = .ok (.aload_n 0, 1) := by decide +kernel
theorem dX1_reset_57 : decode cX1_reset 57 = .ok (.getfield 29, 3) := by decide +kernel
theorem dX1_reset_60 : decode cX1_reset 60 = .ok (.iconst 0, 1) := by decide +kernel
theorem dX1_reset_61 : decode cX1_reset 61 = .ok (.iconst 2, 1) := by decide +kernel
theorem dX1_reset_62 : decode cX1_reset 62 = .ok (.bipush 100, 2) := by decide +kernel
theorem dX1_reset_64 : decode cX1_reset 64 = .ok (.invokevirtual 45, 3) := by decide +kernel
theorem dX1_reset_67 : decode cX1_reset 67 = .ok (.aload_n 0, 1) := by decide +kernel
theorem dX1_reset_68 : decode cX1_reset 68 = .ok (.getfield 35, 3) := by decide +kernel
theorem dX1_reset_71 : decode cX1_reset 71 = .ok (.invokevirtual 49, 3) := by decide +kernel
theorem dX1_reset_74 : decode cX1_reset 74 = .ok (.aload_n 0, 1) := by decide +kernel
theorem dX1_reset_75 : decode cX1_reset 75 = .ok (.getfield 35, 3) := by decide +kernel
theorem dX1_reset_78 : decode cX1_reset 78 = .ok (.bipush (-2), 2) := by decide +kernel
theorem dX1_reset_80 : decode cX1_reset 80 = .ok (.invokevirtual 50, 3) := by decide +kernel
theorem dX1_reset_83 : decode cX1_reset 83 = .ok (.return_, 1) := by decide +kernel
theorem dX1_init_0 : decode cX1_init 0 = .ok (.aload_n 0, 1) := by decide +kernel
theorem dX1_init_1 : decode cX1_init 1 = .ok (.invokespecial 3, 3) := by decide +kernel
theorem dX1_init_4 : decode cX1_init 4 = .ok (.aload_n 0, 1) := by decide +kernel
theorem dX1_init_5 : decode cX1_init 5 = .ok (.new 9, 3) := by decide +kernel
theorem dX1_init_8 : decode cX1_init 8 = .ok (.dup, 1) := by decide +kernel
theorem dX1_init_9 : decode cX1_init 9 = .ok (.bipush 8, 2) := by decide +kernel
theorem dX1_init_11 : decode cX1_init 11 = .ok (.iconst 2, 1) := by decide +kernel
theorem dX1_init_12 : decode cX1_init 12 = .ok (.invokespecial 11, 3) := by decide +kernel
theorem dX1_init_15 : decode cX1_init 15 = .ok (.putfield 14, 3) := by decide +kernel
theorem dX1_init_18 : decode cX1_init 18 = .ok (.aload_n 0, 1) := by decide +kernel
theorem dX1_init_19 : decode cX1_init 19 = .ok (.new 9, 3) := by decide +kernel
theorem dX1_init_22 : decode cX1_init 22 = .ok (.dup, 1) := by decide +kernel
theorem dX1_init_23 : decode cX1_init 23 = .ok (.bipush 6, 2) := by decide +kernel
theorem dX1_init_25 : decode cX1_init 25 = .ok (.iconst 3, 1) := by decide +kernel
theorem dX1_init_26 : decode cX1_init 26 = .ok (.invokespecial 11, 3) := by decide +kernel
theorem dX1_init_29 : decode cX1_init 29 = .ok (.putfield 20, 3) := by decide +kernel
theorem dX1_init_32 : decode cX1_init 32 = .ok (.aload_n 0, 1) := by decide +kernel
theorem dX1_init_33 : decode cX1_init 33 = .ok (.new 9, 3) := by decide +kernel
theorem dX1_init_36 : decode cX1_init 36 = .ok (.dup, 1) := by decide +kernel
theorem dX1_init_37 : decode cX1_init 37 = .ok (.bipush 6, 2) := by decide +kernel
theorem dX1_init_39 : decode cX1_init 39 = .ok (.iconst 1, 1) := by decide +kernel
theorem dX1_init_40 : decode cX1_init 40 = .ok (.invokespecial 11, 3) := by decide +kernel
theorem dX1_init_43 : decode cX1_init 43 = .ok (.putfield 23, 3) := by decide +kernel
theorem dX1_init_46 : decode cX1_init 46 = .ok (.aload_n 0, 1) := by decide +kernel
theorem dX1_init_47 : decode cX1_init 47 = .ok (.new 9, 3) := by decide +kernel
theorem dX1_init_50 : decode cX1_init 50 = .ok (.dup, 1) := by decide +kernel
theorem dX1_init_51 : decode cX1_init 51 = .ok (.bipush 8, 2) := by decide +kernel
theorem dX1_init_53 : decode cX1_init 53 = .ok (.bipush 6, 2) := by decide +kernel
theorem dX1_init_55 : decode cX1_init 55 = .ok (.invokespecial 11, 3) := by decide +kernel
theorem dX1_init_58 : decode cX1_init 58 = .ok (.putfield 26, 3) := by decide +kernel
theorem dX1_init_61 : decode cX1_init 61 = .ok (.aload_n 0, 1) := by decide +kernel
theorem dX1_init_62 : decode cX1_init 62 = .ok (.new 9, 3) := by decide +kernel
theorem dX1_init_65 : decode cX1_init 65 = .ok (.dup, 1) := by decide +kernel
theorem dX1_init_66 : decode cX1_init 66 = .ok (.iconst 1, 1) := by decide +kernel
theorem dX1_init_67 : decode cX1_init 67 = .ok (.iconst 3, 1) := by decide +kernel
theorem dX1_init_68 : decode cX1_init 68 = .ok (.invokespecial 11, 3) := by decide +kernel
theorem dX1_init_71 : decode cX1_init 71 = .ok (.putfield 29, 3) := by decide +kernel
theorem dX1_init_74 : decode cX1_init 74 = .ok (.aload_n 0, 1) := by decide +kernel
theorem dX1_init_75 : decode cX1_init 75 = .ok (.new 32, 3) := by decide +kernel
theorem dX1_init_78 : decode cX1_init 78 = .ok (.dup, 1) := by decide +kernel
theorem dX1_init_79 : decode cX1_init 79 = .ok (.invokespecial 34, 3) := by decide +kernel
theorem dX1_init_82 : decode cX1_init 82 = .ok (.putfield 35, 3) := by decide +kernel
theorem dX1_init_85 : decode cX1_init 85 = .ok (.aload_n 0, 1) := by decide +kernel
theorem dX1_init_86 : decode cX1_init 86 = .ok (.invokevirtual 39, 3) := by decide +kernel
theorem dX1_init_89 : decode cX1_init 89 = .ok (.return_, 1) := by decide +kernel
theorem dX9_copyFrom_0 : decode cX9_copyFrom 0 = .ok (.aload_n 0, 1) := by decide +kernel
theorem dX9_copyFrom_1 : decode cX9_copyFrom 1 = .ok (.getfield 9, 3) := by decide +kernel
theorem dX9_copyFrom_4 : decode cX9_copyFrom 4 = .ok (.arraylength, 1) := by decide +kernel
theorem dX9_copyFrom_5 : decode cX9_copyFrom 5 = .ok (.aload_n 1, 1) := by decide +kernel
theorem dX9_copyFrom_6 : decode cX9_copyFrom 6 = .ok (.getfield 9, 3) := by decide +kernel
theorem dX9_copyFrom_9 : decode cX9_copyFrom 9 = .ok (.arraylength, 1) := by decide +kernel
theorem dX9_copyFrom_10 : decode cX9_copyFrom 10 = .ok (.invokestatic 22, 3) := by decide +kernel
theorem dX9_copyFrom_13 : decode cX9_copyFrom 13 = .ok (.istore_n 2, 1) := by decide +kernel
theorem dX9_copyFrom_14 : decode cX9_copyFrom 14 = .ok (.aload_n 0, 1) := by decide +kernel
theorem dX9_copyFrom_15 : decode cX9_copyFrom 15 = .ok (.iconst 0, 1) := by decide +kernel
theorem dX9_copyFrom_16 : decode cX9_copyFrom 16 = .ok (.aload_n 1, 1) := by decide +kernel
theorem dX9_copyFrom_17 : decode cX9_copyFrom 17 = .ok (.getfield 15, 3) := by decide +kernel
theorem dX9_copyFrom_20 : decode cX9_copyFrom 20 = .ok (.iload_n 2, 1) := by decide +kernel
theorem dX9_copyFrom_21 : decode cX9_copyFrom 21 = .ok (.invokestatic 22, 3) := by decide +kernel
theorem dX9_copyFrom_24 : decode cX9_copyFrom 24 = .ok (.invokestatic 28, 3) := by decide +kernel
theorem dX9_copyFrom_27 : decode cX9_copyFrom 27 = .ok (.putfield 15, 3) := by decide +kernel
theorem dX9_copyFrom_30 : decode cX9_copyFrom 30 = .ok (.aload_n 1, 1) := by decide +kernel
theorem dX9_copyFrom_31 : decode cX9_copyFrom 31 = .ok (.getfield 9, 3) := by decide +kernel
theorem dX9_copyFrom_34 : decode cX9_copyFrom 34 = .ok (.iconst 0, 1) := by decide +kernel
theorem dX9_copyFrom_35 : decode cX9_copyFrom 35 = .ok (.aload_n 0, 1) := by decide +kernel
theorem dX9_copyFrom_36 : decode cX9_copyFrom 36 = .ok (.getfield 9, 3) := by decide +kernel
theorem dX9_copyFrom_39 : decode cX9_copyFrom 39 = .ok (.iconst 0, 1) := by decide +kernel
theorem dX9_copyFrom_40 : decode cX9_copyFrom 40 = .ok (.aload_n 0, 1) := by decide +kernel
theorem dX9_copyFrom_41 : decode cX9_copyFrom 41 = .ok (.getfield 15, 3) := by decide +kernel
theorem dX9_copyFrom_44 : decode cX9_copyFrom 44 = .ok (.invokestatic 31, 3) := by decide +kernel
theorem dX9_copyFrom_47 : decode cX9_copyFrom 47 = .ok (.return_, 1) := by decide +kernel
theorem dX1_copyFrom_0 : decode cX1_copyFrom 0 = .ok (.aload_n 0, 1) := by decide +kernel
theorem dX1_copyFrom_1 : decode cX1_copyFrom 1 = .ok (.getfield 14, 3) := by decide +kernel
theorem dX1_copyFrom_4 : decode cX1_copyFrom 4 = .ok (.aload_n 1, 1) := by decide +kernel
theorem dX1_copyFrom_5 : decode cX1_copyFrom 5 = .ok (.getfield 14, 3) := by decide +kernel
theorem dX1_copyFrom_8 : decode cX1_copyFrom 8 = .ok (.invokevirtual 54, 3) := by decide +kernel
theorem dX1_copyFrom_11 : decode cX1_copyFrom 11 = .ok (.aload_n 0, 1) := by decide +kernel
theorem dX1_copyFrom_12 : decode cX1_copyFrom 12 = .ok (.getfield 20, 3) := by decide +kernel
theorem dX1_copyFrom_15 : decode cX1_copyFrom 15 = .ok (.aload_n 1, 1) := by decide +kernel
theorem dX1_copyFrom_16 : decode cX1_copyFrom 16 = .ok (.getfield 20, 3) := by decide +kernel
theorem dX1_copyFrom_19 : decode cX1_copyFrom 19 = .ok (.invokevirtual 54, 3) := by decide +kernel
theorem dX1_copyFrom_22 : decode cX1_copyFrom 22 = .ok (.aload_n 0, 1) := by decide +kernel
theorem dX1_copyFrom_23 : decode cX1_copyFrom 23 = .ok (.getfield 23, 3) := by decide +kernel
theorem dX1_copyFrom_26 : decode cX1_copyFrom 26 = .ok (.aload_n 1, 1) := by decide +kernel
theorem dX1_copyFrom_27 : decode cX1_copyFrom 27 = .ok (.getfield 23, 3) := by decide +kernel
theorem dX1_copyFrom_30 : decode cX1_copyFrom 30 = .ok (.invokevirtual 54, 3) := by decide +kernel
theorem dX1_copyFrom_33 : decode cX1_copyFrom 33 = .ok (.aload_n 0, 1) := by decide +kernel
theorem dX1_copyFrom_34 : decode cX1_copyFrom 34 = .ok (.getfield 26, 3) := by decide +kernel
theorem dX1_copyFrom_37 : decode cX1_copyFrom 37 = .ok (.aload_n 1, 1) := by decide +kernel
theorem dX1_copyFrom_38 : decode cX1_copyFrom 38 = .ok (.getfield 26, 3) := by decide +kernel
theorem dX1_copyFrom_41 : decode cX1_copyFrom 41 = .ok (.invokevirtual 54, 3) := by decide +kernel
theorem dX1_copyFrom_44 : decode cX1_copyFrom 44 = .ok (.aload_n 0, 1) := by decide +kernel
theorem dX1_copyFrom_45 : decode cX1_copyFrom 45 = .ok (.getfield 29, 3) := by decide +kernel
theorem dX1_copyFrom_48 : decode cX1_copyFrom 48 = .ok (.aload_n 1, 1) := by decide +kernel
theorem dX1_copyFrom_49 : decode cX1_copyFrom 49 = .ok (.getfield 29, 3) := by decide +kernel
theorem dX1_copyFrom_52 : decode cX1_copyFrom 52 = .ok (.invokevirtual 54, 3) := by decide +kernel
theorem dX1_copyFrom_55 : decode cX1_copyFrom 55 = .ok (.aload_n 0, 1) := by decide +kernel
theorem dX1_copyFrom_56 : decode cX1_copyFrom 56 = .ok (.getfield 35, 3) := by decide +kernel
theorem dX1_copyFrom_59 : decode cX1_copyFrom 59 = .ok (.aload_n 1, 1) := by decide +kernel
theorem dX1_copyFrom_60 : decode cX1_copyFrom 60 = .ok (.getfield 35, 3) := by decide +kernel
theorem dX1_copyFrom_63 : decode cX1_copyFrom 63 = .ok (.invokevirtual 58, 3) := by decide +kernel
theorem dX1_copyFrom_66 : decode cX1_copyFrom 66 = .ok (.return_, 1) := by decide +kernel
theorem dX1_priceAt_0 : decode cX1_priceAt 0 = .ok (.aload_n 0, 1) := by decide +kernel
theorem dX1_priceAt_1 : decode cX1_priceAt 1 = .ok (.getfield 29, 3) := by decide +kernel
theorem dX1_priceAt_4 : decode cX1_priceAt 4 = .ok (.iconst 0, 1) := by decide +kernel
theorem dX1_priceAt_5 : decode cX1_priceAt 5 = .ok (.iconst 0, 1) := by decide +kernel
theorem dX1_priceAt_6 : decode cX1_priceAt 6 = .ok (.invokevirtual 61, 3) := by decide +kernel
theorem dX1_priceAt_9 : decode cX1_priceAt 9 = .ok (.aload_n 0, 1) := by decide +kernel
theorem dX1_priceAt_10 : decode cX1_priceAt 10 = .ok (.getfield 29, 3) := by decide +kernel
theorem dX1_priceAt_13 : decode cX1_priceAt 13 = .ok (.iconst 0, 1) := by decide +kernel
theorem dX1_priceAt_14 : decode cX1_priceAt 14 = .ok (.iconst 2, 1) := by decide +kernel
theorem dX1_priceAt_15 : decode cX1_priceAt 15 = .ok (.invokevirtual 61, 3) := by decide +kernel
theorem dX1_priceAt_18 : decode cX1_priceAt 18 = .ok (.iload_n 2, 1) := by decide +kernel
theorem dX1_priceAt_19 : decode cX1_priceAt 19 = .ok (.imul, 1) := by decide +kernel
theorem dX1_priceAt_20 : decode cX1_priceAt 20 = .ok (.bipush 100, 2) := by decide +kernel
theorem dX1_priceAt_22 : decode cX1_priceAt 22 = .ok (.idiv, 1) := by decide +kernel
theorem dX1_priceAt_23 : decode cX1_priceAt 23 = .ok (.iadd, 1) := by decide +kernel
theorem dX1_priceAt_24 : decode cX1_priceAt 24 = .ok (.istore_n 3, 1) := by decide +kernel
theorem dX1_priceAt_25 : decode cX1_priceAt 25 = .ok (.aload_n 0, 1) := by decide +kernel
theorem dX1_priceAt_26 : decode cX1_priceAt 26 = .ok (.getfield 20, 3) := by decide +kernel
theorem dX1_priceAt_29 : decode cX1_priceAt 29 = .ok (.iload_n 1, 1) := by decide +kernel
theorem dX1_priceAt_30 : decode cX1_priceAt 30 = .ok (.iconst 2, 1) := by decide +kernel
theorem dX1_priceAt_31 : decode cX1_priceAt 31 = .ok (.invokevirtual 61, 3) := by decide +kernel
theorem dX1_priceAt_34 : decode cX1_priceAt 34 = .ok (.istore 4, 2) := by decide +kernel
theorem dX1_priceAt_36 : decode cX1_priceAt 36 = .ok (.iload 4, 2) := by decide +kernel
theorem dX1_priceAt_38 : decode cX1_priceAt 38 = .ok (.iload 4, 2) := by decide +kernel
theorem dX1_priceAt_40 : decode cX1_priceAt 40 = .ok (.iload_n 3, 1) := by decide +kernel
theorem dX1_priceAt_41 : decode cX1_priceAt 41 = .ok (.imul, 1) := by decide +kernel
theorem dX1_priceAt_42 : decode cX1_priceAt 42 = .ok (.bipush 100, 2) := by decide +kernel
theorem dX1_priceAt_44 : decode cX1_priceAt 44 = .ok (.idiv, 1) := by decide +kernel
theorem dX1_priceAt_45 : decode cX1_priceAt 45 = .ok (.invokestatic 65, 3) := by decide +kernel
theorem dX1_priceAt_48 : decode cX1_priceAt 48 = .ok (.ireturn, 1) := by decide +kernel
theorem dX1_reserved_0 : decode cX1_reserved 0 = .ok (.iconst 0, 1) := by decide +kernel
theorem dX1_reserved_1 : decode cX1_reserved 1 = .ok (.istore 4, 2) := by decide +kernel
theorem dX1_reserved_3 : decode cX1_reserved 3 = .ok (.iconst 0, 1) := by decide +kernel
theorem dX1_reserved_4 : decode cX1_reserved 4 = .ok (.istore 5, 2) := by decide +kernel
theorem dX1_reserved_6 : decode cX1_reserved 6 = .ok (.iload 5, 2) := by decide +kernel
theorem dX1_reserved_8 : decode cX1_reserved 8 = .ok (.aload_n 0, 1) := by decide +kernel
theorem dX1_reserved_9 : decode cX1_reserved 9 = .ok (.getfield 26, 3) := by decide +kernel
theorem dX1_reserved_12 : decode cX1_reserved 12 = .ok (.getfield 70, 3) := by decide +kernel
theorem dX1_reserved_15 : decode cX1_reserved 15 = .ok (.if_icmp .ge 74, 3) := by decide +kernel
theorem dX1_reserved_18 : decode cX1_reserved 18 = .ok (.aload_n 0, 1) := by decide +kernel
theorem dX1_reserved_19 : decode cX1_reserved 19 = .ok (.getfield 26, 3) := by decide +kernel
theorem dX1_reserved_22 : decode cX1_reserved 22 = .ok (.iload 5, 2) := by decide +kernel
theorem dX1_reserved_24 : decode cX1_reserved 24 = .ok (.iconst 0, 1) := by decide +kernel
theorem dX1_reserved_25 : decode cX1_reserved 25 = .ok (.invokevirtual 61, 3) := by decide +kernel
theorem dX1_reserved_28 : decode cX1_reserved 28 = .ok (.iload_n 1, 1) := by decide +kernel
theorem dX1_reserved_29 : decode cX1_reserved 29 = .ok (.if_icmp .ne 21, 3) := by decide +kernel
theorem dX1_reserved_32 : decode cX1_reserved 32 = .ok (.aload_n 0, 1) := by decide +kernel
theorem dX1_reserved_33 : decode cX1_reserved 33 = .ok (.getfield 26, 3) := by decide +kernel
theorem dX1_reserved_36 : decode cX1_reserved 36 = .ok (.iload 5, 2) := by decide +kernel
theorem dX1_reserved_38 : decode cX1_reserved 38 = .ok (.iconst 1, 1) := by decide +kernel
theorem dX1_reserved_39 : decode cX1_reserved 39 = .ok (.invokevirtual 61, 3) := by decide +kernel
theorem dX1_reserved_42 : decode cX1_reserved 42 = .ok (.iload_n 2, 1) := by decide +kernel
theorem dX1_reserved_43 : decode cX1_reserved 43 = .ok (.if_icmp .ne 7, 3) := by decide +kernel
theorem dX1_reserved_46 : decode cX1_reserved 46 = .ok (.iconst 1, 1) := by decide +kernel
theorem dX1_reserved_47 : decode cX1_reserved 47 = .ok (.goto 4, 3) := by decide +kernel
theorem dX1_reserved_50 : decode cX1_reserved 50 = .ok (.iconst 0, 1) := by decide +kernel
theorem dX1_reserved_51 : decode cX1_reserved 51 = .ok (.istore 6, 2) := by decide +kernel
theorem dX1_reserved_53 : decode cX1_reserved 53 = .ok (.iload 6, 2) := by decide +kernel
theorem dX1_reserved_55 : decode cX1_reserved 55 = .ok (.ifCond .eq 28, 3) := by decide +kernel
theorem dX1_reserved_58 : decode cX1_reserved 58 = .ok (.aload_n 0, 1) := by decide +kernel
theorem dX1_reserved_59 : decode cX1_reserved 59 = .ok (.iload 5, 2) := by decide +kernel
theorem dX1_reserved_61 : decode cX1_reserved 61 = .ok (.iload_n 3, 1) := by decide +kernel
theorem dX1_reserved_62 : decode cX1_reserved 62 = .ok (.invokevirtual 74, 3) := by decide +kernel
theorem dX1_reserved_65 : decode cX1_reserved 65 = .ok (.ifCond .eq 18, 3) := by decide +kernel
theorem dX1_reserved_68 : decode cX1_reserved 68 = .ok (.iload 4, 2) := by decide +kernel
theorem dX1_reserved_70 : decode cX1_reserved 70 = .ok (.aload_n 0, 1) := by decide +kernel
theorem dX1_reserved_71 : decode cX1_reserved 71 = .ok (.getfield 26, 3) := by decide +kernel
theorem dX1_reserved_74 : decode cX1_reserved 74 = .ok (.iload 5, 2) := by decide +kernel
theorem dX1_reserved_76 : decode cX1_reserved 76 = .ok (.iconst 2, 1) := by decide +kernel
theorem dX1_reserved_77 : decode cX1_reserved 77 = .ok (.invokevirtual 61, 3) := by decide +kernel
theorem dX1_reserved_80 : decode cX1_reserved 80 = .ok (.iadd, 1) := by decide +kernel
theorem dX1_reserved_81 : decode cX1_reserved 81 = .ok (.istore 4, 2) := by decide +kernel
theorem dX1_reserved_83 : decode cX1_reserved 83 = .ok (.iinc 5 1, 3) := by decide +kernel
theorem dX1_reserved_86 : decode cX1_reserved 86 = .ok (.goto (-80), 3) := by decide +kernel
theorem dX1_reserved_89 : decode cX1_reserved 89 = .ok (.iload 4, 2) := by decide +kernel
theorem dX1_reserved_91 : decode cX1_reserved 91 = .ok (.ireturn, 1) := by decide +kernel
theorem dX9_apply_0 : decode cX9_apply 0 = .ok (.iload_n 0, 1) := by decide +kernel
theorem dX9_apply_1 : decode cX9_apply 1 = .ok (.tableswitch 43 42 45 #[39, 31, 43, 35], 31) := by decide +kernel
theorem dX9_apply_32 : decode cX9_apply 32 = .ok (.iload_n 1, 1) := by decide +kernel
theorem dX9_apply_33 : decode cX9_apply 33 = .ok (.iload_n 2, 1) := by decide +kernel
theorem dX9_apply_34 : decode cX9_apply 34 = .ok (.iadd, 1) := by decide +kernel
theorem dX9_apply_35 : decode cX9_apply 35 = .ok (.ireturn, 1) := by decide +kernel
theorem dX9_apply_36 : decode cX9_apply 36 = .ok (.iload_n 1, 1) := by decide +kernel
theorem dX9_apply_37 : decode cX9_apply 37 = .ok (.iload_n 2, 1) := by decide +kernel
theorem dX9_apply_38 : decode cX9_apply 38 = .ok (.isub, 1) := by decide +kernel
theorem dX9_apply_39 : decode cX9_apply 39 = .ok (.ireturn, 1) := by decide +kernel
theorem dX9_apply_40 : decode cX9_apply 40 = .ok (.iload_n 1, 1) := by decide +kernel
theorem dX9_apply_41 : decode cX9_apply 41 = .ok (.iload_n 2, 1) := by decide +kernel
theorem dX9_apply_42 : decode cX9_apply 42 = .ok (.imul, 1) := by decide +kernel
theorem dX9_apply_43 : decode cX9_apply 43 = .ok (.ireturn, 1) := by decide +kernel
theorem dX9_apply_44 : decode cX9_apply 44 = .ok (.iload_n 2, 1) := by decide +kernel
theorem dX9_apply_45 : decode cX9_apply 45 = .ok (.ifCond .ne 7, 3) := by decide +kernel
theorem dX9_apply_48 : decode cX9_apply 48 = .ok (.iconst 0, 1) := by decide +kernel
theorem dX9_apply_49 : decode cX9_apply 49 = .ok (.goto 6, 3) := by decide +kernel
theorem dX9_apply_52 : decode cX9_apply 52 = .ok (.iload_n 1, 1) := by decide +kernel
theorem dX9_apply_53 : decode cX9_apply 53 = .ok (.iload_n 2, 1) := by decide +kernel
theorem dX9_apply_54 : decode cX9_apply 54 = .ok (.idiv, 1) := by decide +kernel
theorem dX9_apply_55 : decode cX9_apply 55 = .ok (.ireturn, 1) := by decide +kernel
theorem dX9_operand_0 : decode cX9_operand 0 = .ok (.iload_n 0, 1) := by decide +kernel
theorem dX9_operand_1 : decode cX9_operand 1 = .ok (.tableswitch 54 (-4) (-1) #[52, 45, 38, 31], 31) := by decide +kernel
theorem dX9_operand_32 : decode cX9_operand 32 = .ok (.aload_n 1, 1) := by decide +kernel
theorem dX9_operand_33 : decode cX9_operand 33 = .ok (.iload_n 2, 1) := by decide +kernel
theorem dX9_operand_34 : decode cX9_operand 34 = .ok (.iconst 0, 1) := by decide +kernel
theorem dX9_operand_35 : decode cX9_operand 35 = .ok (.invokevirtual 45, 3) := by decide +kernel
theorem dX9_operand_38 : decode cX9_operand 38 = .ok (.ireturn, 1) := by decide +kernel
theorem dX9_operand_39 : decode cX9_operand 39 = .ok (.aload_n 1, 1) := by decide +kernel
theorem dX9_operand_40 : decode cX9_operand 40 = .ok (.iload_n 2, 1) := by decide +kernel
theorem dX9_operand_41 : decode cX9_operand 41 = .ok (.iconst 1, 1) := by decide +kernel
theorem dX9_operand_42 : decode cX9_operand 42 = .ok (.invokevirtual 45, 3) := by decide +kernel
theorem dX9_operand_45 : decode cX9_operand 45 = .ok (.ireturn, 1) := by decide +kernel
theorem dX9_operand_46 : decode cX9_operand 46 = .ok (.aload_n 1, 1) := by decide +kernel
theorem dX9_operand_47 : decode cX9_operand 47 = .ok (.iload_n 2, 1) := by decide +kernel
theorem dX9_operand_48 : decode cX9_operand 48 = .ok (.iconst 2, 1) := by decide +kernel
theorem dX9_operand_49 : decode cX9_operand 49 = .ok (.invokevirtual 45, 3) := by decide +kernel
theorem dX9_operand_52 : decode cX9_operand 52 = .ok (.ireturn, 1) := by decide +kernel
theorem dX9_operand_53 : decode cX9_operand 53 = .ok (.iload_n 3, 1) := by decide +kernel
theorem dX9_operand_54 : decode cX9_operand 54 = .ok (.ireturn, 1) := by decide +kernel
theorem dX9_operand_55 : decode cX9_operand 55 = .ok (.iload_n 0, 1) := by decide +kernel
theorem dX9_operand_56 : decode cX9_operand 56 = .ok (.ireturn, 1) := by decide +kernel
theorem dX9_value_0 : decode cX9_value 0 = .ok (.iconst 0, 1) := by decide +kernel
theorem dX9_value_1 : decode cX9_value 1 = .ok (.istore 4, 2) := by decide +kernel
theorem dX9_value_3 : decode cX9_value 3 = .ok (.iconst 0, 1) := by decide +kernel
theorem dX9_value_4 : decode cX9_value 4 = .ok (.istore 5, 2) := by decide +kernel
theorem dX9_value_6 : decode cX9_value 6 = .ok (.iload 5, 2) := by decide +kernel
theorem dX9_value_8 : decode cX9_value 8 = .ok (.aload_n 0, 1) := by decide +kernel
theorem dX9_value_9 : decode cX9_value 9 = .ok (.getfield 15, 3) := by decide +kernel
theorem dX9_value_12 : decode cX9_value 12 = .ok (.if_icmp .ge 118, 3) := by decide +kernel
theorem dX9_value_15 : decode cX9_value 15 = .ok (.iload 5, 2) := by decide +kernel
theorem dX9_value_17 : decode cX9_value 17 = .ok (.aload_n 0, 1) := by decide +kernel
theorem dX9_value_18 : decode cX9_value 18 = .ok (.getfield 9, 3) := by decide +kernel
theorem dX9_value_21 : decode cX9_value 21 = .ok (.arraylength, 1) := by decide +kernel
theorem dX9_value_22 : decode cX9_value 22 = .ok (.if_icmp .ge 108, 3) := by decide +kernel
theorem dX9_value_25 : decode cX9_value 25 = .ok (.aload_n 0, 1) := by decide +kernel
theorem dX9_value_26 : decode cX9_value 26 = .ok (.getfield 9, 3) := by decide +kernel
theorem dX9_value_29 : decode cX9_value 29 = .ok (.iload 5, 2) := by decide +kernel
theorem dX9_value_31 : decode cX9_value 31 = .ok (.iaload, 1) := by decide +kernel
theorem dX9_value_32 : decode cX9_value 32 = .ok (.istore 6, 2) := by decide +kernel
theorem dX9_value_34 : decode cX9_value 34 = .ok (.iload 6, 2) := by decide +kernel
theorem dX9_value_36 : decode cX9_value 36 = .ok (.bipush (-4), 2) := by decide +kernel
theorem dX9_value_38 : decode cX9_value 38 = .ok (.if_icmp .ge 58, 3) := by decide +kernel
theorem dX9_value_41 : decode cX9_value 41 = .ok (.iload 4, 2) := by decide +kernel
theorem dX9_value_43 : decode cX9_value 43 = .ok (.iconst 2, 1) := by decide +kernel
theorem dX9_value_44 : decode cX9_value 44 = .ok (.if_icmp .lt 80, 3) := by decide +kernel
theorem dX9_value_47 : decode cX9_value 47 = .ok (.iload 4, 2) := by decide +kernel
theorem dX9_value_49 : decode cX9_value 49 = .ok (.aload_n 0, 1) := by decide +kernel
theorem dX9_value_50 : decode cX9_value 50 = .ok (.getfield 19, 3) := by decide +kernel
theorem dX9_value_53 : decode cX9_value 53 = .ok (.arraylength, 1) := by decide +kernel
theorem dX9_value_54 : decode cX9_value 54 = .ok (.if_icmp .gt 70, 3) := by decide +kernel
theorem dX9_value_57 : decode cX9_value 57 = .ok (.aload_n 0, 1) := by decide +kernel
theorem dX9_value_58 : decode cX9_value 58 = .ok (.getfield 19, 3) := by decide +kernel
theorem dX9_value_61 : decode cX9_value 61 = .ok (.iload 4, 2) := by decide +kernel
theorem dX9_value_63 : decode cX9_value 63 = .ok (.iconst 2, 1) := by decide +kernel
theorem dX9_value_64 : decode cX9_value 64 = .ok (.isub, 1) := by decide +kernel
theorem dX9_value_65 : decode cX9_value 65 = .ok (.iload 6, 2) := by decide +kernel
theorem dX9_value_67 : decode cX9_value 67 = .ok (.ineg, 1) := by decide +kernel
theorem dX9_value_68 : decode cX9_value 68 = .ok (.aload_n 0, 1) := by decide +kernel
theorem dX9_value_69 : decode cX9_value 69 = .ok (.getfield 19, 3) := by decide +kernel
theorem dX9_value_72 : decode cX9_value 72 = .ok (.iload 4, 2) := by decide +kernel
theorem dX9_value_74 : decode cX9_value 74 = .ok (.iconst 2, 1) := by decide +kernel
theorem dX9_value_75 : decode cX9_value 75 = .ok (.isub, 1) := by decide +kernel
theorem dX9_value_76 : decode cX9_value 76 = .ok (.iaload, 1) := by decide +kernel
theorem dX9_value_77 : decode cX9_value 77 = .ok (.aload_n 0, 1) := by decide +kernel
theorem dX9_value_78 : decode cX9_value 78 = .ok (.getfield 19, 3) := by decide +kernel
theorem dX9_value_81 : decode cX9_value 81 = .ok (.iload 4, 2) := by decide +kernel
theorem dX9_value_83 : decode cX9_value 83 = .ok (.iconst 1, 1) := by decide +kernel
theorem dX9_value_84 : decode cX9_value 84 = .ok (.isub, 1) := by decide +kernel
theorem dX9_value_85 : decode cX9_value 85 = .ok (.iaload, 1) := by decide +kernel
theorem dX9_value_86 : decode cX9_value 86 = .ok (.invokestatic 37, 3) := by decide +kernel
theorem dX9_value_89 : decode cX9_value 89 = .ok (.iastore, 1) := by decide +kernel
theorem dX9_value_90 : decode cX9_value 90 = .ok (.iinc 4 (-1), 3) := by decide +kernel
theorem dX9_value_93 : decode cX9_value 93 = .ok (.goto 31, 3) := by decide +kernel
theorem dX9_value_96 : decode cX9_value 96 = .ok (.iload 4, 2) := by decide +kernel
theorem dX9_value_98 : decode cX9_value 98 = .ok (.aload_n 0, 1) := by decide +kernel
theorem dX9_value_99 : decode cX9_value 99 = .ok (.getfield 19, 3) := by decide +kernel
theorem dX9_value_102 : decode cX9_value 102 = .ok (.arraylength, 1) := by decide +kernel
theorem dX9_value_103 : decode cX9_value 103 = .ok (.if_icmp .ge 21, 3) := by decide +kernel
theorem dX9_value_106 : decode cX9_value 106 = .ok (.aload_n 0, 1) := by decide +kernel
theorem dX9_value_107 : decode cX9_value 107 = .ok (.getfield 19, 3) := by decide +kernel
theorem dX9_value_110 : decode cX9_value 110 = .ok (.iload 4, 2) := by decide +kernel
theorem dX9_value_112 : decode cX9_value 112 = .ok (.iload 6, 2) := by decide +kernel
theorem dX9_value_114 : decode cX9_value 114 = .ok (.aload_n 1, 1) := by decide +kernel
theorem dX9_value_115 : decode cX9_value 115 = .ok (.iload_n 2, 1) := by decide +kernel
theorem dX9_value_116 : decode cX9_value 116 = .ok (.iload_n 3, 1) := by decide +kernel
theorem dX9_value_117 : decode cX9_value 117 = .ok (.invokestatic 41, 3) := by decide +kernel
theorem dX9_value_120 : decode cX9_value 120 = .ok (.iastore, 1) := by decide +kernel
theorem dX9_value_121 : decode cX9_value 121 = .ok (.iinc 4 1, 3) := by decide +kernel
theorem dX9_value_124 : decode cX9_value 124 = .ok (.iinc 5 1, 3) := by decide +kernel
theorem dX9_value_127 : decode cX9_value 127 = .ok (.goto (-121), 3) := by decide +kernel
theorem dX9_value_130 : decode cX9_value 130 = .ok (.iload 4, 2) := by decide +kernel
theorem dX9_value_132 : decode cX9_value 132 = .ok (.iconst 1, 1) := by decide +kernel
theorem dX9_value_133 : decode cX9_value 133 = .ok (.if_icmp .ne 12, 3) := by decide +kernel
theorem dX9_value_136 : decode cX9_value 136 = .ok (.aload_n 0, 1) := by decide +kernel
theorem dX9_value_137 : decode cX9_value 137 = .ok (.getfield 19, 3) := by decide +kernel
theorem dX9_value_140 : decode cX9_value 140 = .ok (.iconst 0, 1) := by decide +kernel
theorem dX9_value_141 : decode cX9_value 141 = .ok (.iaload, 1) := by decide +kernel
theorem dX9_value_142 : decode cX9_value 142 = .ok (.goto 4, 3) := by decide +kernel
theorem dX9_value_145 : decode cX9_value 145 = .ok (.iconst 0, 1) := by decide +kernel
theorem dX9_value_146 : decode cX9_value 146 = .ok (.ireturn, 1) := by decide +kernel
