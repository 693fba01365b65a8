theorem dX10_init_0 : decode cX10_init 0 = .ok (.aload_n 0, 1) := by decide +kernel
theorem dX10_init_1 : decode cX10_init 1 = .ok (.invokespecial 1, 3) := by decide +kernel
theorem dX10_init_4 : decode cX10_init 4 = .ok (.aload_n 0, 1) := by decide +kernel
theorem dX10_init_5 : decode cX10_init 5 = .ok (.iconst 0, 1) := by decide +kernel
theorem dX10_init_6 : decode cX10_init 6 = .ok (.putfield 7, 3) := by decide +kernel
theorem dX10_init_9 : decode cX10_init 9 = .ok (.aload_n 0, 1) := by decide +kernel
theorem dX10_init_10 : decode cX10_init 10 = .ok (.iconst 0, 1) := by decide +kernel
theorem dX10_init_11 : decode cX10_init 11 = .ok (.iload_n 1, 1) := by decide +kernel
theorem dX10_init_12 : decode cX10_init 12 = .ok (.sipush 1000, 3) := by decide +kernel
theorem dX10_init_15 : decode cX10_init 15 = .ok (.invokestatic 13, 3) := by decide +kernel
theorem dX10_init_18 : decode cX10_init 18 = .ok (.invokestatic 19, 3) := by decide +kernel
theorem dX10_init_21 : decode cX10_init 21 = .ok (.putfield 22, 3) := by decide +kernel
theorem dX10_init_24 : decode cX10_init 24 = .ok (.aload_n 0, 1) := by decide +kernel
theorem dX10_init_25 : decode cX10_init 25 = .ok (.iconst 0, 1) := by decide +kernel
theorem dX10_init_26 : decode cX10_init 26 = .ok (.iload_n 2, 1) := by decide +kernel
theorem dX10_init_27 : decode cX10_init 27 = .ok (.sipush 1000, 3) := by decide +kernel
theorem dX10_init_30 : decode cX10_init 30 = .ok (.invokestatic 13, 3) := by decide +kernel
theorem dX10_init_33 : decode cX10_init 33 = .ok (.invokestatic 19, 3) := by decide +kernel
theorem dX10_init_36 : decode cX10_init 36 = .ok (.putfield 25, 3) := by decide +kernel
theorem dX10_init_39 : decode cX10_init 39 = .ok (.aload_n 0, 1) := by decide +kernel
theorem dX10_init_40 : decode cX10_init 40 = .ok (.aload_n 0, 1) := by decide +kernel
theorem dX10_init_41 : decode cX10_init 41 = .ok (.getfield 22, 3) := by decide +kernel
theorem dX10_init_44 : decode cX10_init 44 = .ok (.aload_n 0, 1) := by decide +kernel
theorem dX10_init_45 : decode cX10_init 45 = .ok (.getfield 25, 3) := by decide +kernel
theorem dX10_init_48 : decode cX10_init 48 = .ok (.imul, 1) := by decide +kernel
theorem dX10_init_49 : decode cX10_init 49 = .ok (.newarray .int, 2) := by decide +kernel
theorem dX10_init_51 : decode cX10_init 51 = .ok (.putfield 28, 3) := by decide +kernel
theorem dX10_init_54 : decode cX10_init 54 = .ok (.return_, 1) := by decide +kernel
theorem dX10_clear_0 : decode cX10_clear 0 = .ok (.aload_n 0, 1) := by decide +kernel
theorem dX10_clear_1 : decode cX10_clear 1 = .ok (.getfield 28, 3) := by decide +kernel
theorem dX10_clear_4 : decode cX10_clear 4 = .ok (.iconst 0, 1) := by decide +kernel
theorem dX10_clear_5 : decode cX10_clear 5 = .ok (.invokestatic 46, 3) := by decide +kernel
theorem dX10_clear_8 : decode cX10_clear 8 = .ok (.aload_n 0, 1) := by decide +kernel
theorem dX10_clear_9 : decode cX10_clear 9 = .ok (.iconst 0, 1) := by decide +kernel
theorem dX10_clear_10 : decode cX10_clear 10 = .ok (.putfield 7, 3) := by decide +kernel
theorem dX10_clear_13 : decode cX10_clear 13 = .ok (.return_, 1) := by decide +kernel
theorem dX10_get_0 : decode cX10_get 0 = .ok (.iload_n 1, 1) := by decide +kernel
theorem dX10_get_1 : decode cX10_get 1 = .ok (.aload_n 0, 1) := by decide +kernel
theorem dX10_get_2 : decode cX10_get 2 = .ok (.getfield 25, 3) := by decide +kernel
theorem dX10_get_5 : decode cX10_get 5 = .ok (.imul, 1) := by decide +kernel
theorem dX10_get_6 : decode cX10_get 6 = .ok (.iload_n 2, 1) := by decide +kernel
theorem dX10_get_7 : decode cX10_get 7 = .ok (.iadd, 1) := by decide +kernel
theorem dX10_get_8 : decode cX10_get 8 = .ok (.istore_n 3, 1) := by decide +kernel
theorem dX10_get_9 : decode cX10_get 9 = .ok (.iload_n 2, 1) := by decide +kernel
theorem dX10_get_10 : decode cX10_get 10 = .ok (.ifCond .lt 33, 3) := by decide +kernel
theorem dX10_get_13 : decode cX10_get 13 = .ok (.iload_n 2, 1) := by decide +kernel
theorem dX10_get_14 : decode cX10_get 14 = .ok (.aload_n 0, 1) := by decide +kernel
theorem dX10_get_15 : decode cX10_get 15 = .ok (.getfield 25, 3) := by decide +kernel
theorem dX10_get_18 : decode cX10_get 18 = .ok (.if_icmp .ge 25, 3) := by decide +kernel
theorem dX10_get_21 : decode cX10_get 21 = .ok (.iload_n 3, 1) := by decide +kernel
theorem dX10_get_22 : decode cX10_get 22 = .ok (.ifCond .lt 21, 3) := by decide +kernel
theorem dX10_get_25 : decode cX10_get 25 = .ok (.iload_n 3, 1) := by decide +kernel
theorem dX10_get_26 : decode cX10_get 26 = .ok (.aload_n 0, 1) := by decide +kernel
theorem dX10_get_27 : decode cX10_get 27 = .ok (.getfield 28, 3) := by decide +kernel
theorem dX10_get_30 : decode cX10_get 30 = .ok (.arraylength, 1) := by decide +kernel
theorem dX10_get_31 : decode cX10_get 31 = .ok (.if_icmp .ge 12, 3) := by decide +kernel
theorem dX10_get_34 : decode cX10_get 34 = .ok (.aload_n 0, 1) := by decide +kernel
theorem dX10_get_35 : decode cX10_get 35 = .ok (.getfield 28, 3) := by decide +kernel
theorem dX10_get_38 : decode cX10_get 38 = .ok (.iload_n 3, 1) := by decide +kernel
theorem dX10_get_39 : decode cX10_get 39 = .ok (.iaload, 1) := by decide +kernel
theorem dX10_get_40 : decode cX10_get 40 = .ok (.goto 4, 3) := by decide +kernel
theorem dX10_get_43 : decode cX10_get 43 = .ok (.iconst 0, 1) := by decide +kernel
theorem dX10_get_44 : decode cX10_get 44 = .ok (.ireturn, 1) := by decide +kernel
theorem dX10_set_0 : decode cX10_set 0 = .ok (.iload_n 1, 1) := by decide +kernel
theorem dX10_set_1 : decode cX10_set 1 = .ok (.aload_n 0, 1) := by decide +kernel
theorem dX10_set_2 : decode cX10_set 2 = .ok (.getfield 25, 3) := by decide +kernel
theorem dX10_set_5 : decode cX10_set 5 = .ok (.imul, 1) := by decide +kernel
theorem dX10_set_6 : decode cX10_set 6 = .ok (.iload_n 2, 1) := by decide +kernel
theorem dX10_set_7 : decode cX10_set 7 = .ok (.iadd, 1) := by decide +kernel
theorem dX10_set_8 : decode cX10_set 8 = .ok (.istore 4, 2) := by decide +kernel
theorem dX10_set_10 : decode cX10_set 10 = .ok (.iload_n 2, 1) := by decide +kernel
theorem dX10_set_11 : decode cX10_set 11 = .ok (.ifCond .lt 34, 3) := by decide +kernel
theorem dX10_set_14 : decode cX10_set 14 = .ok (.iload_n 2, 1) := by decide +kernel
theorem dX10_set_15 : decode cX10_set 15 = .ok (.aload_n 0, 1) := by decide +kernel
theorem dX10_set_16 : decode cX10_set 16 = .ok (.getfield 25, 3) := by decide +kernel
theorem dX10_set_19 : decode cX10_set 19 = .ok (.if_icmp .ge 26, 3) := by decide +kernel
theorem dX10_set_22 : decode cX10_set 22 = .ok (.iload 4, 2) := by decide +kernel
theorem dX10_set_24 : decode cX10_set 24 = .ok (.ifCond .lt 21, 3) := by decide +kernel
theorem dX10_set_27 : decode cX10_set 27 = .ok (.iload 4, 2) := by decide +kernel
theorem dX10_set_29 : decode cX10_set 29 = .ok (.aload_n 0, 1) := by decide +kernel
theorem dX10_set_30 : decode cX10_set 30 = .ok (.getfield 28, 3) := by decide +kernel
theorem dX10_set_33 : decode cX10_set 33 = .ok (.arraylength, 1) := by decide +kernel
theorem dX10_set_34 : decode cX10_set 34 = .ok (.if_icmp .ge 11, 3) := by decide +kernel
theorem dX10_set_37 : decode cX10_set 37 = .ok (.aload_n 0, 1) := by decide +kernel
theorem dX10_set_38 : decode cX10_set 38 = .ok (.getfield 28, 3) := by decide +kernel
theorem dX10_set_41 : decode cX10_set 41 = .ok (.iload 4, 2) := by decide +kernel
theorem dX10_set_43 : decode cX10_set 43 = .ok (.iload_n 3, 1) := by decide +kernel
theorem dX10_set_44 : decode cX10_set 44 = .ok (.iastore, 1) := by decide +kernel
theorem dX10_set_45 : decode cX10_set 45 = .ok (.return_, 1) := by decide +kernel
theorem dX10_add_0 : decode cX10_add 0 = .ok (.aload_n 0, 1) := by decide +kernel
theorem dX10_add_1 : decode cX10_add 1 = .ok (.iload_n 1, 1) := by decide +kernel
theorem dX10_add_2 : decode cX10_add 2 = .ok (.iload_n 2, 1) := by decide +kernel
theorem dX10_add_3 : decode cX10_add 3 = .ok (.aload_n 0, 1) := by decide +kernel
theorem dX10_add_4 : decode cX10_add 4 = .ok (.iload_n 1, 1) := by decide +kernel
theorem dX10_add_5 : decode cX10_add 5 = .ok (.iload_n 2, 1) := by decide +kernel
theorem dX10_add_6 : decode cX10_add 6 = .ok (.invokevirtual 32, 3) := by decide +kernel
theorem dX10_add_9 : decode cX10_add 9 = .ok (.iload_n 3, 1) := by decide +kernel
theorem dX10_add_10 : decode cX10_add 10 = .ok (.iadd, 1) := by decide +kernel
theorem dX10_add_11 : decode cX10_add 11 = .ok (.invokevirtual 35, 3) := by decide +kernel
theorem dX10_add_14 : decode cX10_add 14 = .ok (.return_, 1) := by decide +kernel
theorem dX10_copyFrom_0 : decode cX10_copyFrom 0 = .ok (.aload_n 1, 1) := by decide +kernel
theorem dX10_copyFrom_1 : decode cX10_copyFrom 1 = .ok (.getfield 28, 3) := by decide +kernel
theorem dX10_copyFrom_4 : decode cX10_copyFrom 4 = .ok (.iconst 0, 1) := by decide +kernel
theorem dX10_copyFrom_5 : decode cX10_copyFrom 5 = .ok (.aload_n 0, 1) := by decide +kernel
theorem dX10_copyFrom_6 : decode cX10_copyFrom 6 = .ok (.getfield 28, 3) := by decide +kernel
theorem dX10_copyFrom_9 : decode cX10_copyFrom 9 = .ok (.iconst 0, 1) := by decide +kernel
theorem dX10_copyFrom_10 : decode cX10_copyFrom 10 = .ok (.aload_n 0, 1) := by decide +kernel
theorem dX10_copyFrom_11 : decode cX10_copyFrom 11 = .ok (.getfield 28, 3) := by decide +kernel
theorem dX10_copyFrom_14 : decode cX10_copyFrom 14 = .ok (.arraylength, 1) := by decide +kernel
theorem dX10_copyFrom_15 : decode cX10_copyFrom 15 = .ok (.aload_n 1, 1) := by decide +kernel
theorem dX10_copyFrom_16 : decode cX10_copyFrom 16 = .ok (.getfield 28, 3) := by decide +kernel
theorem dX10_copyFrom_19 : decode cX10_copyFrom 19 = .ok (.arraylength, 1) := by decide +kernel
theorem dX10_copyFrom_20 : decode cX10_copyFrom 20 = .ok (.invokestatic 13, 3) := by decide +kernel
theorem dX10_copyFrom_23 : decode cX10_copyFrom 23 = .ok (.invokestatic 52, 3) := by decide +kernel
theorem dX10_copyFrom_26 : decode cX10_copyFrom 26 = .ok (.aload_n 0, 1) := by decide +kernel
theorem dX10_copyFrom_27 : decode cX10_copyFrom 27 = .ok (.aload_n 1, 1) := by decide +kernel
theorem dX10_copyFrom_28 : decode cX10_copyFrom 28 = .ok (.getfield 7, 3) := by decide +kernel
theorem dX10_copyFrom_31 : decode cX10_copyFrom 31 = .ok (.putfield 7, 3) := by decide +kernel
theorem dX10_copyFrom_34 : decode cX10_copyFrom 34 = .ok (.return_, 1) := by decide +kernel
theorem dX10_shift_0 : decode cX10_shift 0 = .ok (.aload_n 0, 1) := by decide +kernel
theorem dX10_shift_1 : decode cX10_shift 1 = .ok (.getfield 22, 3) := by decide +kernel
theorem dX10_shift_4 : decode cX10_shift 4 = .ok (.iload_n 1, 1) := by decide +kernel
theorem dX10_shift_5 : decode cX10_shift 5 = .ok (.iload_n 2, 1) := by decide +kernel
theorem dX10_shift_6 : decode cX10_shift 6 = .ok (.invokestatic 19, 3) := by decide +kernel
theorem dX10_shift_9 : decode cX10_shift 9 = .ok (.isub, 1) := by decide +kernel
theorem dX10_shift_10 : decode cX10_shift 10 = .ok (.istore 4, 2) := by decide +kernel
theorem dX10_shift_12 : decode cX10_shift 12 = .ok (.iload_n 1, 1) := by decide +kernel
theorem dX10_shift_13 : decode cX10_shift 13 = .ok (.ifCond .lt 46, 3) := by decide +kernel
theorem dX10_shift_16 : decode cX10_shift 16 = .ok (.iload_n 2, 1) := by decide +kernel
theorem dX10_shift_17 : decode cX10_shift 17 = .ok (.ifCond .lt 42, 3) := by decide +kernel
theorem dX10_shift_20 : decode cX10_shift 20 = .ok (.iload_n 3, 1) := by decide +kernel
theorem dX10_shift_21 : decode cX10_shift 21 = .ok (.ifCond .le 38, 3) := by decide +kernel
theorem dX10_shift_24 : decode cX10_shift 24 = .ok (.iload_n 3, 1) := by decide +kernel
theorem dX10_shift_25 : decode cX10_shift 25 = .ok (.iload 4, 2) := by decide +kernel
theorem dX10_shift_27 : decode cX10_shift 27 = .ok (.if_icmp .gt 32, 3) := by decide +kernel
theorem dX10_shift_30 : decode cX10_shift 30 = .ok (.aload_n 0, 1) := by decide +kernel
theorem dX10_shift_31 : decode cX10_shift 31 = .ok (.getfield 28, 3) := by decide +kernel
theorem dX10_shift_34 : decode cX10_shift 34 = .ok (.iload_n 1, 1) := by decide +kernel
theorem dX10_shift_35 : decode cX10_shift 35 = .ok (.aload_n 0, 1) := by decide +kernel
theorem dX10_shift_36 : decode cX10_shift 36 = .ok (.getfield 25, 3) := by decide +kernel
theorem dX10_shift_39 : decode cX10_shift 39 = .ok (.imul, 1) := by decide +kernel
theorem dX10_shift_40 : decode cX10_shift 40 = .ok (.aload_n 0, 1) := by decide +kernel
theorem dX10_shift_41 : decode cX10_shift 41 = .ok (.getfield 28, 3) := by decide +kernel
theorem dX10_shift_44 : decode cX10_shift 44 = .ok (.iload_n 2, 1) := by decide +kernel
theorem dX10_shift_45 : decode cX10_shift 45 = .ok (.aload_n 0, 1) := by decide +kernel
theorem dX10_shift_46 : decode cX10_shift 46 = .ok (.getfield 25, 3) := by decide +kernel
theorem dX10_shift_49 : decode cX10_shift 49 = .ok (.imul, 1) := by decide +kernel
theorem dX10_shift_50 : decode cX10_shift 50 = .ok (.iload_n 3, 1) := by decide +kernel
theorem dX10_shift_51 : decode cX10_shift 51 = .ok (.aload_n 0, 1) := by decide +kernel
theorem dX10_shift_52 : decode cX10_shift 52 = .ok (.getfield 25, 3) := by decide +kernel
theorem dX10_shift_55 : decode cX10_shift 55 = .ok (.imul, 1) := by decide +kernel
theorem dX10_shift_56 : decode cX10_shift 56 = .ok (.invokestatic 52, 3) := by decide +kernel
theorem dX10_shift_59 : decode cX10_shift 59 = .ok (.return_, 1) := by decide +kernel
theorem dX10_insertRow_0 : decode cX10_insertRow 0 = .ok (.iload_n 1, 1) := by decide +kernel
theorem dX10_insertRow_1 : decode cX10_insertRow 1 = .ok (.ifCond .lt 46, 3) := by decide +kernel
theorem dX10_insertRow_4 : decode cX10_insertRow 4 = .ok (.iload_n 1, 1) := by decide +kernel
theorem dX10_insertRow_5 : decode cX10_insertRow 5 = .ok (.aload_n 0, 1) := by decide +kernel
theorem dX10_insertRow_6 : decode cX10_insertRow 6 = .ok (.getfield 7, 3) := by decide +kernel
theorem dX10_insertRow_9 : decode cX10_insertRow 9 = .ok (.if_icmp .gt 38, 3) := by decide +kernel
theorem dX10_insertRow_12 : decode cX10_insertRow 12 = .ok (.aload_n 0, 1) := by decide +kernel
theorem dX10_insertRow_13 : decode cX10_insertRow 13 = .ok (.getfield 7, 3) := by decide +kernel
theorem dX10_insertRow_16 : decode cX10_insertRow 16 = .ok (.aload_n 0, 1) := by decide +kernel
theorem dX10_insertRow_17 : decode cX10_insertRow 17 = .ok (.getfield 22, 3) := by decide +kernel
theorem dX10_insertRow_20 : decode cX10_insertRow 20 = .ok (.if_icmp .ge 27, 3) := by decide +kernel
theorem dX10_insertRow_23 : decode cX10_insertRow 23 = .ok (.aload_n 0, 1) := by decide +kernel
theorem dX10_insertRow_24 : decode cX10_insertRow 24 = .ok (.iload_n 1, 1) := by decide +kernel
theorem dX10_insertRow_25 : decode cX10_insertRow 25 = .ok (.iload_n 1, 1) := by decide +kernel
theorem dX10_insertRow_26 : decode cX10_insertRow 26 = .ok (.iconst 1, 1) := by decide +kernel
theorem dX10_insertRow_27 : decode cX10_insertRow 27 = .ok (.iadd, 1) := by decide +kernel
theorem dX10_insertRow_28 : decode cX10_insertRow 28 = .ok (.aload_n 0, 1) := by decide +kernel
theorem dX10_insertRow_29 : decode cX10_insertRow 29 = .ok (.getfield 7, 3) := by decide +kernel
theorem dX10_insertRow_32 : decode cX10_insertRow 32 = .ok (.iload_n 1, 1) := by decide +kernel
theorem dX10_insertRow_33 : decode cX10_insertRow 33 = .ok (.isub, 1) := by decide +kernel
theorem dX10_insertRow_34 : decode cX10_insertRow 34 = .ok (.invokevirtual 39, 3) := by decide +kernel
theorem dX10_insertRow_37 : decode cX10_insertRow 37 = .ok (.aload_n 0, 1) := by decide +kernel
theorem dX10_insertRow_38 : decode cX10_insertRow 38 = .ok (.dup, 1) := by decide +kernel
theorem dX10_insertRow_39 : decode cX10_insertRow 39 = .ok (.getfield 7, 3) := by decide +kernel
theorem dX10_insertRow_42 : decode cX10_insertRow 42 = .ok (.iconst 1, 1) := by decide +kernel
theorem dX10_insertRow_43 : decode cX10_insertRow 43 = .ok (.iadd, 1) := by decide +kernel
theorem dX10_insertRow_44 : decode cX10_insertRow 44 = .ok (.putfield 7, 3) := by decide +kernel
theorem dX10_insertRow_47 : decode cX10_insertRow 47 = .ok (.return_, 1) := by decide +kernel
theorem dX10_has_0 : decode cX10_has 0 = .ok (.iload_n 1, 1) := by decide +kernel
theorem dX10_has_1 : decode cX10_has 1 = .ok (.ifCond .lt 15, 3) := by decide +kernel
theorem dX10_has_4 : decode cX10_has 4 = .ok (.iload_n 1, 1) := by decide +kernel
theorem dX10_has_5 : decode cX10_has 5 = .ok (.aload_n 0, 1) := by decide +kernel
theorem dX10_has_6 : decode cX10_has 6 = .ok (.getfield 7, 3) := by decide +kernel
theorem dX10_has_9 : decode cX10_has 9 = .ok (.if_icmp .ge 7, 3) := by decide +kernel
theorem dX10_has_12 : decode cX10_has 12 = .ok (.iconst 1, 1) := by decide +kernel
theorem dX10_has_13 : decode cX10_has 13 = .ok (.goto 4, 3) := by decide +kernel
theorem dX10_has_16 : decode cX10_has 16 = .ok (.iconst 0, 1) := by decide +kernel
theorem dX10_has_17 : decode cX10_has 17 = .ok (.ireturn, 1) := by decide +kernel
theorem dX10_isFull_0 : decode cX10_isFull 0 = .ok (.aload_n 0, 1) := by decide +kernel
theorem dX10_isFull_1 : decode cX10_isFull 1 = .ok (.getfield 7, 3) := by decide +kernel
theorem dX10_isFull_4 : decode cX10_isFull 4 = .ok (.aload_n 0, 1) := by decide +kernel
theorem dX10_isFull_5 : decode cX10_isFull 5 = .ok (.getfield 22, 3) := by decide +kernel
theorem dX10_isFull_8 : decode cX10_isFull 8 = .ok (.if_icmp .lt 7, 3) := by decide +kernel
theorem dX10_isFull_11 : decode cX10_isFull 11 = .ok (.iconst 1, 1) := by decide +kernel
theorem dX10_isFull_12 : decode cX10_isFull 12 = .ok (.goto 4, 3) := by decide +kernel
theorem dX10_isFull_15 : decode cX10_isFull 15 = .ok (.iconst 0, 1) := by decide +kernel
theorem dX10_isFull_16 : decode cX10_isFull 16 = .ok (.ireturn, 1) := by decide +kernel
theorem dX10_total_0 : decode cX10_total 0 = .ok (.iconst 0, 1) := by decide +kernel
theorem dX10_total_1 : decode cX10_total 1 = .ok (.istore_n 2, 1) := by decide +kernel
theorem dX10_total_2 : decode cX10_total 2 = .ok (.iconst 0, 1) := by decide +kernel
theorem dX10_total_3 : decode cX10_total 3 = .ok (.istore_n 3, 1) := by decide +kernel
theorem dX10_total_4 : decode cX10_total 4 = .ok (.iload_n 3, 1) := by decide +kernel
theorem dX10_total_5 : decode cX10_total 5 = .ok (.aload_n 0, 1) := by decide +kernel
theorem dX10_total_6 : decode cX10_total 6 = .ok (.getfield 22, 3) := by decide +kernel
theorem dX10_total_9 : decode cX10_total 9 = .ok (.if_icmp .ge 18, 3) := by decide +kernel
theorem dX10_total_12 : decode cX10_total 12 = .ok (.iload_n 2, 1) := by decide +kernel
theorem dX10_total_13 : decode cX10_total 13 = .ok (.aload_n 0, 1) := by decide +kernel
theorem dX10_total_14 : decode cX10_total 14 = .ok (.iload_n 3, 1) := by decide +kernel
theorem dX10_total_15 : decode cX10_total 15 = .ok (.iload_n 1, 1) := by decide +kernel
theorem dX10_total_16 : decode cX10_total 16 = .ok (.invokevirtual 32, 3) := by decide +kernel
theorem dX10_total_19 : decode cX10_total 19 = .ok (.iadd, 1) := by decide +kernel
theorem dX10_total_20 : decode cX10_total 20 = .ok (.istore_n 2, 1) := by decide +kernel
theorem dX10_total_21 : decode cX10_total 21 = .ok (.iinc 3 1, 3) := by decide +kernel
theorem dX10_total_24 : decode cX10_total 24 = .ok (.goto (-20), 3) := by decide +kernel
theorem dX10_total_27 : decode cX10_total 27 = .ok (.iload_n 2, 1) := by decide +kernel
theorem dX10_total_28 : decode cX10_total 28 = .ok (.ireturn, 1) := by decide +kernel
theorem dX10_removeRow_0 : decode cX10_removeRow 0 = .ok (.aload_n 0, 1) := by decide +kernel
theorem dX10_removeRow_1 : decode cX10_removeRow 1 = .ok (.iload_n 1, 1) := by decide +kernel
theorem dX10_removeRow_2 : decode cX10_removeRow 2 = .ok (.invokevirtual 42, 3) := by decide +kernel
theorem dX10_removeRow_5 : decode cX10_removeRow 5 = .ok (.ifCond .eq 29, 3) := by decide +kernel
theorem dX10_removeRow_8 : decode cX10_removeRow 8 = .ok (.aload_n 0, 1) := by decide +kernel
theorem dX10_removeRow_9 : decode cX10_removeRow 9 = .ok (.iload_n 1, 1) := by decide +kernel
theorem dX10_removeRow_10 : decode cX10_removeRow 10 = .ok (.iconst 1, 1) := by decide +kernel
theorem dX10_removeRow_11 : decode cX10_removeRow 11 = .ok (.iadd, 1) := by decide +kernel
theorem dX10_removeRow_12 : decode cX10_removeRow 12 = .ok (.iload_n 1, 1) := by decide +kernel
theorem dX10_removeRow_13 : decode cX10_removeRow 13 = .ok (.aload_n 0, 1) := by decide +kernel
theorem dX10_removeRow_14 : decode cX10_removeRow 14 = .ok (.getfield 7, 3) := by decide +kernel
theorem dX10_removeRow_17 : decode cX10_removeRow 17 = .ok (.iload_n 1, 1) := by decide +kernel
theorem dX10_removeRow_18 : decode cX10_removeRow 18 = .ok (.isub, 1) := by decide +kernel
theorem dX10_removeRow_19 : decode cX10_removeRow 19 = .ok (.iconst 1, 1) := by decide +kernel
theorem dX10_removeRow_20 : decode cX10_removeRow 20 = .ok (.isub, 1) := by decide +kernel
theorem dX10_removeRow_21 : decode cX10_removeRow 21 = .ok (.invokevirtual 39, 3) := by decide +kernel
theorem dX10_removeRow_24 : decode cX10_removeRow 24 = .ok (.aload_n 0, 1) := by decide +kernel
theorem dX10_removeRow_25 : decode cX10_removeRow 25 = .ok (.dup, 1) := by decide +kernel
theorem dX10_removeRow_26 : decode cX10_removeRow 26 = .ok (.getfield 7, 3) := by decide +kernel
theorem dX10_removeRow_29 : decode cX10_removeRow 29 = .ok (.iconst 1, 1) := by decide +kernel
theorem dX10_removeRow_30 : decode cX10_removeRow 30 = .ok (.isub, 1) := by decide +kernel
theorem dX10_removeRow_31 : decode cX10_removeRow 31 = .ok (.putfield 7, 3) := by decide +kernel
theorem dX10_removeRow_34 : decode cX10_removeRow 34 = .ok (.return_, 1) := by decide +kernel
