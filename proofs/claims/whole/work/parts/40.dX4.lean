theorem dX4_init_0 : decode cX4_init 0 = .ok (.aload_n 0, 1) := by decide +kernel
theorem dX4_init_1 : decode cX4_init 1 = .ok (.invokespecial 3, 3) := by decide +kernel
theorem dX4_init_4 : decode cX4_init 4 = .ok (.aload_n 0, 1) := by decide +kernel
theorem dX4_init_5 : decode cX4_init 5 = .ok (.bipush 33, 2) := by decide +kernel
theorem dX4_init_7 : decode cX4_init 7 = .ok (.newarray .int, 2) := by decide +kernel
theorem dX4_init_9 : decode cX4_init 9 = .ok (.putfield 11, 3) := by decide +kernel
theorem dX4_init_12 : decode cX4_init 12 = .ok (.aload_n 0, 1) := by decide +kernel
theorem dX4_init_13 : decode cX4_init 13 = .ok (.iload_n 1, 1) := by decide +kernel
theorem dX4_init_14 : decode cX4_init 14 = .ok (.bipush 11, 2) := by decide +kernel
theorem dX4_init_16 : decode cX4_init 16 = .ok (.invokestatic 15, 3) := by decide +kernel
theorem dX4_init_19 : decode cX4_init 19 = .ok (.putfield 21, 3) := by decide +kernel
theorem dX4_init_22 : decode cX4_init 22 = .ok (.return_, 1) := by decide +kernel
theorem dX4_add_0 : decode cX4_add 0 = .ok (.aload_n 0, 1) := by decide +kernel
theorem dX4_add_1 : decode cX4_add 1 = .ok (.getfield 25, 3) := by decide +kernel
theorem dX4_add_4 : decode cX4_add 4 = .ok (.aload_n 0, 1) := by decide +kernel
theorem dX4_add_5 : decode cX4_add 5 = .ok (.getfield 21, 3) := by decide +kernel
theorem dX4_add_8 : decode cX4_add 8 = .ok (.if_icmp .lt 5, 3) := by decide +kernel
theorem dX4_add_11 : decode cX4_add 11 = .ok (.iconst (-1), 1) := by decide +kernel
theorem dX4_add_12 : decode cX4_add 12 = .ok (.ireturn, 1) := by decide +kernel
theorem dX4_add_13 : decode cX4_add 13 = .ok (.aload_n 0, 1) := by decide +kernel
theorem dX4_add_14 : decode cX4_add 14 = .ok (.getfield 25, 3) := by decide +kernel
theorem dX4_add_17 : decode cX4_add 17 = .ok (.istore 4, 2) := by decide +kernel
theorem dX4_add_19 : decode cX4_add 19 = .ok (.aload_n 0, 1) := by decide +kernel
theorem dX4_add_20 : decode cX4_add 20 = .ok (.iload 4, 2) := by decide +kernel
theorem dX4_add_22 : decode cX4_add 22 = .ok (.iconst 1, 1) := by decide +kernel
theorem dX4_add_23 : decode cX4_add 23 = .ok (.iadd, 1) := by decide +kernel
theorem dX4_add_24 : decode cX4_add 24 = .ok (.putfield 25, 3) := by decide +kernel
theorem dX4_add_27 : decode cX4_add 27 = .ok (.aload_n 0, 1) := by decide +kernel
theorem dX4_add_28 : decode cX4_add 28 = .ok (.iload 4, 2) := by decide +kernel
theorem dX4_add_30 : decode cX4_add 30 = .ok (.iconst 0, 1) := by decide +kernel
theorem dX4_add_31 : decode cX4_add 31 = .ok (.iload_n 1, 1) := by decide +kernel
theorem dX4_add_32 : decode cX4_add 32 = .ok (.invokevirtual 28, 3) := by decide +kernel
theorem dX4_add_35 : decode cX4_add 35 = .ok (.aload_n 0, 1) := by decide +kernel
theorem dX4_add_36 : decode cX4_add 36 = .ok (.iload 4, 2) := by decide +kernel
theorem dX4_add_38 : decode cX4_add 38 = .ok (.iconst 1, 1) := by decide +kernel
theorem dX4_add_39 : decode cX4_add 39 = .ok (.iload_n 2, 1) := by decide +kernel
theorem dX4_add_40 : decode cX4_add 40 = .ok (.invokevirtual 28, 3) := by decide +kernel
theorem dX4_add_43 : decode cX4_add 43 = .ok (.aload_n 0, 1) := by decide +kernel
theorem dX4_add_44 : decode cX4_add 44 = .ok (.iload 4, 2) := by decide +kernel
theorem dX4_add_46 : decode cX4_add 46 = .ok (.iconst 2, 1) := by decide +kernel
theorem dX4_add_47 : decode cX4_add 47 = .ok (.iload_n 3, 1) := by decide +kernel
theorem dX4_add_48 : decode cX4_add 48 = .ok (.invokevirtual 28, 3) := by decide +kernel
theorem dX4_add_51 : decode cX4_add 51 = .ok (.iload 4, 2) := by decide +kernel
theorem dX4_add_53 : decode cX4_add 53 = .ok (.ireturn, 1) := by decide +kernel
theorem dX4_get_0 : decode cX4_get 0 = .ok (.iload_n 1, 1) := by decide +kernel
theorem dX4_get_1 : decode cX4_get 1 = .ok (.iconst 3, 1) := by decide +kernel
theorem dX4_get_2 : decode cX4_get 2 = .ok (.imul, 1) := by decide +kernel
theorem dX4_get_3 : decode cX4_get 3 = .ok (.iload_n 2, 1) := by decide +kernel
theorem dX4_get_4 : decode cX4_get 4 = .ok (.iadd, 1) := by decide +kernel
theorem dX4_get_5 : decode cX4_get 5 = .ok (.istore_n 3, 1) := by decide +kernel
theorem dX4_get_6 : decode cX4_get 6 = .ok (.iload_n 3, 1) := by decide +kernel
theorem dX4_get_7 : decode cX4_get 7 = .ok (.ifCond .lt 21, 3) := by decide +kernel
theorem dX4_get_10 : decode cX4_get 10 = .ok (.iload_n 3, 1) := by decide +kernel
theorem dX4_get_11 : decode cX4_get 11 = .ok (.aload_n 0, 1) := by decide +kernel
theorem dX4_get_12 : decode cX4_get 12 = .ok (.getfield 11, 3) := by decide +kernel
theorem dX4_get_15 : decode cX4_get 15 = .ok (.arraylength, 1) := by decide +kernel
theorem dX4_get_16 : decode cX4_get 16 = .ok (.if_icmp .ge 12, 3) := by decide +kernel
theorem dX4_get_19 : decode cX4_get 19 = .ok (.aload_n 0, 1) := by decide +kernel
theorem dX4_get_20 : decode cX4_get 20 = .ok (.getfield 11, 3) := by decide +kernel
theorem dX4_get_23 : decode cX4_get 23 = .ok (.iload_n 3, 1) := by decide +kernel
theorem dX4_get_24 : decode cX4_get 24 = .ok (.iaload, 1) := by decide +kernel
theorem dX4_get_25 : decode cX4_get 25 = .ok (.goto 4, 3) := by decide +kernel
theorem dX4_get_28 : decode cX4_get 28 = .ok (.iconst 0, 1) := by decide +kernel
theorem dX4_get_29 : decode cX4_get 29 = .ok (.ireturn, 1) := by decide +kernel
theorem dX4_put_0 : decode cX4_put 0 = .ok (.iload_n 1, 1) := by decide +kernel
theorem dX4_put_1 : decode cX4_put 1 = .ok (.iconst 3, 1) := by decide +kernel
theorem dX4_put_2 : decode cX4_put 2 = .ok (.imul, 1) := by decide +kernel
theorem dX4_put_3 : decode cX4_put 3 = .ok (.iload_n 2, 1) := by decide +kernel
theorem dX4_put_4 : decode cX4_put 4 = .ok (.iadd, 1) := by decide +kernel
theorem dX4_put_5 : decode cX4_put 5 = .ok (.istore 4, 2) := by decide +kernel
theorem dX4_put_7 : decode cX4_put 7 = .ok (.iload 4, 2) := by decide +kernel
theorem dX4_put_9 : decode cX4_put 9 = .ok (.ifCond .lt 21, 3) := by decide +kernel
theorem dX4_put_12 : decode cX4_put 12 = .ok (.iload 4, 2) := by decide +kernel
theorem dX4_put_14 : decode cX4_put 14 = .ok (.aload_n 0, 1) := by decide +kernel
theorem dX4_put_15 : decode cX4_put 15 = .ok (.getfield 11, 3) := by decide +kernel
theorem dX4_put_18 : decode cX4_put 18 = .ok (.arraylength, 1) := by decide +kernel
theorem dX4_put_19 : decode cX4_put 19 = .ok (.if_icmp .ge 11, 3) := by decide +kernel
theorem dX4_put_22 : decode cX4_put 22 = .ok (.aload_n 0, 1) := by decide +kernel
theorem dX4_put_23 : decode cX4_put 23 = .ok (.getfield 11, 3) := by decide +kernel
theorem dX4_put_26 : decode cX4_put 26 = .ok (.iload 4, 2) := by decide +kernel
theorem dX4_put_28 : decode cX4_put 28 = .ok (.iload_n 3, 1) := by decide +kernel
theorem dX4_put_29 : decode cX4_put 29 = .ok (.iastore, 1) := by decide +kernel
theorem dX4_put_30 : decode cX4_put 30 = .ok (.return_, 1) := by decide +kernel
theorem dX4_putFold_0 : decode cX4_putFold 0 = .ok (.aload_n 0, 1) := by decide +kernel
theorem dX4_putFold_1 : decode cX4_putFold 1 = .ok (.iload_n 1, 1) := by decide +kernel
theorem dX4_putFold_2 : decode cX4_putFold 2 = .ok (.iconst 0, 1) := by decide +kernel
theorem dX4_putFold_3 : decode cX4_putFold 3 = .ok (.iload_n 2, 1) := by decide +kernel
theorem dX4_putFold_4 : decode cX4_putFold 4 = .ok (.invokevirtual 28, 3) := by decide +kernel
theorem dX4_putFold_7 : decode cX4_putFold 7 = .ok (.aload_n 0, 1) := by decide +kernel
theorem dX4_putFold_8 : decode cX4_putFold 8 = .ok (.iload_n 1, 1) := by decide +kernel
theorem dX4_putFold_9 : decode cX4_putFold 9 = .ok (.iconst 1, 1) := by decide +kernel
theorem dX4_putFold_10 : decode cX4_putFold 10 = .ok (.iload_n 3, 1) := by decide +kernel
theorem dX4_putFold_11 : decode cX4_putFold 11 = .ok (.invokevirtual 28, 3) := by decide +kernel
theorem dX4_putFold_14 : decode cX4_putFold 14 = .ok (.return_, 1) := by decide +kernel
theorem dX4_copyFrom_0 : decode cX4_copyFrom 0 = .ok (.aload_n 1, 1) := by decide +kernel
theorem dX4_copyFrom_1 : decode cX4_copyFrom 1 = .ok (.getfield 11, 3) := by decide +kernel
theorem dX4_copyFrom_4 : decode cX4_copyFrom 4 = .ok (.iconst 0, 1) := by decide +kernel
theorem dX4_copyFrom_5 : decode cX4_copyFrom 5 = .ok (.aload_n 0, 1) := by decide +kernel
theorem dX4_copyFrom_6 : decode cX4_copyFrom 6 = .ok (.getfield 11, 3) := by decide +kernel
theorem dX4_copyFrom_9 : decode cX4_copyFrom 9 = .ok (.iconst 0, 1) := by decide +kernel
theorem dX4_copyFrom_10 : decode cX4_copyFrom 10 = .ok (.bipush 33, 2) := by decide +kernel
theorem dX4_copyFrom_12 : decode cX4_copyFrom 12 = .ok (.invokestatic 32, 3) := by decide +kernel
theorem dX4_copyFrom_15 : decode cX4_copyFrom 15 = .ok (.aload_n 0, 1) := by decide +kernel
theorem dX4_copyFrom_16 : decode cX4_copyFrom 16 = .ok (.aload_n 1, 1) := by decide +kernel
theorem dX4_copyFrom_17 : decode cX4_copyFrom 17 = .ok (.getfield 25, 3) := by decide +kernel
theorem dX4_copyFrom_20 : decode cX4_copyFrom 20 = .ok (.aload_n 0, 1) := by decide +kernel
theorem dX4_copyFrom_21 : decode cX4_copyFrom 21 = .ok (.getfield 21, 3) := by decide +kernel
theorem dX4_copyFrom_24 : decode cX4_copyFrom 24 = .ok (.invokestatic 15, 3) := by decide +kernel
theorem dX4_copyFrom_27 : decode cX4_copyFrom 27 = .ok (.putfield 25, 3) := by decide +kernel
theorem dX4_copyFrom_30 : decode cX4_copyFrom 30 = .ok (.return_, 1) := by decide +kernel
