theorem dX0_init_0 : decode cX0_init 0 = .ok (.aload_n 0, 1) := by decide +kernel
theorem dX0_init_1 : decode cX0_init 1 = .ok (.invokespecial 3, 3) := by decide +kernel
theorem dX0_init_4 : decode cX0_init 4 = .ok (.aload_n 0, 1) := by decide +kernel
theorem dX0_init_5 : decode cX0_init 5 = .ok (.iconst (-1), 1) := by decide +kernel
theorem dX0_init_6 : decode cX0_init 6 = .ok (.putfield 9, 3) := by decide +kernel
theorem dX0_init_9 : decode cX0_init 9 = .ok (.return_, 1) := by decide +kernel
theorem dX0_offer_0 : decode cX0_offer 0 = .ok (.aload_n 0, 1) := by decide +kernel
theorem dX0_offer_1 : decode cX0_offer 1 = .ok (.getfield 9, 3) := by decide +kernel
theorem dX0_offer_4 : decode cX0_offer 4 = .ok (.iconst (-1), 1) := by decide +kernel
theorem dX0_offer_5 : decode cX0_offer 5 = .ok (.if_icmp .eq 12, 3) := by decide +kernel
theorem dX0_offer_8 : decode cX0_offer 8 = .ok (.lload_n 3, 1) := by decide +kernel
theorem dX0_offer_9 : decode cX0_offer 9 = .ok (.aload_n 0, 1) := by decide +kernel
theorem dX0_offer_10 : decode cX0_offer 10 = .ok (.getfield 15, 3) := by decide +kernel
theorem dX0_offer_13 : decode cX0_offer 13 = .ok (.lcmp, 1) := by decide +kernel
theorem dX0_offer_14 : decode cX0_offer 14 = .ok (.ifCond .le 29, 3) := by decide +kernel
theorem dX0_offer_17 : decode cX0_offer 17 = .ok (.aload_n 0, 1) := by decide +kernel
theorem dX0_offer_18 : decode cX0_offer 18 = .ok (.iload_n 1, 1) := by decide +kernel
theorem dX0_offer_19 : decode cX0_offer 19 = .ok (.putfield 9, 3) := by decide +kernel
theorem dX0_offer_22 : decode cX0_offer 22 = .ok (.aload_n 0, 1) := by decide +kernel
theorem dX0_offer_23 : decode cX0_offer 23 = .ok (.iload_n 2, 1) := by decide +kernel
theorem dX0_offer_24 : decode cX0_offer 24 = .ok (.invokestatic 19, 3) := by decide +kernel
theorem dX0_offer_27 : decode cX0_offer 27 = .ok (.putfield 23, 3) := by decide +kernel
theorem dX0_offer_30 : decode cX0_offer 30 = .ok (.aload_n 0, 1) := by decide +kernel
theorem dX0_offer_31 : decode cX0_offer 31 = .ok (.iload_n 2, 1) := by decide +kernel
theorem dX0_offer_32 : decode cX0_offer 32 = .ok (.invokestatic 26, 3) := by decide +kernel
theorem dX0_offer_35 : decode cX0_offer 35 = .ok (.putfield 29, 3) := by decide +kernel
theorem dX0_offer_38 : decode cX0_offer 38 = .ok (.aload_n 0, 1) := by decide +kernel
theorem dX0_offer_39 : decode cX0_offer 39 = .ok (.lload_n 3, 1) := by decide +kernel
theorem dX0_offer_40 : decode cX0_offer 40 = .ok (.putfield 15, 3) := by decide +kernel
theorem dX0_offer_43 : decode cX0_offer 43 = .ok (.return_, 1) := by decide +kernel
