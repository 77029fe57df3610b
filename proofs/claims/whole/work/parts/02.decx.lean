theorem dX0_init_0 : decode cX0_init 0 = .ok (.aload_n 0, 1) := by decide +kernel
theorem dX0_init_1 : decode cX0_init 1 = .ok (.invokespecial 3, 3) := by decide +kernel
theorem dX0_init_4 : decode cX0_init 4 = .ok (.aload_n 0, 1) := by decide +kernel
theorem dX0_init_5 : decode cX0_init 5 = .ok (.sipush 600, 3) := by decide +kernel
theorem dX0_init_8 : decode cX0_init 8 = .ok (.newarray .int, 2) := by decide +kernel
theorem dX0_init_10 : decode cX0_init 10 = .ok (.putfield 11, 3) := by decide +kernel
theorem dX0_init_13 : decode cX0_init 13 = .ok (.aload_n 0, 1) := by decide +kernel
theorem dX0_init_14 : decode cX0_init 14 = .ok (.bipush 100, 2) := by decide +kernel
theorem dX0_init_16 : decode cX0_init 16 = .ok (.newarray .int, 2) := by decide +kernel
theorem dX0_init_18 : decode cX0_init 18 = .ok (.putfield 15, 3) := by decide +kernel
theorem dX0_init_21 : decode cX0_init 21 = .ok (.return_, 1) := by decide +kernel
theorem dX0_addStart_0 : decode cX0_addStart 0 = .ok (.aload_n 0, 1) := by decide +kernel
theorem dX0_addStart_1 : decode cX0_addStart 1 = .ok (.getfield 18, 3) := by decide +kernel
theorem dX0_addStart_4 : decode cX0_addStart 4 = .ok (.sipush 150, 3) := by decide +kernel
theorem dX0_addStart_7 : decode cX0_addStart 7 = .ok (.if_icmp .lt 4, 3) := by decide +kernel
theorem dX0_addStart_10 : decode cX0_addStart 10 = .ok (.return_, 1) := by decide +kernel
theorem dX0_addStart_11 : decode cX0_addStart 11 = .ok (.aload_n 0, 1) := by decide +kernel
theorem dX0_addStart_12 : decode cX0_addStart 12 = .ok (.getfield 18, 3) := by decide +kernel
theorem dX0_addStart_15 : decode cX0_addStart 15 = .ok (.iconst 4, 1) := by decide +kernel
theorem dX0_addStart_16 : decode cX0_addStart 16 = .ok (.imul, 1) := by decide +kernel
theorem dX0_addStart_17 : decode cX0_addStart 17 = .ok (.istore 5, 2) := by decide +kernel
theorem dX0_addStart_19 : decode cX0_addStart 19 = .ok (.aload_n 0, 1) := by decide +kernel
theorem dX0_addStart_20 : decode cX0_addStart 20 = .ok (.getfield 11, 3) := by decide +kernel
theorem dX0_addStart_23 : decode cX0_addStart 23 = .ok (.iload 5, 2) := by decide +kernel
theorem dX0_addStart_25 : decode cX0_addStart 25 = .ok (.iload_n 1, 1) := by decide +kernel
theorem dX0_addStart_26 : decode cX0_addStart 26 = .ok (.iastore, 1) := by decide +kernel
theorem dX0_addStart_27 : decode cX0_addStart 27 = .ok (.aload_n 0, 1) := by decide +kernel
theorem dX0_addStart_28 : decode cX0_addStart 28 = .ok (.getfield 11, 3) := by decide +kernel
theorem dX0_addStart_31 : decode cX0_addStart 31 = .ok (.iload 5, 2) := by decide +kernel
theorem dX0_addStart_33 : decode cX0_addStart 33 = .ok (.iconst 1, 1) := by decide +kernel
theorem dX0_addStart_34 : decode cX0_addStart 34 = .ok (.iadd, 1) := by decide +kernel
theorem dX0_addStart_35 : decode cX0_addStart 35 = .ok (.iload_n 2, 1) := by decide +kernel
theorem dX0_addStart_36 : decode cX0_addStart 36 = .ok (.iastore, 1) := by decide +kernel
theorem dX0_addStart_37 : decode cX0_addStart 37 = .ok (.aload_n 0, 1) := by decide +kernel
theorem dX0_addStart_38 : decode cX0_addStart 38 = .ok (.getfield 11, 3) := by decide +kernel
theorem dX0_addStart_41 : decode cX0_addStart 41 = .ok (.iload 5, 2) := by decide +kernel
theorem dX0_addStart_43 : decode cX0_addStart 43 = .ok (.iconst 2, 1) := by decide +kernel
theorem dX0_addStart_44 : decode cX0_addStart 44 = .ok (.iadd, 1) := by decide +kernel
theorem dX0_addStart_45 : decode cX0_addStart 45 = .ok (.iload_n 3, 1) := by decide +kernel
theorem dX0_addStart_46 : decode cX0_addStart 46 = .ok (.iastore, 1) := by decide +kernel
theorem dX0_addStart_47 : decode cX0_addStart 47 = .ok (.aload_n 0, 1) := by decide +kernel
theorem dX0_addStart_48 : decode cX0_addStart 48 = .ok (.getfield 11, 3) := by decide +kernel
theorem dX0_addStart_51 : decode cX0_addStart 51 = .ok (.iload 5, 2) := by decide +kernel
theorem dX0_addStart_53 : decode cX0_addStart 53 = .ok (.iconst 3, 1) := by decide +kernel
theorem dX0_addStart_54 : decode cX0_addStart 54 = .ok (.iadd, 1) := by decide +kernel
theorem dX0_addStart_55 : decode cX0_addStart 55 = .ok (.iload 4, 2) := by decide +kernel
theorem dX0_addStart_57 : decode cX0_addStart 57 = .ok (.iastore, 1) := by decide +kernel
theorem dX0_addStart_58 : decode cX0_addStart 58 = .ok (.aload_n 0, 1) := by decide +kernel
theorem dX0_addStart_59 : decode cX0_addStart 59 = .ok (.dup, 1) := by decide +kernel
theorem dX0_addStart_60 : decode cX0_addStart 60 = .ok (.getfield 18, 3) := by decide +kernel
theorem dX0_addStart_63 : decode cX0_addStart 63 = .ok (.iconst 1, 1) := by decide +kernel
theorem dX0_addStart_64 : decode cX0_addStart 64 = .ok (.iadd, 1) := by decide +kernel
theorem dX0_addStart_65 : decode cX0_addStart 65 = .ok (.putfield 18, 3) := by decide +kernel
theorem dX0_addStart_68 : decode cX0_addStart 68 = .ok (.return_, 1) := by decide +kernel
theorem dX0_addMessage_0 : decode cX0_addMessage 0 = .ok (.aload_n 0, 1) := by decide +kernel
theorem dX0_addMessage_1 : decode cX0_addMessage 1 = .ok (.getfield 22, 3) := by decide +kernel
theorem dX0_addMessage_4 : decode cX0_addMessage 4 = .ok (.bipush 100, 2) := by decide +kernel
theorem dX0_addMessage_6 : decode cX0_addMessage 6 = .ok (.if_icmp .ge 23, 3) := by decide +kernel
theorem dX0_addMessage_9 : decode cX0_addMessage 9 = .ok (.aload_n 0, 1) := by decide +kernel
theorem dX0_addMessage_10 : decode cX0_addMessage 10 = .ok (.getfield 15, 3) := by decide +kernel
theorem dX0_addMessage_13 : decode cX0_addMessage 13 = .ok (.aload_n 0, 1) := by decide +kernel
theorem dX0_addMessage_14 : decode cX0_addMessage 14 = .ok (.getfield 22, 3) := by decide +kernel
theorem dX0_addMessage_17 : decode cX0_addMessage 17 = .ok (.iload_n 1, 1) := by decide +kernel
theorem dX0_addMessage_18 : decode cX0_addMessage 18 = .ok (.iastore, 1) := by decide +kernel
theorem dX0_addMessage_19 : decode cX0_addMessage 19 = .ok (.aload_n 0, 1) := by decide +kernel
theorem dX0_addMessage_20 : decode cX0_addMessage 20 = .ok (.dup, 1) := by decide +kernel
theorem dX0_addMessage_21 : decode cX0_addMessage 21 = .ok (.getfield 22, 3) := by decide +kernel
theorem dX0_addMessage_24 : decode cX0_addMessage 24 = .ok (.iconst 1, 1) := by decide +kernel
theorem dX0_addMessage_25 : decode cX0_addMessage 25 = .ok (.iadd, 1) := by decide +kernel
theorem dX0_addMessage_26 : decode cX0_addMessage 26 = .ok (.putfield 22, 3) := by decide +kernel
theorem dX0_addMessage_29 : decode cX0_addMessage 29 = .ok (.return_, 1) := by decide +kernel
theorem dX1_init_0 : decode cX1_init 0 = .ok (.aload_n 0, 1) := by decide +kernel
theorem dX1_init_1 : decode cX1_init 1 = .ok (.invokespecial 3, 3) := by decide +kernel
theorem dX1_init_4 : decode cX1_init 4 = .ok (.aload_n 0, 1) := by decide +kernel
theorem dX1_init_5 : decode cX1_init 5 = .ok (.bipush 16, 2) := by decide +kernel
theorem dX1_init_7 : decode cX1_init 7 = .ok (.newarray .int, 2) := by decide +kernel
theorem dX1_init_9 : decode cX1_init 9 = .ok (.putfield 9, 3) := by decide +kernel
theorem dX1_init_12 : decode cX1_init 12 = .ok (.aload_n 0, 1) := by decide +kernel
theorem dX1_init_13 : decode cX1_init 13 = .ok (.bipush 80, 2) := by decide +kernel
theorem dX1_init_15 : decode cX1_init 15 = .ok (.newarray .int, 2) := by decide +kernel
theorem dX1_init_17 : decode cX1_init 17 = .ok (.putfield 15, 3) := by decide +kernel
theorem dX1_init_20 : decode cX1_init 20 = .ok (.return_, 1) := by decide +kernel
theorem dX1_numberOf_0 : decode cX1_numberOf 0 = .ok (.aload_n 0, 1) := by decide +kernel
theorem dX1_numberOf_1 : decode cX1_numberOf 1 = .ok (.getfield 15, 3) := by decide +kernel
theorem dX1_numberOf_4 : decode cX1_numberOf 4 = .ok (.iload_n 1, 1) := by decide +kernel
theorem dX1_numberOf_5 : decode cX1_numberOf 5 = .ok (.iconst 5, 1) := by decide +kernel
theorem dX1_numberOf_6 : decode cX1_numberOf 6 = .ok (.imul, 1) := by decide +kernel
theorem dX1_numberOf_7 : decode cX1_numberOf 7 = .ok (.iload_n 2, 1) := by decide +kernel
theorem dX1_numberOf_8 : decode cX1_numberOf 8 = .ok (.iadd, 1) := by decide +kernel
theorem dX1_numberOf_9 : decode cX1_numberOf 9 = .ok (.iaload, 1) := by decide +kernel
theorem dX1_numberOf_10 : decode cX1_numberOf 10 = .ok (.ireturn, 1) := by decide +kernel
theorem dX1_setNumber_0 : decode cX1_setNumber 0 = .ok (.aload_n 0, 1) := by decide +kernel
theorem dX1_setNumber_1 : decode cX1_setNumber 1 = .ok (.getfield 15, 3) := by decide +kernel
theorem dX1_setNumber_4 : decode cX1_setNumber 4 = .ok (.iload_n 1, 1) := by decide +kernel
theorem dX1_setNumber_5 : decode cX1_setNumber 5 = .ok (.iconst 5, 1) := by decide +kernel
theorem dX1_setNumber_6 : decode cX1_setNumber 6 = .ok (.imul, 1) := by decide +kernel
theorem dX1_setNumber_7 : decode cX1_setNumber 7 = .ok (.iload_n 2, 1) := by decide +kernel
theorem dX1_setNumber_8 : decode cX1_setNumber 8 = .ok (.iadd, 1) := by decide +kernel
theorem dX1_setNumber_9 : decode cX1_setNumber 9 = .ok (.iload_n 3, 1) := by decide +kernel
theorem dX1_setNumber_10 : decode cX1_setNumber 10 = .ok (.iastore, 1) := by decide +kernel
theorem dX1_setNumber_11 : decode cX1_setNumber 11 = .ok (.return_, 1) := by decide +kernel
theorem dX1_forget_0 : decode cX1_forget 0 = .ok (.iconst 0, 1) := by decide +kernel
theorem dX1_forget_1 : decode cX1_forget 1 = .ok (.istore_n 1, 1) := by decide +kernel
theorem dX1_forget_2 : decode cX1_forget 2 = .ok (.iconst 0, 1) := by decide +kernel
theorem dX1_forget_3 : decode cX1_forget 3 = .ok (.istore_n 2, 1) := by decide +kernel
theorem dX1_forget_4 : decode cX1_forget 4 = .ok (.iload_n 2, 1) := by decide +kernel
theorem dX1_forget_5 : decode cX1_forget 5 = .ok (.bipush 16, 2) := by decide +kernel
theorem dX1_forget_7 : decode cX1_forget 7 = .ok (.if_icmp .ge 21, 3) := by decide +kernel
theorem dX1_forget_10 : decode cX1_forget 10 = .ok (.aload_n 0, 1) := by decide +kernel
theorem dX1_forget_11 : decode cX1_forget 11 = .ok (.getfield 9, 3) := by decide +kernel
theorem dX1_forget_14 : decode cX1_forget 14 = .ok (.iload_n 2, 1) := by decide +kernel
theorem dX1_forget_15 : decode cX1_forget 15 = .ok (.iaload, 1) := by decide +kernel
theorem dX1_forget_16 : decode cX1_forget 16 = .ok (.ifCond .eq 6, 3) := by decide +kernel
theorem dX1_forget_19 : decode cX1_forget 19 = .ok (.iinc 1 1, 3) := by decide +kernel
theorem dX1_forget_22 : decode cX1_forget 22 = .ok (.iinc 2 1, 3) := by decide +kernel
theorem dX1_forget_25 : decode cX1_forget 25 = .ok (.goto (-21), 3) := by decide +kernel
theorem dX1_forget_28 : decode cX1_forget 28 = .ok (.aload_n 0, 1) := by decide +kernel
theorem dX1_forget_29 : decode cX1_forget 29 = .ok (.getfield 9, 3) := by decide +kernel
theorem dX1_forget_32 : decode cX1_forget 32 = .ok (.iconst 0, 1) := by decide +kernel
theorem dX1_forget_33 : decode cX1_forget 33 = .ok (.invokestatic 18, 3) := by decide +kernel
theorem dX1_forget_36 : decode cX1_forget 36 = .ok (.aload_n 0, 1) := by decide +kernel
theorem dX1_forget_37 : decode cX1_forget 37 = .ok (.getfield 15, 3) := by decide +kernel
theorem dX1_forget_40 : decode cX1_forget 40 = .ok (.iconst 0, 1) := by decide +kernel
theorem dX1_forget_41 : decode cX1_forget 41 = .ok (.invokestatic 18, 3) := by decide +kernel
theorem dX1_forget_44 : decode cX1_forget 44 = .ok (.iload_n 1, 1) := by decide +kernel
theorem dX1_forget_45 : decode cX1_forget 45 = .ok (.ireturn, 1) := by decide +kernel
theorem dX2_init_0 : decode cX2_init 0 = .ok (.aload_n 0, 1) := by decide +kernel
theorem dX2_init_1 : decode cX2_init 1 = .ok (.invokespecial 3, 3) := by decide +kernel
theorem dX2_init_4 : decode cX2_init 4 = .ok (.aload_n 0, 1) := by decide +kernel
theorem dX2_init_5 : decode cX2_init 5 = .ok (.bipush 16, 2) := by decide +kernel
theorem dX2_init_7 : decode cX2_init 7 = .ok (.newarray .int, 2) := by decide +kernel
theorem dX2_init_9 : decode cX2_init 9 = .ok (.putfield 9, 3) := by decide +kernel
theorem dX2_init_12 : decode cX2_init 12 = .ok (.return_, 1) := by decide +kernel
theorem dX2_empty_0 : decode cX2_empty 0 = .ok (.aload_n 0, 1) := by decide +kernel
theorem dX2_empty_1 : decode cX2_empty 1 = .ok (.iconst 0, 1) := by decide +kernel
theorem dX2_empty_2 : decode cX2_empty 2 = .ok (.putfield 15, 3) := by decide +kernel
theorem dX2_empty_5 : decode cX2_empty 5 = .ok (.aload_n 0, 1) := by decide +kernel
theorem dX2_empty_6 : decode cX2_empty 6 = .ok (.iconst 0, 1) := by decide +kernel
theorem dX2_empty_7 : decode cX2_empty 7 = .ok (.putfield 19, 3) := by decide +kernel
theorem dX2_empty_10 : decode cX2_empty 10 = .ok (.return_, 1) := by decide +kernel
theorem dX2_has_0 : decode cX2_has 0 = .ok (.aload_n 0, 1) := by decide +kernel
theorem dX2_has_1 : decode cX2_has 1 = .ok (.getfield 19, 3) := by decide +kernel
theorem dX2_has_4 : decode cX2_has 4 = .ok (.iload_n 1, 1) := by decide +kernel
theorem dX2_has_5 : decode cX2_has 5 = .ok (.ishr, 1) := by decide +kernel
theorem dX2_has_6 : decode cX2_has 6 = .ok (.iconst 1, 1) := by decide +kernel
theorem dX2_has_7 : decode cX2_has 7 = .ok (.iand, 1) := by decide +kernel
theorem dX2_has_8 : decode cX2_has 8 = .ok (.ifCond .eq 7, 3) := by decide +kernel
theorem dX2_has_11 : decode cX2_has 11 = .ok (.iconst 1, 1) := by decide +kernel
theorem dX2_has_12 : decode cX2_has 12 = .ok (.goto 4, 3) := by decide +kernel
theorem dX2_has_15 : decode cX2_has 15 = .ok (.iconst 0, 1) := by decide +kernel
theorem dX2_has_16 : decode cX2_has 16 = .ok (.ireturn, 1) := by decide +kernel
theorem dX2_addOnce_0 : decode cX2_addOnce 0 = .ok (.aload_n 0, 1) := by decide +kernel
theorem dX2_addOnce_1 : decode cX2_addOnce 1 = .ok (.iload_n 1, 1) := by decide +kernel
theorem dX2_addOnce_2 : decode cX2_addOnce 2 = .ok (.invokevirtual 22, 3) := by decide +kernel
theorem dX2_addOnce_5 : decode cX2_addOnce 5 = .ok (.ifCond .ne 44, 3) := by decide +kernel
theorem dX2_addOnce_8 : decode cX2_addOnce 8 = .ok (.aload_n 0, 1) := by decide +kernel
theorem dX2_addOnce_9 : decode cX2_addOnce 9 = .ok (.getfield 15, 3) := by decide +kernel
theorem dX2_addOnce_12 : decode cX2_addOnce 12 = .ok (.bipush 16, 2) := by decide +kernel
theorem dX2_addOnce_14 : decode cX2_addOnce 14 = .ok (.if_icmp .ge 35, 3) := by decide +kernel
theorem dX2_addOnce_17 : decode cX2_addOnce 17 = .ok (.aload_n 0, 1) := by decide +kernel
theorem dX2_addOnce_18 : decode cX2_addOnce 18 = .ok (.getfield 9, 3) := by decide +kernel
theorem dX2_addOnce_21 : decode cX2_addOnce 21 = .ok (.aload_n 0, 1) := by decide +kernel
theorem dX2_addOnce_22 : decode cX2_addOnce 22 = .ok (.getfield 15, 3) := by decide +kernel
theorem dX2_addOnce_25 : decode cX2_addOnce 25 = .ok (.iload_n 1, 1) := by decide +kernel
theorem dX2_addOnce_26 : decode cX2_addOnce 26 = .ok (.iastore, 1) := by decide +kernel
theorem dX2_addOnce_27 : decode cX2_addOnce 27 = .ok (.aload_n 0, 1) := by decide +kernel
theorem dX2_addOnce_28 : decode cX2_addOnce 28 = .ok (.dup, 1) := by decide +kernel
theorem dX2_addOnce_29 : decode cX2_addOnce 29 = .ok (.getfield 15, 3) := by decide +kernel
theorem dX2_addOnce_32 : decode cX2_addOnce 32 = .ok (.iconst 1, 1) := by decide +kernel
theorem dX2_addOnce_33 : decode cX2_addOnce 33 = .ok (.iadd, 1) := by decide +kernel
theorem dX2_addOnce_34 : decode cX2_addOnce 34 = .ok (.putfield 15, 3) := by decide +kernel
theorem dX2_addOnce_37 : decode cX2_addOnce 37 = .ok (.aload_n 0, 1) := by decide +kernel
theorem dX2_addOnce_38 : decode cX2_addOnce 38 = .ok (.dup, 1) := by decide +kernel
theorem dX2_addOnce_39 : decode cX2_addOnce 39 = .ok (.getfield 19, 3) := by decide +kernel
theorem dX2_addOnce_42 : decode cX2_addOnce 42 = .ok (.iconst 1, 1) := by decide +kernel
theorem dX2_addOnce_43 : decode cX2_addOnce 43 = .ok (.iload_n 1, 1) := by decide +kernel
theorem dX2_addOnce_44 : decode cX2_addOnce 44 = .ok (.ishl, 1) := by decide +kernel
theorem dX2_addOnce_45 : decode cX2_addOnce 45 = .ok (.ior, 1) := by decide +kernel
theorem dX2_addOnce_46 : decode cX2_addOnce 46 = .ok (.putfield 19, 3) := by decide +kernel
theorem dX2_addOnce_49 : decode cX2_addOnce 49 = .ok (.return_, 1) := by decide +kernel
theorem dX2_addAllOnce_0 : decode cX2_addAllOnce 0 = .ok (.iconst 0, 1) := by decide +kernel
theorem dX2_addAllOnce_1 : decode cX2_addAllOnce 1 = .ok (.istore_n 2, 1) := by decide +kernel
theorem dX2_addAllOnce_2 : decode cX2_addAllOnce 2 = .ok (.iload_n 2, 1) := by decide +kernel
theorem dX2_addAllOnce_3 : decode cX2_addAllOnce 3 = .ok (.aload_n 1, 1) := by decide +kernel
theorem dX2_addAllOnce_4 : decode cX2_addAllOnce 4 = .ok (.getfield 15, 3) := by decide +kernel
theorem dX2_addAllOnce_7 : decode cX2_addAllOnce 7 = .ok (.if_icmp .ge 19, 3) := by decide +kernel
theorem dX2_addAllOnce_10 : decode cX2_addAllOnce 10 = .ok (.aload_n 0, 1) := by decide +kernel
theorem dX2_addAllOnce_11 : decode cX2_addAllOnce 11 = .ok (.aload_n 1, 1) := by decide +kernel
theorem dX2_addAllOnce_12 : decode cX2_addAllOnce 12 = .ok (.getfield 9, 3) := by decide +kernel
theorem dX2_addAllOnce_15 : decode cX2_addAllOnce 15 = .ok (.iload_n 2, 1) := by decide +kernel
theorem dX2_addAllOnce_16 : decode cX2_addAllOnce 16 = .ok (.iaload, 1) := by decide +kernel
theorem dX2_addAllOnce_17 : decode cX2_addAllOnce 17 = .ok (.invokevirtual 26, 3) := by decide +kernel
theorem dX2_addAllOnce_20 : decode cX2_addAllOnce 20 = .ok (.iinc 2 1, 3) := by decide +kernel
theorem dX2_addAllOnce_23 : decode cX2_addAllOnce 23 = .ok (.goto (-21), 3) := by decide +kernel
theorem dX2_addAllOnce_26 : decode cX2_addAllOnce 26 = .ok (.return_, 1) := by decide +kernel
theorem dX3_init_0 : decode cX3_init 0 = .ok (.aload_n 0, 1) := by decide +kernel
theorem dX3_init_1 : decode cX3_init 1 = .ok (.invokespecial 3, 3) := by decide +kernel
theorem dX3_init_4 : decode cX3_init 4 = .ok (.aload_n 0, 1) := by decide +kernel
theorem dX3_init_5 : decode cX3_init 5 = .ok (.new 9, 3) := by decide +kernel
theorem dX3_init_8 : decode cX3_init 8 = .ok (.dup, 1) := by decide +kernel
theorem dX3_init_9 : decode cX3_init 9 = .ok (.invokespecial 11, 3) := by decide +kernel
theorem dX3_init_12 : decode cX3_init 12 = .ok (.putfield 12, 3) := by decide +kernel
theorem dX3_init_15 : decode cX3_init 15 = .ok (.aload_n 0, 1) := by decide +kernel
theorem dX3_init_16 : decode cX3_init 16 = .ok (.bipush 16, 2) := by decide +kernel
theorem dX3_init_18 : decode cX3_init 18 = .ok (.newarray .int, 2) := by decide +kernel
theorem dX3_init_20 : decode cX3_init 20 = .ok (.putfield 18, 3) := by decide +kernel
theorem dX3_init_23 : decode cX3_init 23 = .ok (.aload_n 0, 1) := by decide +kernel
theorem dX3_init_24 : decode cX3_init 24 = .ok (.sipush 1000, 3) := by decide +kernel
theorem dX3_init_27 : decode cX3_init 27 = .ok (.putfield 22, 3) := by decide +kernel
theorem dX3_init_30 : decode cX3_init 30 = .ok (.aload_n 0, 1) := by decide +kernel
theorem dX3_init_31 : decode cX3_init 31 = .ok (.iconst (-1), 1) := by decide +kernel
theorem dX3_init_32 : decode cX3_init 32 = .ok (.putfield 26, 3) := by decide +kernel
theorem dX3_init_35 : decode cX3_init 35 = .ok (.return_, 1) := by decide +kernel
theorem dX3_forget_0 : decode cX3_forget 0 = .ok (.aload_n 0, 1) := by decide +kernel
theorem dX3_forget_1 : decode cX3_forget 1 = .ok (.getfield 18, 3) := by decide +kernel
theorem dX3_forget_4 : decode cX3_forget 4 = .ok (.iconst 0, 1) := by decide +kernel
theorem dX3_forget_5 : decode cX3_forget 5 = .ok (.invokestatic 29, 3) := by decide +kernel
theorem dX3_forget_8 : decode cX3_forget 8 = .ok (.aload_n 0, 1) := by decide +kernel
theorem dX3_forget_9 : decode cX3_forget 9 = .ok (.iconst (-1), 1) := by decide +kernel
theorem dX3_forget_10 : decode cX3_forget 10 = .ok (.putfield 26, 3) := by decide +kernel
theorem dX3_forget_13 : decode cX3_forget 13 = .ok (.aload_n 0, 1) := by decide +kernel
theorem dX3_forget_14 : decode cX3_forget 14 = .ok (.getfield 12, 3) := by decide +kernel
theorem dX3_forget_17 : decode cX3_forget 17 = .ok (.invokevirtual 35, 3) := by decide +kernel
theorem dX3_forget_20 : decode cX3_forget 20 = .ok (.ireturn, 1) := by decide +kernel
theorem dX4_init_0 : decode cX4_init 0 = .ok (.aload_n 0, 1) := by decide +kernel
theorem dX4_init_1 : decode cX4_init 1 = .ok (.invokespecial 3, 3) := by decide +kernel
theorem dX4_init_4 : decode cX4_init 4 = .ok (.aload_n 0, 1) := by decide +kernel
theorem dX4_init_5 : decode cX4_init 5 = .ok (.iconst (-1), 1) := by decide +kernel
theorem dX4_init_6 : decode cX4_init 6 = .ok (.putfield 9, 3) := by decide +kernel
theorem dX4_init_9 : decode cX4_init 9 = .ok (.aload_n 0, 1) := by decide +kernel
theorem dX4_init_10 : decode cX4_init 10 = .ok (.new 15, 3) := by decide +kernel
theorem dX4_init_13 : decode cX4_init 13 = .ok (.dup, 1) := by decide +kernel
theorem dX4_init_14 : decode cX4_init 14 = .ok (.invokespecial 17, 3) := by decide +kernel
theorem dX4_init_17 : decode cX4_init 17 = .ok (.putfield 18, 3) := by decide +kernel
theorem dX4_init_20 : decode cX4_init 20 = .ok (.aload_n 0, 1) := by decide +kernel
theorem dX4_init_21 : decode cX4_init 21 = .ok (.new 15, 3) := by decide +kernel
theorem dX4_init_24 : decode cX4_init 24 = .ok (.dup, 1) := by decide +kernel
theorem dX4_init_25 : decode cX4_init 25 = .ok (.invokespecial 17, 3) := by decide +kernel
theorem dX4_init_28 : decode cX4_init 28 = .ok (.putfield 22, 3) := by decide +kernel
theorem dX4_init_31 : decode cX4_init 31 = .ok (.aload_n 0, 1) := by decide +kernel
theorem dX4_init_32 : decode cX4_init 32 = .ok (.new 15, 3) := by decide +kernel
theorem dX4_init_35 : decode cX4_init 35 = .ok (.dup, 1) := by decide +kernel
theorem dX4_init_36 : decode cX4_init 36 = .ok (.invokespecial 17, 3) := by decide +kernel
theorem dX4_init_39 : decode cX4_init 39 = .ok (.putfield 25, 3) := by decide +kernel
theorem dX4_init_42 : decode cX4_init 42 = .ok (.aload_n 0, 1) := by decide +kernel
theorem dX4_init_43 : decode cX4_init 43 = .ok (.iconst 5, 1) := by decide +kernel
theorem dX4_init_44 : decode cX4_init 44 = .ok (.newarray .int, 2) := by decide +kernel
theorem dX4_init_46 : decode cX4_init 46 = .ok (.putfield 28, 3) := by decide +kernel
theorem dX4_init_49 : decode cX4_init 49 = .ok (.aload_n 0, 1) := by decide +kernel
theorem dX4_init_50 : decode cX4_init 50 = .ok (.iconst 5, 1) := by decide +kernel
theorem dX4_init_51 : decode cX4_init 51 = .ok (.newarray .int, 2) := by decide +kernel
theorem dX4_init_53 : decode cX4_init 53 = .ok (.putfield 32, 3) := by decide +kernel
theorem dX4_init_56 : decode cX4_init 56 = .ok (.aload_n 0, 1) := by decide +kernel
theorem dX4_init_57 : decode cX4_init 57 = .ok (.bipush 8, 2) := by decide +kernel
theorem dX4_init_59 : decode cX4_init 59 = .ok (.newarray .int, 2) := by decide +kernel
theorem dX4_init_61 : decode cX4_init 61 = .ok (.putfield 35, 3) := by decide +kernel
theorem dX4_init_64 : decode cX4_init 64 = .ok (.aload_n 0, 1) := by decide +kernel
theorem dX4_init_65 : decode cX4_init 65 = .ok (.bipush 8, 2) := by decide +kernel
theorem dX4_init_67 : decode cX4_init 67 = .ok (.newarray .int, 2) := by decide +kernel
theorem dX4_init_69 : decode cX4_init 69 = .ok (.putfield 38, 3) := by decide +kernel
theorem dX4_init_72 : decode cX4_init 72 = .ok (.aload_n 0, 1) := by decide +kernel
theorem dX4_init_73 : decode cX4_init 73 = .ok (.bipush 8, 2) := by decide +kernel
theorem dX4_init_75 : decode cX4_init 75 = .ok (.newarray .int, 2) := by decide +kernel
theorem dX4_init_77 : decode cX4_init 77 = .ok (.putfield 41, 3) := by decide +kernel
theorem dX4_init_80 : decode cX4_init 80 = .ok (.aload_n 0, 1) := by decide +kernel
theorem dX4_init_81 : decode cX4_init 81 = .ok (.bipush 8, 2) := by decide +kernel
theorem dX4_init_83 : decode cX4_init 83 = .ok (.newarray .int, 2) := by decide +kernel
theorem dX4_init_85 : decode cX4_init 85 = .ok (.putfield 44, 3) := by decide +kernel
theorem dX4_init_88 : decode cX4_init 88 = .ok (.return_, 1) := by decide +kernel
theorem dX4_begin_0 : decode cX4_begin 0 = .ok (.aload_n 0, 1) := by decide +kernel
theorem dX4_begin_1 : decode cX4_begin 1 = .ok (.iload_n 1, 1) := by decide +kernel
theorem dX4_begin_2 : decode cX4_begin 2 = .ok (.putfield 47, 3) := by decide +kernel
theorem dX4_begin_5 : decode cX4_begin 5 = .ok (.aload_n 0, 1) := by decide +kernel
theorem dX4_begin_6 : decode cX4_begin 6 = .ok (.iload_n 2, 1) := by decide +kernel
theorem dX4_begin_7 : decode cX4_begin 7 = .ok (.putfield 9, 3) := by decide +kernel
theorem dX4_begin_10 : decode cX4_begin 10 = .ok (.aload_n 0, 1) := by decide +kernel
theorem dX4_begin_11 : decode cX4_begin 11 = .ok (.iload_n 3, 1) := by decide +kernel
theorem dX4_begin_12 : decode cX4_begin 12 = .ok (.putfield 50, 3) := by decide +kernel
theorem dX4_begin_15 : decode cX4_begin 15 = .ok (.aload_n 0, 1) := by decide +kernel
theorem dX4_begin_16 : decode cX4_begin 16 = .ok (.getfield 18, 3) := by decide +kernel
theorem dX4_begin_19 : decode cX4_begin 19 = .ok (.invokevirtual 54, 3) := by decide +kernel
theorem dX4_begin_22 : decode cX4_begin 22 = .ok (.aload_n 0, 1) := by decide +kernel
theorem dX4_begin_23 : decode cX4_begin 23 = .ok (.getfield 28, 3) := by decide +kernel
theorem dX4_begin_26 : decode cX4_begin 26 = .ok (.iconst 0, 1) := by decide +kernel
theorem dX4_begin_27 : decode cX4_begin 27 = .ok (.invokestatic 57, 3) := by decide +kernel
theorem dX4_begin_30 : decode cX4_begin 30 = .ok (.aload_n 0, 1) := by decide +kernel
theorem dX4_begin_31 : decode cX4_begin 31 = .ok (.iconst 0, 1) := by decide +kernel
theorem dX4_begin_32 : decode cX4_begin 32 = .ok (.putfield 63, 3) := by decide +kernel
theorem dX4_begin_35 : decode cX4_begin 35 = .ok (.return_, 1) := by decide +kernel
theorem dX4_addLine_0 : decode cX4_addLine 0 = .ok (.aload_n 0, 1) := by decide +kernel
theorem dX4_addLine_1 : decode cX4_addLine 1 = .ok (.getfield 63, 3) := by decide +kernel
theorem dX4_addLine_4 : decode cX4_addLine 4 = .ok (.bipush 8, 2) := by decide +kernel
theorem dX4_addLine_6 : decode cX4_addLine 6 = .ok (.if_icmp .ge 54, 3) := by decide +kernel
theorem dX4_addLine_9 : decode cX4_addLine 9 = .ok (.aload_n 0, 1) := by decide +kernel
theorem dX4_addLine_10 : decode cX4_addLine 10 = .ok (.getfield 35, 3) := by decide +kernel
theorem dX4_addLine_13 : decode cX4_addLine 13 = .ok (.aload_n 0, 1) := by decide +kernel
theorem dX4_addLine_14 : decode cX4_addLine 14 = .ok (.getfield 63, 3) := by decide +kernel
theorem dX4_addLine_17 : decode cX4_addLine 17 = .ok (.iload_n 1, 1) := by decide +kernel
theorem dX4_addLine_18 : decode cX4_addLine 18 = .ok (.iastore, 1) := by decide +kernel
theorem dX4_addLine_19 : decode cX4_addLine 19 = .ok (.aload_n 0, 1) := by decide +kernel
theorem dX4_addLine_20 : decode cX4_addLine 20 = .ok (.getfield 38, 3) := by decide +kernel
theorem dX4_addLine_23 : decode cX4_addLine 23 = .ok (.aload_n 0, 1) := by decide +kernel
theorem dX4_addLine_24 : decode cX4_addLine 24 = .ok (.getfield 63, 3) := by decide +kernel
theorem dX4_addLine_27 : decode cX4_addLine 27 = .ok (.iload_n 2, 1) := by decide +kernel
theorem dX4_addLine_28 : decode cX4_addLine 28 = .ok (.iastore, 1) := by decide +kernel
theorem dX4_addLine_29 : decode cX4_addLine 29 = .ok (.aload_n 0, 1) := by decide +kernel
theorem dX4_addLine_30 : decode cX4_addLine 30 = .ok (.getfield 41, 3) := by decide +kernel
theorem dX4_addLine_33 : decode cX4_addLine 33 = .ok (.aload_n 0, 1) := by decide +kernel
theorem dX4_addLine_34 : decode cX4_addLine 34 = .ok (.getfield 63, 3) := by decide +kernel
theorem dX4_addLine_37 : decode cX4_addLine 37 = .ok (.iload_n 3, 1) := by decide +kernel
theorem dX4_addLine_38 : decode cX4_addLine 38 = .ok (.iastore, 1) := by decide +kernel
theorem dX4_addLine_39 : decode cX4_addLine 39 = .ok (.aload_n 0, 1) := by decide +kernel
theorem dX4_addLine_40 : decode cX4_addLine 40 = .ok (.getfield 44, 3) := by decide +kernel
theorem dX4_addLine_43 : decode cX4_addLine 43 = .ok (.aload_n 0, 1) := by decide +kernel
theorem dX4_addLine_44 : decode cX4_addLine 44 = .ok (.getfield 63, 3) := by decide +kernel
theorem dX4_addLine_47 : decode cX4_addLine 47 = .ok (.iload 4, 2) := by decide +kernel
theorem dX4_addLine_49 : decode cX4_addLine 49 = .ok (.iastore, 1) := by decide +kernel
theorem dX4_addLine_50 : decode cX4_addLine 50 = .ok (.aload_n 0, 1) := by decide +kernel
theorem dX4_addLine_51 : decode cX4_addLine 51 = .ok (.dup, 1) := by decide +kernel
theorem dX4_addLine_52 : decode cX4_addLine 52 = .ok (.getfield 63, 3) := by decide +kernel
theorem dX4_addLine_55 : decode cX4_addLine 55 = .ok (.iconst 1, 1) := by decide +kernel
theorem dX4_addLine_56 : decode cX4_addLine 56 = .ok (.iadd, 1) := by decide +kernel
theorem dX4_addLine_57 : decode cX4_addLine 57 = .ok (.putfield 63, 3) := by decide +kernel
theorem dX4_addLine_60 : decode cX4_addLine 60 = .ok (.aload_n 0, 1) := by decide +kernel
theorem dX4_addLine_61 : decode cX4_addLine 61 = .ok (.getfield 63, 3) := by decide +kernel
theorem dX4_addLine_64 : decode cX4_addLine 64 = .ok (.ireturn, 1) := by decide +kernel
theorem dX5_init_0 : decode cX5_init 0 = .ok (.aload_n 0, 1) := by decide +kernel
theorem dX5_init_1 : decode cX5_init 1 = .ok (.invokespecial 3, 3) := by decide +kernel
theorem dX5_init_4 : decode cX5_init 4 = .ok (.aload_n 0, 1) := by decide +kernel
theorem dX5_init_5 : decode cX5_init 5 = .ok (.sipush 512, 3) := by decide +kernel
theorem dX5_init_8 : decode cX5_init 8 = .ok (.newarray .int, 2) := by decide +kernel
theorem dX5_init_10 : decode cX5_init 10 = .ok (.putfield 9, 3) := by decide +kernel
theorem dX5_init_13 : decode cX5_init 13 = .ok (.aload_n 0, 1) := by decide +kernel
theorem dX5_init_14 : decode cX5_init 14 = .ok (.sipush 512, 3) := by decide +kernel
theorem dX5_init_17 : decode cX5_init 17 = .ok (.newarray .int, 2) := by decide +kernel
theorem dX5_init_19 : decode cX5_init 19 = .ok (.putfield 15, 3) := by decide +kernel
theorem dX5_init_22 : decode cX5_init 22 = .ok (.aload_n 0, 1) := by decide +kernel
theorem dX5_init_23 : decode cX5_init 23 = .ok (.sipush 512, 3) := by decide +kernel
theorem dX5_init_26 : decode cX5_init 26 = .ok (.newarray .int, 2) := by decide +kernel
theorem dX5_init_28 : decode cX5_init 28 = .ok (.putfield 18, 3) := by decide +kernel
theorem dX5_init_31 : decode cX5_init 31 = .ok (.return_, 1) := by decide +kernel
theorem dX5_open_0 : decode cX5_open 0 = .ok (.aload_n 0, 1) := by decide +kernel
theorem dX5_open_1 : decode cX5_open 1 = .ok (.getfield 21, 3) := by decide +kernel
theorem dX5_open_4 : decode cX5_open 4 = .ok (.istore_n 2, 1) := by decide +kernel
theorem dX5_open_5 : decode cX5_open 5 = .ok (.iload_n 2, 1) := by decide +kernel
theorem dX5_open_6 : decode cX5_open 6 = .ok (.sipush 512, 3) := by decide +kernel
theorem dX5_open_9 : decode cX5_open 9 = .ok (.if_icmp .lt 5, 3) := by decide +kernel
theorem dX5_open_12 : decode cX5_open 12 = .ok (.iconst (-1), 1) := by decide +kernel
theorem dX5_open_13 : decode cX5_open 13 = .ok (.ireturn, 1) := by decide +kernel
theorem dX5_open_14 : decode cX5_open 14 = .ok (.aload_n 0, 1) := by decide +kernel
theorem dX5_open_15 : decode cX5_open 15 = .ok (.getfield 9, 3) := by decide +kernel
theorem dX5_open_18 : decode cX5_open 18 = .ok (.iload_n 2, 1) := by decide +kernel
theorem dX5_open_19 : decode cX5_open 19 = .ok (.iload_n 1, 1) := by decide +kernel
theorem dX5_open_20 : decode cX5_open 20 = .ok (.iastore, 1) := by decide +kernel
theorem dX5_open_21 : decode cX5_open 21 = .ok (.aload_n 0, 1) := by decide +kernel
theorem dX5_open_22 : decode cX5_open 22 = .ok (.dup, 1) := by decide +kernel
theorem dX5_open_23 : decode cX5_open 23 = .ok (.getfield 21, 3) := by decide +kernel
theorem dX5_open_26 : decode cX5_open 26 = .ok (.iconst 1, 1) := by decide +kernel
theorem dX5_open_27 : decode cX5_open 27 = .ok (.iadd, 1) := by decide +kernel
theorem dX5_open_28 : decode cX5_open 28 = .ok (.putfield 21, 3) := by decide +kernel
theorem dX5_open_31 : decode cX5_open 31 = .ok (.iload_n 2, 1) := by decide +kernel
theorem dX5_open_32 : decode cX5_open 32 = .ok (.ireturn, 1) := by decide +kernel
theorem dX5_close_0 : decode cX5_close 0 = .ok (.iload_n 1, 1) := by decide +kernel
theorem dX5_close_1 : decode cX5_close 1 = .ok (.iconst 0, 1) := by decide +kernel
theorem dX5_close_2 : decode cX5_close 2 = .ok (.aload_n 0, 1) := by decide +kernel
theorem dX5_close_3 : decode cX5_close 3 = .ok (.getfield 21, 3) := by decide +kernel
theorem dX5_close_6 : decode cX5_close 6 = .ok (.iconst 1, 1) := by decide +kernel
theorem dX5_close_7 : decode cX5_close 7 = .ok (.isub, 1) := by decide +kernel
theorem dX5_close_8 : decode cX5_close 8 = .ok (.invokestatic 25, 3) := by decide +kernel
theorem dX5_close_11 : decode cX5_close 11 = .ok (.ifCond .eq 17, 3) := by decide +kernel
theorem dX5_close_14 : decode cX5_close 14 = .ok (.aload_n 0, 1) := by decide +kernel
theorem dX5_close_15 : decode cX5_close 15 = .ok (.getfield 15, 3) := by decide +kernel
theorem dX5_close_18 : decode cX5_close 18 = .ok (.iload_n 1, 1) := by decide +kernel
theorem dX5_close_19 : decode cX5_close 19 = .ok (.iload_n 2, 1) := by decide +kernel
theorem dX5_close_20 : decode cX5_close 20 = .ok (.iastore, 1) := by decide +kernel
theorem dX5_close_21 : decode cX5_close 21 = .ok (.aload_n 0, 1) := by decide +kernel
theorem dX5_close_22 : decode cX5_close 22 = .ok (.getfield 18, 3) := by decide +kernel
theorem dX5_close_25 : decode cX5_close 25 = .ok (.iload_n 1, 1) := by decide +kernel
theorem dX5_close_26 : decode cX5_close 26 = .ok (.iload_n 3, 1) := by decide +kernel
theorem dX5_close_27 : decode cX5_close 27 = .ok (.iastore, 1) := by decide +kernel
theorem dX5_close_28 : decode cX5_close 28 = .ok (.return_, 1) := by decide +kernel
theorem dX6_init_0 : decode cX6_init 0 = .ok (.aload_n 0, 1) := by decide +kernel
theorem dX6_init_1 : decode cX6_init 1 = .ok (.invokespecial 1, 3) := by decide +kernel
theorem dX6_init_4 : decode cX6_init 4 = .ok (.aload_n 0, 1) := by decide +kernel
theorem dX6_init_5 : decode cX6_init 5 = .ok (.bipush 16, 2) := by decide +kernel
theorem dX6_init_7 : decode cX6_init 7 = .ok (.anewarray 9, 3) := by decide +kernel
theorem dX6_init_10 : decode cX6_init 10 = .ok (.putfield 11, 3) := by decide +kernel
theorem dX6_init_13 : decode cX6_init 13 = .ok (.aload_n 0, 1) := by decide +kernel
theorem dX6_init_14 : decode cX6_init 14 = .ok (.iconst 4, 1) := by decide +kernel
theorem dX6_init_15 : decode cX6_init 15 = .ok (.anewarray 15, 3) := by decide +kernel
theorem dX6_init_18 : decode cX6_init 18 = .ok (.putfield 17, 3) := by decide +kernel
theorem dX6_init_21 : decode cX6_init 21 = .ok (.aload_n 0, 1) := by decide +kernel
theorem dX6_init_22 : decode cX6_init 22 = .ok (.new 21, 3) := by decide +kernel
theorem dX6_init_25 : decode cX6_init 25 = .ok (.dup, 1) := by decide +kernel
theorem dX6_init_26 : decode cX6_init 26 = .ok (.invokespecial 23, 3) := by decide +kernel
theorem dX6_init_29 : decode cX6_init 29 = .ok (.putfield 24, 3) := by decide +kernel
theorem dX6_init_32 : decode cX6_init 32 = .ok (.aload_n 0, 1) := by decide +kernel
theorem dX6_init_33 : decode cX6_init 33 = .ok (.new 28, 3) := by decide +kernel
theorem dX6_init_36 : decode cX6_init 36 = .ok (.dup, 1) := by decide +kernel
theorem dX6_init_37 : decode cX6_init 37 = .ok (.invokespecial 30, 3) := by decide +kernel
theorem dX6_init_40 : decode cX6_init 40 = .ok (.putfield 31, 3) := by decide +kernel
theorem dX6_init_43 : decode cX6_init 43 = .ok (.aload_n 0, 1) := by decide +kernel
theorem dX6_init_44 : decode cX6_init 44 = .ok (.new 35, 3) := by decide +kernel
theorem dX6_init_47 : decode cX6_init 47 = .ok (.dup, 1) := by decide +kernel
theorem dX6_init_48 : decode cX6_init 48 = .ok (.invokespecial 37, 3) := by decide +kernel
theorem dX6_init_51 : decode cX6_init 51 = .ok (.putfield 38, 3) := by decide +kernel
theorem dX6_init_54 : decode cX6_init 54 = .ok (.iconst 0, 1) := by decide +kernel
theorem dX6_init_55 : decode cX6_init 55 = .ok (.istore_n 1, 1) := by decide +kernel
theorem dX6_init_56 : decode cX6_init 56 = .ok (.iload_n 1, 1) := by decide +kernel
theorem dX6_init_57 : decode cX6_init 57 = .ok (.bipush 16, 2) := by decide +kernel
theorem dX6_init_59 : decode cX6_init 59 = .ok (.if_icmp .ge 22, 3) := by decide +kernel
theorem dX6_init_62 : decode cX6_init 62 = .ok (.aload_n 0, 1) := by decide +kernel
theorem dX6_init_63 : decode cX6_init 63 = .ok (.getfield 11, 3) := by decide +kernel
theorem dX6_init_66 : decode cX6_init 66 = .ok (.iload_n 1, 1) := by decide +kernel
theorem dX6_init_67 : decode cX6_init 67 = .ok (.new 9, 3) := by decide +kernel
theorem dX6_init_70 : decode cX6_init 70 = .ok (.dup, 1) := by decide +kernel
theorem dX6_init_71 : decode cX6_init 71 = .ok (.invokespecial 42, 3) := by decide +kernel
theorem dX6_init_74 : decode cX6_init 74 = .ok (.aastore, 1) := by decide +kernel
theorem dX6_init_75 : decode cX6_init 75 = .ok (.iinc 1 1, 3) := by decide +kernel
theorem dX6_init_78 : decode cX6_init 78 = .ok (.goto (-22), 3) := by decide +kernel
theorem dX6_init_81 : decode cX6_init 81 = .ok (.iconst 0, 1) := by decide +kernel
theorem dX6_init_82 : decode cX6_init 82 = .ok (.istore_n 1, 1) := by decide +kernel
theorem dX6_init_83 : decode cX6_init 83 = .ok (.iload_n 1, 1) := by decide +kernel
theorem dX6_init_84 : decode cX6_init 84 = .ok (.iconst 4, 1) := by decide +kernel
theorem dX6_init_85 : decode cX6_init 85 = .ok (.if_icmp .ge 22, 3) := by decide +kernel
theorem dX6_init_88 : decode cX6_init 88 = .ok (.aload_n 0, 1) := by decide +kernel
theorem dX6_init_89 : decode cX6_init 89 = .ok (.getfield 17, 3) := by decide +kernel
theorem dX6_init_92 : decode cX6_init 92 = .ok (.iload_n 1, 1) := by decide +kernel
theorem dX6_init_93 : decode cX6_init 93 = .ok (.new 15, 3) := by decide +kernel
theorem dX6_init_96 : decode cX6_init 96 = .ok (.dup, 1) := by decide +kernel
theorem dX6_init_97 : decode cX6_init 97 = .ok (.invokespecial 43, 3) := by decide +kernel
theorem dX6_init_100 : decode cX6_init 100 = .ok (.aastore, 1) := by decide +kernel
theorem dX6_init_101 : decode cX6_init 101 = .ok (.iinc 1 1, 3) := by decide +kernel
theorem dX6_init_104 : decode cX6_init 104 = .ok (.goto (-21), 3) := by decide +kernel
theorem dX6_init_107 : decode cX6_init 107 = .ok (.return_, 1) := by decide +kernel
theorem dX6_type_0 : decode cX6_type 0 = .ok (.iload_n 1, 1) := by decide +kernel
theorem dX6_type_1 : decode cX6_type 1 = .ok (.iconst 0, 1) := by decide +kernel
theorem dX6_type_2 : decode cX6_type 2 = .ok (.iconst 2, 1) := by decide +kernel
theorem dX6_type_3 : decode cX6_type 3 = .ok (.invokestatic 44, 3) := by decide +kernel
theorem dX6_type_6 : decode cX6_type 6 = .ok (.ifCond .ne 6, 3) := by decide +kernel
theorem dX6_type_9 : decode cX6_type 9 = .ok (.bipush (-102), 2) := by decide +kernel
theorem dX6_type_11 : decode cX6_type 11 = .ok (.ireturn, 1) := by decide +kernel
theorem dX6_type_12 : decode cX6_type 12 = .ok (.iload_n 2, 1) := by decide +kernel
theorem dX6_type_13 : decode cX6_type 13 = .ok (.iconst (-1), 1) := by decide +kernel
theorem dX6_type_14 : decode cX6_type 14 = .ok (.if_icmp .eq 18, 3) := by decide +kernel
theorem dX6_type_17 : decode cX6_type 17 = .ok (.iload_n 1, 1) := by decide +kernel
theorem dX6_type_18 : decode cX6_type 18 = .ok (.ifCond .ne 11, 3) := by decide +kernel
theorem dX6_type_21 : decode cX6_type 21 = .ok (.aload_n 0, 1) := by decide +kernel
theorem dX6_type_22 : decode cX6_type 22 = .ok (.iload_n 2, 1) := by decide +kernel
theorem dX6_type_23 : decode cX6_type 23 = .ok (.invokevirtual 48, 3) := by decide +kernel
theorem dX6_type_26 : decode cX6_type 26 = .ok (.ifCond .ne 6, 3) := by decide +kernel
theorem dX6_type_29 : decode cX6_type 29 = .ok (.bipush (-101), 2) := by decide +kernel
theorem dX6_type_31 : decode cX6_type 31 = .ok (.ireturn, 1) := by decide +kernel
theorem dX6_type_32 : decode cX6_type 32 = .ok (.iload_n 3, 1) := by decide +kernel
theorem dX6_type_33 : decode cX6_type 33 = .ok (.ifCond .eq 23, 3) := by decide +kernel
theorem dX6_type_36 : decode cX6_type 36 = .ok (.iload_n 2, 1) := by decide +kernel
theorem dX6_type_37 : decode cX6_type 37 = .ok (.iconst (-1), 1) := by decide +kernel
theorem dX6_type_38 : decode cX6_type 38 = .ok (.if_icmp .eq 18, 3) := by decide +kernel
theorem dX6_type_41 : decode cX6_type 41 = .ok (.aload_n 0, 1) := by decide +kernel
theorem dX6_type_42 : decode cX6_type 42 = .ok (.getfield 11, 3) := by decide +kernel
theorem dX6_type_45 : decode cX6_type 45 = .ok (.iload_n 2, 1) := by decide +kernel
theorem dX6_type_46 : decode cX6_type 46 = .ok (.aaload, 1) := by decide +kernel
theorem dX6_type_47 : decode cX6_type 47 = .ok (.getfield 52, 3) := by decide +kernel
theorem dX6_type_50 : decode cX6_type 50 = .ok (.ifCond .ne 6, 3) := by decide +kernel
theorem dX6_type_53 : decode cX6_type 53 = .ok (.bipush (-103), 2) := by decide +kernel
theorem dX6_type_55 : decode cX6_type 55 = .ok (.ireturn, 1) := by decide +kernel
theorem dX6_type_56 : decode cX6_type 56 = .ok (.aload_n 0, 1) := by decide +kernel
theorem dX6_type_57 : decode cX6_type 57 = .ok (.getfield 56, 3) := by decide +kernel
theorem dX6_type_60 : decode cX6_type 60 = .ok (.bipush 16, 2) := by decide +kernel
theorem dX6_type_62 : decode cX6_type 62 = .ok (.if_icmp .lt 6, 3) := by decide +kernel
theorem dX6_type_65 : decode cX6_type 65 = .ok (.bipush (-104), 2) := by decide +kernel
theorem dX6_type_67 : decode cX6_type 67 = .ok (.ireturn, 1) := by decide +kernel
theorem dX6_type_68 : decode cX6_type 68 = .ok (.aload_n 0, 1) := by decide +kernel
theorem dX6_type_69 : decode cX6_type 69 = .ok (.getfield 56, 3) := by decide +kernel
theorem dX6_type_72 : decode cX6_type 72 = .ok (.istore 4, 2) := by decide +kernel
theorem dX6_type_74 : decode cX6_type 74 = .ok (.aload_n 0, 1) := by decide +kernel
theorem dX6_type_75 : decode cX6_type 75 = .ok (.getfield 11, 3) := by decide +kernel
theorem dX6_type_78 : decode cX6_type 78 = .ok (.iload 4, 2) := by decide +kernel
theorem dX6_type_80 : decode cX6_type 80 = .ok (.aaload, 1) := by decide +kernel
theorem dX6_type_81 : decode cX6_type 81 = .ok (.iload_n 1, 1) := by decide +kernel
theorem dX6_type_82 : decode cX6_type 82 = .ok (.iload_n 2, 1) := by decide +kernel
theorem dX6_type_83 : decode cX6_type 83 = .ok (.iload_n 3, 1) := by decide +kernel
theorem dX6_type_84 : decode cX6_type 84 = .ok (.invokevirtual 60, 3) := by decide +kernel
theorem dX6_type_87 : decode cX6_type 87 = .ok (.aload_n 0, 1) := by decide +kernel
theorem dX6_type_88 : decode cX6_type 88 = .ok (.iload 4, 2) := by decide +kernel
theorem dX6_type_90 : decode cX6_type 90 = .ok (.invokevirtual 64, 3) := by decide +kernel
theorem dX6_type_93 : decode cX6_type 93 = .ok (.aload_n 0, 1) := by decide +kernel
theorem dX6_type_94 : decode cX6_type 94 = .ok (.dup, 1) := by decide +kernel
theorem dX6_type_95 : decode cX6_type 95 = .ok (.getfield 56, 3) := by decide +kernel
theorem dX6_type_98 : decode cX6_type 98 = .ok (.iconst 1, 1) := by decide +kernel
theorem dX6_type_99 : decode cX6_type 99 = .ok (.iadd, 1) := by decide +kernel
theorem dX6_type_100 : decode cX6_type 100 = .ok (.putfield 56, 3) := by decide +kernel
theorem dX6_type_103 : decode cX6_type 103 = .ok (.iload 4, 2) := by decide +kernel
theorem dX6_type_105 : decode cX6_type 105 = .ok (.ireturn, 1) := by decide +kernel
theorem dX6_face_0 : decode cX6_face 0 = .ok (.aload_n 0, 1) := by decide +kernel
theorem dX6_face_1 : decode cX6_face 1 = .ok (.iload_n 1, 1) := by decide +kernel
theorem dX6_face_2 : decode cX6_face 2 = .ok (.invokevirtual 68, 3) := by decide +kernel
theorem dX6_face_5 : decode cX6_face 5 = .ok (.ifCond .eq 28, 3) := by decide +kernel
theorem dX6_face_8 : decode cX6_face 8 = .ok (.aload_n 0, 1) := by decide +kernel
theorem dX6_face_9 : decode cX6_face 9 = .ok (.iload_n 2, 1) := by decide +kernel
theorem dX6_face_10 : decode cX6_face 10 = .ok (.invokevirtual 68, 3) := by decide +kernel
theorem dX6_face_13 : decode cX6_face 13 = .ok (.ifCond .eq 20, 3) := by decide +kernel
theorem dX6_face_16 : decode cX6_face 16 = .ok (.iload_n 2, 1) := by decide +kernel
theorem dX6_face_17 : decode cX6_face 17 = .ok (.iload_n 1, 1) := by decide +kernel
theorem dX6_face_18 : decode cX6_face 18 = .ok (.if_icmp .ge 15, 3) := by decide +kernel
theorem dX6_face_21 : decode cX6_face 21 = .ok (.aload_n 0, 1) := by decide +kernel
theorem dX6_face_22 : decode cX6_face 22 = .ok (.getfield 11, 3) := by decide +kernel
theorem dX6_face_25 : decode cX6_face 25 = .ok (.iload_n 2, 1) := by decide +kernel
theorem dX6_face_26 : decode cX6_face 26 = .ok (.aaload, 1) := by decide +kernel
theorem dX6_face_27 : decode cX6_face 27 = .ok (.getfield 71, 3) := by decide +kernel
theorem dX6_face_30 : decode cX6_face 30 = .ok (.ifCond .ne 6, 3) := by decide +kernel
theorem dX6_face_33 : decode cX6_face 33 = .ok (.bipush (-101), 2) := by decide +kernel
theorem dX6_face_35 : decode cX6_face 35 = .ok (.ireturn, 1) := by decide +kernel
theorem dX6_face_36 : decode cX6_face 36 = .ok (.aload_n 0, 1) := by decide +kernel
theorem dX6_face_37 : decode cX6_face 37 = .ok (.getfield 11, 3) := by decide +kernel
theorem dX6_face_40 : decode cX6_face 40 = .ok (.iload_n 1, 1) := by decide +kernel
theorem dX6_face_41 : decode cX6_face 41 = .ok (.aaload, 1) := by decide +kernel
theorem dX6_face_42 : decode cX6_face 42 = .ok (.astore_n 3, 1) := by decide +kernel
theorem dX6_face_43 : decode cX6_face 43 = .ok (.aload_n 3, 1) := by decide +kernel
theorem dX6_face_44 : decode cX6_face 44 = .ok (.getfield 52, 3) := by decide +kernel
theorem dX6_face_47 : decode cX6_face 47 = .ok (.ifCond .eq 15, 3) := by decide +kernel
theorem dX6_face_50 : decode cX6_face 50 = .ok (.aload_n 0, 1) := by decide +kernel
theorem dX6_face_51 : decode cX6_face 51 = .ok (.getfield 11, 3) := by decide +kernel
theorem dX6_face_54 : decode cX6_face 54 = .ok (.iload_n 2, 1) := by decide +kernel
theorem dX6_face_55 : decode cX6_face 55 = .ok (.aaload, 1) := by decide +kernel
theorem dX6_face_56 : decode cX6_face 56 = .ok (.getfield 52, 3) := by decide +kernel
theorem dX6_face_59 : decode cX6_face 59 = .ok (.ifCond .eq 14, 3) := by decide +kernel
theorem dX6_face_62 : decode cX6_face 62 = .ok (.aload_n 3, 1) := by decide +kernel
theorem dX6_face_63 : decode cX6_face 63 = .ok (.getfield 74, 3) := by decide +kernel
theorem dX6_face_66 : decode cX6_face 66 = .ok (.iload_n 2, 1) := by decide +kernel
theorem dX6_face_67 : decode cX6_face 67 = .ok (.invokevirtual 78, 3) := by decide +kernel
theorem dX6_face_70 : decode cX6_face 70 = .ok (.ifCond .eq 6, 3) := by decide +kernel
theorem dX6_face_73 : decode cX6_face 73 = .ok (.bipush (-103), 2) := by decide +kernel
theorem dX6_face_75 : decode cX6_face 75 = .ok (.ireturn, 1) := by decide +kernel
theorem dX6_face_76 : decode cX6_face 76 = .ok (.aload_n 3, 1) := by decide +kernel
theorem dX6_face_77 : decode cX6_face 77 = .ok (.getfield 74, 3) := by decide +kernel
theorem dX6_face_80 : decode cX6_face 80 = .ok (.getfield 83, 3) := by decide +kernel
theorem dX6_face_83 : decode cX6_face 83 = .ok (.iconst 3, 1) := by decide +kernel
theorem dX6_face_84 : decode cX6_face 84 = .ok (.if_icmp .lt 6, 3) := by decide +kernel
theorem dX6_face_87 : decode cX6_face 87 = .ok (.bipush (-104), 2) := by decide +kernel
theorem dX6_face_89 : decode cX6_face 89 = .ok (.ireturn, 1) := by decide +kernel
theorem dX6_face_90 : decode cX6_face 90 = .ok (.aload_n 3, 1) := by decide +kernel
theorem dX6_face_91 : decode cX6_face 91 = .ok (.getfield 74, 3) := by decide +kernel
theorem dX6_face_94 : decode cX6_face 94 = .ok (.iload_n 2, 1) := by decide +kernel
theorem dX6_face_95 : decode cX6_face 95 = .ok (.invokevirtual 86, 3) := by decide +kernel
theorem dX6_face_98 : decode cX6_face 98 = .ok (.iload_n 1, 1) := by decide +kernel
theorem dX6_face_99 : decode cX6_face 99 = .ok (.istore 4, 2) := by decide +kernel
theorem dX6_face_101 : decode cX6_face 101 = .ok (.iload 4, 2) := by decide +kernel
theorem dX6_face_103 : decode cX6_face 103 = .ok (.aload_n 0, 1) := by decide +kernel
theorem dX6_face_104 : decode cX6_face 104 = .ok (.getfield 56, 3) := by decide +kernel
theorem dX6_face_107 : decode cX6_face 107 = .ok (.if_icmp .ge 15, 3) := by decide +kernel
theorem dX6_face_110 : decode cX6_face 110 = .ok (.aload_n 0, 1) := by decide +kernel
theorem dX6_face_111 : decode cX6_face 111 = .ok (.iload 4, 2) := by decide +kernel
theorem dX6_face_113 : decode cX6_face 113 = .ok (.invokevirtual 64, 3) := by decide +kernel
theorem dX6_face_116 : decode cX6_face 116 = .ok (.iinc 4 1, 3) := by decide +kernel
theorem dX6_face_119 : decode cX6_face 119 = .ok (.goto (-18), 3) := by decide +kernel
theorem dX6_face_122 : decode cX6_face 122 = .ok (.aload_n 3, 1) := by decide +kernel
theorem dX6_face_123 : decode cX6_face 123 = .ok (.getfield 74, 3) := by decide +kernel
theorem dX6_face_126 : decode cX6_face 126 = .ok (.getfield 83, 3) := by decide +kernel
theorem dX6_face_129 : decode cX6_face 129 = .ok (.ireturn, 1) := by decide +kernel
theorem dX6_field_0 : decode cX6_field 0 = .ok (.aload_n 0, 1) := by decide +kernel
theorem dX6_field_1 : decode cX6_field 1 = .ok (.iload_n 1, 1) := by decide +kernel
theorem dX6_field_2 : decode cX6_field 2 = .ok (.invokevirtual 68, 3) := by decide +kernel
theorem dX6_field_5 : decode cX6_field 5 = .ok (.ifCond .ne 6, 3) := by decide +kernel
theorem dX6_field_8 : decode cX6_field 8 = .ok (.bipush (-101), 2) := by decide +kernel
theorem dX6_field_10 : decode cX6_field 10 = .ok (.ireturn, 1) := by decide +kernel
theorem dX6_field_11 : decode cX6_field 11 = .ok (.iload_n 2, 1) := by decide +kernel
theorem dX6_field_12 : decode cX6_field 12 = .ok (.invokestatic 89, 3) := by decide +kernel
theorem dX6_field_15 : decode cX6_field 15 = .ok (.ifCond .eq 15, 3) := by decide +kernel
theorem dX6_field_18 : decode cX6_field 18 = .ok (.iload_n 3, 1) := by decide +kernel
theorem dX6_field_19 : decode cX6_field 19 = .ok (.ifCond .eq 14, 3) := by decide +kernel
theorem dX6_field_22 : decode cX6_field 22 = .ok (.iload 4, 2) := by decide +kernel
theorem dX6_field_24 : decode cX6_field 24 = .ok (.invokestatic 92, 3) := by decide +kernel
theorem dX6_field_27 : decode cX6_field 27 = .ok (.ifCond .ne 6, 3) := by decide +kernel
theorem dX6_field_30 : decode cX6_field 30 = .ok (.bipush (-102), 2) := by decide +kernel
theorem dX6_field_32 : decode cX6_field 32 = .ok (.ireturn, 1) := by decide +kernel
theorem dX6_field_33 : decode cX6_field 33 = .ok (.iload_n 3, 1) := by decide +kernel
theorem dX6_field_34 : decode cX6_field 34 = .ok (.ifCond .ne 17, 3) := by decide +kernel
theorem dX6_field_37 : decode cX6_field 37 = .ok (.aload_n 0, 1) := by decide +kernel
theorem dX6_field_38 : decode cX6_field 38 = .ok (.getfield 11, 3) := by decide +kernel
theorem dX6_field_41 : decode cX6_field 41 = .ok (.iload_n 1, 1) := by decide +kernel
theorem dX6_field_42 : decode cX6_field 42 = .ok (.aaload, 1) := by decide +kernel
theorem dX6_field_43 : decode cX6_field 43 = .ok (.getfield 95, 3) := by decide +kernel
theorem dX6_field_46 : decode cX6_field 46 = .ok (.iload_n 2, 1) := by decide +kernel
theorem dX6_field_47 : decode cX6_field 47 = .ok (.iconst 2, 1) := by decide +kernel
theorem dX6_field_48 : decode cX6_field 48 = .ok (.iastore, 1) := by decide +kernel
theorem dX6_field_49 : decode cX6_field 49 = .ok (.iconst 0, 1) := by decide +kernel
theorem dX6_field_50 : decode cX6_field 50 = .ok (.ireturn, 1) := by decide +kernel
theorem dX6_field_51 : decode cX6_field 51 = .ok (.aload_n 0, 1) := by decide +kernel
theorem dX6_field_52 : decode cX6_field 52 = .ok (.getfield 11, 3) := by decide +kernel
theorem dX6_field_55 : decode cX6_field 55 = .ok (.iload_n 1, 1) := by decide +kernel
theorem dX6_field_56 : decode cX6_field 56 = .ok (.aaload, 1) := by decide +kernel
theorem dX6_field_57 : decode cX6_field 57 = .ok (.getfield 95, 3) := by decide +kernel
theorem dX6_field_60 : decode cX6_field 60 = .ok (.iload_n 2, 1) := by decide +kernel
theorem dX6_field_61 : decode cX6_field 61 = .ok (.iconst 1, 1) := by decide +kernel
theorem dX6_field_62 : decode cX6_field 62 = .ok (.iastore, 1) := by decide +kernel
theorem dX6_field_63 : decode cX6_field 63 = .ok (.aload_n 0, 1) := by decide +kernel
theorem dX6_field_64 : decode cX6_field 64 = .ok (.getfield 11, 3) := by decide +kernel
theorem dX6_field_67 : decode cX6_field 67 = .ok (.iload_n 1, 1) := by decide +kernel
theorem dX6_field_68 : decode cX6_field 68 = .ok (.aaload, 1) := by decide +kernel
theorem dX6_field_69 : decode cX6_field 69 = .ok (.getfield 99, 3) := by decide +kernel
theorem dX6_field_72 : decode cX6_field 72 = .ok (.iload_n 2, 1) := by decide +kernel
theorem dX6_field_73 : decode cX6_field 73 = .ok (.iload 4, 2) := by decide +kernel
theorem dX6_field_75 : decode cX6_field 75 = .ok (.iastore, 1) := by decide +kernel
theorem dX6_field_76 : decode cX6_field 76 = .ok (.iconst 1, 1) := by decide +kernel
theorem dX6_field_77 : decode cX6_field 77 = .ok (.ireturn, 1) := by decide +kernel
theorem dX6_line_0 : decode cX6_line 0 = .ok (.aload_n 0, 1) := by decide +kernel
theorem dX6_line_1 : decode cX6_line 1 = .ok (.iload_n 1, 1) := by decide +kernel
theorem dX6_line_2 : decode cX6_line 2 = .ok (.invokevirtual 68, 3) := by decide +kernel
theorem dX6_line_5 : decode cX6_line 5 = .ok (.ifCond .ne 6, 3) := by decide +kernel
theorem dX6_line_8 : decode cX6_line 8 = .ok (.bipush (-101), 2) := by decide +kernel
theorem dX6_line_10 : decode cX6_line 10 = .ok (.ireturn, 1) := by decide +kernel
theorem dX6_line_11 : decode cX6_line 11 = .ok (.iload_n 2, 1) := by decide +kernel
theorem dX6_line_12 : decode cX6_line 12 = .ok (.iload_n 3, 1) := by decide +kernel
theorem dX6_line_13 : decode cX6_line 13 = .ok (.iload 4, 2) := by decide +kernel
theorem dX6_line_15 : decode cX6_line 15 = .ok (.iload 5, 2) := by decide +kernel
theorem dX6_line_17 : decode cX6_line 17 = .ok (.invokestatic 102, 3) := by decide +kernel
theorem dX6_line_20 : decode cX6_line 20 = .ok (.ifCond .ne 6, 3) := by decide +kernel
theorem dX6_line_23 : decode cX6_line 23 = .ok (.bipush (-102), 2) := by decide +kernel
theorem dX6_line_25 : decode cX6_line 25 = .ok (.ireturn, 1) := by decide +kernel
theorem dX6_line_26 : decode cX6_line 26 = .ok (.aload_n 0, 1) := by decide +kernel
theorem dX6_line_27 : decode cX6_line 27 = .ok (.getfield 11, 3) := by decide +kernel
theorem dX6_line_30 : decode cX6_line 30 = .ok (.iload_n 1, 1) := by decide +kernel
theorem dX6_line_31 : decode cX6_line 31 = .ok (.aaload, 1) := by decide +kernel
theorem dX6_line_32 : decode cX6_line 32 = .ok (.getfield 106, 3) := by decide +kernel
theorem dX6_line_35 : decode cX6_line 35 = .ok (.bipush 8, 2) := by decide +kernel
theorem dX6_line_37 : decode cX6_line 37 = .ok (.if_icmp .lt 6, 3) := by decide +kernel
theorem dX6_line_40 : decode cX6_line 40 = .ok (.bipush (-104), 2) := by decide +kernel
theorem dX6_line_42 : decode cX6_line 42 = .ok (.ireturn, 1) := by decide +kernel
theorem dX6_line_43 : decode cX6_line 43 = .ok (.aload_n 0, 1) := by decide +kernel
theorem dX6_line_44 : decode cX6_line 44 = .ok (.getfield 11, 3) := by decide +kernel
theorem dX6_line_47 : decode cX6_line 47 = .ok (.iload_n 1, 1) := by decide +kernel
theorem dX6_line_48 : decode cX6_line 48 = .ok (.aaload, 1) := by decide +kernel
theorem dX6_line_49 : decode cX6_line 49 = .ok (.iload_n 2, 1) := by decide +kernel
theorem dX6_line_50 : decode cX6_line 50 = .ok (.iload_n 3, 1) := by decide +kernel
theorem dX6_line_51 : decode cX6_line 51 = .ok (.iload 4, 2) := by decide +kernel
theorem dX6_line_53 : decode cX6_line 53 = .ok (.iload 5, 2) := by decide +kernel
theorem dX6_line_55 : decode cX6_line 55 = .ok (.invokevirtual 109, 3) := by decide +kernel
theorem dX6_line_58 : decode cX6_line 58 = .ok (.ireturn, 1) := by decide +kernel
theorem dX6_use_0 : decode cX6_use 0 = .ok (.aload_n 0, 1) := by decide +kernel
theorem dX6_use_1 : decode cX6_use 1 = .ok (.iload_n 1, 1) := by decide +kernel
theorem dX6_use_2 : decode cX6_use 2 = .ok (.iload_n 2, 1) := by decide +kernel
theorem dX6_use_3 : decode cX6_use 3 = .ok (.iload_n 3, 1) := by decide +kernel
theorem dX6_use_4 : decode cX6_use 4 = .ok (.iload 4, 2) := by decide +kernel
theorem dX6_use_6 : decode cX6_use 6 = .ok (.iload 5, 2) := by decide +kernel
theorem dX6_use_8 : decode cX6_use 8 = .ok (.invokevirtual 113, 3) := by decide +kernel
theorem dX6_use_11 : decode cX6_use 11 = .ok (.istore 6, 2) := by decide +kernel
theorem dX6_use_13 : decode cX6_use 13 = .ok (.iload 6, 2) := by decide +kernel
theorem dX6_use_15 : decode cX6_use 15 = .ok (.ifCond .eq 6, 3) := by decide +kernel
theorem dX6_use_18 : decode cX6_use 18 = .ok (.iload 6, 2) := by decide +kernel
theorem dX6_use_20 : decode cX6_use 20 = .ok (.ireturn, 1) := by decide +kernel
theorem dX6_use_21 : decode cX6_use 21 = .ok (.aload_n 0, 1) := by decide +kernel
theorem dX6_use_22 : decode cX6_use 22 = .ok (.iload_n 1, 1) := by decide +kernel
theorem dX6_use_23 : decode cX6_use 23 = .ok (.putfield 117, 3) := by decide +kernel
theorem dX6_use_26 : decode cX6_use 26 = .ok (.aload_n 0, 1) := by decide +kernel
theorem dX6_use_27 : decode cX6_use 27 = .ok (.iconst 0, 1) := by decide +kernel
theorem dX6_use_28 : decode cX6_use 28 = .ok (.putfield 120, 3) := by decide +kernel
theorem dX6_use_31 : decode cX6_use 31 = .ok (.aload_n 0, 1) := by decide +kernel
theorem dX6_use_32 : decode cX6_use 32 = .ok (.iconst 0, 1) := by decide +kernel
theorem dX6_use_33 : decode cX6_use 33 = .ok (.putfield 123, 3) := by decide +kernel
theorem dX6_use_36 : decode cX6_use 36 = .ok (.aload_n 0, 1) := by decide +kernel
theorem dX6_use_37 : decode cX6_use 37 = .ok (.getfield 31, 3) := by decide +kernel
theorem dX6_use_40 : decode cX6_use 40 = .ok (.aload_n 0, 1) := by decide +kernel
theorem dX6_use_41 : decode cX6_use 41 = .ok (.getfield 17, 3) := by decide +kernel
theorem dX6_use_44 : decode cX6_use 44 = .ok (.iload_n 1, 1) := by decide +kernel
theorem dX6_use_45 : decode cX6_use 45 = .ok (.aaload, 1) := by decide +kernel
theorem dX6_use_46 : decode cX6_use 46 = .ok (.getfield 126, 3) := by decide +kernel
theorem dX6_use_49 : decode cX6_use 49 = .ok (.invokevirtual 129, 3) := by decide +kernel
theorem dX6_use_52 : decode cX6_use 52 = .ok (.istore 7, 2) := by decide +kernel
theorem dX6_use_54 : decode cX6_use 54 = .ok (.aload_n 0, 1) := by decide +kernel
theorem dX6_use_55 : decode cX6_use 55 = .ok (.getfield 17, 3) := by decide +kernel
theorem dX6_use_58 : decode cX6_use 58 = .ok (.iload_n 1, 1) := by decide +kernel
theorem dX6_use_59 : decode cX6_use 59 = .ok (.aaload, 1) := by decide +kernel
theorem dX6_use_60 : decode cX6_use 60 = .ok (.iload 7, 2) := by decide +kernel
theorem dX6_use_62 : decode cX6_use 62 = .ok (.putfield 126, 3) := by decide +kernel
theorem dX6_use_65 : decode cX6_use 65 = .ok (.aload_n 0, 1) := by decide +kernel
theorem dX6_use_66 : decode cX6_use 66 = .ok (.aload_n 0, 1) := by decide +kernel
theorem dX6_use_67 : decode cX6_use 67 = .ok (.iload_n 2, 1) := by decide +kernel
theorem dX6_use_68 : decode cX6_use 68 = .ok (.iload_n 3, 1) := by decide +kernel
theorem dX6_use_69 : decode cX6_use 69 = .ok (.iload 4, 2) := by decide +kernel
theorem dX6_use_71 : decode cX6_use 71 = .ok (.iload 5, 2) := by decide +kernel
theorem dX6_use_73 : decode cX6_use 73 = .ok (.invokevirtual 133, 3) := by decide +kernel
theorem dX6_use_76 : decode cX6_use 76 = .ok (.putfield 136, 3) := by decide +kernel
theorem dX6_use_79 : decode cX6_use 79 = .ok (.iload_n 3, 1) := by decide +kernel
theorem dX6_use_80 : decode cX6_use 80 = .ok (.ifCond .ne 14, 3) := by decide +kernel
theorem dX6_use_83 : decode cX6_use 83 = .ok (.aload_n 0, 1) := by decide +kernel
theorem dX6_use_84 : decode cX6_use 84 = .ok (.getfield 136, 3) := by decide +kernel
theorem dX6_use_87 : decode cX6_use 87 = .ok (.ifCond .ne 7, 3) := by decide +kernel
theorem dX6_use_90 : decode cX6_use 90 = .ok (.iconst 1, 1) := by decide +kernel
theorem dX6_use_91 : decode cX6_use 91 = .ok (.goto 4, 3) := by decide +kernel
theorem dX6_use_94 : decode cX6_use 94 = .ok (.iconst 0, 1) := by decide +kernel
theorem dX6_use_95 : decode cX6_use 95 = .ok (.istore 8, 2) := by decide +kernel
theorem dX6_use_97 : decode cX6_use 97 = .ok (.aload_n 0, 1) := by decide +kernel
theorem dX6_use_98 : decode cX6_use 98 = .ok (.getfield 31, 3) := by decide +kernel
theorem dX6_use_101 : decode cX6_use 101 = .ok (.iload 7, 2) := by decide +kernel
theorem dX6_use_103 : decode cX6_use 103 = .ok (.iload 8, 2) := by decide +kernel
theorem dX6_use_105 : decode cX6_use 105 = .ok (.ifCond .eq 7, 3) := by decide +kernel
theorem dX6_use_108 : decode cX6_use 108 = .ok (.iload_n 2, 1) := by decide +kernel
theorem dX6_use_109 : decode cX6_use 109 = .ok (.goto 4, 3) := by decide +kernel
theorem dX6_use_112 : decode cX6_use 112 = .ok (.iconst (-1), 1) := by decide +kernel
theorem dX6_use_113 : decode cX6_use 113 = .ok (.aload_n 0, 1) := by decide +kernel
theorem dX6_use_114 : decode cX6_use 114 = .ok (.getfield 120, 3) := by decide +kernel
theorem dX6_use_117 : decode cX6_use 117 = .ok (.invokevirtual 139, 3) := by decide +kernel
theorem dX6_use_120 : decode cX6_use 120 = .ok (.aload_n 0, 1) := by decide +kernel
theorem dX6_use_121 : decode cX6_use 121 = .ok (.getfield 136, 3) := by decide +kernel
theorem dX6_use_124 : decode cX6_use 124 = .ok (.ifCond .ne 10, 3) := by decide +kernel
theorem dX6_use_127 : decode cX6_use 127 = .ok (.aload_n 0, 1) := by decide +kernel
theorem dX6_use_128 : decode cX6_use 128 = .ok (.getfield 123, 3) := by decide +kernel
theorem dX6_use_131 : decode cX6_use 131 = .ok (.goto 4, 3) := by decide +kernel
theorem dX6_use_134 : decode cX6_use 134 = .ok (.iconst 0, 1) := by decide +kernel
theorem dX6_use_135 : decode cX6_use 135 = .ok (.ireturn, 1) := by decide +kernel
theorem dX6_failure_0 : decode cX6_failure 0 = .ok (.aload_n 0, 1) := by decide +kernel
theorem dX6_failure_1 : decode cX6_failure 1 = .ok (.getfield 136, 3) := by decide +kernel
theorem dX6_failure_4 : decode cX6_failure 4 = .ok (.ireturn, 1) := by decide +kernel
theorem dX6_told_0 : decode cX6_told 0 = .ok (.iload_n 1, 1) := by decide +kernel
theorem dX6_told_1 : decode cX6_told 1 = .ok (.invokestatic 143, 3) := by decide +kernel
theorem dX6_told_4 : decode cX6_told 4 = .ok (.ifCond .eq 11, 3) := by decide +kernel
theorem dX6_told_7 : decode cX6_told 7 = .ok (.aload_n 0, 1) := by decide +kernel
theorem dX6_told_8 : decode cX6_told 8 = .ok (.iload_n 2, 1) := by decide +kernel
theorem dX6_told_9 : decode cX6_told 9 = .ok (.invokevirtual 68, 3) := by decide +kernel
theorem dX6_told_12 : decode cX6_told 12 = .ok (.ifCond .ne 6, 3) := by decide +kernel
theorem dX6_told_15 : decode cX6_told 15 = .ok (.bipush (-101), 2) := by decide +kernel
theorem dX6_told_17 : decode cX6_told 17 = .ok (.ireturn, 1) := by decide +kernel
theorem dX6_told_18 : decode cX6_told 18 = .ok (.iload_n 3, 1) := by decide +kernel
theorem dX6_told_19 : decode cX6_told 19 = .ok (.tableswitch 56 0 2 #[25, 37, 49], 25) := by decide +kernel
theorem dX6_told_44 : decode cX6_told 44 = .ok (.aload_n 0, 1) := by decide +kernel
theorem dX6_told_45 : decode cX6_told 45 = .ok (.iload_n 1, 1) := by decide +kernel
theorem dX6_told_46 : decode cX6_told 46 = .ok (.iload_n 2, 1) := by decide +kernel
theorem dX6_told_47 : decode cX6_told 47 = .ok (.invokevirtual 146, 3) := by decide +kernel
theorem dX6_told_50 : decode cX6_told 50 = .ok (.getfield 150, 3) := by decide +kernel
theorem dX6_told_53 : decode cX6_told 53 = .ok (.iload_n 2, 1) := by decide +kernel
theorem dX6_told_54 : decode cX6_told 54 = .ok (.iaload, 1) := by decide +kernel
theorem dX6_told_55 : decode cX6_told 55 = .ok (.ireturn, 1) := by decide +kernel
theorem dX6_told_56 : decode cX6_told 56 = .ok (.aload_n 0, 1) := by decide +kernel
theorem dX6_told_57 : decode cX6_told 57 = .ok (.getfield 17, 3) := by decide +kernel
theorem dX6_told_60 : decode cX6_told 60 = .ok (.iload_n 1, 1) := by decide +kernel
theorem dX6_told_61 : decode cX6_told 61 = .ok (.aaload, 1) := by decide +kernel
theorem dX6_told_62 : decode cX6_told 62 = .ok (.getfield 153, 3) := by decide +kernel
theorem dX6_told_65 : decode cX6_told 65 = .ok (.iload_n 2, 1) := by decide +kernel
theorem dX6_told_66 : decode cX6_told 66 = .ok (.iaload, 1) := by decide +kernel
theorem dX6_told_67 : decode cX6_told 67 = .ok (.ireturn, 1) := by decide +kernel
theorem dX6_told_68 : decode cX6_told 68 = .ok (.aload_n 0, 1) := by decide +kernel
theorem dX6_told_69 : decode cX6_told 69 = .ok (.iload_n 1, 1) := by decide +kernel
theorem dX6_told_70 : decode cX6_told 70 = .ok (.iload_n 2, 1) := by decide +kernel
theorem dX6_told_71 : decode cX6_told 71 = .ok (.invokevirtual 156, 3) := by decide +kernel
theorem dX6_told_74 : decode cX6_told 74 = .ok (.ireturn, 1) := by decide +kernel
theorem dX6_told_75 : decode cX6_told 75 = .ok (.bipush (-102), 2) := by decide +kernel
theorem dX6_told_77 : decode cX6_told 77 = .ok (.ireturn, 1) := by decide +kernel
theorem dX6_peek_0 : decode cX6_peek 0 = .ok (.iload_n 1, 1) := by decide +kernel
theorem dX6_peek_1 : decode cX6_peek 1 = .ok (.invokestatic 143, 3) := by decide +kernel
theorem dX6_peek_4 : decode cX6_peek 4 = .ok (.ifCond .eq 11, 3) := by decide +kernel
theorem dX6_peek_7 : decode cX6_peek 7 = .ok (.aload_n 0, 1) := by decide +kernel
theorem dX6_peek_8 : decode cX6_peek 8 = .ok (.iload_n 2, 1) := by decide +kernel
theorem dX6_peek_9 : decode cX6_peek 9 = .ok (.invokevirtual 68, 3) := by decide +kernel
theorem dX6_peek_12 : decode cX6_peek 12 = .ok (.ifCond .ne 6, 3) := by decide +kernel
theorem dX6_peek_15 : decode cX6_peek 15 = .ok (.bipush (-101), 2) := by decide +kernel
theorem dX6_peek_17 : decode cX6_peek 17 = .ok (.ireturn, 1) := by decide +kernel
theorem dX6_peek_18 : decode cX6_peek 18 = .ok (.iload_n 3, 1) := by decide +kernel
theorem dX6_peek_19 : decode cX6_peek 19 = .ok (.invokestatic 89, 3) := by decide +kernel
theorem dX6_peek_22 : decode cX6_peek 22 = .ok (.ifCond .eq 18, 3) := by decide +kernel
theorem dX6_peek_25 : decode cX6_peek 25 = .ok (.aload_n 0, 1) := by decide +kernel
theorem dX6_peek_26 : decode cX6_peek 26 = .ok (.getfield 11, 3) := by decide +kernel
theorem dX6_peek_29 : decode cX6_peek 29 = .ok (.iload_n 2, 1) := by decide +kernel
theorem dX6_peek_30 : decode cX6_peek 30 = .ok (.aaload, 1) := by decide +kernel
theorem dX6_peek_31 : decode cX6_peek 31 = .ok (.getfield 95, 3) := by decide +kernel
theorem dX6_peek_34 : decode cX6_peek 34 = .ok (.iload_n 3, 1) := by decide +kernel
theorem dX6_peek_35 : decode cX6_peek 35 = .ok (.iaload, 1) := by decide +kernel
theorem dX6_peek_36 : decode cX6_peek 36 = .ok (.iconst 2, 1) := by decide +kernel
theorem dX6_peek_37 : decode cX6_peek 37 = .ok (.if_icmp .eq 6, 3) := by decide +kernel
theorem dX6_peek_40 : decode cX6_peek 40 = .ok (.bipush (-103), 2) := by decide +kernel
theorem dX6_peek_42 : decode cX6_peek 42 = .ok (.ireturn, 1) := by decide +kernel
theorem dX6_peek_43 : decode cX6_peek 43 = .ok (.aload_n 0, 1) := by decide +kernel
theorem dX6_peek_44 : decode cX6_peek 44 = .ok (.iload_n 1, 1) := by decide +kernel
theorem dX6_peek_45 : decode cX6_peek 45 = .ok (.iload_n 2, 1) := by decide +kernel
theorem dX6_peek_46 : decode cX6_peek 46 = .ok (.invokevirtual 146, 3) := by decide +kernel
theorem dX6_peek_49 : decode cX6_peek 49 = .ok (.iload_n 2, 1) := by decide +kernel
theorem dX6_peek_50 : decode cX6_peek 50 = .ok (.iload_n 3, 1) := by decide +kernel
theorem dX6_peek_51 : decode cX6_peek 51 = .ok (.invokevirtual 160, 3) := by decide +kernel
theorem dX6_peek_54 : decode cX6_peek 54 = .ok (.ireturn, 1) := by decide +kernel
theorem dX6_start_0 : decode cX6_start 0 = .ok (.iload_n 1, 1) := by decide +kernel
theorem dX6_start_1 : decode cX6_start 1 = .ok (.iconst 0, 1) := by decide +kernel
theorem dX6_start_2 : decode cX6_start 2 = .ok (.aload_n 0, 1) := by decide +kernel
theorem dX6_start_3 : decode cX6_start 3 = .ok (.getfield 38, 3) := by decide +kernel
theorem dX6_start_6 : decode cX6_start 6 = .ok (.getfield 163, 3) := by decide +kernel
theorem dX6_start_9 : decode cX6_start 9 = .ok (.iconst 1, 1) := by decide +kernel
theorem dX6_start_10 : decode cX6_start 10 = .ok (.isub, 1) := by decide +kernel
theorem dX6_start_11 : decode cX6_start 11 = .ok (.invokestatic 44, 3) := by decide +kernel
theorem dX6_start_14 : decode cX6_start 14 = .ok (.ifCond .ne 5, 3) := by decide +kernel
theorem dX6_start_17 : decode cX6_start 17 = .ok (.iconst (-1), 1) := by decide +kernel
theorem dX6_start_18 : decode cX6_start 18 = .ok (.ireturn, 1) := by decide +kernel
theorem dX6_start_19 : decode cX6_start 19 = .ok (.iload_n 2, 1) := by decide +kernel
theorem dX6_start_20 : decode cX6_start 20 = .ok (.iconst 0, 1) := by decide +kernel
theorem dX6_start_21 : decode cX6_start 21 = .ok (.iconst 3, 1) := by decide +kernel
theorem dX6_start_22 : decode cX6_start 22 = .ok (.invokestatic 44, 3) := by decide +kernel
theorem dX6_start_25 : decode cX6_start 25 = .ok (.ifCond .ne 6, 3) := by decide +kernel
theorem dX6_start_28 : decode cX6_start 28 = .ok (.bipush (-102), 2) := by decide +kernel
theorem dX6_start_30 : decode cX6_start 30 = .ok (.ireturn, 1) := by decide +kernel
theorem dX6_start_31 : decode cX6_start 31 = .ok (.aload_n 0, 1) := by decide +kernel
theorem dX6_start_32 : decode cX6_start 32 = .ok (.getfield 38, 3) := by decide +kernel
theorem dX6_start_35 : decode cX6_start 35 = .ok (.getfield 166, 3) := by decide +kernel
theorem dX6_start_38 : decode cX6_start 38 = .ok (.iload_n 1, 1) := by decide +kernel
theorem dX6_start_39 : decode cX6_start 39 = .ok (.iconst 4, 1) := by decide +kernel
theorem dX6_start_40 : decode cX6_start 40 = .ok (.imul, 1) := by decide +kernel
theorem dX6_start_41 : decode cX6_start 41 = .ok (.iload_n 2, 1) := by decide +kernel
theorem dX6_start_42 : decode cX6_start 42 = .ok (.iadd, 1) := by decide +kernel
theorem dX6_start_43 : decode cX6_start 43 = .ok (.iaload, 1) := by decide +kernel
theorem dX6_start_44 : decode cX6_start 44 = .ok (.ireturn, 1) := by decide +kernel
theorem dX6_message_0 : decode cX6_message 0 = .ok (.iload_n 1, 1) := by decide +kernel
theorem dX6_message_1 : decode cX6_message 1 = .ok (.iconst 0, 1) := by decide +kernel
theorem dX6_message_2 : decode cX6_message 2 = .ok (.aload_n 0, 1) := by decide +kernel
theorem dX6_message_3 : decode cX6_message 3 = .ok (.getfield 38, 3) := by decide +kernel
theorem dX6_message_6 : decode cX6_message 6 = .ok (.getfield 169, 3) := by decide +kernel
theorem dX6_message_9 : decode cX6_message 9 = .ok (.iconst 1, 1) := by decide +kernel
theorem dX6_message_10 : decode cX6_message 10 = .ok (.isub, 1) := by decide +kernel
theorem dX6_message_11 : decode cX6_message 11 = .ok (.invokestatic 44, 3) := by decide +kernel
theorem dX6_message_14 : decode cX6_message 14 = .ok (.ifCond .ne 13, 3) := by decide +kernel
theorem dX6_message_17 : decode cX6_message 17 = .ok (.new 172, 3) := by decide +kernel
theorem dX6_message_20 : decode cX6_message 20 = .ok (.dup, 1) := by decide +kernel
theorem dX6_message_21 : decode cX6_message 21 = .ok (.ldc 174, 2) := by decide +kernel
theorem dX6_message_23 : decode cX6_message 23 = .ok (.invokespecial 176, 3) := by decide +kernel
theorem dX6_message_26 : decode cX6_message 26 = .ok (.athrow, 1) := by decide +kernel
theorem dX6_message_27 : decode cX6_message 27 = .ok (.aload_n 0, 1) := by decide +kernel
theorem dX6_message_28 : decode cX6_message 28 = .ok (.getfield 38, 3) := by decide +kernel
theorem dX6_message_31 : decode cX6_message 31 = .ok (.getfield 179, 3) := by decide +kernel
theorem dX6_message_34 : decode cX6_message 34 = .ok (.iload_n 1, 1) := by decide +kernel
theorem dX6_message_35 : decode cX6_message 35 = .ok (.iaload, 1) := by decide +kernel
theorem dX6_message_36 : decode cX6_message 36 = .ok (.ireturn, 1) := by decide +kernel
theorem dX6_steps_0 : decode cX6_steps 0 = .ok (.iload_n 1, 1) := by decide +kernel
theorem dX6_steps_1 : decode cX6_steps 1 = .ok (.invokestatic 143, 3) := by decide +kernel
theorem dX6_steps_4 : decode cX6_steps 4 = .ok (.ifCond .ne 6, 3) := by decide +kernel
theorem dX6_steps_7 : decode cX6_steps 7 = .ok (.bipush (-101), 2) := by decide +kernel
theorem dX6_steps_9 : decode cX6_steps 9 = .ok (.ireturn, 1) := by decide +kernel
theorem dX6_steps_10 : decode cX6_steps 10 = .ok (.iload_n 2, 1) := by decide +kernel
theorem dX6_steps_11 : decode cX6_steps 11 = .ok (.iconst 0, 1) := by decide +kernel
theorem dX6_steps_12 : decode cX6_steps 12 = .ok (.ldc 182, 2) := by decide +kernel
theorem dX6_steps_14 : decode cX6_steps 14 = .ok (.invokestatic 44, 3) := by decide +kernel
theorem dX6_steps_17 : decode cX6_steps 17 = .ok (.ifCond .ne 6, 3) := by decide +kernel
theorem dX6_steps_20 : decode cX6_steps 20 = .ok (.bipush (-102), 2) := by decide +kernel
theorem dX6_steps_22 : decode cX6_steps 22 = .ok (.ireturn, 1) := by decide +kernel
theorem dX6_steps_23 : decode cX6_steps 23 = .ok (.aload_n 0, 1) := by decide +kernel
theorem dX6_steps_24 : decode cX6_steps 24 = .ok (.getfield 17, 3) := by decide +kernel
theorem dX6_steps_27 : decode cX6_steps 27 = .ok (.iload_n 1, 1) := by decide +kernel
theorem dX6_steps_28 : decode cX6_steps 28 = .ok (.aaload, 1) := by decide +kernel
theorem dX6_steps_29 : decode cX6_steps 29 = .ok (.getfield 183, 3) := by decide +kernel
theorem dX6_steps_32 : decode cX6_steps 32 = .ok (.istore_n 3, 1) := by decide +kernel
theorem dX6_steps_33 : decode cX6_steps 33 = .ok (.aload_n 0, 1) := by decide +kernel
theorem dX6_steps_34 : decode cX6_steps 34 = .ok (.getfield 17, 3) := by decide +kernel
theorem dX6_steps_37 : decode cX6_steps 37 = .ok (.iload_n 1, 1) := by decide +kernel
theorem dX6_steps_38 : decode cX6_steps 38 = .ok (.aaload, 1) := by decide +kernel
theorem dX6_steps_39 : decode cX6_steps 39 = .ok (.iload_n 2, 1) := by decide +kernel
theorem dX6_steps_40 : decode cX6_steps 40 = .ok (.putfield 183, 3) := by decide +kernel
theorem dX6_steps_43 : decode cX6_steps 43 = .ok (.iload_n 3, 1) := by decide +kernel
theorem dX6_steps_44 : decode cX6_steps 44 = .ok (.ireturn, 1) := by decide +kernel
theorem dX6_undo_0 : decode cX6_undo 0 = .ok (.iload_n 1, 1) := by decide +kernel
theorem dX6_undo_1 : decode cX6_undo 1 = .ok (.invokestatic 143, 3) := by decide +kernel
theorem dX6_undo_4 : decode cX6_undo 4 = .ok (.ifCond .ne 6, 3) := by decide +kernel
theorem dX6_undo_7 : decode cX6_undo 7 = .ok (.bipush (-101), 2) := by decide +kernel
theorem dX6_undo_9 : decode cX6_undo 9 = .ok (.ireturn, 1) := by decide +kernel
theorem dX6_undo_10 : decode cX6_undo 10 = .ok (.aload_n 0, 1) := by decide +kernel
theorem dX6_undo_11 : decode cX6_undo 11 = .ok (.getfield 17, 3) := by decide +kernel
theorem dX6_undo_14 : decode cX6_undo 14 = .ok (.iload_n 1, 1) := by decide +kernel
theorem dX6_undo_15 : decode cX6_undo 15 = .ok (.aaload, 1) := by decide +kernel
theorem dX6_undo_16 : decode cX6_undo 16 = .ok (.astore_n 2, 1) := by decide +kernel
theorem dX6_undo_17 : decode cX6_undo 17 = .ok (.aload_n 2, 1) := by decide +kernel
theorem dX6_undo_18 : decode cX6_undo 18 = .ok (.getfield 126, 3) := by decide +kernel
theorem dX6_undo_21 : decode cX6_undo 21 = .ok (.istore_n 3, 1) := by decide +kernel
theorem dX6_undo_22 : decode cX6_undo 22 = .ok (.iload_n 3, 1) := by decide +kernel
theorem dX6_undo_23 : decode cX6_undo 23 = .ok (.iconst (-1), 1) := by decide +kernel
theorem dX6_undo_24 : decode cX6_undo 24 = .ok (.if_icmp .ne 5, 3) := by decide +kernel
theorem dX6_undo_27 : decode cX6_undo 27 = .ok (.iconst (-1), 1) := by decide +kernel
theorem dX6_undo_28 : decode cX6_undo 28 = .ok (.ireturn, 1) := by decide +kernel
theorem dX6_undo_29 : decode cX6_undo 29 = .ok (.aload_n 2, 1) := by decide +kernel
theorem dX6_undo_30 : decode cX6_undo 30 = .ok (.aload_n 0, 1) := by decide +kernel
theorem dX6_undo_31 : decode cX6_undo 31 = .ok (.getfield 31, 3) := by decide +kernel
theorem dX6_undo_34 : decode cX6_undo 34 = .ok (.getfield 186, 3) := by decide +kernel
theorem dX6_undo_37 : decode cX6_undo 37 = .ok (.iload_n 3, 1) := by decide +kernel
theorem dX6_undo_38 : decode cX6_undo 38 = .ok (.iaload, 1) := by decide +kernel
theorem dX6_undo_39 : decode cX6_undo 39 = .ok (.putfield 126, 3) := by decide +kernel
theorem dX6_undo_42 : decode cX6_undo 42 = .ok (.aload_n 0, 1) := by decide +kernel
theorem dX6_undo_43 : decode cX6_undo 43 = .ok (.getfield 31, 3) := by decide +kernel
theorem dX6_undo_46 : decode cX6_undo 46 = .ok (.getfield 189, 3) := by decide +kernel
theorem dX6_undo_49 : decode cX6_undo 49 = .ok (.iload_n 3, 1) := by decide +kernel
theorem dX6_undo_50 : decode cX6_undo 50 = .ok (.iaload, 1) := by decide +kernel
theorem dX6_undo_51 : decode cX6_undo 51 = .ok (.istore 4, 2) := by decide +kernel
theorem dX6_undo_53 : decode cX6_undo 53 = .ok (.iload 4, 2) := by decide +kernel
theorem dX6_undo_55 : decode cX6_undo 55 = .ok (.iconst (-1), 1) := by decide +kernel
theorem dX6_undo_56 : decode cX6_undo 56 = .ok (.if_icmp .eq 14, 3) := by decide +kernel
theorem dX6_undo_59 : decode cX6_undo 59 = .ok (.aload_n 2, 1) := by decide +kernel
theorem dX6_undo_60 : decode cX6_undo 60 = .ok (.getfield 153, 3) := by decide +kernel
theorem dX6_undo_63 : decode cX6_undo 63 = .ok (.iload 4, 2) := by decide +kernel
theorem dX6_undo_65 : decode cX6_undo 65 = .ok (.dup2, 1) := by decide +kernel
theorem dX6_undo_66 : decode cX6_undo 66 = .ok (.iaload, 1) := by decide +kernel
theorem dX6_undo_67 : decode cX6_undo 67 = .ok (.iconst 1, 1) := by decide +kernel
theorem dX6_undo_68 : decode cX6_undo 68 = .ok (.isub, 1) := by decide +kernel
theorem dX6_undo_69 : decode cX6_undo 69 = .ok (.iastore, 1) := by decide +kernel
theorem dX6_undo_70 : decode cX6_undo 70 = .ok (.aload_n 0, 1) := by decide +kernel
theorem dX6_undo_71 : decode cX6_undo 71 = .ok (.getfield 31, 3) := by decide +kernel
theorem dX6_undo_74 : decode cX6_undo 74 = .ok (.getfield 192, 3) := by decide +kernel
theorem dX6_undo_77 : decode cX6_undo 77 = .ok (.iload_n 3, 1) := by decide +kernel
theorem dX6_undo_78 : decode cX6_undo 78 = .ok (.iaload, 1) := by decide +kernel
theorem dX6_undo_79 : decode cX6_undo 79 = .ok (.ireturn, 1) := by decide +kernel
theorem dX6_restart_0 : decode cX6_restart 0 = .ok (.iload_n 1, 1) := by decide +kernel
theorem dX6_restart_1 : decode cX6_restart 1 = .ok (.invokestatic 143, 3) := by decide +kernel
theorem dX6_restart_4 : decode cX6_restart 4 = .ok (.ifCond .eq 15, 3) := by decide +kernel
theorem dX6_restart_7 : decode cX6_restart 7 = .ok (.aload_n 0, 1) := by decide +kernel
theorem dX6_restart_8 : decode cX6_restart 8 = .ok (.getfield 17, 3) := by decide +kernel
theorem dX6_restart_11 : decode cX6_restart 11 = .ok (.iload_n 1, 1) := by decide +kernel
theorem dX6_restart_12 : decode cX6_restart 12 = .ok (.aaload, 1) := by decide +kernel
theorem dX6_restart_13 : decode cX6_restart 13 = .ok (.invokevirtual 194, 3) := by decide +kernel
theorem dX6_restart_16 : decode cX6_restart 16 = .ok (.goto 5, 3) := by decide +kernel
theorem dX6_restart_19 : decode cX6_restart 19 = .ok (.bipush (-101), 2) := by decide +kernel
theorem dX6_restart_21 : decode cX6_restart 21 = .ok (.ireturn, 1) := by decide +kernel
theorem dX6_about_0 : decode cX6_about 0 = .ok (.iload_n 1, 1) := by decide +kernel
theorem dX6_about_1 : decode cX6_about 1 = .ok (.tableswitch 69 0 4 #[35, 40, 48, 56, 64], 35) := by decide +kernel
theorem dX6_about_36 : decode cX6_about 36 = .ok (.aload_n 0, 1) := by decide +kernel
theorem dX6_about_37 : decode cX6_about 37 = .ok (.getfield 56, 3) := by decide +kernel
theorem dX6_about_40 : decode cX6_about 40 = .ok (.ireturn, 1) := by decide +kernel
theorem dX6_about_41 : decode cX6_about 41 = .ok (.aload_n 0, 1) := by decide +kernel
theorem dX6_about_42 : decode cX6_about 42 = .ok (.getfield 31, 3) := by decide +kernel
theorem dX6_about_45 : decode cX6_about 45 = .ok (.getfield 198, 3) := by decide +kernel
theorem dX6_about_48 : decode cX6_about 48 = .ok (.ireturn, 1) := by decide +kernel
theorem dX6_about_49 : decode cX6_about 49 = .ok (.aload_n 0, 1) := by decide +kernel
theorem dX6_about_50 : decode cX6_about 50 = .ok (.getfield 38, 3) := by decide +kernel
theorem dX6_about_53 : decode cX6_about 53 = .ok (.getfield 163, 3) := by decide +kernel
theorem dX6_about_56 : decode cX6_about 56 = .ok (.ireturn, 1) := by decide +kernel
theorem dX6_about_57 : decode cX6_about 57 = .ok (.aload_n 0, 1) := by decide +kernel
theorem dX6_about_58 : decode cX6_about 58 = .ok (.getfield 38, 3) := by decide +kernel
theorem dX6_about_61 : decode cX6_about 61 = .ok (.getfield 169, 3) := by decide +kernel
theorem dX6_about_64 : decode cX6_about 64 = .ok (.ireturn, 1) := by decide +kernel
theorem dX6_about_65 : decode cX6_about 65 = .ok (.aload_n 0, 1) := by decide +kernel
theorem dX6_about_66 : decode cX6_about 66 = .ok (.getfield 199, 3) := by decide +kernel
theorem dX6_about_69 : decode cX6_about 69 = .ok (.ireturn, 1) := by decide +kernel
theorem dX6_about_70 : decode cX6_about 70 = .ok (.bipush (-102), 2) := by decide +kernel
theorem dX6_about_72 : decode cX6_about 72 = .ok (.ireturn, 1) := by decide +kernel
theorem dX6_clear_0 : decode cX6_clear 0 = .ok (.aload_n 0, 1) := by decide +kernel
theorem dX6_clear_1 : decode cX6_clear 1 = .ok (.getfield 56, 3) := by decide +kernel
theorem dX6_clear_4 : decode cX6_clear 4 = .ok (.istore_n 1, 1) := by decide +kernel
theorem dX6_clear_5 : decode cX6_clear 5 = .ok (.iconst 0, 1) := by decide +kernel
theorem dX6_clear_6 : decode cX6_clear 6 = .ok (.istore_n 2, 1) := by decide +kernel
theorem dX6_clear_7 : decode cX6_clear 7 = .ok (.iload_n 2, 1) := by decide +kernel
theorem dX6_clear_8 : decode cX6_clear 8 = .ok (.iconst 4, 1) := by decide +kernel
theorem dX6_clear_9 : decode cX6_clear 9 = .ok (.if_icmp .ge 31, 3) := by decide +kernel
theorem dX6_clear_12 : decode cX6_clear 12 = .ok (.aload_n 0, 1) := by decide +kernel
theorem dX6_clear_13 : decode cX6_clear 13 = .ok (.getfield 17, 3) := by decide +kernel
theorem dX6_clear_16 : decode cX6_clear 16 = .ok (.iload_n 2, 1) := by decide +kernel
theorem dX6_clear_17 : decode cX6_clear 17 = .ok (.aaload, 1) := by decide +kernel
theorem dX6_clear_18 : decode cX6_clear 18 = .ok (.invokevirtual 194, 3) := by decide +kernel
theorem dX6_clear_21 : decode cX6_clear 21 = .ok (.pop, 1) := by decide +kernel
theorem dX6_clear_22 : decode cX6_clear 22 = .ok (.aload_n 0, 1) := by decide +kernel
theorem dX6_clear_23 : decode cX6_clear 23 = .ok (.getfield 17, 3) := by decide +kernel
theorem dX6_clear_26 : decode cX6_clear 26 = .ok (.iload_n 2, 1) := by decide +kernel
theorem dX6_clear_27 : decode cX6_clear 27 = .ok (.aaload, 1) := by decide +kernel
theorem dX6_clear_28 : decode cX6_clear 28 = .ok (.sipush 1000, 3) := by decide +kernel
theorem dX6_clear_31 : decode cX6_clear 31 = .ok (.putfield 183, 3) := by decide +kernel
theorem dX6_clear_34 : decode cX6_clear 34 = .ok (.iinc 2 1, 3) := by decide +kernel
theorem dX6_clear_37 : decode cX6_clear 37 = .ok (.goto (-30), 3) := by decide +kernel
theorem dX6_clear_40 : decode cX6_clear 40 = .ok (.aload_n 0, 1) := by decide +kernel
theorem dX6_clear_41 : decode cX6_clear 41 = .ok (.getfield 24, 3) := by decide +kernel
theorem dX6_clear_44 : decode cX6_clear 44 = .ok (.invokevirtual 202, 3) := by decide +kernel
theorem dX6_clear_47 : decode cX6_clear 47 = .ok (.pop, 1) := by decide +kernel
theorem dX6_clear_48 : decode cX6_clear 48 = .ok (.aload_n 0, 1) := by decide +kernel
theorem dX6_clear_49 : decode cX6_clear 49 = .ok (.getfield 31, 3) := by decide +kernel
theorem dX6_clear_52 : decode cX6_clear 52 = .ok (.iconst 0, 1) := by decide +kernel
theorem dX6_clear_53 : decode cX6_clear 53 = .ok (.putfield 198, 3) := by decide +kernel
theorem dX6_clear_56 : decode cX6_clear 56 = .ok (.aload_n 0, 1) := by decide +kernel
theorem dX6_clear_57 : decode cX6_clear 57 = .ok (.getfield 38, 3) := by decide +kernel
theorem dX6_clear_60 : decode cX6_clear 60 = .ok (.iconst 0, 1) := by decide +kernel
theorem dX6_clear_61 : decode cX6_clear 61 = .ok (.putfield 163, 3) := by decide +kernel
theorem dX6_clear_64 : decode cX6_clear 64 = .ok (.aload_n 0, 1) := by decide +kernel
theorem dX6_clear_65 : decode cX6_clear 65 = .ok (.getfield 38, 3) := by decide +kernel
theorem dX6_clear_68 : decode cX6_clear 68 = .ok (.iconst 0, 1) := by decide +kernel
theorem dX6_clear_69 : decode cX6_clear 69 = .ok (.putfield 169, 3) := by decide +kernel
theorem dX6_clear_72 : decode cX6_clear 72 = .ok (.aload_n 0, 1) := by decide +kernel
theorem dX6_clear_73 : decode cX6_clear 73 = .ok (.iconst 0, 1) := by decide +kernel
theorem dX6_clear_74 : decode cX6_clear 74 = .ok (.putfield 56, 3) := by decide +kernel
theorem dX6_clear_77 : decode cX6_clear 77 = .ok (.aload_n 0, 1) := by decide +kernel
theorem dX6_clear_78 : decode cX6_clear 78 = .ok (.iconst 0, 1) := by decide +kernel
theorem dX6_clear_79 : decode cX6_clear 79 = .ok (.putfield 199, 3) := by decide +kernel
theorem dX6_clear_82 : decode cX6_clear 82 = .ok (.aload_n 0, 1) := by decide +kernel
theorem dX6_clear_83 : decode cX6_clear 83 = .ok (.iconst 0, 1) := by decide +kernel
theorem dX6_clear_84 : decode cX6_clear 84 = .ok (.putfield 136, 3) := by decide +kernel
theorem dX6_clear_87 : decode cX6_clear 87 = .ok (.iload_n 1, 1) := by decide +kernel
theorem dX6_clear_88 : decode cX6_clear 88 = .ok (.ireturn, 1) := by decide +kernel
theorem dX6_within_0 : decode cX6_within 0 = .ok (.iload_n 0, 1) := by decide +kernel
theorem dX6_within_1 : decode cX6_within 1 = .ok (.iload_n 1, 1) := by decide +kernel
theorem dX6_within_2 : decode cX6_within 2 = .ok (.if_icmp .lt 12, 3) := by decide +kernel
theorem dX6_within_5 : decode cX6_within 5 = .ok (.iload_n 0, 1) := by decide +kernel
theorem dX6_within_6 : decode cX6_within 6 = .ok (.iload_n 2, 1) := by decide +kernel
theorem dX6_within_7 : decode cX6_within 7 = .ok (.if_icmp .gt 7, 3) := by decide +kernel
theorem dX6_within_10 : decode cX6_within 10 = .ok (.iconst 1, 1) := by decide +kernel
theorem dX6_within_11 : decode cX6_within 11 = .ok (.goto 4, 3) := by decide +kernel
theorem dX6_within_14 : decode cX6_within 14 = .ok (.iconst 0, 1) := by decide +kernel
theorem dX6_within_15 : decode cX6_within 15 = .ok (.ireturn, 1) := by decide +kernel
theorem dX6_isNumber_0 : decode cX6_isNumber 0 = .ok (.iload_n 0, 1) := by decide +kernel
theorem dX6_isNumber_1 : decode cX6_isNumber 1 = .ok (.sipush (-999), 3) := by decide +kernel
theorem dX6_isNumber_4 : decode cX6_isNumber 4 = .ok (.sipush 999, 3) := by decide +kernel
theorem dX6_isNumber_7 : decode cX6_isNumber 7 = .ok (.invokestatic 44, 3) := by decide +kernel
theorem dX6_isNumber_10 : decode cX6_isNumber 10 = .ok (.ireturn, 1) := by decide +kernel
theorem dX6_isField_0 : decode cX6_isField 0 = .ok (.iload_n 0, 1) := by decide +kernel
theorem dX6_isField_1 : decode cX6_isField 1 = .ok (.iconst 0, 1) := by decide +kernel
theorem dX6_isField_2 : decode cX6_isField 2 = .ok (.iconst 4, 1) := by decide +kernel
theorem dX6_isField_3 : decode cX6_isField 3 = .ok (.invokestatic 44, 3) := by decide +kernel
theorem dX6_isField_6 : decode cX6_isField 6 = .ok (.ireturn, 1) := by decide +kernel
theorem dX6_isSession_0 : decode cX6_isSession 0 = .ok (.iload_n 0, 1) := by decide +kernel
theorem dX6_isSession_1 : decode cX6_isSession 1 = .ok (.iconst 0, 1) := by decide +kernel
theorem dX6_isSession_2 : decode cX6_isSession 2 = .ok (.iconst 3, 1) := by decide +kernel
theorem dX6_isSession_3 : decode cX6_isSession 3 = .ok (.invokestatic 44, 3) := by decide +kernel
theorem dX6_isSession_6 : decode cX6_isSession 6 = .ok (.ireturn, 1) := by decide +kernel
theorem dX6_isType_0 : decode cX6_isType 0 = .ok (.iload_n 1, 1) := by decide +kernel
theorem dX6_isType_1 : decode cX6_isType 1 = .ok (.iconst 0, 1) := by decide +kernel
theorem dX6_isType_2 : decode cX6_isType 2 = .ok (.aload_n 0, 1) := by decide +kernel
theorem dX6_isType_3 : decode cX6_isType 3 = .ok (.getfield 56, 3) := by decide +kernel
theorem dX6_isType_6 : decode cX6_isType 6 = .ok (.iconst 1, 1) := by decide +kernel
theorem dX6_isType_7 : decode cX6_isType 7 = .ok (.isub, 1) := by decide +kernel
theorem dX6_isType_8 : decode cX6_isType 8 = .ok (.invokestatic 44, 3) := by decide +kernel
theorem dX6_isType_11 : decode cX6_isType 11 = .ok (.ireturn, 1) := by decide +kernel
theorem dX6_isClass_0 : decode cX6_isClass 0 = .ok (.aload_n 0, 1) := by decide +kernel
theorem dX6_isClass_1 : decode cX6_isClass 1 = .ok (.iload_n 1, 1) := by decide +kernel
theorem dX6_isClass_2 : decode cX6_isClass 2 = .ok (.invokevirtual 68, 3) := by decide +kernel
theorem dX6_isClass_5 : decode cX6_isClass 5 = .ok (.ifCond .eq 19, 3) := by decide +kernel
theorem dX6_isClass_8 : decode cX6_isClass 8 = .ok (.aload_n 0, 1) := by decide +kernel
theorem dX6_isClass_9 : decode cX6_isClass 9 = .ok (.getfield 11, 3) := by decide +kernel
theorem dX6_isClass_12 : decode cX6_isClass 12 = .ok (.iload_n 1, 1) := by decide +kernel
theorem dX6_isClass_13 : decode cX6_isClass 13 = .ok (.aaload, 1) := by decide +kernel
theorem dX6_isClass_14 : decode cX6_isClass 14 = .ok (.getfield 71, 3) := by decide +kernel
theorem dX6_isClass_17 : decode cX6_isClass 17 = .ok (.ifCond .ne 7, 3) := by decide +kernel
theorem dX6_isClass_20 : decode cX6_isClass 20 = .ok (.iconst 1, 1) := by decide +kernel
theorem dX6_isClass_21 : decode cX6_isClass 21 = .ok (.goto 4, 3) := by decide +kernel
theorem dX6_isClass_24 : decode cX6_isClass 24 = .ok (.iconst 0, 1) := by decide +kernel
theorem dX6_isClass_25 : decode cX6_isClass 25 = .ok (.ireturn, 1) := by decide +kernel
theorem dX6_mayNameType_0 : decode cX6_mayNameType 0 = .ok (.iload_n 0, 1) := by decide +kernel
theorem dX6_mayNameType_1 : decode cX6_mayNameType 1 = .ok (.iconst 0, 1) := by decide +kernel
theorem dX6_mayNameType_2 : decode cX6_mayNameType 2 = .ok (.bipush 15, 2) := by decide +kernel
theorem dX6_mayNameType_4 : decode cX6_mayNameType 4 = .ok (.invokestatic 44, 3) := by decide +kernel
theorem dX6_mayNameType_7 : decode cX6_mayNameType 7 = .ok (.ireturn, 1) := by decide +kernel
theorem dX6_isLine_0 : decode cX6_isLine 0 = .ok (.iload_n 0, 1) := by decide +kernel
theorem dX6_isLine_1 : decode cX6_isLine 1 = .ok (.tableswitch 137 0 6 #[43, 63, 90, 95, 103, 112, 117], 43) := by decide +kernel
theorem dX6_isLine_44 : decode cX6_isLine 44 = .ok (.iload_n 1, 1) := by decide +kernel
theorem dX6_isLine_45 : decode cX6_isLine 45 = .ok (.invokestatic 89, 3) := by decide +kernel
theorem dX6_isLine_48 : decode cX6_isLine 48 = .ok (.ifCond .eq 14, 3) := by decide +kernel
theorem dX6_isLine_51 : decode cX6_isLine 51 = .ok (.iload_n 2, 1) := by decide +kernel
theorem dX6_isLine_52 : decode cX6_isLine 52 = .ok (.invokestatic 92, 3) := by decide +kernel
theorem dX6_isLine_55 : decode cX6_isLine 55 = .ok (.ifCond .eq 7, 3) := by decide +kernel
theorem dX6_isLine_58 : decode cX6_isLine 58 = .ok (.iconst 1, 1) := by decide +kernel
theorem dX6_isLine_59 : decode cX6_isLine 59 = .ok (.goto 4, 3) := by decide +kernel
theorem dX6_isLine_62 : decode cX6_isLine 62 = .ok (.iconst 0, 1) := by decide +kernel
theorem dX6_isLine_63 : decode cX6_isLine 63 = .ok (.ireturn, 1) := by decide +kernel
theorem dX6_isLine_64 : decode cX6_isLine 64 = .ok (.iload_n 1, 1) := by decide +kernel
theorem dX6_isLine_65 : decode cX6_isLine 65 = .ok (.invokestatic 89, 3) := by decide +kernel
theorem dX6_isLine_68 : decode cX6_isLine 68 = .ok (.ifCond .eq 21, 3) := by decide +kernel
theorem dX6_isLine_71 : decode cX6_isLine 71 = .ok (.iload_n 2, 1) := by decide +kernel
theorem dX6_isLine_72 : decode cX6_isLine 72 = .ok (.invokestatic 203, 3) := by decide +kernel
theorem dX6_isLine_75 : decode cX6_isLine 75 = .ok (.ifCond .eq 14, 3) := by decide +kernel
theorem dX6_isLine_78 : decode cX6_isLine 78 = .ok (.iload_n 3, 1) := by decide +kernel
theorem dX6_isLine_79 : decode cX6_isLine 79 = .ok (.invokestatic 89, 3) := by decide +kernel
theorem dX6_isLine_82 : decode cX6_isLine 82 = .ok (.ifCond .eq 7, 3) := by decide +kernel
theorem dX6_isLine_85 : decode cX6_isLine 85 = .ok (.iconst 1, 1) := by decide +kernel
theorem dX6_isLine_86 : decode cX6_isLine 86 = .ok (.goto 4, 3) := by decide +kernel
theorem dX6_isLine_89 : decode cX6_isLine 89 = .ok (.iconst 0, 1) := by decide +kernel
theorem dX6_isLine_90 : decode cX6_isLine 90 = .ok (.ireturn, 1) := by decide +kernel
theorem dX6_isLine_91 : decode cX6_isLine 91 = .ok (.iload_n 1, 1) := by decide +kernel
theorem dX6_isLine_92 : decode cX6_isLine 92 = .ok (.invokestatic 203, 3) := by decide +kernel
theorem dX6_isLine_95 : decode cX6_isLine 95 = .ok (.ireturn, 1) := by decide +kernel
theorem dX6_isLine_96 : decode cX6_isLine 96 = .ok (.iload_n 1, 1) := by decide +kernel
theorem dX6_isLine_97 : decode cX6_isLine 97 = .ok (.iconst 0, 1) := by decide +kernel
theorem dX6_isLine_98 : decode cX6_isLine 98 = .ok (.bipush 6, 2) := by decide +kernel
theorem dX6_isLine_100 : decode cX6_isLine 100 = .ok (.invokestatic 44, 3) := by decide +kernel
theorem dX6_isLine_103 : decode cX6_isLine 103 = .ok (.ireturn, 1) := by decide +kernel
theorem dX6_isLine_104 : decode cX6_isLine 104 = .ok (.iload_n 1, 1) := by decide +kernel
theorem dX6_isLine_105 : decode cX6_isLine 105 = .ok (.iconst 0, 1) := by decide +kernel
theorem dX6_isLine_106 : decode cX6_isLine 106 = .ok (.sipush 1000, 3) := by decide +kernel
theorem dX6_isLine_109 : decode cX6_isLine 109 = .ok (.invokestatic 44, 3) := by decide +kernel
theorem dX6_isLine_112 : decode cX6_isLine 112 = .ok (.ireturn, 1) := by decide +kernel
theorem dX6_isLine_113 : decode cX6_isLine 113 = .ok (.iload_n 1, 1) := by decide +kernel
theorem dX6_isLine_114 : decode cX6_isLine 114 = .ok (.invokestatic 92, 3) := by decide +kernel
theorem dX6_isLine_117 : decode cX6_isLine 117 = .ok (.ireturn, 1) := by decide +kernel
theorem dX6_isLine_118 : decode cX6_isLine 118 = .ok (.iload_n 1, 1) := by decide +kernel
theorem dX6_isLine_119 : decode cX6_isLine 119 = .ok (.invokestatic 89, 3) := by decide +kernel
theorem dX6_isLine_122 : decode cX6_isLine 122 = .ok (.ifCond .eq 14, 3) := by decide +kernel
theorem dX6_isLine_125 : decode cX6_isLine 125 = .ok (.iload_n 2, 1) := by decide +kernel
theorem dX6_isLine_126 : decode cX6_isLine 126 = .ok (.invokestatic 203, 3) := by decide +kernel
theorem dX6_isLine_129 : decode cX6_isLine 129 = .ok (.ifCond .eq 7, 3) := by decide +kernel
theorem dX6_isLine_132 : decode cX6_isLine 132 = .ok (.iconst 1, 1) := by decide +kernel
theorem dX6_isLine_133 : decode cX6_isLine 133 = .ok (.goto 4, 3) := by decide +kernel
theorem dX6_isLine_136 : decode cX6_isLine 136 = .ok (.iconst 0, 1) := by decide +kernel
theorem dX6_isLine_137 : decode cX6_isLine 137 = .ok (.ireturn, 1) := by decide +kernel
theorem dX6_isLine_138 : decode cX6_isLine 138 = .ok (.iconst 0, 1) := by decide +kernel
theorem dX6_isLine_139 : decode cX6_isLine 139 = .ok (.ireturn, 1) := by decide +kernel
theorem dX6_refusalOfUse_0 : decode cX6_refusalOfUse 0 = .ok (.iload_n 1, 1) := by decide +kernel
theorem dX6_refusalOfUse_1 : decode cX6_refusalOfUse 1 = .ok (.invokestatic 143, 3) := by decide +kernel
theorem dX6_refusalOfUse_4 : decode cX6_refusalOfUse 4 = .ok (.ifCond .eq 11, 3) := by decide +kernel
theorem dX6_refusalOfUse_7 : decode cX6_refusalOfUse 7 = .ok (.aload_n 0, 1) := by decide +kernel
theorem dX6_refusalOfUse_8 : decode cX6_refusalOfUse 8 = .ok (.iload_n 2, 1) := by decide +kernel
theorem dX6_refusalOfUse_9 : decode cX6_refusalOfUse 9 = .ok (.invokevirtual 68, 3) := by decide +kernel
theorem dX6_refusalOfUse_12 : decode cX6_refusalOfUse 12 = .ok (.ifCond .ne 6, 3) := by decide +kernel
theorem dX6_refusalOfUse_15 : decode cX6_refusalOfUse 15 = .ok (.bipush (-101), 2) := by decide +kernel
theorem dX6_refusalOfUse_17 : decode cX6_refusalOfUse 17 = .ok (.ireturn, 1) := by decide +kernel
theorem dX6_refusalOfUse_18 : decode cX6_refusalOfUse 18 = .ok (.iload_n 3, 1) := by decide +kernel
theorem dX6_refusalOfUse_19 : decode cX6_refusalOfUse 19 = .ok (.iconst 1, 1) := by decide +kernel
theorem dX6_refusalOfUse_20 : decode cX6_refusalOfUse 20 = .ok (.if_icmp .eq 8, 3) := by decide +kernel
theorem dX6_refusalOfUse_23 : decode cX6_refusalOfUse 23 = .ok (.iload_n 3, 1) := by decide +kernel
theorem dX6_refusalOfUse_24 : decode cX6_refusalOfUse 24 = .ok (.iconst 2, 1) := by decide +kernel
theorem dX6_refusalOfUse_25 : decode cX6_refusalOfUse 25 = .ok (.if_icmp .ne 7, 3) := by decide +kernel
theorem dX6_refusalOfUse_28 : decode cX6_refusalOfUse 28 = .ok (.iconst 1, 1) := by decide +kernel
theorem dX6_refusalOfUse_29 : decode cX6_refusalOfUse 29 = .ok (.goto 4, 3) := by decide +kernel
theorem dX6_refusalOfUse_32 : decode cX6_refusalOfUse 32 = .ok (.iconst 0, 1) := by decide +kernel
theorem dX6_refusalOfUse_33 : decode cX6_refusalOfUse 33 = .ok (.istore 6, 2) := by decide +kernel
theorem dX6_refusalOfUse_35 : decode cX6_refusalOfUse 35 = .ok (.iload_n 3, 1) := by decide +kernel
theorem dX6_refusalOfUse_36 : decode cX6_refusalOfUse 36 = .ok (.iconst 0, 1) := by decide +kernel
theorem dX6_refusalOfUse_37 : decode cX6_refusalOfUse 37 = .ok (.iconst 3, 1) := by decide +kernel
theorem dX6_refusalOfUse_38 : decode cX6_refusalOfUse 38 = .ok (.invokestatic 44, 3) := by decide +kernel
theorem dX6_refusalOfUse_41 : decode cX6_refusalOfUse 41 = .ok (.ifCond .eq 29, 3) := by decide +kernel
theorem dX6_refusalOfUse_44 : decode cX6_refusalOfUse 44 = .ok (.iload 6, 2) := by decide +kernel
theorem dX6_refusalOfUse_46 : decode cX6_refusalOfUse 46 = .ok (.ifCond .eq 11, 3) := by decide +kernel
theorem dX6_refusalOfUse_49 : decode cX6_refusalOfUse 49 = .ok (.iload 4, 2) := by decide +kernel
theorem dX6_refusalOfUse_51 : decode cX6_refusalOfUse 51 = .ok (.invokestatic 89, 3) := by decide +kernel
theorem dX6_refusalOfUse_54 : decode cX6_refusalOfUse 54 = .ok (.ifCond .eq 16, 3) := by decide +kernel
theorem dX6_refusalOfUse_57 : decode cX6_refusalOfUse 57 = .ok (.iload_n 3, 1) := by decide +kernel
theorem dX6_refusalOfUse_58 : decode cX6_refusalOfUse 58 = .ok (.iconst 2, 1) := by decide +kernel
theorem dX6_refusalOfUse_59 : decode cX6_refusalOfUse 59 = .ok (.if_icmp .ne 14, 3) := by decide +kernel
theorem dX6_refusalOfUse_62 : decode cX6_refusalOfUse 62 = .ok (.iload 5, 2) := by decide +kernel
theorem dX6_refusalOfUse_64 : decode cX6_refusalOfUse 64 = .ok (.invokestatic 92, 3) := by decide +kernel
theorem dX6_refusalOfUse_67 : decode cX6_refusalOfUse 67 = .ok (.ifCond .ne 6, 3) := by decide +kernel
theorem dX6_refusalOfUse_70 : decode cX6_refusalOfUse 70 = .ok (.bipush (-102), 2) := by decide +kernel
theorem dX6_refusalOfUse_72 : decode cX6_refusalOfUse 72 = .ok (.ireturn, 1) := by decide +kernel
theorem dX6_refusalOfUse_73 : decode cX6_refusalOfUse 73 = .ok (.iload_n 3, 1) := by decide +kernel
theorem dX6_refusalOfUse_74 : decode cX6_refusalOfUse 74 = .ok (.ifCond .ne 11, 3) := by decide +kernel
theorem dX6_refusalOfUse_77 : decode cX6_refusalOfUse 77 = .ok (.aload_n 0, 1) := by decide +kernel
theorem dX6_refusalOfUse_78 : decode cX6_refusalOfUse 78 = .ok (.iload_n 2, 1) := by decide +kernel
theorem dX6_refusalOfUse_79 : decode cX6_refusalOfUse 79 = .ok (.invokevirtual 48, 3) := by decide +kernel
theorem dX6_refusalOfUse_82 : decode cX6_refusalOfUse 82 = .ok (.ifCond .eq 18, 3) := by decide +kernel
theorem dX6_refusalOfUse_85 : decode cX6_refusalOfUse 85 = .ok (.iload_n 3, 1) := by decide +kernel
theorem dX6_refusalOfUse_86 : decode cX6_refusalOfUse 86 = .ok (.iconst 2, 1) := by decide +kernel
theorem dX6_refusalOfUse_87 : decode cX6_refusalOfUse 87 = .ok (.if_icmp .ne 16, 3) := by decide +kernel
theorem dX6_refusalOfUse_90 : decode cX6_refusalOfUse 90 = .ok (.aload_n 0, 1) := by decide +kernel
theorem dX6_refusalOfUse_91 : decode cX6_refusalOfUse 91 = .ok (.iload_n 2, 1) := by decide +kernel
theorem dX6_refusalOfUse_92 : decode cX6_refusalOfUse 92 = .ok (.iload 4, 2) := by decide +kernel
theorem dX6_refusalOfUse_94 : decode cX6_refusalOfUse 94 = .ok (.invokevirtual 206, 3) := by decide +kernel
theorem dX6_refusalOfUse_97 : decode cX6_refusalOfUse 97 = .ok (.ifCond .ne 6, 3) := by decide +kernel
theorem dX6_refusalOfUse_100 : decode cX6_refusalOfUse 100 = .ok (.bipush (-103), 2) := by decide +kernel
theorem dX6_refusalOfUse_102 : decode cX6_refusalOfUse 102 = .ok (.ireturn, 1) := by decide +kernel
theorem dX6_refusalOfUse_103 : decode cX6_refusalOfUse 103 = .ok (.aload_n 0, 1) := by decide +kernel
theorem dX6_refusalOfUse_104 : decode cX6_refusalOfUse 104 = .ok (.getfield 31, 3) := by decide +kernel
theorem dX6_refusalOfUse_107 : decode cX6_refusalOfUse 107 = .ok (.getfield 198, 3) := by decide +kernel
theorem dX6_refusalOfUse_110 : decode cX6_refusalOfUse 110 = .ok (.sipush 512, 3) := by decide +kernel
theorem dX6_refusalOfUse_113 : decode cX6_refusalOfUse 113 = .ok (.if_icmp .lt 8, 3) := by decide +kernel
theorem dX6_refusalOfUse_116 : decode cX6_refusalOfUse 116 = .ok (.bipush (-104), 2) := by decide +kernel
theorem dX6_refusalOfUse_118 : decode cX6_refusalOfUse 118 = .ok (.goto 4, 3) := by decide +kernel
theorem dX6_refusalOfUse_121 : decode cX6_refusalOfUse 121 = .ok (.iconst 0, 1) := by decide +kernel
theorem dX6_refusalOfUse_122 : decode cX6_refusalOfUse 122 = .ok (.ireturn, 1) := by decide +kernel
theorem dX6_canBeSet_0 : decode cX6_canBeSet 0 = .ok (.aload_n 0, 1) := by decide +kernel
theorem dX6_canBeSet_1 : decode cX6_canBeSet 1 = .ok (.iload_n 1, 1) := by decide +kernel
theorem dX6_canBeSet_2 : decode cX6_canBeSet 2 = .ok (.iload_n 2, 1) := by decide +kernel
theorem dX6_canBeSet_3 : decode cX6_canBeSet 3 = .ok (.invokevirtual 210, 3) := by decide +kernel
theorem dX6_canBeSet_6 : decode cX6_canBeSet 6 = .ok (.istore_n 3, 1) := by decide +kernel
theorem dX6_canBeSet_7 : decode cX6_canBeSet 7 = .ok (.iload_n 3, 1) := by decide +kernel
theorem dX6_canBeSet_8 : decode cX6_canBeSet 8 = .ok (.iconst (-1), 1) := by decide +kernel
theorem dX6_canBeSet_9 : decode cX6_canBeSet 9 = .ok (.if_icmp .eq 22, 3) := by decide +kernel
theorem dX6_canBeSet_12 : decode cX6_canBeSet 12 = .ok (.aload_n 0, 1) := by decide +kernel
theorem dX6_canBeSet_13 : decode cX6_canBeSet 13 = .ok (.getfield 11, 3) := by decide +kernel
theorem dX6_canBeSet_16 : decode cX6_canBeSet 16 = .ok (.iload_n 3, 1) := by decide +kernel
theorem dX6_canBeSet_17 : decode cX6_canBeSet 17 = .ok (.aaload, 1) := by decide +kernel
theorem dX6_canBeSet_18 : decode cX6_canBeSet 18 = .ok (.getfield 95, 3) := by decide +kernel
theorem dX6_canBeSet_21 : decode cX6_canBeSet 21 = .ok (.iload_n 2, 1) := by decide +kernel
theorem dX6_canBeSet_22 : decode cX6_canBeSet 22 = .ok (.iaload, 1) := by decide +kernel
theorem dX6_canBeSet_23 : decode cX6_canBeSet 23 = .ok (.iconst 2, 1) := by decide +kernel
theorem dX6_canBeSet_24 : decode cX6_canBeSet 24 = .ok (.if_icmp .ne 7, 3) := by decide +kernel
theorem dX6_canBeSet_27 : decode cX6_canBeSet 27 = .ok (.iconst 1, 1) := by decide +kernel
theorem dX6_canBeSet_28 : decode cX6_canBeSet 28 = .ok (.goto 4, 3) := by decide +kernel
theorem dX6_canBeSet_31 : decode cX6_canBeSet 31 = .ok (.iconst 0, 1) := by decide +kernel
theorem dX6_canBeSet_32 : decode cX6_canBeSet 32 = .ok (.ireturn, 1) := by decide +kernel
theorem dX6_placeOf_0 : decode cX6_placeOf 0 = .ok (.aload_n 0, 1) := by decide +kernel
theorem dX6_placeOf_1 : decode cX6_placeOf 1 = .ok (.getfield 11, 3) := by decide +kernel
theorem dX6_placeOf_4 : decode cX6_placeOf 4 = .ok (.iload_n 2, 1) := by decide +kernel
theorem dX6_placeOf_5 : decode cX6_placeOf 5 = .ok (.aaload, 1) := by decide +kernel
theorem dX6_placeOf_6 : decode cX6_placeOf 6 = .ok (.getfield 52, 3) := by decide +kernel
theorem dX6_placeOf_9 : decode cX6_placeOf 9 = .ok (.ifCond .eq 10, 3) := by decide +kernel
theorem dX6_placeOf_12 : decode cX6_placeOf 12 = .ok (.aload_n 0, 1) := by decide +kernel
theorem dX6_placeOf_13 : decode cX6_placeOf 13 = .ok (.getfield 24, 3) := by decide +kernel
theorem dX6_placeOf_16 : decode cX6_placeOf 16 = .ok (.goto 12, 3) := by decide +kernel
theorem dX6_placeOf_19 : decode cX6_placeOf 19 = .ok (.aload_n 0, 1) := by decide +kernel
theorem dX6_placeOf_20 : decode cX6_placeOf 20 = .ok (.getfield 17, 3) := by decide +kernel
theorem dX6_placeOf_23 : decode cX6_placeOf 23 = .ok (.iload_n 1, 1) := by decide +kernel
theorem dX6_placeOf_24 : decode cX6_placeOf 24 = .ok (.aaload, 1) := by decide +kernel
theorem dX6_placeOf_25 : decode cX6_placeOf 25 = .ok (.getfield 213, 3) := by decide +kernel
theorem dX6_placeOf_28 : decode cX6_placeOf 28 = .ok (.areturn, 1) := by decide +kernel
theorem dX6_countNotZero_0 : decode cX6_countNotZero 0 = .ok (.aload_n 0, 1) := by decide +kernel
theorem dX6_countNotZero_1 : decode cX6_countNotZero 1 = .ok (.iload_n 1, 1) := by decide +kernel
theorem dX6_countNotZero_2 : decode cX6_countNotZero 2 = .ok (.iload_n 2, 1) := by decide +kernel
theorem dX6_countNotZero_3 : decode cX6_countNotZero 3 = .ok (.invokevirtual 146, 3) := by decide +kernel
theorem dX6_countNotZero_6 : decode cX6_countNotZero 6 = .ok (.astore_n 3, 1) := by decide +kernel
theorem dX6_countNotZero_7 : decode cX6_countNotZero 7 = .ok (.iconst 0, 1) := by decide +kernel
theorem dX6_countNotZero_8 : decode cX6_countNotZero 8 = .ok (.istore 4, 2) := by decide +kernel
theorem dX6_countNotZero_10 : decode cX6_countNotZero 10 = .ok (.iconst 0, 1) := by decide +kernel
theorem dX6_countNotZero_11 : decode cX6_countNotZero 11 = .ok (.istore 5, 2) := by decide +kernel
theorem dX6_countNotZero_13 : decode cX6_countNotZero 13 = .ok (.iload 5, 2) := by decide +kernel
theorem dX6_countNotZero_15 : decode cX6_countNotZero 15 = .ok (.iconst 5, 1) := by decide +kernel
theorem dX6_countNotZero_16 : decode cX6_countNotZero 16 = .ok (.if_icmp .ge 38, 3) := by decide +kernel
theorem dX6_countNotZero_19 : decode cX6_countNotZero 19 = .ok (.aload_n 0, 1) := by decide +kernel
theorem dX6_countNotZero_20 : decode cX6_countNotZero 20 = .ok (.getfield 11, 3) := by decide +kernel
theorem dX6_countNotZero_23 : decode cX6_countNotZero 23 = .ok (.iload_n 2, 1) := by decide +kernel
theorem dX6_countNotZero_24 : decode cX6_countNotZero 24 = .ok (.aaload, 1) := by decide +kernel
theorem dX6_countNotZero_25 : decode cX6_countNotZero 25 = .ok (.getfield 95, 3) := by decide +kernel
theorem dX6_countNotZero_28 : decode cX6_countNotZero 28 = .ok (.iload 5, 2) := by decide +kernel
theorem dX6_countNotZero_30 : decode cX6_countNotZero 30 = .ok (.iaload, 1) := by decide +kernel
theorem dX6_countNotZero_31 : decode cX6_countNotZero 31 = .ok (.iconst 2, 1) := by decide +kernel
theorem dX6_countNotZero_32 : decode cX6_countNotZero 32 = .ok (.if_icmp .ne 16, 3) := by decide +kernel
theorem dX6_countNotZero_35 : decode cX6_countNotZero 35 = .ok (.aload_n 3, 1) := by decide +kernel
theorem dX6_countNotZero_36 : decode cX6_countNotZero 36 = .ok (.iload_n 2, 1) := by decide +kernel
theorem dX6_countNotZero_37 : decode cX6_countNotZero 37 = .ok (.iload 5, 2) := by decide +kernel
theorem dX6_countNotZero_39 : decode cX6_countNotZero 39 = .ok (.invokevirtual 160, 3) := by decide +kernel
theorem dX6_countNotZero_42 : decode cX6_countNotZero 42 = .ok (.ifCond .eq 6, 3) := by decide +kernel
theorem dX6_countNotZero_45 : decode cX6_countNotZero 45 = .ok (.iinc 4 1, 3) := by decide +kernel
theorem dX6_countNotZero_48 : decode cX6_countNotZero 48 = .ok (.iinc 5 1, 3) := by decide +kernel
theorem dX6_countNotZero_51 : decode cX6_countNotZero 51 = .ok (.goto (-38), 3) := by decide +kernel
theorem dX6_countNotZero_54 : decode cX6_countNotZero 54 = .ok (.iload 4, 2) := by decide +kernel
theorem dX6_countNotZero_56 : decode cX6_countNotZero 56 = .ok (.ireturn, 1) := by decide +kernel
theorem dX6_arrange_0 : decode cX6_arrange 0 = .ok (.aload_n 0, 1) := by decide +kernel
theorem dX6_arrange_1 : decode cX6_arrange 1 = .ok (.getfield 11, 3) := by decide +kernel
theorem dX6_arrange_4 : decode cX6_arrange 4 = .ok (.iload_n 1, 1) := by decide +kernel
theorem dX6_arrange_5 : decode cX6_arrange 5 = .ok (.aaload, 1) := by decide +kernel
theorem dX6_arrange_6 : decode cX6_arrange 6 = .ok (.astore_n 2, 1) := by decide +kernel
theorem dX6_arrange_7 : decode cX6_arrange 7 = .ok (.aload_n 2, 1) := by decide +kernel
theorem dX6_arrange_8 : decode cX6_arrange 8 = .ok (.getfield 216, 3) := by decide +kernel
theorem dX6_arrange_11 : decode cX6_arrange 11 = .ok (.invokevirtual 219, 3) := by decide +kernel
theorem dX6_arrange_14 : decode cX6_arrange 14 = .ok (.aload_n 2, 1) := by decide +kernel
theorem dX6_arrange_15 : decode cX6_arrange 15 = .ok (.getfield 222, 3) := by decide +kernel
theorem dX6_arrange_18 : decode cX6_arrange 18 = .ok (.invokevirtual 219, 3) := by decide +kernel
theorem dX6_arrange_21 : decode cX6_arrange 21 = .ok (.aload_n 2, 1) := by decide +kernel
theorem dX6_arrange_22 : decode cX6_arrange 22 = .ok (.getfield 216, 3) := by decide +kernel
theorem dX6_arrange_25 : decode cX6_arrange 25 = .ok (.iload_n 1, 1) := by decide +kernel
theorem dX6_arrange_26 : decode cX6_arrange 26 = .ok (.invokevirtual 86, 3) := by decide +kernel
theorem dX6_arrange_29 : decode cX6_arrange 29 = .ok (.iconst 0, 1) := by decide +kernel
theorem dX6_arrange_30 : decode cX6_arrange 30 = .ok (.istore_n 3, 1) := by decide +kernel
theorem dX6_arrange_31 : decode cX6_arrange 31 = .ok (.iload_n 3, 1) := by decide +kernel
theorem dX6_arrange_32 : decode cX6_arrange 32 = .ok (.aload_n 2, 1) := by decide +kernel
theorem dX6_arrange_33 : decode cX6_arrange 33 = .ok (.getfield 74, 3) := by decide +kernel
theorem dX6_arrange_36 : decode cX6_arrange 36 = .ok (.getfield 83, 3) := by decide +kernel
theorem dX6_arrange_39 : decode cX6_arrange 39 = .ok (.if_icmp .ge 77, 3) := by decide +kernel
theorem dX6_arrange_42 : decode cX6_arrange 42 = .ok (.aload_n 2, 1) := by decide +kernel
theorem dX6_arrange_43 : decode cX6_arrange 43 = .ok (.getfield 74, 3) := by decide +kernel
theorem dX6_arrange_46 : decode cX6_arrange 46 = .ok (.getfield 225, 3) := by decide +kernel
theorem dX6_arrange_49 : decode cX6_arrange 49 = .ok (.iload_n 3, 1) := by decide +kernel
theorem dX6_arrange_50 : decode cX6_arrange 50 = .ok (.iaload, 1) := by decide +kernel
theorem dX6_arrange_51 : decode cX6_arrange 51 = .ok (.istore 4, 2) := by decide +kernel
theorem dX6_arrange_53 : decode cX6_arrange 53 = .ok (.aload_n 2, 1) := by decide +kernel
theorem dX6_arrange_54 : decode cX6_arrange 54 = .ok (.getfield 216, 3) := by decide +kernel
theorem dX6_arrange_57 : decode cX6_arrange 57 = .ok (.aload_n 0, 1) := by decide +kernel
theorem dX6_arrange_58 : decode cX6_arrange 58 = .ok (.getfield 11, 3) := by decide +kernel
theorem dX6_arrange_61 : decode cX6_arrange 61 = .ok (.iload 4, 2) := by decide +kernel
theorem dX6_arrange_63 : decode cX6_arrange 63 = .ok (.aaload, 1) := by decide +kernel
theorem dX6_arrange_64 : decode cX6_arrange 64 = .ok (.getfield 216, 3) := by decide +kernel
theorem dX6_arrange_67 : decode cX6_arrange 67 = .ok (.invokevirtual 228, 3) := by decide +kernel
theorem dX6_arrange_70 : decode cX6_arrange 70 = .ok (.aload_n 2, 1) := by decide +kernel
theorem dX6_arrange_71 : decode cX6_arrange 71 = .ok (.getfield 222, 3) := by decide +kernel
theorem dX6_arrange_74 : decode cX6_arrange 74 = .ok (.aload_n 0, 1) := by decide +kernel
theorem dX6_arrange_75 : decode cX6_arrange 75 = .ok (.getfield 11, 3) := by decide +kernel
theorem dX6_arrange_78 : decode cX6_arrange 78 = .ok (.iload 4, 2) := by decide +kernel
theorem dX6_arrange_80 : decode cX6_arrange 80 = .ok (.aaload, 1) := by decide +kernel
theorem dX6_arrange_81 : decode cX6_arrange 81 = .ok (.getfield 222, 3) := by decide +kernel
theorem dX6_arrange_84 : decode cX6_arrange 84 = .ok (.invokevirtual 228, 3) := by decide +kernel
theorem dX6_arrange_87 : decode cX6_arrange 87 = .ok (.aload_n 0, 1) := by decide +kernel
theorem dX6_arrange_88 : decode cX6_arrange 88 = .ok (.getfield 11, 3) := by decide +kernel
theorem dX6_arrange_91 : decode cX6_arrange 91 = .ok (.iload 4, 2) := by decide +kernel
theorem dX6_arrange_93 : decode cX6_arrange 93 = .ok (.aaload, 1) := by decide +kernel
theorem dX6_arrange_94 : decode cX6_arrange 94 = .ok (.getfield 71, 3) := by decide +kernel
theorem dX6_arrange_97 : decode cX6_arrange 97 = .ok (.iconst 2, 1) := by decide +kernel
theorem dX6_arrange_98 : decode cX6_arrange 98 = .ok (.if_icmp .ne 12, 3) := by decide +kernel
theorem dX6_arrange_101 : decode cX6_arrange 101 = .ok (.aload_n 2, 1) := by decide +kernel
theorem dX6_arrange_102 : decode cX6_arrange 102 = .ok (.getfield 222, 3) := by decide +kernel
theorem dX6_arrange_105 : decode cX6_arrange 105 = .ok (.iload 4, 2) := by decide +kernel
theorem dX6_arrange_107 : decode cX6_arrange 107 = .ok (.invokevirtual 86, 3) := by decide +kernel
theorem dX6_arrange_110 : decode cX6_arrange 110 = .ok (.iinc 3 1, 3) := by decide +kernel
theorem dX6_arrange_113 : decode cX6_arrange 113 = .ok (.goto (-82), 3) := by decide +kernel
theorem dX6_arrange_116 : decode cX6_arrange 116 = .ok (.aload_n 2, 1) := by decide +kernel
theorem dX6_arrange_117 : decode cX6_arrange 117 = .ok (.getfield 232, 3) := by decide +kernel
theorem dX6_arrange_120 : decode cX6_arrange 120 = .ok (.iconst (-1), 1) := by decide +kernel
theorem dX6_arrange_121 : decode cX6_arrange 121 = .ok (.if_icmp .eq 22, 3) := by decide +kernel
theorem dX6_arrange_124 : decode cX6_arrange 124 = .ok (.aload_n 2, 1) := by decide +kernel
theorem dX6_arrange_125 : decode cX6_arrange 125 = .ok (.getfield 216, 3) := by decide +kernel
theorem dX6_arrange_128 : decode cX6_arrange 128 = .ok (.aload_n 0, 1) := by decide +kernel
theorem dX6_arrange_129 : decode cX6_arrange 129 = .ok (.getfield 11, 3) := by decide +kernel
theorem dX6_arrange_132 : decode cX6_arrange 132 = .ok (.aload_n 2, 1) := by decide +kernel
theorem dX6_arrange_133 : decode cX6_arrange 133 = .ok (.getfield 232, 3) := by decide +kernel
theorem dX6_arrange_136 : decode cX6_arrange 136 = .ok (.aaload, 1) := by decide +kernel
theorem dX6_arrange_137 : decode cX6_arrange 137 = .ok (.getfield 216, 3) := by decide +kernel
theorem dX6_arrange_140 : decode cX6_arrange 140 = .ok (.invokevirtual 228, 3) := by decide +kernel
theorem dX6_arrange_143 : decode cX6_arrange 143 = .ok (.return_, 1) := by decide +kernel
theorem dX6_homeOf_0 : decode cX6_homeOf 0 = .ok (.aload_n 0, 1) := by decide +kernel
theorem dX6_homeOf_1 : decode cX6_homeOf 1 = .ok (.getfield 11, 3) := by decide +kernel
theorem dX6_homeOf_4 : decode cX6_homeOf 4 = .ok (.iload_n 1, 1) := by decide +kernel
theorem dX6_homeOf_5 : decode cX6_homeOf 5 = .ok (.aaload, 1) := by decide +kernel
theorem dX6_homeOf_6 : decode cX6_homeOf 6 = .ok (.getfield 216, 3) := by decide +kernel
theorem dX6_homeOf_9 : decode cX6_homeOf 9 = .ok (.astore_n 3, 1) := by decide +kernel
theorem dX6_homeOf_10 : decode cX6_homeOf 10 = .ok (.iconst 0, 1) := by decide +kernel
theorem dX6_homeOf_11 : decode cX6_homeOf 11 = .ok (.istore 4, 2) := by decide +kernel
theorem dX6_homeOf_13 : decode cX6_homeOf 13 = .ok (.iload 4, 2) := by decide +kernel
theorem dX6_homeOf_15 : decode cX6_homeOf 15 = .ok (.aload_n 3, 1) := by decide +kernel
theorem dX6_homeOf_16 : decode cX6_homeOf 16 = .ok (.getfield 83, 3) := by decide +kernel
theorem dX6_homeOf_19 : decode cX6_homeOf 19 = .ok (.if_icmp .ge 37, 3) := by decide +kernel
theorem dX6_homeOf_22 : decode cX6_homeOf 22 = .ok (.aload_n 0, 1) := by decide +kernel
theorem dX6_homeOf_23 : decode cX6_homeOf 23 = .ok (.getfield 11, 3) := by decide +kernel
theorem dX6_homeOf_26 : decode cX6_homeOf 26 = .ok (.aload_n 3, 1) := by decide +kernel
theorem dX6_homeOf_27 : decode cX6_homeOf 27 = .ok (.getfield 225, 3) := by decide +kernel
theorem dX6_homeOf_30 : decode cX6_homeOf 30 = .ok (.iload 4, 2) := by decide +kernel
theorem dX6_homeOf_32 : decode cX6_homeOf 32 = .ok (.iaload, 1) := by decide +kernel
theorem dX6_homeOf_33 : decode cX6_homeOf 33 = .ok (.aaload, 1) := by decide +kernel
theorem dX6_homeOf_34 : decode cX6_homeOf 34 = .ok (.getfield 95, 3) := by decide +kernel
theorem dX6_homeOf_37 : decode cX6_homeOf 37 = .ok (.iload_n 2, 1) := by decide +kernel
theorem dX6_homeOf_38 : decode cX6_homeOf 38 = .ok (.iaload, 1) := by decide +kernel
theorem dX6_homeOf_39 : decode cX6_homeOf 39 = .ok (.ifCond .eq 11, 3) := by decide +kernel
theorem dX6_homeOf_42 : decode cX6_homeOf 42 = .ok (.aload_n 3, 1) := by decide +kernel
theorem dX6_homeOf_43 : decode cX6_homeOf 43 = .ok (.getfield 225, 3) := by decide +kernel
theorem dX6_homeOf_46 : decode cX6_homeOf 46 = .ok (.iload 4, 2) := by decide +kernel
theorem dX6_homeOf_48 : decode cX6_homeOf 48 = .ok (.iaload, 1) := by decide +kernel
theorem dX6_homeOf_49 : decode cX6_homeOf 49 = .ok (.ireturn, 1) := by decide +kernel
theorem dX6_homeOf_50 : decode cX6_homeOf 50 = .ok (.iinc 4 1, 3) := by decide +kernel
theorem dX6_homeOf_53 : decode cX6_homeOf 53 = .ok (.goto (-40), 3) := by decide +kernel
theorem dX6_homeOf_56 : decode cX6_homeOf 56 = .ok (.iconst (-1), 1) := by decide +kernel
theorem dX6_homeOf_57 : decode cX6_homeOf 57 = .ok (.ireturn, 1) := by decide +kernel
theorem dX6_perform_0 : decode cX6_perform 0 = .ok (.iload_n 2, 1) := by decide +kernel
theorem dX6_perform_1 : decode cX6_perform 1 = .ok (.tableswitch 50 0 2 #[27, 33, 41], 27) := by decide +kernel
theorem dX6_perform_28 : decode cX6_perform 28 = .ok (.aload_n 0, 1) := by decide +kernel
theorem dX6_perform_29 : decode cX6_perform 29 = .ok (.iload_n 1, 1) := by decide +kernel
theorem dX6_perform_30 : decode cX6_perform 30 = .ok (.invokevirtual 235, 3) := by decide +kernel
theorem dX6_perform_33 : decode cX6_perform 33 = .ok (.ireturn, 1) := by decide +kernel
theorem dX6_perform_34 : decode cX6_perform 34 = .ok (.aload_n 0, 1) := by decide +kernel
theorem dX6_perform_35 : decode cX6_perform 35 = .ok (.iload_n 1, 1) := by decide +kernel
theorem dX6_perform_36 : decode cX6_perform 36 = .ok (.iload_n 3, 1) := by decide +kernel
theorem dX6_perform_37 : decode cX6_perform 37 = .ok (.iconst 0, 1) := by decide +kernel
theorem dX6_perform_38 : decode cX6_perform 38 = .ok (.invokevirtual 238, 3) := by decide +kernel
theorem dX6_perform_41 : decode cX6_perform 41 = .ok (.ireturn, 1) := by decide +kernel
theorem dX6_perform_42 : decode cX6_perform 42 = .ok (.aload_n 0, 1) := by decide +kernel
theorem dX6_perform_43 : decode cX6_perform 43 = .ok (.iload_n 1, 1) := by decide +kernel
theorem dX6_perform_44 : decode cX6_perform 44 = .ok (.iload_n 3, 1) := by decide +kernel
theorem dX6_perform_45 : decode cX6_perform 45 = .ok (.iload 4, 2) := by decide +kernel
theorem dX6_perform_47 : decode cX6_perform 47 = .ok (.invokevirtual 242, 3) := by decide +kernel
theorem dX6_perform_50 : decode cX6_perform 50 = .ok (.ireturn, 1) := by decide +kernel
theorem dX6_perform_51 : decode cX6_perform 51 = .ok (.iconst 0, 1) := by decide +kernel
theorem dX6_perform_52 : decode cX6_perform 52 = .ok (.ireturn, 1) := by decide +kernel
theorem dX6_makeAndCount_0 : decode cX6_makeAndCount 0 = .ok (.aload_n 0, 1) := by decide +kernel
theorem dX6_makeAndCount_1 : decode cX6_makeAndCount 1 = .ok (.iload_n 1, 1) := by decide +kernel
theorem dX6_makeAndCount_2 : decode cX6_makeAndCount 2 = .ok (.iconst 0, 1) := by decide +kernel
theorem dX6_makeAndCount_3 : decode cX6_makeAndCount 3 = .ok (.invokevirtual 245, 3) := by decide +kernel
theorem dX6_makeAndCount_6 : decode cX6_makeAndCount 6 = .ok (.istore_n 2, 1) := by decide +kernel
theorem dX6_makeAndCount_7 : decode cX6_makeAndCount 7 = .ok (.aload_n 0, 1) := by decide +kernel
theorem dX6_makeAndCount_8 : decode cX6_makeAndCount 8 = .ok (.aload_n 0, 1) := by decide +kernel
theorem dX6_makeAndCount_9 : decode cX6_makeAndCount 9 = .ok (.getfield 17, 3) := by decide +kernel
theorem dX6_makeAndCount_12 : decode cX6_makeAndCount 12 = .ok (.aload_n 0, 1) := by decide +kernel
theorem dX6_makeAndCount_13 : decode cX6_makeAndCount 13 = .ok (.getfield 117, 3) := by decide +kernel
theorem dX6_makeAndCount_16 : decode cX6_makeAndCount 16 = .ok (.aaload, 1) := by decide +kernel
theorem dX6_makeAndCount_17 : decode cX6_makeAndCount 17 = .ok (.getfield 153, 3) := by decide +kernel
theorem dX6_makeAndCount_20 : decode cX6_makeAndCount 20 = .ok (.iload_n 1, 1) := by decide +kernel
theorem dX6_makeAndCount_21 : decode cX6_makeAndCount 21 = .ok (.iaload, 1) := by decide +kernel
theorem dX6_makeAndCount_22 : decode cX6_makeAndCount 22 = .ok (.putfield 123, 3) := by decide +kernel
theorem dX6_makeAndCount_25 : decode cX6_makeAndCount 25 = .ok (.iload_n 2, 1) := by decide +kernel
theorem dX6_makeAndCount_26 : decode cX6_makeAndCount 26 = .ok (.ireturn, 1) := by decide +kernel
theorem dX6_askAndSet_0 : decode cX6_askAndSet 0 = .ok (.aload_n 0, 1) := by decide +kernel
theorem dX6_askAndSet_1 : decode cX6_askAndSet 1 = .ok (.iload_n 1, 1) := by decide +kernel
theorem dX6_askAndSet_2 : decode cX6_askAndSet 2 = .ok (.iload_n 2, 1) := by decide +kernel
theorem dX6_askAndSet_3 : decode cX6_askAndSet 3 = .ok (.invokevirtual 210, 3) := by decide +kernel
theorem dX6_askAndSet_6 : decode cX6_askAndSet 6 = .ok (.istore 4, 2) := by decide +kernel
theorem dX6_askAndSet_8 : decode cX6_askAndSet 8 = .ok (.iload 4, 2) := by decide +kernel
theorem dX6_askAndSet_10 : decode cX6_askAndSet 10 = .ok (.iconst (-1), 1) := by decide +kernel
theorem dX6_askAndSet_11 : decode cX6_askAndSet 11 = .ok (.if_icmp .ne 8, 3) := by decide +kernel
theorem dX6_askAndSet_14 : decode cX6_askAndSet 14 = .ok (.bipush 18, 2) := by decide +kernel
theorem dX6_askAndSet_16 : decode cX6_askAndSet 16 = .ok (.goto 10, 3) := by decide +kernel
theorem dX6_askAndSet_19 : decode cX6_askAndSet 19 = .ok (.aload_n 0, 1) := by decide +kernel
theorem dX6_askAndSet_20 : decode cX6_askAndSet 20 = .ok (.iload_n 1, 1) := by decide +kernel
theorem dX6_askAndSet_21 : decode cX6_askAndSet 21 = .ok (.iload_n 2, 1) := by decide +kernel
theorem dX6_askAndSet_22 : decode cX6_askAndSet 22 = .ok (.iconst 0, 1) := by decide +kernel
theorem dX6_askAndSet_23 : decode cX6_askAndSet 23 = .ok (.invokevirtual 238, 3) := by decide +kernel
theorem dX6_askAndSet_26 : decode cX6_askAndSet 26 = .ok (.istore 5, 2) := by decide +kernel
theorem dX6_askAndSet_28 : decode cX6_askAndSet 28 = .ok (.iload 5, 2) := by decide +kernel
theorem dX6_askAndSet_30 : decode cX6_askAndSet 30 = .ok (.ifCond .ne 14, 3) := by decide +kernel
theorem dX6_askAndSet_33 : decode cX6_askAndSet 33 = .ok (.aload_n 0, 1) := by decide +kernel
theorem dX6_askAndSet_34 : decode cX6_askAndSet 34 = .ok (.iload 4, 2) := by decide +kernel
theorem dX6_askAndSet_36 : decode cX6_askAndSet 36 = .ok (.iload_n 2, 1) := by decide +kernel
theorem dX6_askAndSet_37 : decode cX6_askAndSet 37 = .ok (.iload_n 3, 1) := by decide +kernel
theorem dX6_askAndSet_38 : decode cX6_askAndSet 38 = .ok (.invokevirtual 248, 3) := by decide +kernel
theorem dX6_askAndSet_41 : decode cX6_askAndSet 41 = .ok (.goto 5, 3) := by decide +kernel
theorem dX6_askAndSet_44 : decode cX6_askAndSet 44 = .ok (.iload 5, 2) := by decide +kernel
theorem dX6_askAndSet_46 : decode cX6_askAndSet 46 = .ok (.ireturn, 1) := by decide +kernel
theorem dX6_makeThing_0 : decode cX6_makeThing 0 = .ok (.aload_n 0, 1) := by decide +kernel
theorem dX6_makeThing_1 : decode cX6_makeThing 1 = .ok (.iload_n 1, 1) := by decide +kernel
theorem dX6_makeThing_2 : decode cX6_makeThing 2 = .ok (.invokevirtual 48, 3) := by decide +kernel
theorem dX6_makeThing_5 : decode cX6_makeThing 5 = .ok (.ifCond .ne 6, 3) := by decide +kernel
theorem dX6_makeThing_8 : decode cX6_makeThing 8 = .ok (.bipush 18, 2) := by decide +kernel
theorem dX6_makeThing_10 : decode cX6_makeThing 10 = .ok (.ireturn, 1) := by decide +kernel
theorem dX6_makeThing_11 : decode cX6_makeThing 11 = .ok (.aload_n 0, 1) := by decide +kernel
theorem dX6_makeThing_12 : decode cX6_makeThing 12 = .ok (.iload_n 1, 1) := by decide +kernel
theorem dX6_makeThing_13 : decode cX6_makeThing 13 = .ok (.iload_n 2, 1) := by decide +kernel
theorem dX6_makeThing_14 : decode cX6_makeThing 14 = .ok (.invokevirtual 251, 3) := by decide +kernel
theorem dX6_makeThing_17 : decode cX6_makeThing 17 = .ok (.istore_n 3, 1) := by decide +kernel
theorem dX6_makeThing_18 : decode cX6_makeThing 18 = .ok (.iload_n 3, 1) := by decide +kernel
theorem dX6_makeThing_19 : decode cX6_makeThing 19 = .ok (.ifCond .ne 21, 3) := by decide +kernel
theorem dX6_makeThing_22 : decode cX6_makeThing 22 = .ok (.aload_n 0, 1) := by decide +kernel
theorem dX6_makeThing_23 : decode cX6_makeThing 23 = .ok (.getfield 17, 3) := by decide +kernel
theorem dX6_makeThing_26 : decode cX6_makeThing 26 = .ok (.aload_n 0, 1) := by decide +kernel
theorem dX6_makeThing_27 : decode cX6_makeThing 27 = .ok (.getfield 117, 3) := by decide +kernel
theorem dX6_makeThing_30 : decode cX6_makeThing 30 = .ok (.aaload, 1) := by decide +kernel
theorem dX6_makeThing_31 : decode cX6_makeThing 31 = .ok (.getfield 153, 3) := by decide +kernel
theorem dX6_makeThing_34 : decode cX6_makeThing 34 = .ok (.iload_n 1, 1) := by decide +kernel
theorem dX6_makeThing_35 : decode cX6_makeThing 35 = .ok (.dup2, 1) := by decide +kernel
theorem dX6_makeThing_36 : decode cX6_makeThing 36 = .ok (.iaload, 1) := by decide +kernel
theorem dX6_makeThing_37 : decode cX6_makeThing 37 = .ok (.iconst 1, 1) := by decide +kernel
theorem dX6_makeThing_38 : decode cX6_makeThing 38 = .ok (.iadd, 1) := by decide +kernel
theorem dX6_makeThing_39 : decode cX6_makeThing 39 = .ok (.iastore, 1) := by decide +kernel
theorem dX6_makeThing_40 : decode cX6_makeThing 40 = .ok (.iload_n 3, 1) := by decide +kernel
theorem dX6_makeThing_41 : decode cX6_makeThing 41 = .ok (.ireturn, 1) := by decide +kernel
theorem dX6_ask_0 : decode cX6_ask 0 = .ok (.aload_n 0, 1) := by decide +kernel
theorem dX6_ask_1 : decode cX6_ask 1 = .ok (.iload_n 1, 1) := by decide +kernel
theorem dX6_ask_2 : decode cX6_ask 2 = .ok (.invokevirtual 68, 3) := by decide +kernel
theorem dX6_ask_5 : decode cX6_ask 5 = .ok (.ifCond .eq 12, 3) := by decide +kernel
theorem dX6_ask_8 : decode cX6_ask 8 = .ok (.aload_n 0, 1) := by decide +kernel
theorem dX6_ask_9 : decode cX6_ask 9 = .ok (.iload_n 1, 1) := by decide +kernel
theorem dX6_ask_10 : decode cX6_ask 10 = .ok (.iload_n 2, 1) := by decide +kernel
theorem dX6_ask_11 : decode cX6_ask 11 = .ok (.invokevirtual 210, 3) := by decide +kernel
theorem dX6_ask_14 : decode cX6_ask 14 = .ok (.goto 4, 3) := by decide +kernel
theorem dX6_ask_17 : decode cX6_ask 17 = .ok (.iconst (-1), 1) := by decide +kernel
theorem dX6_ask_18 : decode cX6_ask 18 = .ok (.istore 4, 2) := by decide +kernel
theorem dX6_ask_20 : decode cX6_ask 20 = .ok (.iload 4, 2) := by decide +kernel
theorem dX6_ask_22 : decode cX6_ask 22 = .ok (.iconst (-1), 1) := by decide +kernel
theorem dX6_ask_23 : decode cX6_ask 23 = .ok (.if_icmp .ne 6, 3) := by decide +kernel
theorem dX6_ask_26 : decode cX6_ask 26 = .ok (.bipush 18, 2) := by decide +kernel
theorem dX6_ask_28 : decode cX6_ask 28 = .ok (.ireturn, 1) := by decide +kernel
theorem dX6_ask_29 : decode cX6_ask 29 = .ok (.aload_n 0, 1) := by decide +kernel
theorem dX6_ask_30 : decode cX6_ask 30 = .ok (.getfield 11, 3) := by decide +kernel
theorem dX6_ask_33 : decode cX6_ask 33 = .ok (.iload 4, 2) := by decide +kernel
theorem dX6_ask_35 : decode cX6_ask 35 = .ok (.aaload, 1) := by decide +kernel
theorem dX6_ask_36 : decode cX6_ask 36 = .ok (.getfield 95, 3) := by decide +kernel
theorem dX6_ask_39 : decode cX6_ask 39 = .ok (.iload_n 2, 1) := by decide +kernel
theorem dX6_ask_40 : decode cX6_ask 40 = .ok (.iaload, 1) := by decide +kernel
theorem dX6_ask_41 : decode cX6_ask 41 = .ok (.iconst 1, 1) := by decide +kernel
theorem dX6_ask_42 : decode cX6_ask 42 = .ok (.if_icmp .ne 21, 3) := by decide +kernel
theorem dX6_ask_45 : decode cX6_ask 45 = .ok (.aload_n 0, 1) := by decide +kernel
theorem dX6_ask_46 : decode cX6_ask 46 = .ok (.aload_n 0, 1) := by decide +kernel
theorem dX6_ask_47 : decode cX6_ask 47 = .ok (.getfield 11, 3) := by decide +kernel
theorem dX6_ask_50 : decode cX6_ask 50 = .ok (.iload 4, 2) := by decide +kernel
theorem dX6_ask_52 : decode cX6_ask 52 = .ok (.aaload, 1) := by decide +kernel
theorem dX6_ask_53 : decode cX6_ask 53 = .ok (.getfield 99, 3) := by decide +kernel
theorem dX6_ask_56 : decode cX6_ask 56 = .ok (.iload_n 2, 1) := by decide +kernel
theorem dX6_ask_57 : decode cX6_ask 57 = .ok (.iaload, 1) := by decide +kernel
theorem dX6_ask_58 : decode cX6_ask 58 = .ok (.putfield 123, 3) := by decide +kernel
theorem dX6_ask_61 : decode cX6_ask 61 = .ok (.iconst 0, 1) := by decide +kernel
theorem dX6_ask_62 : decode cX6_ask 62 = .ok (.ireturn, 1) := by decide +kernel
theorem dX6_ask_63 : decode cX6_ask 63 = .ok (.aload_n 0, 1) := by decide +kernel
theorem dX6_ask_64 : decode cX6_ask 64 = .ok (.iload 4, 2) := by decide +kernel
theorem dX6_ask_66 : decode cX6_ask 66 = .ok (.iload_n 3, 1) := by decide +kernel
theorem dX6_ask_67 : decode cX6_ask 67 = .ok (.invokevirtual 251, 3) := by decide +kernel
theorem dX6_ask_70 : decode cX6_ask 70 = .ok (.istore 5, 2) := by decide +kernel
theorem dX6_ask_72 : decode cX6_ask 72 = .ok (.iload 5, 2) := by decide +kernel
theorem dX6_ask_74 : decode cX6_ask 74 = .ok (.ifCond .ne 23, 3) := by decide +kernel
theorem dX6_ask_77 : decode cX6_ask 77 = .ok (.aload_n 0, 1) := by decide +kernel
theorem dX6_ask_78 : decode cX6_ask 78 = .ok (.aload_n 0, 1) := by decide +kernel
theorem dX6_ask_79 : decode cX6_ask 79 = .ok (.aload_n 0, 1) := by decide +kernel
theorem dX6_ask_80 : decode cX6_ask 80 = .ok (.getfield 117, 3) := by decide +kernel
theorem dX6_ask_83 : decode cX6_ask 83 = .ok (.iload 4, 2) := by decide +kernel
theorem dX6_ask_85 : decode cX6_ask 85 = .ok (.invokevirtual 146, 3) := by decide +kernel
theorem dX6_ask_88 : decode cX6_ask 88 = .ok (.iload 4, 2) := by decide +kernel
theorem dX6_ask_90 : decode cX6_ask 90 = .ok (.iload_n 2, 1) := by decide +kernel
theorem dX6_ask_91 : decode cX6_ask 91 = .ok (.invokevirtual 160, 3) := by decide +kernel
theorem dX6_ask_94 : decode cX6_ask 94 = .ok (.putfield 123, 3) := by decide +kernel
theorem dX6_ask_97 : decode cX6_ask 97 = .ok (.iload 5, 2) := by decide +kernel
theorem dX6_ask_99 : decode cX6_ask 99 = .ok (.ireturn, 1) := by decide +kernel
theorem dX6_write_0 : decode cX6_write 0 = .ok (.aload_n 0, 1) := by decide +kernel
theorem dX6_write_1 : decode cX6_write 1 = .ok (.getfield 11, 3) := by decide +kernel
theorem dX6_write_4 : decode cX6_write 4 = .ok (.iload_n 1, 1) := by decide +kernel
theorem dX6_write_5 : decode cX6_write 5 = .ok (.aaload, 1) := by decide +kernel
theorem dX6_write_6 : decode cX6_write 6 = .ok (.getfield 95, 3) := by decide +kernel
theorem dX6_write_9 : decode cX6_write 9 = .ok (.iload_n 2, 1) := by decide +kernel
theorem dX6_write_10 : decode cX6_write 10 = .ok (.iaload, 1) := by decide +kernel
theorem dX6_write_11 : decode cX6_write 11 = .ok (.iconst 2, 1) := by decide +kernel
theorem dX6_write_12 : decode cX6_write 12 = .ok (.if_icmp .eq 6, 3) := by decide +kernel
theorem dX6_write_15 : decode cX6_write 15 = .ok (.bipush 12, 2) := by decide +kernel
theorem dX6_write_17 : decode cX6_write 17 = .ok (.ireturn, 1) := by decide +kernel
theorem dX6_write_18 : decode cX6_write 18 = .ok (.aload_n 0, 1) := by decide +kernel
theorem dX6_write_19 : decode cX6_write 19 = .ok (.aload_n 0, 1) := by decide +kernel
theorem dX6_write_20 : decode cX6_write 20 = .ok (.getfield 117, 3) := by decide +kernel
theorem dX6_write_23 : decode cX6_write 23 = .ok (.iload_n 1, 1) := by decide +kernel
theorem dX6_write_24 : decode cX6_write 24 = .ok (.invokevirtual 146, 3) := by decide +kernel
theorem dX6_write_27 : decode cX6_write 27 = .ok (.iload_n 1, 1) := by decide +kernel
theorem dX6_write_28 : decode cX6_write 28 = .ok (.iload_n 2, 1) := by decide +kernel
theorem dX6_write_29 : decode cX6_write 29 = .ok (.iload_n 3, 1) := by decide +kernel
theorem dX6_write_30 : decode cX6_write 30 = .ok (.invokevirtual 254, 3) := by decide +kernel
theorem dX6_write_33 : decode cX6_write 33 = .ok (.aload_n 0, 1) := by decide +kernel
theorem dX6_write_34 : decode cX6_write 34 = .ok (.dup, 1) := by decide +kernel
theorem dX6_write_35 : decode cX6_write 35 = .ok (.getfield 120, 3) := by decide +kernel
theorem dX6_write_38 : decode cX6_write 38 = .ok (.iconst 1, 1) := by decide +kernel
theorem dX6_write_39 : decode cX6_write 39 = .ok (.iadd, 1) := by decide +kernel
theorem dX6_write_40 : decode cX6_write 40 = .ok (.putfield 120, 3) := by decide +kernel
theorem dX6_write_43 : decode cX6_write 43 = .ok (.iconst 0, 1) := by decide +kernel
theorem dX6_write_44 : decode cX6_write 44 = .ok (.ireturn, 1) := by decide +kernel
theorem dX6_wake_0 : decode cX6_wake 0 = .ok (.aload_n 0, 1) := by decide +kernel
theorem dX6_wake_1 : decode cX6_wake 1 = .ok (.aload_n 0, 1) := by decide +kernel
theorem dX6_wake_2 : decode cX6_wake 2 = .ok (.getfield 117, 3) := by decide +kernel
theorem dX6_wake_5 : decode cX6_wake 5 = .ok (.iload_n 1, 1) := by decide +kernel
theorem dX6_wake_6 : decode cX6_wake 6 = .ok (.invokevirtual 146, 3) := by decide +kernel
theorem dX6_wake_9 : decode cX6_wake 9 = .ok (.getfield 150, 3) := by decide +kernel
theorem dX6_wake_12 : decode cX6_wake 12 = .ok (.astore_n 3, 1) := by decide +kernel
theorem dX6_wake_13 : decode cX6_wake 13 = .ok (.aload_n 3, 1) := by decide +kernel
theorem dX6_wake_14 : decode cX6_wake 14 = .ok (.iload_n 1, 1) := by decide +kernel
theorem dX6_wake_15 : decode cX6_wake 15 = .ok (.iaload, 1) := by decide +kernel
theorem dX6_wake_16 : decode cX6_wake 16 = .ok (.iconst 2, 1) := by decide +kernel
theorem dX6_wake_17 : decode cX6_wake 17 = .ok (.if_icmp .eq 10, 3) := by decide +kernel
theorem dX6_wake_20 : decode cX6_wake 20 = .ok (.aload_n 3, 1) := by decide +kernel
theorem dX6_wake_21 : decode cX6_wake 21 = .ok (.iload_n 1, 1) := by decide +kernel
theorem dX6_wake_22 : decode cX6_wake 22 = .ok (.iaload, 1) := by decide +kernel
theorem dX6_wake_23 : decode cX6_wake 23 = .ok (.iconst 1, 1) := by decide +kernel
theorem dX6_wake_24 : decode cX6_wake 24 = .ok (.if_icmp .ne 5, 3) := by decide +kernel
theorem dX6_wake_27 : decode cX6_wake 27 = .ok (.iconst 0, 1) := by decide +kernel
theorem dX6_wake_28 : decode cX6_wake 28 = .ok (.ireturn, 1) := by decide +kernel
theorem dX6_wake_29 : decode cX6_wake 29 = .ok (.aload_n 3, 1) := by decide +kernel
theorem dX6_wake_30 : decode cX6_wake 30 = .ok (.iload_n 1, 1) := by decide +kernel
theorem dX6_wake_31 : decode cX6_wake 31 = .ok (.iaload, 1) := by decide +kernel
theorem dX6_wake_32 : decode cX6_wake 32 = .ok (.iconst 3, 1) := by decide +kernel
theorem dX6_wake_33 : decode cX6_wake 33 = .ok (.if_icmp .eq 9, 3) := by decide +kernel
theorem dX6_wake_36 : decode cX6_wake 36 = .ok (.iload_n 2, 1) := by decide +kernel
theorem dX6_wake_37 : decode cX6_wake 37 = .ok (.bipush 16, 2) := by decide +kernel
theorem dX6_wake_39 : decode cX6_wake 39 = .ok (.if_icmp .lt 6, 3) := by decide +kernel
theorem dX6_wake_42 : decode cX6_wake 42 = .ok (.bipush 18, 2) := by decide +kernel
theorem dX6_wake_44 : decode cX6_wake 44 = .ok (.ireturn, 1) := by decide +kernel
theorem dX6_wake_45 : decode cX6_wake 45 = .ok (.aload_n 3, 1) := by decide +kernel
theorem dX6_wake_46 : decode cX6_wake 46 = .ok (.iload_n 1, 1) := by decide +kernel
theorem dX6_wake_47 : decode cX6_wake 47 = .ok (.iconst 1, 1) := by decide +kernel
theorem dX6_wake_48 : decode cX6_wake 48 = .ok (.iastore, 1) := by decide +kernel
theorem dX6_wake_49 : decode cX6_wake 49 = .ok (.aload_n 0, 1) := by decide +kernel
theorem dX6_wake_50 : decode cX6_wake 50 = .ok (.iload_n 1, 1) := by decide +kernel
theorem dX6_wake_51 : decode cX6_wake 51 = .ok (.iload_n 2, 1) := by decide +kernel
theorem dX6_wake_52 : decode cX6_wake 52 = .ok (.invokevirtual 257, 3) := by decide +kernel
theorem dX6_wake_55 : decode cX6_wake 55 = .ok (.istore 4, 2) := by decide +kernel
theorem dX6_wake_57 : decode cX6_wake 57 = .ok (.iload 4, 2) := by decide +kernel
theorem dX6_wake_59 : decode cX6_wake 59 = .ok (.ifCond .ne 11, 3) := by decide +kernel
theorem dX6_wake_62 : decode cX6_wake 62 = .ok (.aload_n 0, 1) := by decide +kernel
theorem dX6_wake_63 : decode cX6_wake 63 = .ok (.iload_n 1, 1) := by decide +kernel
theorem dX6_wake_64 : decode cX6_wake 64 = .ok (.iload_n 2, 1) := by decide +kernel
theorem dX6_wake_65 : decode cX6_wake 65 = .ok (.invokevirtual 260, 3) := by decide +kernel
theorem dX6_wake_68 : decode cX6_wake 68 = .ok (.istore 4, 2) := by decide +kernel
theorem dX6_wake_70 : decode cX6_wake 70 = .ok (.aload_n 3, 1) := by decide +kernel
theorem dX6_wake_71 : decode cX6_wake 71 = .ok (.iload_n 1, 1) := by decide +kernel
theorem dX6_wake_72 : decode cX6_wake 72 = .ok (.iload 4, 2) := by decide +kernel
theorem dX6_wake_74 : decode cX6_wake 74 = .ok (.ifCond .ne 7, 3) := by decide +kernel
theorem dX6_wake_77 : decode cX6_wake 77 = .ok (.iconst 2, 1) := by decide +kernel
theorem dX6_wake_78 : decode cX6_wake 78 = .ok (.goto 4, 3) := by decide +kernel
theorem dX6_wake_81 : decode cX6_wake 81 = .ok (.iconst 3, 1) := by decide +kernel
theorem dX6_wake_82 : decode cX6_wake 82 = .ok (.iastore, 1) := by decide +kernel
theorem dX6_wake_83 : decode cX6_wake 83 = .ok (.aload_n 0, 1) := by decide +kernel
theorem dX6_wake_84 : decode cX6_wake 84 = .ok (.getfield 38, 3) := by decide +kernel
theorem dX6_wake_87 : decode cX6_wake 87 = .ok (.iload_n 1, 1) := by decide +kernel
theorem dX6_wake_88 : decode cX6_wake 88 = .ok (.aload_n 0, 1) := by decide +kernel
theorem dX6_wake_89 : decode cX6_wake 89 = .ok (.getfield 117, 3) := by decide +kernel
theorem dX6_wake_92 : decode cX6_wake 92 = .ok (.iload 4, 2) := by decide +kernel
theorem dX6_wake_94 : decode cX6_wake 94 = .ok (.aload_n 0, 1) := by decide +kernel
theorem dX6_wake_95 : decode cX6_wake 95 = .ok (.getfield 31, 3) := by decide +kernel
theorem dX6_wake_98 : decode cX6_wake 98 = .ok (.getfield 198, 3) := by decide +kernel
theorem dX6_wake_101 : decode cX6_wake 101 = .ok (.invokevirtual 263, 3) := by decide +kernel
theorem dX6_wake_104 : decode cX6_wake 104 = .ok (.iload 4, 2) := by decide +kernel
theorem dX6_wake_106 : decode cX6_wake 106 = .ok (.ireturn, 1) := by decide +kernel
theorem dX6_wakeAbove_0 : decode cX6_wakeAbove 0 = .ok (.aload_n 0, 1) := by decide +kernel
theorem dX6_wakeAbove_1 : decode cX6_wakeAbove 1 = .ok (.getfield 11, 3) := by decide +kernel
theorem dX6_wakeAbove_4 : decode cX6_wakeAbove 4 = .ok (.iload_n 1, 1) := by decide +kernel
theorem dX6_wakeAbove_5 : decode cX6_wakeAbove 5 = .ok (.aaload, 1) := by decide +kernel
theorem dX6_wakeAbove_6 : decode cX6_wakeAbove 6 = .ok (.astore_n 3, 1) := by decide +kernel
theorem dX6_wakeAbove_7 : decode cX6_wakeAbove 7 = .ok (.aload_n 3, 1) := by decide +kernel
theorem dX6_wakeAbove_8 : decode cX6_wakeAbove 8 = .ok (.getfield 71, 3) := by decide +kernel
theorem dX6_wakeAbove_11 : decode cX6_wakeAbove 11 = .ok (.ifCond .eq 5, 3) := by decide +kernel
theorem dX6_wakeAbove_14 : decode cX6_wakeAbove 14 = .ok (.iconst 0, 1) := by decide +kernel
theorem dX6_wakeAbove_15 : decode cX6_wakeAbove 15 = .ok (.ireturn, 1) := by decide +kernel
theorem dX6_wakeAbove_16 : decode cX6_wakeAbove 16 = .ok (.aload_n 3, 1) := by decide +kernel
theorem dX6_wakeAbove_17 : decode cX6_wakeAbove 17 = .ok (.getfield 232, 3) := by decide +kernel
theorem dX6_wakeAbove_20 : decode cX6_wakeAbove 20 = .ok (.iconst (-1), 1) := by decide +kernel
theorem dX6_wakeAbove_21 : decode cX6_wakeAbove 21 = .ok (.if_icmp .ne 7, 3) := by decide +kernel
theorem dX6_wakeAbove_24 : decode cX6_wakeAbove 24 = .ok (.iconst 0, 1) := by decide +kernel
theorem dX6_wakeAbove_25 : decode cX6_wakeAbove 25 = .ok (.goto 14, 3) := by decide +kernel
theorem dX6_wakeAbove_28 : decode cX6_wakeAbove 28 = .ok (.aload_n 0, 1) := by decide +kernel
theorem dX6_wakeAbove_29 : decode cX6_wakeAbove 29 = .ok (.aload_n 3, 1) := by decide +kernel
theorem dX6_wakeAbove_30 : decode cX6_wakeAbove 30 = .ok (.getfield 232, 3) := by decide +kernel
theorem dX6_wakeAbove_33 : decode cX6_wakeAbove 33 = .ok (.iload_n 2, 1) := by decide +kernel
theorem dX6_wakeAbove_34 : decode cX6_wakeAbove 34 = .ok (.iconst 1, 1) := by decide +kernel
theorem dX6_wakeAbove_35 : decode cX6_wakeAbove 35 = .ok (.iadd, 1) := by decide +kernel
theorem dX6_wakeAbove_36 : decode cX6_wakeAbove 36 = .ok (.invokevirtual 251, 3) := by decide +kernel
theorem dX6_wakeAbove_39 : decode cX6_wakeAbove 39 = .ok (.istore 4, 2) := by decide +kernel
theorem dX6_wakeAbove_41 : decode cX6_wakeAbove 41 = .ok (.iconst 0, 1) := by decide +kernel
theorem dX6_wakeAbove_42 : decode cX6_wakeAbove 42 = .ok (.istore 5, 2) := by decide +kernel
theorem dX6_wakeAbove_44 : decode cX6_wakeAbove 44 = .ok (.iload 4, 2) := by decide +kernel
theorem dX6_wakeAbove_46 : decode cX6_wakeAbove 46 = .ok (.ifCond .ne 40, 3) := by decide +kernel
theorem dX6_wakeAbove_49 : decode cX6_wakeAbove 49 = .ok (.iload 5, 2) := by decide +kernel
theorem dX6_wakeAbove_51 : decode cX6_wakeAbove 51 = .ok (.aload_n 3, 1) := by decide +kernel
theorem dX6_wakeAbove_52 : decode cX6_wakeAbove 52 = .ok (.getfield 222, 3) := by decide +kernel
theorem dX6_wakeAbove_55 : decode cX6_wakeAbove 55 = .ok (.getfield 83, 3) := by decide +kernel
theorem dX6_wakeAbove_58 : decode cX6_wakeAbove 58 = .ok (.if_icmp .ge 28, 3) := by decide +kernel
theorem dX6_wakeAbove_61 : decode cX6_wakeAbove 61 = .ok (.aload_n 0, 1) := by decide +kernel
theorem dX6_wakeAbove_62 : decode cX6_wakeAbove 62 = .ok (.aload_n 3, 1) := by decide +kernel
theorem dX6_wakeAbove_63 : decode cX6_wakeAbove 63 = .ok (.getfield 222, 3) := by decide +kernel
theorem dX6_wakeAbove_66 : decode cX6_wakeAbove 66 = .ok (.getfield 225, 3) := by decide +kernel
theorem dX6_wakeAbove_69 : decode cX6_wakeAbove 69 = .ok (.iload 5, 2) := by decide +kernel
theorem dX6_wakeAbove_71 : decode cX6_wakeAbove 71 = .ok (.iaload, 1) := by decide +kernel
theorem dX6_wakeAbove_72 : decode cX6_wakeAbove 72 = .ok (.iload_n 2, 1) := by decide +kernel
theorem dX6_wakeAbove_73 : decode cX6_wakeAbove 73 = .ok (.iconst 1, 1) := by decide +kernel
theorem dX6_wakeAbove_74 : decode cX6_wakeAbove 74 = .ok (.iadd, 1) := by decide +kernel
theorem dX6_wakeAbove_75 : decode cX6_wakeAbove 75 = .ok (.invokevirtual 251, 3) := by decide +kernel
theorem dX6_wakeAbove_78 : decode cX6_wakeAbove 78 = .ok (.istore 4, 2) := by decide +kernel
theorem dX6_wakeAbove_80 : decode cX6_wakeAbove 80 = .ok (.iinc 5 1, 3) := by decide +kernel
theorem dX6_wakeAbove_83 : decode cX6_wakeAbove 83 = .ok (.goto (-39), 3) := by decide +kernel
theorem dX6_wakeAbove_86 : decode cX6_wakeAbove 86 = .ok (.iload 4, 2) := by decide +kernel
theorem dX6_wakeAbove_88 : decode cX6_wakeAbove 88 = .ok (.ireturn, 1) := by decide +kernel
theorem dX6_doLines_0 : decode cX6_doLines 0 = .ok (.iconst 0, 1) := by decide +kernel
theorem dX6_doLines_1 : decode cX6_doLines 1 = .ok (.istore_n 3, 1) := by decide +kernel
theorem dX6_doLines_2 : decode cX6_doLines 2 = .ok (.iconst 0, 1) := by decide +kernel
theorem dX6_doLines_3 : decode cX6_doLines 3 = .ok (.istore 4, 2) := by decide +kernel
theorem dX6_doLines_5 : decode cX6_doLines 5 = .ok (.iload_n 3, 1) := by decide +kernel
theorem dX6_doLines_6 : decode cX6_doLines 6 = .ok (.ifCond .ne 32, 3) := by decide +kernel
theorem dX6_doLines_9 : decode cX6_doLines 9 = .ok (.iload 4, 2) := by decide +kernel
theorem dX6_doLines_11 : decode cX6_doLines 11 = .ok (.aload_n 0, 1) := by decide +kernel
theorem dX6_doLines_12 : decode cX6_doLines 12 = .ok (.getfield 11, 3) := by decide +kernel
theorem dX6_doLines_15 : decode cX6_doLines 15 = .ok (.iload_n 1, 1) := by decide +kernel
theorem dX6_doLines_16 : decode cX6_doLines 16 = .ok (.aaload, 1) := by decide +kernel
theorem dX6_doLines_17 : decode cX6_doLines 17 = .ok (.getfield 106, 3) := by decide +kernel
theorem dX6_doLines_20 : decode cX6_doLines 20 = .ok (.if_icmp .ge 18, 3) := by decide +kernel
theorem dX6_doLines_23 : decode cX6_doLines 23 = .ok (.aload_n 0, 1) := by decide +kernel
theorem dX6_doLines_24 : decode cX6_doLines 24 = .ok (.iload_n 1, 1) := by decide +kernel
theorem dX6_doLines_25 : decode cX6_doLines 25 = .ok (.iload 4, 2) := by decide +kernel
theorem dX6_doLines_27 : decode cX6_doLines 27 = .ok (.iload_n 2, 1) := by decide +kernel
theorem dX6_doLines_28 : decode cX6_doLines 28 = .ok (.invokevirtual 267, 3) := by decide +kernel
theorem dX6_doLines_31 : decode cX6_doLines 31 = .ok (.istore_n 3, 1) := by decide +kernel
theorem dX6_doLines_32 : decode cX6_doLines 32 = .ok (.iinc 4 1, 3) := by decide +kernel
theorem dX6_doLines_35 : decode cX6_doLines 35 = .ok (.goto (-30), 3) := by decide +kernel
theorem dX6_doLines_38 : decode cX6_doLines 38 = .ok (.iload_n 3, 1) := by decide +kernel
theorem dX6_doLines_39 : decode cX6_doLines 39 = .ok (.ireturn, 1) := by decide +kernel
theorem dX6_doLine_0 : decode cX6_doLine 0 = .ok (.aload_n 0, 1) := by decide +kernel
theorem dX6_doLine_1 : decode cX6_doLine 1 = .ok (.getfield 11, 3) := by decide +kernel
theorem dX6_doLine_4 : decode cX6_doLine 4 = .ok (.iload_n 1, 1) := by decide +kernel
theorem dX6_doLine_5 : decode cX6_doLine 5 = .ok (.aaload, 1) := by decide +kernel
theorem dX6_doLine_6 : decode cX6_doLine 6 = .ok (.astore 4, 2) := by decide +kernel
theorem dX6_doLine_8 : decode cX6_doLine 8 = .ok (.aload 4, 2) := by decide +kernel
theorem dX6_doLine_10 : decode cX6_doLine 10 = .ok (.getfield 270, 3) := by decide +kernel
theorem dX6_doLine_13 : decode cX6_doLine 13 = .ok (.iload_n 2, 1) := by decide +kernel
theorem dX6_doLine_14 : decode cX6_doLine 14 = .ok (.iaload, 1) := by decide +kernel
theorem dX6_doLine_15 : decode cX6_doLine 15 = .ok (.istore 5, 2) := by decide +kernel
theorem dX6_doLine_17 : decode cX6_doLine 17 = .ok (.aload 4, 2) := by decide +kernel
theorem dX6_doLine_19 : decode cX6_doLine 19 = .ok (.getfield 273, 3) := by decide +kernel
theorem dX6_doLine_22 : decode cX6_doLine 22 = .ok (.iload_n 2, 1) := by decide +kernel
theorem dX6_doLine_23 : decode cX6_doLine 23 = .ok (.iaload, 1) := by decide +kernel
theorem dX6_doLine_24 : decode cX6_doLine 24 = .ok (.istore 6, 2) := by decide +kernel
theorem dX6_doLine_26 : decode cX6_doLine 26 = .ok (.aload_n 0, 1) := by decide +kernel
theorem dX6_doLine_27 : decode cX6_doLine 27 = .ok (.aload 4, 2) := by decide +kernel
theorem dX6_doLine_29 : decode cX6_doLine 29 = .ok (.getfield 276, 3) := by decide +kernel
theorem dX6_doLine_32 : decode cX6_doLine 32 = .ok (.iload_n 2, 1) := by decide +kernel
theorem dX6_doLine_33 : decode cX6_doLine 33 = .ok (.iaload, 1) := by decide +kernel
theorem dX6_doLine_34 : decode cX6_doLine 34 = .ok (.iconst 4, 1) := by decide +kernel
theorem dX6_doLine_35 : decode cX6_doLine 35 = .ok (.if_icmp .ne 10, 3) := by decide +kernel
theorem dX6_doLine_38 : decode cX6_doLine 38 = .ok (.iconst 1, 1) := by decide +kernel
theorem dX6_doLine_39 : decode cX6_doLine 39 = .ok (.iload 5, 2) := by decide +kernel
theorem dX6_doLine_41 : decode cX6_doLine 41 = .ok (.iadd, 1) := by decide +kernel
theorem dX6_doLine_42 : decode cX6_doLine 42 = .ok (.goto 4, 3) := by decide +kernel
theorem dX6_doLine_45 : decode cX6_doLine 45 = .ok (.iconst 1, 1) := by decide +kernel
theorem dX6_doLine_46 : decode cX6_doLine 46 = .ok (.invokevirtual 279, 3) := by decide +kernel
theorem dX6_doLine_49 : decode cX6_doLine 49 = .ok (.ifCond .ne 6, 3) := by decide +kernel
theorem dX6_doLine_52 : decode cX6_doLine 52 = .ok (.bipush 17, 2) := by decide +kernel
theorem dX6_doLine_54 : decode cX6_doLine 54 = .ok (.ireturn, 1) := by decide +kernel
theorem dX6_doLine_55 : decode cX6_doLine 55 = .ok (.aload 4, 2) := by decide +kernel
theorem dX6_doLine_57 : decode cX6_doLine 57 = .ok (.getfield 276, 3) := by decide +kernel
theorem dX6_doLine_60 : decode cX6_doLine 60 = .ok (.iload_n 2, 1) := by decide +kernel
theorem dX6_doLine_61 : decode cX6_doLine 61 = .ok (.iaload, 1) := by decide +kernel
theorem dX6_doLine_62 : decode cX6_doLine 62 = .ok (.tableswitch 116 0 6 #[42, 52, 72, 82, 116, 88, 99], 42) := by decide +kernel
theorem dX6_doLine_104 : decode cX6_doLine 104 = .ok (.aload_n 0, 1) := by decide +kernel
theorem dX6_doLine_105 : decode cX6_doLine 105 = .ok (.iload_n 1, 1) := by decide +kernel
theorem dX6_doLine_106 : decode cX6_doLine 106 = .ok (.iload 5, 2) := by decide +kernel
theorem dX6_doLine_108 : decode cX6_doLine 108 = .ok (.iload 6, 2) := by decide +kernel
theorem dX6_doLine_110 : decode cX6_doLine 110 = .ok (.invokevirtual 248, 3) := by decide +kernel
theorem dX6_doLine_113 : decode cX6_doLine 113 = .ok (.ireturn, 1) := by decide +kernel
theorem dX6_doLine_114 : decode cX6_doLine 114 = .ok (.aload_n 0, 1) := by decide +kernel
theorem dX6_doLine_115 : decode cX6_doLine 115 = .ok (.iload_n 1, 1) := by decide +kernel
theorem dX6_doLine_116 : decode cX6_doLine 116 = .ok (.iload 5, 2) := by decide +kernel
theorem dX6_doLine_118 : decode cX6_doLine 118 = .ok (.iload 6, 2) := by decide +kernel
theorem dX6_doLine_120 : decode cX6_doLine 120 = .ok (.aload 4, 2) := by decide +kernel
theorem dX6_doLine_122 : decode cX6_doLine 122 = .ok (.getfield 282, 3) := by decide +kernel
theorem dX6_doLine_125 : decode cX6_doLine 125 = .ok (.iload_n 2, 1) := by decide +kernel
theorem dX6_doLine_126 : decode cX6_doLine 126 = .ok (.iaload, 1) := by decide +kernel
theorem dX6_doLine_127 : decode cX6_doLine 127 = .ok (.iload_n 3, 1) := by decide +kernel
theorem dX6_doLine_128 : decode cX6_doLine 128 = .ok (.iconst 1, 1) := by decide +kernel
theorem dX6_doLine_129 : decode cX6_doLine 129 = .ok (.iadd, 1) := by decide +kernel
theorem dX6_doLine_130 : decode cX6_doLine 130 = .ok (.invokevirtual 285, 3) := by decide +kernel
theorem dX6_doLine_133 : decode cX6_doLine 133 = .ok (.ireturn, 1) := by decide +kernel
theorem dX6_doLine_134 : decode cX6_doLine 134 = .ok (.aload_n 0, 1) := by decide +kernel
theorem dX6_doLine_135 : decode cX6_doLine 135 = .ok (.iload 5, 2) := by decide +kernel
theorem dX6_doLine_137 : decode cX6_doLine 137 = .ok (.iload_n 3, 1) := by decide +kernel
theorem dX6_doLine_138 : decode cX6_doLine 138 = .ok (.iconst 1, 1) := by decide +kernel
theorem dX6_doLine_139 : decode cX6_doLine 139 = .ok (.iadd, 1) := by decide +kernel
theorem dX6_doLine_140 : decode cX6_doLine 140 = .ok (.invokevirtual 245, 3) := by decide +kernel
theorem dX6_doLine_143 : decode cX6_doLine 143 = .ok (.ireturn, 1) := by decide +kernel
theorem dX6_doLine_144 : decode cX6_doLine 144 = .ok (.bipush 10, 2) := by decide +kernel
theorem dX6_doLine_146 : decode cX6_doLine 146 = .ok (.iload 5, 2) := by decide +kernel
theorem dX6_doLine_148 : decode cX6_doLine 148 = .ok (.iadd, 1) := by decide +kernel
theorem dX6_doLine_149 : decode cX6_doLine 149 = .ok (.ireturn, 1) := by decide +kernel
theorem dX6_doLine_150 : decode cX6_doLine 150 = .ok (.aload_n 0, 1) := by decide +kernel
theorem dX6_doLine_151 : decode cX6_doLine 151 = .ok (.getfield 38, 3) := by decide +kernel
theorem dX6_doLine_154 : decode cX6_doLine 154 = .ok (.iload 5, 2) := by decide +kernel
theorem dX6_doLine_156 : decode cX6_doLine 156 = .ok (.invokevirtual 288, 3) := by decide +kernel
theorem dX6_doLine_159 : decode cX6_doLine 159 = .ok (.iconst 0, 1) := by decide +kernel
theorem dX6_doLine_160 : decode cX6_doLine 160 = .ok (.ireturn, 1) := by decide +kernel
theorem dX6_doLine_161 : decode cX6_doLine 161 = .ok (.aload_n 0, 1) := by decide +kernel
theorem dX6_doLine_162 : decode cX6_doLine 162 = .ok (.iload_n 1, 1) := by decide +kernel
theorem dX6_doLine_163 : decode cX6_doLine 163 = .ok (.iload 5, 2) := by decide +kernel
theorem dX6_doLine_165 : decode cX6_doLine 165 = .ok (.aload_n 0, 1) := by decide +kernel
theorem dX6_doLine_166 : decode cX6_doLine 166 = .ok (.iload 6, 2) := by decide +kernel
theorem dX6_doLine_168 : decode cX6_doLine 168 = .ok (.iload_n 3, 1) := by decide +kernel
theorem dX6_doLine_169 : decode cX6_doLine 169 = .ok (.iconst 1, 1) := by decide +kernel
theorem dX6_doLine_170 : decode cX6_doLine 170 = .ok (.iadd, 1) := by decide +kernel
theorem dX6_doLine_171 : decode cX6_doLine 171 = .ok (.invokevirtual 245, 3) := by decide +kernel
theorem dX6_doLine_174 : decode cX6_doLine 174 = .ok (.invokevirtual 248, 3) := by decide +kernel
theorem dX6_doLine_177 : decode cX6_doLine 177 = .ok (.ireturn, 1) := by decide +kernel
theorem dX6_doLine_178 : decode cX6_doLine 178 = .ok (.iconst 0, 1) := by decide +kernel
theorem dX6_doLine_179 : decode cX6_doLine 179 = .ok (.ireturn, 1) := by decide +kernel
theorem dX6_askAndAdd_0 : decode cX6_askAndAdd 0 = .ok (.aload_n 0, 1) := by decide +kernel
theorem dX6_askAndAdd_1 : decode cX6_askAndAdd 1 = .ok (.iload_n 3, 1) := by decide +kernel
theorem dX6_askAndAdd_2 : decode cX6_askAndAdd 2 = .ok (.iload 4, 2) := by decide +kernel
theorem dX6_askAndAdd_4 : decode cX6_askAndAdd 4 = .ok (.iload 5, 2) := by decide +kernel
theorem dX6_askAndAdd_6 : decode cX6_askAndAdd 6 = .ok (.invokevirtual 238, 3) := by decide +kernel
theorem dX6_askAndAdd_9 : decode cX6_askAndAdd 9 = .ok (.istore 6, 2) := by decide +kernel
theorem dX6_askAndAdd_11 : decode cX6_askAndAdd 11 = .ok (.iload 6, 2) := by decide +kernel
theorem dX6_askAndAdd_13 : decode cX6_askAndAdd 13 = .ok (.ifCond .ne 31, 3) := by decide +kernel
theorem dX6_askAndAdd_16 : decode cX6_askAndAdd 16 = .ok (.aload_n 0, 1) := by decide +kernel
theorem dX6_askAndAdd_17 : decode cX6_askAndAdd 17 = .ok (.iload_n 1, 1) := by decide +kernel
theorem dX6_askAndAdd_18 : decode cX6_askAndAdd 18 = .ok (.iload_n 2, 1) := by decide +kernel
theorem dX6_askAndAdd_19 : decode cX6_askAndAdd 19 = .ok (.aload_n 0, 1) := by decide +kernel
theorem dX6_askAndAdd_20 : decode cX6_askAndAdd 20 = .ok (.aload_n 0, 1) := by decide +kernel
theorem dX6_askAndAdd_21 : decode cX6_askAndAdd 21 = .ok (.getfield 117, 3) := by decide +kernel
theorem dX6_askAndAdd_24 : decode cX6_askAndAdd 24 = .ok (.iload_n 1, 1) := by decide +kernel
theorem dX6_askAndAdd_25 : decode cX6_askAndAdd 25 = .ok (.invokevirtual 146, 3) := by decide +kernel
theorem dX6_askAndAdd_28 : decode cX6_askAndAdd 28 = .ok (.iload_n 1, 1) := by decide +kernel
theorem dX6_askAndAdd_29 : decode cX6_askAndAdd 29 = .ok (.iload_n 2, 1) := by decide +kernel
theorem dX6_askAndAdd_30 : decode cX6_askAndAdd 30 = .ok (.invokevirtual 160, 3) := by decide +kernel
theorem dX6_askAndAdd_33 : decode cX6_askAndAdd 33 = .ok (.aload_n 0, 1) := by decide +kernel
theorem dX6_askAndAdd_34 : decode cX6_askAndAdd 34 = .ok (.getfield 123, 3) := by decide +kernel
theorem dX6_askAndAdd_37 : decode cX6_askAndAdd 37 = .ok (.iadd, 1) := by decide +kernel
theorem dX6_askAndAdd_38 : decode cX6_askAndAdd 38 = .ok (.invokevirtual 248, 3) := by decide +kernel
theorem dX6_askAndAdd_41 : decode cX6_askAndAdd 41 = .ok (.goto 5, 3) := by decide +kernel
theorem dX6_askAndAdd_44 : decode cX6_askAndAdd 44 = .ok (.iload 6, 2) := by decide +kernel
theorem dX6_askAndAdd_46 : decode cX6_askAndAdd 46 = .ok (.ireturn, 1) := by decide +kernel
theorem dX6_takeSteps_0 : decode cX6_takeSteps 0 = .ok (.aload_n 0, 1) := by decide +kernel
theorem dX6_takeSteps_1 : decode cX6_takeSteps 1 = .ok (.getfield 17, 3) := by decide +kernel
theorem dX6_takeSteps_4 : decode cX6_takeSteps 4 = .ok (.aload_n 0, 1) := by decide +kernel
theorem dX6_takeSteps_5 : decode cX6_takeSteps 5 = .ok (.getfield 117, 3) := by decide +kernel
theorem dX6_takeSteps_8 : decode cX6_takeSteps 8 = .ok (.aaload, 1) := by decide +kernel
theorem dX6_takeSteps_9 : decode cX6_takeSteps 9 = .ok (.getfield 183, 3) := by decide +kernel
theorem dX6_takeSteps_12 : decode cX6_takeSteps 12 = .ok (.iload_n 1, 1) := by decide +kernel
theorem dX6_takeSteps_13 : decode cX6_takeSteps 13 = .ok (.if_icmp .ge 5, 3) := by decide +kernel
theorem dX6_takeSteps_16 : decode cX6_takeSteps 16 = .ok (.iconst 0, 1) := by decide +kernel
theorem dX6_takeSteps_17 : decode cX6_takeSteps 17 = .ok (.ireturn, 1) := by decide +kernel
theorem dX6_takeSteps_18 : decode cX6_takeSteps 18 = .ok (.aload_n 0, 1) := by decide +kernel
theorem dX6_takeSteps_19 : decode cX6_takeSteps 19 = .ok (.getfield 17, 3) := by decide +kernel
theorem dX6_takeSteps_22 : decode cX6_takeSteps 22 = .ok (.aload_n 0, 1) := by decide +kernel
theorem dX6_takeSteps_23 : decode cX6_takeSteps 23 = .ok (.getfield 117, 3) := by decide +kernel
theorem dX6_takeSteps_26 : decode cX6_takeSteps 26 = .ok (.aaload, 1) := by decide +kernel
theorem dX6_takeSteps_27 : decode cX6_takeSteps 27 = .ok (.dup, 1) := by decide +kernel
theorem dX6_takeSteps_28 : decode cX6_takeSteps 28 = .ok (.getfield 183, 3) := by decide +kernel
theorem dX6_takeSteps_31 : decode cX6_takeSteps 31 = .ok (.iload_n 1, 1) := by decide +kernel
theorem dX6_takeSteps_32 : decode cX6_takeSteps 32 = .ok (.isub, 1) := by decide +kernel
theorem dX6_takeSteps_33 : decode cX6_takeSteps 33 = .ok (.putfield 183, 3) := by decide +kernel
theorem dX6_takeSteps_36 : decode cX6_takeSteps 36 = .ok (.aload_n 0, 1) := by decide +kernel
theorem dX6_takeSteps_37 : decode cX6_takeSteps 37 = .ok (.dup, 1) := by decide +kernel
theorem dX6_takeSteps_38 : decode cX6_takeSteps 38 = .ok (.getfield 199, 3) := by decide +kernel
theorem dX6_takeSteps_41 : decode cX6_takeSteps 41 = .ok (.iload_n 1, 1) := by decide +kernel
theorem dX6_takeSteps_42 : decode cX6_takeSteps 42 = .ok (.iadd, 1) := by decide +kernel
theorem dX6_takeSteps_43 : decode cX6_takeSteps 43 = .ok (.putfield 199, 3) := by decide +kernel
theorem dX6_takeSteps_46 : decode cX6_takeSteps 46 = .ok (.iconst 1, 1) := by decide +kernel
theorem dX6_takeSteps_47 : decode cX6_takeSteps 47 = .ok (.ireturn, 1) := by decide +kernel
theorem dJx00060_init_a7421_0 : decode cJx00060_init_a7421 0 = .ok (.aload_n 0, 1) := by decide +kernel
theorem dJx00060_init_a7421_1 : decode cJx00060_init_a7421 1 = .ok (.aload_n 1, 1) := by decide +kernel
theorem dJx00060_init_a7421_2 : decode cJx00060_init_a7421 2 = .ok (.invokespecial 7, 3) := by decide +kernel
theorem dJx00060_init_a7421_5 : decode cJx00060_init_a7421 5 = .ok (.return_, 1) := by decide +kernel
theorem dJ7_fill_53178_0 : decode cJ7_fill_53178 0 = .ok (.iconst 0, 1) := by decide +kernel
theorem dJ7_fill_53178_1 : decode cJ7_fill_53178 1 = .ok (.istore_n 2, 1) := by decide +kernel
theorem dJ7_fill_53178_2 : decode cJ7_fill_53178 2 = .ok (.aload_n 0, 1) := by decide +kernel
theorem dJ7_fill_53178_3 : decode cJ7_fill_53178 3 = .ok (.arraylength, 1) := by decide +kernel
theorem dJ7_fill_53178_4 : decode cJ7_fill_53178 4 = .ok (.istore_n 3, 1) := by decide +kernel
theorem dJ7_fill_53178_5 : decode cJ7_fill_53178 5 = .ok (.iload_n 2, 1) := by decide +kernel
theorem dJ7_fill_53178_6 : decode cJ7_fill_53178 6 = .ok (.iload_n 3, 1) := by decide +kernel
theorem dJ7_fill_53178_7 : decode cJ7_fill_53178 7 = .ok (.if_icmp .ge 13, 3) := by decide +kernel
theorem dJ7_fill_53178_10 : decode cJ7_fill_53178 10 = .ok (.aload_n 0, 1) := by decide +kernel
theorem dJ7_fill_53178_11 : decode cJ7_fill_53178 11 = .ok (.iload_n 2, 1) := by decide +kernel
theorem dJ7_fill_53178_12 : decode cJ7_fill_53178 12 = .ok (.iload_n 1, 1) := by decide +kernel
theorem dJ7_fill_53178_13 : decode cJ7_fill_53178 13 = .ok (.iastore, 1) := by decide +kernel
theorem dJ7_fill_53178_14 : decode cJ7_fill_53178 14 = .ok (.iinc 2 1, 3) := by decide +kernel
theorem dJ7_fill_53178_17 : decode cJ7_fill_53178 17 = .ok (.goto (-12), 3) := by decide +kernel
theorem dJ7_fill_53178_20 : decode cJ7_fill_53178 20 = .ok (.return_, 1) := by decide +kernel
