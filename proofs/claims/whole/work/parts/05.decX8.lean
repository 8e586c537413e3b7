theorem dX8_init_0 : decode cX8_init 0 = .ok (.aload_n 0, 1) := by decide +kernel
theorem dX8_init_1 : decode cX8_init 1 = .ok (.invokespecial 1, 3) := by decide +kernel
theorem dX8_init_4 : decode cX8_init 4 = .ok (.aload_n 0, 1) := by decide +kernel
theorem dX8_init_5 : decode cX8_init 5 = .ok (.iconst 4, 1) := by decide +kernel
theorem dX8_init_6 : decode cX8_init 6 = .ok (.newarray .int, 2) := by decide +kernel
theorem dX8_init_8 : decode cX8_init 8 = .ok (.putfield 9, 3) := by decide +kernel
theorem dX8_init_11 : decode cX8_init 11 = .ok (.aload_n 0, 1) := by decide +kernel
theorem dX8_init_12 : decode cX8_init 12 = .ok (.iconst 4, 1) := by decide +kernel
theorem dX8_init_13 : decode cX8_init 13 = .ok (.newarray .long, 2) := by decide +kernel
theorem dX8_init_15 : decode cX8_init 15 = .ok (.putfield 13, 3) := by decide +kernel
theorem dX8_init_18 : decode cX8_init 18 = .ok (.return_, 1) := by decide +kernel
theorem dX8_clear_0 : decode cX8_clear 0 = .ok (.aload_n 0, 1) := by decide +kernel
theorem dX8_clear_1 : decode cX8_clear 1 = .ok (.iconst 0, 1) := by decide +kernel
theorem dX8_clear_2 : decode cX8_clear 2 = .ok (.putfield 17, 3) := by decide +kernel
theorem dX8_clear_5 : decode cX8_clear 5 = .ok (.return_, 1) := by decide +kernel
theorem dX8_add_0 : decode cX8_add 0 = .ok (.aload_n 0, 1) := by decide +kernel
theorem dX8_add_1 : decode cX8_add 1 = .ok (.getfield 17, 3) := by decide +kernel
theorem dX8_add_4 : decode cX8_add 4 = .ok (.iconst 4, 1) := by decide +kernel
theorem dX8_add_5 : decode cX8_add 5 = .ok (.if_icmp .ge 33, 3) := by decide +kernel
theorem dX8_add_8 : decode cX8_add 8 = .ok (.aload_n 0, 1) := by decide +kernel
theorem dX8_add_9 : decode cX8_add 9 = .ok (.getfield 9, 3) := by decide +kernel
theorem dX8_add_12 : decode cX8_add 12 = .ok (.aload_n 0, 1) := by decide +kernel
theorem dX8_add_13 : decode cX8_add 13 = .ok (.getfield 17, 3) := by decide +kernel
theorem dX8_add_16 : decode cX8_add 16 = .ok (.iload_n 1, 1) := by decide +kernel
theorem dX8_add_17 : decode cX8_add 17 = .ok (.iastore, 1) := by decide +kernel
theorem dX8_add_18 : decode cX8_add 18 = .ok (.aload_n 0, 1) := by decide +kernel
theorem dX8_add_19 : decode cX8_add 19 = .ok (.getfield 13, 3) := by decide +kernel
theorem dX8_add_22 : decode cX8_add 22 = .ok (.aload_n 0, 1) := by decide +kernel
theorem dX8_add_23 : decode cX8_add 23 = .ok (.getfield 17, 3) := by decide +kernel
theorem dX8_add_26 : decode cX8_add 26 = .ok (.lload_n 2, 1) := by decide +kernel
theorem dX8_add_27 : decode cX8_add 27 = .ok (.lastore, 1) := by decide +kernel
theorem dX8_add_28 : decode cX8_add 28 = .ok (.aload_n 0, 1) := by decide +kernel
theorem dX8_add_29 : decode cX8_add 29 = .ok (.dup, 1) := by decide +kernel
theorem dX8_add_30 : decode cX8_add 30 = .ok (.getfield 17, 3) := by decide +kernel
theorem dX8_add_33 : decode cX8_add 33 = .ok (.iconst 1, 1) := by decide +kernel
theorem dX8_add_34 : decode cX8_add 34 = .ok (.iadd, 1) := by decide +kernel
theorem dX8_add_35 : decode cX8_add 35 = .ok (.putfield 17, 3) := by decide +kernel
theorem dX8_add_38 : decode cX8_add 38 = .ok (.return_, 1) := by decide +kernel
theorem dX8_same_0 : decode cX8_same 0 = .ok (.aload_n 1, 1) := by decide +kernel
theorem dX8_same_1 : decode cX8_same 1 = .ok (.ifnull 14, 3) := by decide +kernel
theorem dX8_same_4 : decode cX8_same 4 = .ok (.aload_n 1, 1) := by decide +kernel
theorem dX8_same_5 : decode cX8_same 5 = .ok (.getfield 17, 3) := by decide +kernel
theorem dX8_same_8 : decode cX8_same 8 = .ok (.aload_n 0, 1) := by decide +kernel
theorem dX8_same_9 : decode cX8_same 9 = .ok (.getfield 17, 3) := by decide +kernel
theorem dX8_same_12 : decode cX8_same 12 = .ok (.if_icmp .eq 5, 3) := by decide +kernel
theorem dX8_same_15 : decode cX8_same 15 = .ok (.iconst 0, 1) := by decide +kernel
theorem dX8_same_16 : decode cX8_same 16 = .ok (.ireturn, 1) := by decide +kernel
theorem dX8_same_17 : decode cX8_same 17 = .ok (.iconst 0, 1) := by decide +kernel
theorem dX8_same_18 : decode cX8_same 18 = .ok (.istore_n 2, 1) := by decide +kernel
theorem dX8_same_19 : decode cX8_same 19 = .ok (.iload_n 2, 1) := by decide +kernel
theorem dX8_same_20 : decode cX8_same 20 = .ok (.aload_n 0, 1) := by decide +kernel
theorem dX8_same_21 : decode cX8_same 21 = .ok (.getfield 17, 3) := by decide +kernel
theorem dX8_same_24 : decode cX8_same 24 = .ok (.if_icmp .ge 42, 3) := by decide +kernel
theorem dX8_same_27 : decode cX8_same 27 = .ok (.aload_n 1, 1) := by decide +kernel
theorem dX8_same_28 : decode cX8_same 28 = .ok (.getfield 9, 3) := by decide +kernel
theorem dX8_same_31 : decode cX8_same 31 = .ok (.iload_n 2, 1) := by decide +kernel
theorem dX8_same_32 : decode cX8_same 32 = .ok (.iaload, 1) := by decide +kernel
theorem dX8_same_33 : decode cX8_same 33 = .ok (.aload_n 0, 1) := by decide +kernel
theorem dX8_same_34 : decode cX8_same 34 = .ok (.getfield 9, 3) := by decide +kernel
theorem dX8_same_37 : decode cX8_same 37 = .ok (.iload_n 2, 1) := by decide +kernel
theorem dX8_same_38 : decode cX8_same 38 = .ok (.iaload, 1) := by decide +kernel
theorem dX8_same_39 : decode cX8_same 39 = .ok (.if_icmp .ne 19, 3) := by decide +kernel
theorem dX8_same_42 : decode cX8_same 42 = .ok (.aload_n 1, 1) := by decide +kernel
theorem dX8_same_43 : decode cX8_same 43 = .ok (.getfield 13, 3) := by decide +kernel
theorem dX8_same_46 : decode cX8_same 46 = .ok (.iload_n 2, 1) := by decide +kernel
theorem dX8_same_47 : decode cX8_same 47 = .ok (.laload, 1) := by decide +kernel
theorem dX8_same_48 : decode cX8_same 48 = .ok (.aload_n 0, 1) := by decide +kernel
theorem dX8_same_49 : decode cX8_same 49 = .ok (.getfield 13, 3) := by decide +kernel
theorem dX8_same_52 : decode cX8_same 52 = .ok (.iload_n 2, 1) := by decide +kernel
theorem dX8_same_53 : decode cX8_same 53 = .ok (.laload, 1) := by decide +kernel
theorem dX8_same_54 : decode cX8_same 54 = .ok (.lcmp, 1) := by decide +kernel
theorem dX8_same_55 : decode cX8_same 55 = .ok (.ifCond .eq 5, 3) := by decide +kernel
theorem dX8_same_58 : decode cX8_same 58 = .ok (.iconst 0, 1) := by decide +kernel
theorem dX8_same_59 : decode cX8_same 59 = .ok (.ireturn, 1) := by decide +kernel
theorem dX8_same_60 : decode cX8_same 60 = .ok (.iinc 2 1, 3) := by decide +kernel
theorem dX8_same_63 : decode cX8_same 63 = .ok (.goto (-44), 3) := by decide +kernel
theorem dX8_same_66 : decode cX8_same 66 = .ok (.iconst 1, 1) := by decide +kernel
theorem dX8_same_67 : decode cX8_same 67 = .ok (.ireturn, 1) := by decide +kernel
theorem dX8_hasPlainWord_0 : decode cX8_hasPlainWord 0 = .ok (.iconst 0, 1) := by decide +kernel
theorem dX8_hasPlainWord_1 : decode cX8_hasPlainWord 1 = .ok (.istore_n 3, 1) := by decide +kernel
theorem dX8_hasPlainWord_2 : decode cX8_hasPlainWord 2 = .ok (.iload_n 3, 1) := by decide +kernel
theorem dX8_hasPlainWord_3 : decode cX8_hasPlainWord 3 = .ok (.aload_n 0, 1) := by decide +kernel
theorem dX8_hasPlainWord_4 : decode cX8_hasPlainWord 4 = .ok (.getfield 17, 3) := by decide +kernel
theorem dX8_hasPlainWord_7 : decode cX8_hasPlainWord 7 = .ok (.if_icmp .ge 31, 3) := by decide +kernel
theorem dX8_hasPlainWord_10 : decode cX8_hasPlainWord 10 = .ok (.aload_n 0, 1) := by decide +kernel
theorem dX8_hasPlainWord_11 : decode cX8_hasPlainWord 11 = .ok (.getfield 9, 3) := by decide +kernel
theorem dX8_hasPlainWord_14 : decode cX8_hasPlainWord 14 = .ok (.iload_n 3, 1) := by decide +kernel
theorem dX8_hasPlainWord_15 : decode cX8_hasPlainWord 15 = .ok (.iaload, 1) := by decide +kernel
theorem dX8_hasPlainWord_16 : decode cX8_hasPlainWord 16 = .ok (.ifCond .ne 16, 3) := by decide +kernel
theorem dX8_hasPlainWord_19 : decode cX8_hasPlainWord 19 = .ok (.aload_n 0, 1) := by decide +kernel
theorem dX8_hasPlainWord_20 : decode cX8_hasPlainWord 20 = .ok (.getfield 13, 3) := by decide +kernel
theorem dX8_hasPlainWord_23 : decode cX8_hasPlainWord 23 = .ok (.iload_n 3, 1) := by decide +kernel
theorem dX8_hasPlainWord_24 : decode cX8_hasPlainWord 24 = .ok (.laload, 1) := by decide +kernel
theorem dX8_hasPlainWord_25 : decode cX8_hasPlainWord 25 = .ok (.lload_n 1, 1) := by decide +kernel
theorem dX8_hasPlainWord_26 : decode cX8_hasPlainWord 26 = .ok (.lcmp, 1) := by decide +kernel
theorem dX8_hasPlainWord_27 : decode cX8_hasPlainWord 27 = .ok (.ifCond .ne 5, 3) := by decide +kernel
theorem dX8_hasPlainWord_30 : decode cX8_hasPlainWord 30 = .ok (.iconst 1, 1) := by decide +kernel
theorem dX8_hasPlainWord_31 : decode cX8_hasPlainWord 31 = .ok (.ireturn, 1) := by decide +kernel
theorem dX8_hasPlainWord_32 : decode cX8_hasPlainWord 32 = .ok (.iinc 3 1, 3) := by decide +kernel
theorem dX8_hasPlainWord_35 : decode cX8_hasPlainWord 35 = .ok (.goto (-33), 3) := by decide +kernel
theorem dX8_hasPlainWord_38 : decode cX8_hasPlainWord 38 = .ok (.iconst 0, 1) := by decide +kernel
theorem dX8_hasPlainWord_39 : decode cX8_hasPlainWord 39 = .ok (.ireturn, 1) := by decide +kernel
