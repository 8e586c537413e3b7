theorem dX12_lets_1 : decode cX12_lets 1 = .ok (.iconst 0, 1) := by decide +kernel
theorem dX12_lets_2 : decode cX12_lets 2 = .ok (.putfield 1, 3) := by decide +kernel
theorem dX12_lets_5 : decode cX12_lets 5 = .ok (.aload_n 0, 1) := by decide +kernel
theorem dX12_lets_6 : decode cX12_lets 6 = .ok (.invokevirtual 334, 3) := by decide +kernel
theorem dX12_lets_9 : decode cX12_lets 9 = .ok (.iload_n 1, 1) := by decide +kernel
theorem dX12_lets_10 : decode cX12_lets 10 = .ok (.iconst 0, 1) := by decide +kernel
theorem dX12_lets_11 : decode cX12_lets 11 = .ok (.aload_n 0, 1) := by decide +kernel
theorem dX12_lets_12 : decode cX12_lets 12 = .ok (.getfield 320, 3) := by decide +kernel
theorem dX12_lets_15 : decode cX12_lets 15 = .ok (.iconst 1, 1) := by decide +kernel
theorem dX12_lets_16 : decode cX12_lets 16 = .ok (.isub, 1) := by decide +kernel
theorem dX12_lets_17 : decode cX12_lets 17 = .ok (.invokestatic 277, 3) := by decide +kernel
theorem dX12_lets_20 : decode cX12_lets 20 = .ok (.ifCond .eq 12, 3) := by decide +kernel
theorem dX12_lets_23 : decode cX12_lets 23 = .ok (.aload_n 0, 1) := by decide +kernel
theorem dX12_lets_24 : decode cX12_lets 24 = .ok (.getfield 229, 3) := by decide +kernel
theorem dX12_lets_27 : decode cX12_lets 27 = .ok (.bipush 20, 2) := by decide +kernel
theorem dX12_lets_29 : decode cX12_lets 29 = .ok (.if_icmp .ne 5, 3) := by decide +kernel
theorem dX12_lets_32 : decode cX12_lets 32 = .ok (.iconst 0, 1) := by decide +kernel
theorem dX12_lets_33 : decode cX12_lets 33 = .ok (.ireturn, 1) := by decide +kernel
theorem dX12_lets_34 : decode cX12_lets 34 = .ok (.iconst 0, 1) := by decide +kernel
theorem dX12_lets_35 : decode cX12_lets 35 = .ok (.istore_n 2, 1) := by decide +kernel
theorem dX12_lets_36 : decode cX12_lets 36 = .ok (.iload_n 2, 1) := by decide +kernel
theorem dX12_lets_37 : decode cX12_lets 37 = .ok (.aload_n 0, 1) := by decide +kernel
theorem dX12_lets_38 : decode cX12_lets 38 = .ok (.getfield 229, 3) := by decide +kernel
theorem dX12_lets_41 : decode cX12_lets 41 = .ok (.if_icmp .ge 26, 3) := by decide +kernel
theorem dX12_lets_44 : decode cX12_lets 44 = .ok (.aload_n 0, 1) := by decide +kernel
theorem dX12_lets_45 : decode cX12_lets 45 = .ok (.getfield 90, 3) := by decide +kernel
theorem dX12_lets_48 : decode cX12_lets 48 = .ok (.iload_n 2, 1) := by decide +kernel
theorem dX12_lets_49 : decode cX12_lets 49 = .ok (.iaload, 1) := by decide +kernel
theorem dX12_lets_50 : decode cX12_lets 50 = .ok (.aload_n 0, 1) := by decide +kernel
theorem dX12_lets_51 : decode cX12_lets 51 = .ok (.getfield 93, 3) := by decide +kernel
theorem dX12_lets_54 : decode cX12_lets 54 = .ok (.iload_n 1, 1) := by decide +kernel
theorem dX12_lets_55 : decode cX12_lets 55 = .ok (.iaload, 1) := by decide +kernel
theorem dX12_lets_56 : decode cX12_lets 56 = .ok (.if_icmp .ne 5, 3) := by decide +kernel
theorem dX12_lets_59 : decode cX12_lets 59 = .ok (.iconst 0, 1) := by decide +kernel
theorem dX12_lets_60 : decode cX12_lets 60 = .ok (.ireturn, 1) := by decide +kernel
theorem dX12_lets_61 : decode cX12_lets 61 = .ok (.iinc 2 1, 3) := by decide +kernel
theorem dX12_lets_64 : decode cX12_lets 64 = .ok (.goto (-28), 3) := by decide +kernel
theorem dX12_lets_67 : decode cX12_lets 67 = .ok (.aload_n 0, 1) := by decide +kernel
theorem dX12_lets_68 : decode cX12_lets 68 = .ok (.getfield 90, 3) := by decide +kernel
theorem dX12_lets_71 : decode cX12_lets 71 = .ok (.aload_n 0, 1) := by decide +kernel
theorem dX12_lets_72 : decode cX12_lets 72 = .ok (.getfield 229, 3) := by decide +kernel
theorem dX12_lets_75 : decode cX12_lets 75 = .ok (.aload_n 0, 1) := by decide +kernel
theorem dX12_lets_76 : decode cX12_lets 76 = .ok (.getfield 93, 3) := by decide +kernel
theorem dX12_lets_79 : decode cX12_lets 79 = .ok (.iload_n 1, 1) := by decide +kernel
theorem dX12_lets_80 : decode cX12_lets 80 = .ok (.iaload, 1) := by decide +kernel
theorem dX12_lets_81 : decode cX12_lets 81 = .ok (.iastore, 1) := by decide +kernel
theorem dX12_lets_82 : decode cX12_lets 82 = .ok (.aload_n 0, 1) := by decide +kernel
theorem dX12_lets_83 : decode cX12_lets 83 = .ok (.dup, 1) := by decide +kernel
theorem dX12_lets_84 : decode cX12_lets 84 = .ok (.getfield 229, 3) := by decide +kernel
theorem dX12_lets_87 : decode cX12_lets 87 = .ok (.iconst 1, 1) := by decide +kernel
theorem dX12_lets_88 : decode cX12_lets 88 = .ok (.iadd, 1) := by decide +kernel
theorem dX12_lets_89 : decode cX12_lets 89 = .ok (.putfield 229, 3) := by decide +kernel
theorem dX12_lets_92 : decode cX12_lets 92 = .ok (.aload_n 0, 1) := by decide +kernel
theorem dX12_lets_93 : decode cX12_lets 93 = .ok (.iconst 1, 1) := by decide +kernel
theorem dX12_lets_94 : decode cX12_lets 94 = .ok (.putfield 152, 3) := by decide +kernel
theorem dX12_lets_97 : decode cX12_lets 97 = .ok (.iconst 1, 1) := by decide +kernel
theorem dX12_lets_98 : decode cX12_lets 98 = .ok (.ireturn, 1) := by decide +kernel
theorem dX12_ties_0 : decode cX12_ties 0 = .ok (.aload_n 0, 1) := by decide +kernel
theorem dX12_ties_1 : decode cX12_ties 1 = .ok (.getfield 96, 3) := by decide +kernel
theorem dX12_ties_4 : decode cX12_ties 4 = .ok (.bipush 30, 2) := by decide +kernel
theorem dX12_ties_6 : decode cX12_ties 6 = .ok (.iload_n 1, 1) := by decide +kernel
theorem dX12_ties_7 : decode cX12_ties 7 = .ok (.imul, 1) := by decide +kernel
theorem dX12_ties_8 : decode cX12_ties 8 = .ok (.iload_n 2, 1) := by decide +kernel
theorem dX12_ties_9 : decode cX12_ties 9 = .ok (.iadd, 1) := by decide +kernel
theorem dX12_ties_10 : decode cX12_ties 10 = .ok (.iaload, 1) := by decide +kernel
theorem dX12_ties_11 : decode cX12_ties 11 = .ok (.iload_n 3, 1) := by decide +kernel
theorem dX12_ties_12 : decode cX12_ties 12 = .ok (.invokestatic 314, 3) := by decide +kernel
theorem dX12_ties_15 : decode cX12_ties 15 = .ok (.istore 4, 2) := by decide +kernel
theorem dX12_ties_17 : decode cX12_ties 17 = .ok (.aload_n 0, 1) := by decide +kernel
theorem dX12_ties_18 : decode cX12_ties 18 = .ok (.getfield 96, 3) := by decide +kernel
theorem dX12_ties_21 : decode cX12_ties 21 = .ok (.bipush 30, 2) := by decide +kernel
theorem dX12_ties_23 : decode cX12_ties 23 = .ok (.iload_n 1, 1) := by decide +kernel
theorem dX12_ties_24 : decode cX12_ties 24 = .ok (.imul, 1) := by decide +kernel
theorem dX12_ties_25 : decode cX12_ties 25 = .ok (.iload_n 2, 1) := by decide +kernel
theorem dX12_ties_26 : decode cX12_ties 26 = .ok (.iadd, 1) := by decide +kernel
theorem dX12_ties_27 : decode cX12_ties 27 = .ok (.iload 4, 2) := by decide +kernel
theorem dX12_ties_29 : decode cX12_ties 29 = .ok (.iastore, 1) := by decide +kernel
theorem dX12_ties_30 : decode cX12_ties 30 = .ok (.aload_n 0, 1) := by decide +kernel
theorem dX12_ties_31 : decode cX12_ties 31 = .ok (.getfield 96, 3) := by decide +kernel
theorem dX12_ties_34 : decode cX12_ties 34 = .ok (.bipush 30, 2) := by decide +kernel
theorem dX12_ties_36 : decode cX12_ties 36 = .ok (.iload_n 2, 1) := by decide +kernel
theorem dX12_ties_37 : decode cX12_ties 37 = .ok (.imul, 1) := by decide +kernel
theorem dX12_ties_38 : decode cX12_ties 38 = .ok (.iload_n 1, 1) := by decide +kernel
theorem dX12_ties_39 : decode cX12_ties 39 = .ok (.iadd, 1) := by decide +kernel
theorem dX12_ties_40 : decode cX12_ties 40 = .ok (.iload 4, 2) := by decide +kernel
theorem dX12_ties_42 : decode cX12_ties 42 = .ok (.iastore, 1) := by decide +kernel
theorem dX12_ties_43 : decode cX12_ties 43 = .ok (.aload_n 0, 1) := by decide +kernel
theorem dX12_ties_44 : decode cX12_ties 44 = .ok (.getfield 99, 3) := by decide +kernel
theorem dX12_ties_47 : decode cX12_ties 47 = .ok (.iload_n 1, 1) := by decide +kernel
theorem dX12_ties_48 : decode cX12_ties 48 = .ok (.dup2, 1) := by decide +kernel
theorem dX12_ties_49 : decode cX12_ties 49 = .ok (.iaload, 1) := by decide +kernel
theorem dX12_ties_50 : decode cX12_ties 50 = .ok (.iconst 1, 1) := by decide +kernel
theorem dX12_ties_51 : decode cX12_ties 51 = .ok (.iload_n 2, 1) := by decide +kernel
theorem dX12_ties_52 : decode cX12_ties 52 = .ok (.ishl, 1) := by decide +kernel
theorem dX12_ties_53 : decode cX12_ties 53 = .ok (.ior, 1) := by decide +kernel
theorem dX12_ties_54 : decode cX12_ties 54 = .ok (.iastore, 1) := by decide +kernel
theorem dX12_ties_55 : decode cX12_ties 55 = .ok (.aload_n 0, 1) := by decide +kernel
theorem dX12_ties_56 : decode cX12_ties 56 = .ok (.getfield 99, 3) := by decide +kernel
theorem dX12_ties_59 : decode cX12_ties 59 = .ok (.iload_n 2, 1) := by decide +kernel
theorem dX12_ties_60 : decode cX12_ties 60 = .ok (.dup2, 1) := by decide +kernel
theorem dX12_ties_61 : decode cX12_ties 61 = .ok (.iaload, 1) := by decide +kernel
theorem dX12_ties_62 : decode cX12_ties 62 = .ok (.iconst 1, 1) := by decide +kernel
theorem dX12_ties_63 : decode cX12_ties 63 = .ok (.iload_n 1, 1) := by decide +kernel
theorem dX12_ties_64 : decode cX12_ties 64 = .ok (.ishl, 1) := by decide +kernel
theorem dX12_ties_65 : decode cX12_ties 65 = .ok (.ior, 1) := by decide +kernel
theorem dX12_ties_66 : decode cX12_ties 66 = .ok (.iastore, 1) := by decide +kernel
theorem dX12_ties_67 : decode cX12_ties 67 = .ok (.return_, 1) := by decide +kernel
theorem dX12_pointTo_0 : decode cX12_pointTo 0 = .ok (.iconst 0, 1) := by decide +kernel
theorem dX12_pointTo_1 : decode cX12_pointTo 1 = .ok (.istore 4, 2) := by decide +kernel
theorem dX12_pointTo_3 : decode cX12_pointTo 3 = .ok (.iconst 0, 1) := by decide +kernel
theorem dX12_pointTo_4 : decode cX12_pointTo 4 = .ok (.istore 5, 2) := by decide +kernel
theorem dX12_pointTo_6 : decode cX12_pointTo 6 = .ok (.iload 5, 2) := by decide +kernel
theorem dX12_pointTo_8 : decode cX12_pointTo 8 = .ok (.aload_n 0, 1) := by decide +kernel
theorem dX12_pointTo_9 : decode cX12_pointTo 9 = .ok (.getfield 223, 3) := by decide +kernel
theorem dX12_pointTo_12 : decode cX12_pointTo 12 = .ok (.if_icmp .ge 56, 3) := by decide +kernel
theorem dX12_pointTo_15 : decode cX12_pointTo 15 = .ok (.iload 4, 2) := by decide +kernel
theorem dX12_pointTo_17 : decode cX12_pointTo 17 = .ok (.aload_n 0, 1) := by decide +kernel
theorem dX12_pointTo_18 : decode cX12_pointTo 18 = .ok (.iload 5, 2) := by decide +kernel
theorem dX12_pointTo_20 : decode cX12_pointTo 20 = .ok (.invokevirtual 287, 3) := by decide +kernel
theorem dX12_pointTo_23 : decode cX12_pointTo 23 = .ok (.ifCond .eq 35, 3) := by decide +kernel
theorem dX12_pointTo_26 : decode cX12_pointTo 26 = .ok (.aload_n 0, 1) := by decide +kernel
theorem dX12_pointTo_27 : decode cX12_pointTo 27 = .ok (.getfield 68, 3) := by decide +kernel
theorem dX12_pointTo_30 : decode cX12_pointTo 30 = .ok (.iload 5, 2) := by decide +kernel
theorem dX12_pointTo_32 : decode cX12_pointTo 32 = .ok (.iaload, 1) := by decide +kernel
theorem dX12_pointTo_33 : decode cX12_pointTo 33 = .ok (.iload_n 1, 1) := by decide +kernel
theorem dX12_pointTo_34 : decode cX12_pointTo 34 = .ok (.if_icmp .ne 24, 3) := by decide +kernel
theorem dX12_pointTo_37 : decode cX12_pointTo 37 = .ok (.aload_n 0, 1) := by decide +kernel
theorem dX12_pointTo_38 : decode cX12_pointTo 38 = .ok (.getfield 71, 3) := by decide +kernel
theorem dX12_pointTo_41 : decode cX12_pointTo 41 = .ok (.iconst 4, 1) := by decide +kernel
theorem dX12_pointTo_42 : decode cX12_pointTo 42 = .ok (.iload 5, 2) := by decide +kernel
theorem dX12_pointTo_44 : decode cX12_pointTo 44 = .ok (.imul, 1) := by decide +kernel
theorem dX12_pointTo_45 : decode cX12_pointTo 45 = .ok (.iload_n 2, 1) := by decide +kernel
theorem dX12_pointTo_46 : decode cX12_pointTo 46 = .ok (.iadd, 1) := by decide +kernel
theorem dX12_pointTo_47 : decode cX12_pointTo 47 = .ok (.laload, 1) := by decide +kernel
theorem dX12_pointTo_48 : decode cX12_pointTo 48 = .ok (.iload_n 3, 1) := by decide +kernel
theorem dX12_pointTo_49 : decode cX12_pointTo 49 = .ok (.i2l, 1) := by decide +kernel
theorem dX12_pointTo_50 : decode cX12_pointTo 50 = .ok (.lcmp, 1) := by decide +kernel
theorem dX12_pointTo_51 : decode cX12_pointTo 51 = .ok (.ifCond .ne 7, 3) := by decide +kernel
theorem dX12_pointTo_54 : decode cX12_pointTo 54 = .ok (.iconst 1, 1) := by decide +kernel
theorem dX12_pointTo_55 : decode cX12_pointTo 55 = .ok (.goto 4, 3) := by decide +kernel
theorem dX12_pointTo_58 : decode cX12_pointTo 58 = .ok (.iconst 0, 1) := by decide +kernel
theorem dX12_pointTo_59 : decode cX12_pointTo 59 = .ok (.iadd, 1) := by decide +kernel
theorem dX12_pointTo_60 : decode cX12_pointTo 60 = .ok (.istore 4, 2) := by decide +kernel
theorem dX12_pointTo_62 : decode cX12_pointTo 62 = .ok (.iinc 5 1, 3) := by decide +kernel
theorem dX12_pointTo_65 : decode cX12_pointTo 65 = .ok (.goto (-59), 3) := by decide +kernel
theorem dX12_pointTo_68 : decode cX12_pointTo 68 = .ok (.iload 4, 2) := by decide +kernel
theorem dX12_pointTo_70 : decode cX12_pointTo 70 = .ok (.ireturn, 1) := by decide +kernel
theorem dX12_findTies_0 : decode cX12_findTies 0 = .ok (.iconst 0, 1) := by decide +kernel
theorem dX12_findTies_1 : decode cX12_findTies 1 = .ok (.istore_n 1, 1) := by decide +kernel
theorem dX12_findTies_2 : decode cX12_findTies 2 = .ok (.iload_n 1, 1) := by decide +kernel
theorem dX12_findTies_3 : decode cX12_findTies 3 = .ok (.sipush 900, 3) := by decide +kernel
theorem dX12_findTies_6 : decode cX12_findTies 6 = .ok (.if_icmp .ge 16, 3) := by decide +kernel
theorem dX12_findTies_9 : decode cX12_findTies 9 = .ok (.aload_n 0, 1) := by decide +kernel
theorem dX12_findTies_10 : decode cX12_findTies 10 = .ok (.getfield 96, 3) := by decide +kernel
theorem dX12_findTies_13 : decode cX12_findTies 13 = .ok (.iload_n 1, 1) := by decide +kernel
theorem dX12_findTies_14 : decode cX12_findTies 14 = .ok (.iconst (-1), 1) := by decide +kernel
theorem dX12_findTies_15 : decode cX12_findTies 15 = .ok (.iastore, 1) := by decide +kernel
theorem dX12_findTies_16 : decode cX12_findTies 16 = .ok (.iinc 1 1, 3) := by decide +kernel
theorem dX12_findTies_19 : decode cX12_findTies 19 = .ok (.goto (-17), 3) := by decide +kernel
theorem dX12_findTies_22 : decode cX12_findTies 22 = .ok (.aload_n 0, 1) := by decide +kernel
theorem dX12_findTies_23 : decode cX12_findTies 23 = .ok (.iconst 0, 1) := by decide +kernel
theorem dX12_findTies_24 : decode cX12_findTies 24 = .ok (.putfield 337, 3) := by decide +kernel
theorem dX12_findTies_27 : decode cX12_findTies 27 = .ok (.iconst 0, 1) := by decide +kernel
theorem dX12_findTies_28 : decode cX12_findTies 28 = .ok (.istore_n 1, 1) := by decide +kernel
theorem dX12_findTies_29 : decode cX12_findTies 29 = .ok (.iload_n 1, 1) := by decide +kernel
theorem dX12_findTies_30 : decode cX12_findTies 30 = .ok (.bipush 30, 2) := by decide +kernel
theorem dX12_findTies_32 : decode cX12_findTies 32 = .ok (.if_icmp .ge 40, 3) := by decide +kernel
theorem dX12_findTies_35 : decode cX12_findTies 35 = .ok (.aload_n 0, 1) := by decide +kernel
theorem dX12_findTies_36 : decode cX12_findTies 36 = .ok (.getfield 99, 3) := by decide +kernel
theorem dX12_findTies_39 : decode cX12_findTies 39 = .ok (.iload_n 1, 1) := by decide +kernel
theorem dX12_findTies_40 : decode cX12_findTies 40 = .ok (.iconst 0, 1) := by decide +kernel
theorem dX12_findTies_41 : decode cX12_findTies 41 = .ok (.iastore, 1) := by decide +kernel
theorem dX12_findTies_42 : decode cX12_findTies 42 = .ok (.aload_n 0, 1) := by decide +kernel
theorem dX12_findTies_43 : decode cX12_findTies 43 = .ok (.dup, 1) := by decide +kernel
theorem dX12_findTies_44 : decode cX12_findTies 44 = .ok (.getfield 337, 3) := by decide +kernel
theorem dX12_findTies_47 : decode cX12_findTies 47 = .ok (.aload_n 0, 1) := by decide +kernel
theorem dX12_findTies_48 : decode cX12_findTies 48 = .ok (.iload_n 1, 1) := by decide +kernel
theorem dX12_findTies_49 : decode cX12_findTies 49 = .ok (.invokevirtual 287, 3) := by decide +kernel
theorem dX12_findTies_52 : decode cX12_findTies 52 = .ok (.ifCond .eq 9, 3) := by decide +kernel
theorem dX12_findTies_55 : decode cX12_findTies 55 = .ok (.iconst 1, 1) := by decide +kernel
theorem dX12_findTies_56 : decode cX12_findTies 56 = .ok (.iload_n 1, 1) := by decide +kernel
theorem dX12_findTies_57 : decode cX12_findTies 57 = .ok (.ishl, 1) := by decide +kernel
theorem dX12_findTies_58 : decode cX12_findTies 58 = .ok (.goto 4, 3) := by decide +kernel
theorem dX12_findTies_61 : decode cX12_findTies 61 = .ok (.iconst 0, 1) := by decide +kernel
theorem dX12_findTies_62 : decode cX12_findTies 62 = .ok (.ior, 1) := by decide +kernel
theorem dX12_findTies_63 : decode cX12_findTies 63 = .ok (.putfield 337, 3) := by decide +kernel
theorem dX12_findTies_66 : decode cX12_findTies 66 = .ok (.iinc 1 1, 3) := by decide +kernel
theorem dX12_findTies_69 : decode cX12_findTies 69 = .ok (.goto (-40), 3) := by decide +kernel
theorem dX12_findTies_72 : decode cX12_findTies 72 = .ok (.iconst 0, 1) := by decide +kernel
theorem dX12_findTies_73 : decode cX12_findTies 73 = .ok (.istore_n 1, 1) := by decide +kernel
theorem dX12_findTies_74 : decode cX12_findTies 74 = .ok (.iload_n 1, 1) := by decide +kernel
theorem dX12_findTies_75 : decode cX12_findTies 75 = .ok (.aload_n 0, 1) := by decide +kernel
theorem dX12_findTies_76 : decode cX12_findTies 76 = .ok (.getfield 223, 3) := by decide +kernel
theorem dX12_findTies_79 : decode cX12_findTies 79 = .ok (.if_icmp .ge 92, 3) := by decide +kernel
theorem dX12_findTies_82 : decode cX12_findTies 82 = .ok (.iconst 0, 1) := by decide +kernel
theorem dX12_findTies_83 : decode cX12_findTies 83 = .ok (.istore_n 2, 1) := by decide +kernel
theorem dX12_findTies_84 : decode cX12_findTies 84 = .ok (.iload_n 2, 1) := by decide +kernel
theorem dX12_findTies_85 : decode cX12_findTies 85 = .ok (.aload_n 0, 1) := by decide +kernel
theorem dX12_findTies_86 : decode cX12_findTies 86 = .ok (.getfield 59, 3) := by decide +kernel
theorem dX12_findTies_89 : decode cX12_findTies 89 = .ok (.aload_n 0, 1) := by decide +kernel
theorem dX12_findTies_90 : decode cX12_findTies 90 = .ok (.getfield 68, 3) := by decide +kernel
theorem dX12_findTies_93 : decode cX12_findTies 93 = .ok (.iload_n 1, 1) := by decide +kernel
theorem dX12_findTies_94 : decode cX12_findTies 94 = .ok (.iaload, 1) := by decide +kernel
theorem dX12_findTies_95 : decode cX12_findTies 95 = .ok (.iaload, 1) := by decide +kernel
theorem dX12_findTies_96 : decode cX12_findTies 96 = .ok (.if_icmp .ge 69, 3) := by decide +kernel
theorem dX12_findTies_99 : decode cX12_findTies 99 = .ok (.aload_n 0, 1) := by decide +kernel
theorem dX12_findTies_100 : decode cX12_findTies 100 = .ok (.iload_n 1, 1) := by decide +kernel
theorem dX12_findTies_101 : decode cX12_findTies 101 = .ok (.invokevirtual 287, 3) := by decide +kernel
theorem dX12_findTies_104 : decode cX12_findTies 104 = .ok (.ifCond .eq 61, 3) := by decide +kernel
theorem dX12_findTies_107 : decode cX12_findTies 107 = .ok (.aload_n 0, 1) := by decide +kernel
theorem dX12_findTies_108 : decode cX12_findTies 108 = .ok (.getfield 71, 3) := by decide +kernel
theorem dX12_findTies_111 : decode cX12_findTies 111 = .ok (.iconst 4, 1) := by decide +kernel
theorem dX12_findTies_112 : decode cX12_findTies 112 = .ok (.iload_n 1, 1) := by decide +kernel
theorem dX12_findTies_113 : decode cX12_findTies 113 = .ok (.imul, 1) := by decide +kernel
theorem dX12_findTies_114 : decode cX12_findTies 114 = .ok (.iload_n 2, 1) := by decide +kernel
theorem dX12_findTies_115 : decode cX12_findTies 115 = .ok (.iadd, 1) := by decide +kernel
theorem dX12_findTies_116 : decode cX12_findTies 116 = .ok (.laload, 1) := by decide +kernel
theorem dX12_findTies_117 : decode cX12_findTies 117 = .ok (.l2i, 1) := by decide +kernel
theorem dX12_findTies_118 : decode cX12_findTies 118 = .ok (.istore_n 3, 1) := by decide +kernel
theorem dX12_findTies_119 : decode cX12_findTies 119 = .ok (.aload_n 0, 1) := by decide +kernel
theorem dX12_findTies_120 : decode cX12_findTies 120 = .ok (.iload_n 1, 1) := by decide +kernel
theorem dX12_findTies_121 : decode cX12_findTies 121 = .ok (.iload_n 2, 1) := by decide +kernel
theorem dX12_findTies_122 : decode cX12_findTies 122 = .ok (.invokevirtual 290, 3) := by decide +kernel
theorem dX12_findTies_125 : decode cX12_findTies 125 = .ok (.iconst 5, 1) := by decide +kernel
theorem dX12_findTies_126 : decode cX12_findTies 126 = .ok (.if_icmp .ge 33, 3) := by decide +kernel
theorem dX12_findTies_129 : decode cX12_findTies 129 = .ok (.aload_n 0, 1) := by decide +kernel
theorem dX12_findTies_130 : decode cX12_findTies 130 = .ok (.iload_n 3, 1) := by decide +kernel
theorem dX12_findTies_131 : decode cX12_findTies 131 = .ok (.invokevirtual 287, 3) := by decide +kernel
theorem dX12_findTies_134 : decode cX12_findTies 134 = .ok (.ifCond .eq 25, 3) := by decide +kernel
theorem dX12_findTies_137 : decode cX12_findTies 137 = .ok (.aload_n 0, 1) := by decide +kernel
theorem dX12_findTies_138 : decode cX12_findTies 138 = .ok (.iload_n 1, 1) := by decide +kernel
theorem dX12_findTies_139 : decode cX12_findTies 139 = .ok (.iload_n 3, 1) := by decide +kernel
theorem dX12_findTies_140 : decode cX12_findTies 140 = .ok (.iconst 1, 1) := by decide +kernel
theorem dX12_findTies_141 : decode cX12_findTies 141 = .ok (.aload_n 0, 1) := by decide +kernel
theorem dX12_findTies_142 : decode cX12_findTies 142 = .ok (.aload_n 0, 1) := by decide +kernel
theorem dX12_findTies_143 : decode cX12_findTies 143 = .ok (.getfield 68, 3) := by decide +kernel
theorem dX12_findTies_146 : decode cX12_findTies 146 = .ok (.iload_n 1, 1) := by decide +kernel
theorem dX12_findTies_147 : decode cX12_findTies 147 = .ok (.iaload, 1) := by decide +kernel
theorem dX12_findTies_148 : decode cX12_findTies 148 = .ok (.iload_n 2, 1) := by decide +kernel
theorem dX12_findTies_149 : decode cX12_findTies 149 = .ok (.iload_n 3, 1) := by decide +kernel
theorem dX12_findTies_150 : decode cX12_findTies 150 = .ok (.invokevirtual 340, 3) := by decide +kernel
theorem dX12_findTies_153 : decode cX12_findTies 153 = .ok (.iconst 3, 1) := by decide +kernel
theorem dX12_findTies_154 : decode cX12_findTies 154 = .ok (.idiv, 1) := by decide +kernel
theorem dX12_findTies_155 : decode cX12_findTies 155 = .ok (.iadd, 1) := by decide +kernel
theorem dX12_findTies_156 : decode cX12_findTies 156 = .ok (.invokevirtual 344, 3) := by decide +kernel
theorem dX12_findTies_159 : decode cX12_findTies 159 = .ok (.iinc 2 1, 3) := by decide +kernel
theorem dX12_findTies_162 : decode cX12_findTies 162 = .ok (.goto (-78), 3) := by decide +kernel
theorem dX12_findTies_165 : decode cX12_findTies 165 = .ok (.iinc 1 1, 3) := by decide +kernel
theorem dX12_findTies_168 : decode cX12_findTies 168 = .ok (.goto (-94), 3) := by decide +kernel
theorem dX12_findTies_171 : decode cX12_findTies 171 = .ok (.iconst 0, 1) := by decide +kernel
theorem dX12_findTies_172 : decode cX12_findTies 172 = .ok (.istore_n 1, 1) := by decide +kernel
theorem dX12_findTies_173 : decode cX12_findTies 173 = .ok (.iload_n 1, 1) := by decide +kernel
theorem dX12_findTies_174 : decode cX12_findTies 174 = .ok (.aload_n 0, 1) := by decide +kernel
theorem dX12_findTies_175 : decode cX12_findTies 175 = .ok (.getfield 229, 3) := by decide +kernel
theorem dX12_findTies_178 : decode cX12_findTies 178 = .ok (.if_icmp .ge 148, 3) := by decide +kernel
theorem dX12_findTies_181 : decode cX12_findTies 181 = .ok (.aload_n 0, 1) := by decide +kernel
theorem dX12_findTies_182 : decode cX12_findTies 182 = .ok (.getfield 90, 3) := by decide +kernel
theorem dX12_findTies_185 : decode cX12_findTies 185 = .ok (.iload_n 1, 1) := by decide +kernel
theorem dX12_findTies_186 : decode cX12_findTies 186 = .ok (.iaload, 1) := by decide +kernel
theorem dX12_findTies_187 : decode cX12_findTies 187 = .ok (.bipush 20, 2) := by decide +kernel
theorem dX12_findTies_189 : decode cX12_findTies 189 = .ok (.idiv, 1) := by decide +kernel
theorem dX12_findTies_190 : decode cX12_findTies 190 = .ok (.istore_n 2, 1) := by decide +kernel
theorem dX12_findTies_191 : decode cX12_findTies 191 = .ok (.aload_n 0, 1) := by decide +kernel
theorem dX12_findTies_192 : decode cX12_findTies 192 = .ok (.getfield 90, 3) := by decide +kernel
theorem dX12_findTies_195 : decode cX12_findTies 195 = .ok (.iload_n 1, 1) := by decide +kernel
theorem dX12_findTies_196 : decode cX12_findTies 196 = .ok (.iaload, 1) := by decide +kernel
theorem dX12_findTies_197 : decode cX12_findTies 197 = .ok (.bipush 20, 2) := by decide +kernel
theorem dX12_findTies_199 : decode cX12_findTies 199 = .ok (.irem, 1) := by decide +kernel
theorem dX12_findTies_200 : decode cX12_findTies 200 = .ok (.istore_n 3, 1) := by decide +kernel
theorem dX12_findTies_201 : decode cX12_findTies 201 = .ok (.iconst 0, 1) := by decide +kernel
theorem dX12_findTies_202 : decode cX12_findTies 202 = .ok (.istore 4, 2) := by decide +kernel
theorem dX12_findTies_204 : decode cX12_findTies 204 = .ok (.iload 4, 2) := by decide +kernel
theorem dX12_findTies_206 : decode cX12_findTies 206 = .ok (.aload_n 0, 1) := by decide +kernel
theorem dX12_findTies_207 : decode cX12_findTies 207 = .ok (.getfield 223, 3) := by decide +kernel
theorem dX12_findTies_210 : decode cX12_findTies 210 = .ok (.if_icmp .ge 110, 3) := by decide +kernel
theorem dX12_findTies_213 : decode cX12_findTies 213 = .ok (.iconst 0, 1) := by decide +kernel
theorem dX12_findTies_214 : decode cX12_findTies 214 = .ok (.istore 5, 2) := by decide +kernel
theorem dX12_findTies_216 : decode cX12_findTies 216 = .ok (.iload 5, 2) := by decide +kernel
theorem dX12_findTies_218 : decode cX12_findTies 218 = .ok (.aload_n 0, 1) := by decide +kernel
theorem dX12_findTies_219 : decode cX12_findTies 219 = .ok (.getfield 223, 3) := by decide +kernel
theorem dX12_findTies_222 : decode cX12_findTies 222 = .ok (.if_icmp .ge 92, 3) := by decide +kernel
theorem dX12_findTies_225 : decode cX12_findTies 225 = .ok (.aload_n 0, 1) := by decide +kernel
theorem dX12_findTies_226 : decode cX12_findTies 226 = .ok (.iload 4, 2) := by decide +kernel
theorem dX12_findTies_228 : decode cX12_findTies 228 = .ok (.invokevirtual 287, 3) := by decide +kernel
theorem dX12_findTies_231 : decode cX12_findTies 231 = .ok (.ifCond .eq 83, 3) := by decide +kernel
theorem dX12_findTies_234 : decode cX12_findTies 234 = .ok (.aload_n 0, 1) := by decide +kernel
theorem dX12_findTies_235 : decode cX12_findTies 235 = .ok (.getfield 68, 3) := by decide +kernel
theorem dX12_findTies_238 : decode cX12_findTies 238 = .ok (.iload 4, 2) := by decide +kernel
theorem dX12_findTies_240 : decode cX12_findTies 240 = .ok (.iaload, 1) := by decide +kernel
theorem dX12_findTies_241 : decode cX12_findTies 241 = .ok (.iload_n 2, 1) := by decide +kernel
theorem dX12_findTies_242 : decode cX12_findTies 242 = .ok (.iconst 4, 1) := by decide +kernel
theorem dX12_findTies_243 : decode cX12_findTies 243 = .ok (.idiv, 1) := by decide +kernel
theorem dX12_findTies_244 : decode cX12_findTies 244 = .ok (.if_icmp .ne 70, 3) := by decide +kernel
theorem dX12_findTies_247 : decode cX12_findTies 247 = .ok (.aload_n 0, 1) := by decide +kernel
theorem dX12_findTies_248 : decode cX12_findTies 248 = .ok (.iload 5, 2) := by decide +kernel
theorem dX12_findTies_250 : decode cX12_findTies 250 = .ok (.invokevirtual 287, 3) := by decide +kernel
theorem dX12_findTies_253 : decode cX12_findTies 253 = .ok (.ifCond .eq 55, 3) := by decide +kernel
theorem dX12_findTies_256 : decode cX12_findTies 256 = .ok (.aload_n 0, 1) := by decide +kernel
theorem dX12_findTies_257 : decode cX12_findTies 257 = .ok (.getfield 68, 3) := by decide +kernel
theorem dX12_findTies_260 : decode cX12_findTies 260 = .ok (.iload 5, 2) := by decide +kernel
theorem dX12_findTies_262 : decode cX12_findTies 262 = .ok (.iaload, 1) := by decide +kernel
theorem dX12_findTies_263 : decode cX12_findTies 263 = .ok (.iload_n 3, 1) := by decide +kernel
theorem dX12_findTies_264 : decode cX12_findTies 264 = .ok (.iconst 4, 1) := by decide +kernel
theorem dX12_findTies_265 : decode cX12_findTies 265 = .ok (.idiv, 1) := by decide +kernel
theorem dX12_findTies_266 : decode cX12_findTies 266 = .ok (.if_icmp .ne 42, 3) := by decide +kernel
theorem dX12_findTies_269 : decode cX12_findTies 269 = .ok (.aload_n 0, 1) := by decide +kernel
theorem dX12_findTies_270 : decode cX12_findTies 270 = .ok (.getfield 71, 3) := by decide +kernel
theorem dX12_findTies_273 : decode cX12_findTies 273 = .ok (.iconst 4, 1) := by decide +kernel
theorem dX12_findTies_274 : decode cX12_findTies 274 = .ok (.iload 4, 2) := by decide +kernel
theorem dX12_findTies_276 : decode cX12_findTies 276 = .ok (.imul, 1) := by decide +kernel
theorem dX12_findTies_277 : decode cX12_findTies 277 = .ok (.iload_n 2, 1) := by decide +kernel
theorem dX12_findTies_278 : decode cX12_findTies 278 = .ok (.iconst 4, 1) := by decide +kernel
theorem dX12_findTies_279 : decode cX12_findTies 279 = .ok (.irem, 1) := by decide +kernel
theorem dX12_findTies_280 : decode cX12_findTies 280 = .ok (.iadd, 1) := by decide +kernel
theorem dX12_findTies_281 : decode cX12_findTies 281 = .ok (.laload, 1) := by decide +kernel
theorem dX12_findTies_282 : decode cX12_findTies 282 = .ok (.aload_n 0, 1) := by decide +kernel
theorem dX12_findTies_283 : decode cX12_findTies 283 = .ok (.getfield 71, 3) := by decide +kernel
theorem dX12_findTies_286 : decode cX12_findTies 286 = .ok (.iconst 4, 1) := by decide +kernel
theorem dX12_findTies_287 : decode cX12_findTies 287 = .ok (.iload 5, 2) := by decide +kernel
theorem dX12_findTies_289 : decode cX12_findTies 289 = .ok (.imul, 1) := by decide +kernel
theorem dX12_findTies_290 : decode cX12_findTies 290 = .ok (.iload_n 3, 1) := by decide +kernel
theorem dX12_findTies_291 : decode cX12_findTies 291 = .ok (.iconst 4, 1) := by decide +kernel
theorem dX12_findTies_292 : decode cX12_findTies 292 = .ok (.irem, 1) := by decide +kernel
theorem dX12_findTies_293 : decode cX12_findTies 293 = .ok (.iadd, 1) := by decide +kernel
theorem dX12_findTies_294 : decode cX12_findTies 294 = .ok (.laload, 1) := by decide +kernel
theorem dX12_findTies_295 : decode cX12_findTies 295 = .ok (.lcmp, 1) := by decide +kernel
theorem dX12_findTies_296 : decode cX12_findTies 296 = .ok (.ifCond .ne 12, 3) := by decide +kernel
theorem dX12_findTies_299 : decode cX12_findTies 299 = .ok (.aload_n 0, 1) := by decide +kernel
theorem dX12_findTies_300 : decode cX12_findTies 300 = .ok (.iload 4, 2) := by decide +kernel
theorem dX12_findTies_302 : decode cX12_findTies 302 = .ok (.iload 5, 2) := by decide +kernel
theorem dX12_findTies_304 : decode cX12_findTies 304 = .ok (.iconst 3, 1) := by decide +kernel
theorem dX12_findTies_305 : decode cX12_findTies 305 = .ok (.invokevirtual 344, 3) := by decide +kernel
theorem dX12_findTies_308 : decode cX12_findTies 308 = .ok (.iinc 5 1, 3) := by decide +kernel
theorem dX12_findTies_311 : decode cX12_findTies 311 = .ok (.goto (-95), 3) := by decide +kernel
theorem dX12_findTies_314 : decode cX12_findTies 314 = .ok (.iinc 4 1, 3) := by decide +kernel
theorem dX12_findTies_317 : decode cX12_findTies 317 = .ok (.goto (-113), 3) := by decide +kernel
theorem dX12_findTies_320 : decode cX12_findTies 320 = .ok (.iinc 1 1, 3) := by decide +kernel
theorem dX12_findTies_323 : decode cX12_findTies 323 = .ok (.goto (-150), 3) := by decide +kernel
theorem dX12_findTies_326 : decode cX12_findTies 326 = .ok (.iconst 0, 1) := by decide +kernel
theorem dX12_findTies_327 : decode cX12_findTies 327 = .ok (.istore_n 1, 1) := by decide +kernel
theorem dX12_findTies_328 : decode cX12_findTies 328 = .ok (.iload_n 1, 1) := by decide +kernel
theorem dX12_findTies_329 : decode cX12_findTies 329 = .ok (.bipush 30, 2) := by decide +kernel
theorem dX12_findTies_331 : decode cX12_findTies 331 = .ok (.if_icmp .ge 94, 3) := by decide +kernel
theorem dX12_findTies_334 : decode cX12_findTies 334 = .ok (.aload_n 0, 1) := by decide +kernel
theorem dX12_findTies_335 : decode cX12_findTies 335 = .ok (.getfield 102, 3) := by decide +kernel
theorem dX12_findTies_338 : decode cX12_findTies 338 = .ok (.iload_n 1, 1) := by decide +kernel
theorem dX12_findTies_339 : decode cX12_findTies 339 = .ok (.iconst 0, 1) := by decide +kernel
theorem dX12_findTies_340 : decode cX12_findTies 340 = .ok (.iastore, 1) := by decide +kernel
theorem dX12_findTies_341 : decode cX12_findTies 341 = .ok (.iconst 0, 1) := by decide +kernel
theorem dX12_findTies_342 : decode cX12_findTies 342 = .ok (.istore_n 2, 1) := by decide +kernel
theorem dX12_findTies_343 : decode cX12_findTies 343 = .ok (.iload_n 2, 1) := by decide +kernel
theorem dX12_findTies_344 : decode cX12_findTies 344 = .ok (.iconst 4, 1) := by decide +kernel
theorem dX12_findTies_345 : decode cX12_findTies 345 = .ok (.if_icmp .ge 74, 3) := by decide +kernel
theorem dX12_findTies_348 : decode cX12_findTies 348 = .ok (.aload_n 0, 1) := by decide +kernel
theorem dX12_findTies_349 : decode cX12_findTies 349 = .ok (.getfield 105, 3) := by decide +kernel
theorem dX12_findTies_352 : decode cX12_findTies 352 = .ok (.iconst 4, 1) := by decide +kernel
theorem dX12_findTies_353 : decode cX12_findTies 353 = .ok (.iload_n 1, 1) := by decide +kernel
theorem dX12_findTies_354 : decode cX12_findTies 354 = .ok (.imul, 1) := by decide +kernel
theorem dX12_findTies_355 : decode cX12_findTies 355 = .ok (.iload_n 2, 1) := by decide +kernel
theorem dX12_findTies_356 : decode cX12_findTies 356 = .ok (.iadd, 1) := by decide +kernel
theorem dX12_findTies_357 : decode cX12_findTies 357 = .ok (.aload_n 0, 1) := by decide +kernel
theorem dX12_findTies_358 : decode cX12_findTies 358 = .ok (.iload_n 1, 1) := by decide +kernel
theorem dX12_findTies_359 : decode cX12_findTies 359 = .ok (.invokevirtual 287, 3) := by decide +kernel
theorem dX12_findTies_362 : decode cX12_findTies 362 = .ok (.ifCond .eq 20, 3) := by decide +kernel
theorem dX12_findTies_365 : decode cX12_findTies 365 = .ok (.iload_n 2, 1) := by decide +kernel
theorem dX12_findTies_366 : decode cX12_findTies 366 = .ok (.aload_n 0, 1) := by decide +kernel
theorem dX12_findTies_367 : decode cX12_findTies 367 = .ok (.getfield 226, 3) := by decide +kernel
theorem dX12_findTies_370 : decode cX12_findTies 370 = .ok (.if_icmp .ge 12, 3) := by decide +kernel
theorem dX12_findTies_373 : decode cX12_findTies 373 = .ok (.aload_n 0, 1) := by decide +kernel
theorem dX12_findTies_374 : decode cX12_findTies 374 = .ok (.iload_n 1, 1) := by decide +kernel
theorem dX12_findTies_375 : decode cX12_findTies 375 = .ok (.iload_n 2, 1) := by decide +kernel
theorem dX12_findTies_376 : decode cX12_findTies 376 = .ok (.invokevirtual 348, 3) := by decide +kernel
theorem dX12_findTies_379 : decode cX12_findTies 379 = .ok (.goto 4, 3) := by decide +kernel
theorem dX12_findTies_382 : decode cX12_findTies 382 = .ok (.iconst (-1), 1) := by decide +kernel
theorem dX12_findTies_383 : decode cX12_findTies 383 = .ok (.iastore, 1) := by decide +kernel
theorem dX12_findTies_384 : decode cX12_findTies 384 = .ok (.aload_n 0, 1) := by decide +kernel
theorem dX12_findTies_385 : decode cX12_findTies 385 = .ok (.getfield 102, 3) := by decide +kernel
theorem dX12_findTies_388 : decode cX12_findTies 388 = .ok (.iload_n 1, 1) := by decide +kernel
theorem dX12_findTies_389 : decode cX12_findTies 389 = .ok (.dup2, 1) := by decide +kernel
theorem dX12_findTies_390 : decode cX12_findTies 390 = .ok (.iaload, 1) := by decide +kernel
theorem dX12_findTies_391 : decode cX12_findTies 391 = .ok (.aload_n 0, 1) := by decide +kernel
theorem dX12_findTies_392 : decode cX12_findTies 392 = .ok (.getfield 105, 3) := by decide +kernel
theorem dX12_findTies_395 : decode cX12_findTies 395 = .ok (.iconst 4, 1) := by decide +kernel
theorem dX12_findTies_396 : decode cX12_findTies 396 = .ok (.iload_n 1, 1) := by decide +kernel
theorem dX12_findTies_397 : decode cX12_findTies 397 = .ok (.imul, 1) := by decide +kernel
theorem dX12_findTies_398 : decode cX12_findTies 398 = .ok (.iload_n 2, 1) := by decide +kernel
theorem dX12_findTies_399 : decode cX12_findTies 399 = .ok (.iadd, 1) := by decide +kernel
theorem dX12_findTies_400 : decode cX12_findTies 400 = .ok (.iaload, 1) := by decide +kernel
theorem dX12_findTies_401 : decode cX12_findTies 401 = .ok (.ifCond .lt 9, 3) := by decide +kernel
theorem dX12_findTies_404 : decode cX12_findTies 404 = .ok (.iconst 1, 1) := by decide +kernel
theorem dX12_findTies_405 : decode cX12_findTies 405 = .ok (.iload_n 2, 1) := by decide +kernel
theorem dX12_findTies_406 : decode cX12_findTies 406 = .ok (.ishl, 1) := by decide +kernel
theorem dX12_findTies_407 : decode cX12_findTies 407 = .ok (.goto 4, 3) := by decide +kernel
theorem dX12_findTies_410 : decode cX12_findTies 410 = .ok (.iconst 0, 1) := by decide +kernel
theorem dX12_findTies_411 : decode cX12_findTies 411 = .ok (.ior, 1) := by decide +kernel
theorem dX12_findTies_412 : decode cX12_findTies 412 = .ok (.iastore, 1) := by decide +kernel
theorem dX12_findTies_413 : decode cX12_findTies 413 = .ok (.iinc 2 1, 3) := by decide +kernel
theorem dX12_findTies_416 : decode cX12_findTies 416 = .ok (.goto (-73), 3) := by decide +kernel
theorem dX12_findTies_419 : decode cX12_findTies 419 = .ok (.iinc 1 1, 3) := by decide +kernel
theorem dX12_findTies_422 : decode cX12_findTies 422 = .ok (.goto (-94), 3) := by decide +kernel
theorem dX12_findTies_425 : decode cX12_findTies 425 = .ok (.return_, 1) := by decide +kernel
theorem dX12_hang_0 : decode cX12_hang 0 = .ok (.iload_n 1, 1) := by decide +kernel
theorem dX12_hang_1 : decode cX12_hang 1 = .ok (.iload_n 1, 1) := by decide +kernel
theorem dX12_hang_2 : decode cX12_hang 2 = .ok (.ineg, 1) := by decide +kernel
theorem dX12_hang_3 : decode cX12_hang 3 = .ok (.iand, 1) := by decide +kernel
theorem dX12_hang_4 : decode cX12_hang 4 = .ok (.istore_n 2, 1) := by decide +kernel
theorem dX12_hang_5 : decode cX12_hang 5 = .ok (.iconst 0, 1) := by decide +kernel
theorem dX12_hang_6 : decode cX12_hang 6 = .ok (.istore_n 3, 1) := by decide +kernel
theorem dX12_hang_7 : decode cX12_hang 7 = .ok (.iload_n 2, 1) := by decide +kernel
theorem dX12_hang_8 : decode cX12_hang 8 = .ok (.iload_n 3, 1) := by decide +kernel
theorem dX12_hang_9 : decode cX12_hang 9 = .ok (.if_icmp .eq 47, 3) := by decide +kernel
theorem dX12_hang_12 : decode cX12_hang 12 = .ok (.iload_n 2, 1) := by decide +kernel
theorem dX12_hang_13 : decode cX12_hang 13 = .ok (.istore_n 3, 1) := by decide +kernel
theorem dX12_hang_14 : decode cX12_hang 14 = .ok (.iload_n 2, 1) := by decide +kernel
theorem dX12_hang_15 : decode cX12_hang 15 = .ok (.istore 4, 2) := by decide +kernel
theorem dX12_hang_17 : decode cX12_hang 17 = .ok (.iload 4, 2) := by decide +kernel
theorem dX12_hang_19 : decode cX12_hang 19 = .ok (.ifCond .eq 34, 3) := by decide +kernel
theorem dX12_hang_22 : decode cX12_hang 22 = .ok (.iload_n 2, 1) := by decide +kernel
theorem dX12_hang_23 : decode cX12_hang 23 = .ok (.aload_n 0, 1) := by decide +kernel
theorem dX12_hang_24 : decode cX12_hang 24 = .ok (.getfield 99, 3) := by decide +kernel
theorem dX12_hang_27 : decode cX12_hang 27 = .ok (.iload 4, 2) := by decide +kernel
theorem dX12_hang_29 : decode cX12_hang 29 = .ok (.iload 4, 2) := by decide +kernel
theorem dX12_hang_31 : decode cX12_hang 31 = .ok (.ineg, 1) := by decide +kernel
theorem dX12_hang_32 : decode cX12_hang 32 = .ok (.iand, 1) := by decide +kernel
theorem dX12_hang_33 : decode cX12_hang 33 = .ok (.invokestatic 351, 3) := by decide +kernel
theorem dX12_hang_36 : decode cX12_hang 36 = .ok (.iaload, 1) := by decide +kernel
theorem dX12_hang_37 : decode cX12_hang 37 = .ok (.iload_n 1, 1) := by decide +kernel
theorem dX12_hang_38 : decode cX12_hang 38 = .ok (.iand, 1) := by decide +kernel
theorem dX12_hang_39 : decode cX12_hang 39 = .ok (.ior, 1) := by decide +kernel
theorem dX12_hang_40 : decode cX12_hang 40 = .ok (.istore_n 2, 1) := by decide +kernel
theorem dX12_hang_41 : decode cX12_hang 41 = .ok (.iload 4, 2) := by decide +kernel
theorem dX12_hang_43 : decode cX12_hang 43 = .ok (.iload 4, 2) := by decide +kernel
theorem dX12_hang_45 : decode cX12_hang 45 = .ok (.iconst 1, 1) := by decide +kernel
theorem dX12_hang_46 : decode cX12_hang 46 = .ok (.isub, 1) := by decide +kernel
theorem dX12_hang_47 : decode cX12_hang 47 = .ok (.iand, 1) := by decide +kernel
theorem dX12_hang_48 : decode cX12_hang 48 = .ok (.istore 4, 2) := by decide +kernel
theorem dX12_hang_50 : decode cX12_hang 50 = .ok (.goto (-33), 3) := by decide +kernel
theorem dX12_hang_53 : decode cX12_hang 53 = .ok (.goto (-46), 3) := by decide +kernel
theorem dX12_hang_56 : decode cX12_hang 56 = .ok (.iload_n 2, 1) := by decide +kernel
theorem dX12_hang_57 : decode cX12_hang 57 = .ok (.iload_n 1, 1) := by decide +kernel
theorem dX12_hang_58 : decode cX12_hang 58 = .ok (.if_icmp .ne 7, 3) := by decide +kernel
theorem dX12_hang_61 : decode cX12_hang 61 = .ok (.iconst 1, 1) := by decide +kernel
theorem dX12_hang_62 : decode cX12_hang 62 = .ok (.goto 4, 3) := by decide +kernel
theorem dX12_hang_65 : decode cX12_hang 65 = .ok (.iconst 0, 1) := by decide +kernel
theorem dX12_hang_66 : decode cX12_hang 66 = .ok (.ireturn, 1) := by decide +kernel
theorem dX12_rowOf_0 : decode cX12_rowOf 0 = .ok (.iconst 0, 1) := by decide +kernel
theorem dX12_rowOf_1 : decode cX12_rowOf 1 = .ok (.istore_n 1, 1) := by decide +kernel
theorem dX12_rowOf_2 : decode cX12_rowOf 2 = .ok (.bipush 16, 2) := by decide +kernel
theorem dX12_rowOf_4 : decode cX12_rowOf 4 = .ok (.istore_n 2, 1) := by decide +kernel
theorem dX12_rowOf_5 : decode cX12_rowOf 5 = .ok (.iload_n 2, 1) := by decide +kernel
theorem dX12_rowOf_6 : decode cX12_rowOf 6 = .ok (.ifCond .le 27, 3) := by decide +kernel
theorem dX12_rowOf_9 : decode cX12_rowOf 9 = .ok (.iload_n 1, 1) := by decide +kernel
theorem dX12_rowOf_10 : decode cX12_rowOf 10 = .ok (.iload_n 0, 1) := by decide +kernel
theorem dX12_rowOf_11 : decode cX12_rowOf 11 = .ok (.iload_n 1, 1) := by decide +kernel
theorem dX12_rowOf_12 : decode cX12_rowOf 12 = .ok (.ishr, 1) := by decide +kernel
theorem dX12_rowOf_13 : decode cX12_rowOf 13 = .ok (.iconst 1, 1) := by decide +kernel
theorem dX12_rowOf_14 : decode cX12_rowOf 14 = .ok (.iload_n 2, 1) := by decide +kernel
theorem dX12_rowOf_15 : decode cX12_rowOf 15 = .ok (.ishl, 1) := by decide +kernel
theorem dX12_rowOf_16 : decode cX12_rowOf 16 = .ok (.if_icmp .lt 7, 3) := by decide +kernel
theorem dX12_rowOf_19 : decode cX12_rowOf 19 = .ok (.iload_n 2, 1) := by decide +kernel
theorem dX12_rowOf_20 : decode cX12_rowOf 20 = .ok (.goto 4, 3) := by decide +kernel
theorem dX12_rowOf_23 : decode cX12_rowOf 23 = .ok (.iconst 0, 1) := by decide +kernel
theorem dX12_rowOf_24 : decode cX12_rowOf 24 = .ok (.iadd, 1) := by decide +kernel
theorem dX12_rowOf_25 : decode cX12_rowOf 25 = .ok (.istore_n 1, 1) := by decide +kernel
theorem dX12_rowOf_26 : decode cX12_rowOf 26 = .ok (.iload_n 2, 1) := by decide +kernel
theorem dX12_rowOf_27 : decode cX12_rowOf 27 = .ok (.iconst 2, 1) := by decide +kernel
theorem dX12_rowOf_28 : decode cX12_rowOf 28 = .ok (.idiv, 1) := by decide +kernel
theorem dX12_rowOf_29 : decode cX12_rowOf 29 = .ok (.istore_n 2, 1) := by decide +kernel
theorem dX12_rowOf_30 : decode cX12_rowOf 30 = .ok (.goto (-25), 3) := by decide +kernel
theorem dX12_rowOf_33 : decode cX12_rowOf 33 = .ok (.iload_n 1, 1) := by decide +kernel
theorem dX12_rowOf_34 : decode cX12_rowOf 34 = .ok (.ireturn, 1) := by decide +kernel
theorem dX12_heldIn_0 : decode cX12_heldIn 0 = .ok (.iconst 0, 1) := by decide +kernel
theorem dX12_heldIn_1 : decode cX12_heldIn 1 = .ok (.istore_n 2, 1) := by decide +kernel
theorem dX12_heldIn_2 : decode cX12_heldIn 2 = .ok (.iload_n 1, 1) := by decide +kernel
theorem dX12_heldIn_3 : decode cX12_heldIn 3 = .ok (.istore_n 3, 1) := by decide +kernel
theorem dX12_heldIn_4 : decode cX12_heldIn 4 = .ok (.iload_n 3, 1) := by decide +kernel
theorem dX12_heldIn_5 : decode cX12_heldIn 5 = .ok (.ifCond .eq 27, 3) := by decide +kernel
theorem dX12_heldIn_8 : decode cX12_heldIn 8 = .ok (.iload_n 2, 1) := by decide +kernel
theorem dX12_heldIn_9 : decode cX12_heldIn 9 = .ok (.aload_n 0, 1) := by decide +kernel
theorem dX12_heldIn_10 : decode cX12_heldIn 10 = .ok (.getfield 102, 3) := by decide +kernel
theorem dX12_heldIn_13 : decode cX12_heldIn 13 = .ok (.iload_n 3, 1) := by decide +kernel
theorem dX12_heldIn_14 : decode cX12_heldIn 14 = .ok (.iload_n 3, 1) := by decide +kernel
theorem dX12_heldIn_15 : decode cX12_heldIn 15 = .ok (.ineg, 1) := by decide +kernel
theorem dX12_heldIn_16 : decode cX12_heldIn 16 = .ok (.iand, 1) := by decide +kernel
theorem dX12_heldIn_17 : decode cX12_heldIn 17 = .ok (.invokestatic 351, 3) := by decide +kernel
theorem dX12_heldIn_20 : decode cX12_heldIn 20 = .ok (.iaload, 1) := by decide +kernel
theorem dX12_heldIn_21 : decode cX12_heldIn 21 = .ok (.ior, 1) := by decide +kernel
theorem dX12_heldIn_22 : decode cX12_heldIn 22 = .ok (.istore_n 2, 1) := by decide +kernel
theorem dX12_heldIn_23 : decode cX12_heldIn 23 = .ok (.iload_n 3, 1) := by decide +kernel
theorem dX12_heldIn_24 : decode cX12_heldIn 24 = .ok (.iload_n 3, 1) := by decide +kernel
theorem dX12_heldIn_25 : decode cX12_heldIn 25 = .ok (.iconst 1, 1) := by decide +kernel
theorem dX12_heldIn_26 : decode cX12_heldIn 26 = .ok (.isub, 1) := by decide +kernel
theorem dX12_heldIn_27 : decode cX12_heldIn 27 = .ok (.iand, 1) := by decide +kernel
theorem dX12_heldIn_28 : decode cX12_heldIn 28 = .ok (.istore_n 3, 1) := by decide +kernel
theorem dX12_heldIn_29 : decode cX12_heldIn 29 = .ok (.goto (-25), 3) := by decide +kernel
theorem dX12_heldIn_32 : decode cX12_heldIn 32 = .ok (.iload_n 2, 1) := by decide +kernel
theorem dX12_heldIn_33 : decode cX12_heldIn 33 = .ok (.ireturn, 1) := by decide +kernel
theorem dX12_isJoining_0 : decode cX12_isJoining 0 = .ok (.aload_n 0, 1) := by decide +kernel
theorem dX12_isJoining_1 : decode cX12_isJoining 1 = .ok (.iload_n 1, 1) := by decide +kernel
theorem dX12_isJoining_2 : decode cX12_isJoining 2 = .ok (.invokevirtual 354, 3) := by decide +kernel
theorem dX12_isJoining_5 : decode cX12_isJoining 5 = .ok (.iload_n 2, 1) := by decide +kernel
theorem dX12_isJoining_6 : decode cX12_isJoining 6 = .ok (.if_icmp .eq 5, 3) := by decide +kernel
theorem dX12_isJoining_9 : decode cX12_isJoining 9 = .ok (.iconst 0, 1) := by decide +kernel
theorem dX12_isJoining_10 : decode cX12_isJoining 10 = .ok (.ireturn, 1) := by decide +kernel
theorem dX12_isJoining_11 : decode cX12_isJoining 11 = .ok (.iload_n 1, 1) := by decide +kernel
theorem dX12_isJoining_12 : decode cX12_isJoining 12 = .ok (.istore_n 3, 1) := by decide +kernel
theorem dX12_isJoining_13 : decode cX12_isJoining 13 = .ok (.iload_n 3, 1) := by decide +kernel
theorem dX12_isJoining_14 : decode cX12_isJoining 14 = .ok (.ifCond .eq 48, 3) := by decide +kernel
theorem dX12_isJoining_17 : decode cX12_isJoining 17 = .ok (.iload_n 1, 1) := by decide +kernel
theorem dX12_isJoining_18 : decode cX12_isJoining 18 = .ok (.iload_n 3, 1) := by decide +kernel
theorem dX12_isJoining_19 : decode cX12_isJoining 19 = .ok (.iload_n 3, 1) := by decide +kernel
theorem dX12_isJoining_20 : decode cX12_isJoining 20 = .ok (.ineg, 1) := by decide +kernel
theorem dX12_isJoining_21 : decode cX12_isJoining 21 = .ok (.iand, 1) := by decide +kernel
theorem dX12_isJoining_22 : decode cX12_isJoining 22 = .ok (.iconst (-1), 1) := by decide +kernel
theorem dX12_isJoining_23 : decode cX12_isJoining 23 = .ok (.ixor, 1) := by decide +kernel
theorem dX12_isJoining_24 : decode cX12_isJoining 24 = .ok (.iand, 1) := by decide +kernel
theorem dX12_isJoining_25 : decode cX12_isJoining 25 = .ok (.istore 4, 2) := by decide +kernel
theorem dX12_isJoining_27 : decode cX12_isJoining 27 = .ok (.iload 4, 2) := by decide +kernel
theorem dX12_isJoining_29 : decode cX12_isJoining 29 = .ok (.ifCond .eq 24, 3) := by decide +kernel
theorem dX12_isJoining_32 : decode cX12_isJoining 32 = .ok (.aload_n 0, 1) := by decide +kernel
theorem dX12_isJoining_33 : decode cX12_isJoining 33 = .ok (.iload 4, 2) := by decide +kernel
theorem dX12_isJoining_35 : decode cX12_isJoining 35 = .ok (.invokevirtual 354, 3) := by decide +kernel
theorem dX12_isJoining_38 : decode cX12_isJoining 38 = .ok (.iload_n 2, 1) := by decide +kernel
theorem dX12_isJoining_39 : decode cX12_isJoining 39 = .ok (.if_icmp .ne 14, 3) := by decide +kernel
theorem dX12_isJoining_42 : decode cX12_isJoining 42 = .ok (.aload_n 0, 1) := by decide +kernel
theorem dX12_isJoining_43 : decode cX12_isJoining 43 = .ok (.iload 4, 2) := by decide +kernel
theorem dX12_isJoining_45 : decode cX12_isJoining 45 = .ok (.invokevirtual 357, 3) := by decide +kernel
theorem dX12_isJoining_48 : decode cX12_isJoining 48 = .ok (.ifCond .eq 5, 3) := by decide +kernel
theorem dX12_isJoining_51 : decode cX12_isJoining 51 = .ok (.iconst 0, 1) := by decide +kernel
theorem dX12_isJoining_52 : decode cX12_isJoining 52 = .ok (.ireturn, 1) := by decide +kernel
theorem dX12_isJoining_53 : decode cX12_isJoining 53 = .ok (.iload_n 3, 1) := by decide +kernel
theorem dX12_isJoining_54 : decode cX12_isJoining 54 = .ok (.iload_n 3, 1) := by decide +kernel
theorem dX12_isJoining_55 : decode cX12_isJoining 55 = .ok (.iconst 1, 1) := by decide +kernel
theorem dX12_isJoining_56 : decode cX12_isJoining 56 = .ok (.isub, 1) := by decide +kernel
theorem dX12_isJoining_57 : decode cX12_isJoining 57 = .ok (.iand, 1) := by decide +kernel
theorem dX12_isJoining_58 : decode cX12_isJoining 58 = .ok (.istore_n 3, 1) := by decide +kernel
theorem dX12_isJoining_59 : decode cX12_isJoining 59 = .ok (.goto (-46), 3) := by decide +kernel
theorem dX12_isJoining_62 : decode cX12_isJoining 62 = .ok (.iconst 1, 1) := by decide +kernel
theorem dX12_isJoining_63 : decode cX12_isJoining 63 = .ok (.ireturn, 1) := by decide +kernel
theorem dX12_tiesOf_0 : decode cX12_tiesOf 0 = .ok (.iload_n 1, 1) := by decide +kernel
theorem dX12_tiesOf_1 : decode cX12_tiesOf 1 = .ok (.iload_n 1, 1) := by decide +kernel
theorem dX12_tiesOf_2 : decode cX12_tiesOf 2 = .ok (.ineg, 1) := by decide +kernel
theorem dX12_tiesOf_3 : decode cX12_tiesOf 3 = .ok (.iand, 1) := by decide +kernel
theorem dX12_tiesOf_4 : decode cX12_tiesOf 4 = .ok (.istore_n 2, 1) := by decide +kernel
theorem dX12_tiesOf_5 : decode cX12_tiesOf 5 = .ok (.iconst 0, 1) := by decide +kernel
theorem dX12_tiesOf_6 : decode cX12_tiesOf 6 = .ok (.istore_n 3, 1) := by decide +kernel
theorem dX12_tiesOf_7 : decode cX12_tiesOf 7 = .ok (.iload_n 2, 1) := by decide +kernel
theorem dX12_tiesOf_8 : decode cX12_tiesOf 8 = .ok (.iload_n 1, 1) := by decide +kernel
theorem dX12_tiesOf_9 : decode cX12_tiesOf 9 = .ok (.if_icmp .eq 135, 3) := by decide +kernel
theorem dX12_tiesOf_12 : decode cX12_tiesOf 12 = .ok (.iconst (-1), 1) := by decide +kernel
theorem dX12_tiesOf_13 : decode cX12_tiesOf 13 = .ok (.istore 4, 2) := by decide +kernel
theorem dX12_tiesOf_15 : decode cX12_tiesOf 15 = .ok (.iconst 0, 1) := by decide +kernel
theorem dX12_tiesOf_16 : decode cX12_tiesOf 16 = .ok (.istore 5, 2) := by decide +kernel
theorem dX12_tiesOf_18 : decode cX12_tiesOf 18 = .ok (.iconst 0, 1) := by decide +kernel
theorem dX12_tiesOf_19 : decode cX12_tiesOf 19 = .ok (.istore 6, 2) := by decide +kernel
theorem dX12_tiesOf_21 : decode cX12_tiesOf 21 = .ok (.iload 6, 2) := by decide +kernel
theorem dX12_tiesOf_23 : decode cX12_tiesOf 23 = .ok (.aload_n 0, 1) := by decide +kernel
theorem dX12_tiesOf_24 : decode cX12_tiesOf 24 = .ok (.getfield 223, 3) := by decide +kernel
theorem dX12_tiesOf_27 : decode cX12_tiesOf 27 = .ok (.if_icmp .ge 104, 3) := by decide +kernel
theorem dX12_tiesOf_30 : decode cX12_tiesOf 30 = .ok (.iconst 0, 1) := by decide +kernel
theorem dX12_tiesOf_31 : decode cX12_tiesOf 31 = .ok (.istore 7, 2) := by decide +kernel
theorem dX12_tiesOf_33 : decode cX12_tiesOf 33 = .ok (.iload 7, 2) := by decide +kernel
theorem dX12_tiesOf_35 : decode cX12_tiesOf 35 = .ok (.aload_n 0, 1) := by decide +kernel
theorem dX12_tiesOf_36 : decode cX12_tiesOf 36 = .ok (.getfield 223, 3) := by decide +kernel
theorem dX12_tiesOf_39 : decode cX12_tiesOf 39 = .ok (.if_icmp .ge 86, 3) := by decide +kernel
theorem dX12_tiesOf_42 : decode cX12_tiesOf 42 = .ok (.iload_n 2, 1) := by decide +kernel
theorem dX12_tiesOf_43 : decode cX12_tiesOf 43 = .ok (.iload 6, 2) := by decide +kernel
theorem dX12_tiesOf_45 : decode cX12_tiesOf 45 = .ok (.ishr, 1) := by decide +kernel
theorem dX12_tiesOf_46 : decode cX12_tiesOf 46 = .ok (.iconst 1, 1) := by decide +kernel
theorem dX12_tiesOf_47 : decode cX12_tiesOf 47 = .ok (.iand, 1) := by decide +kernel
theorem dX12_tiesOf_48 : decode cX12_tiesOf 48 = .ok (.iconst 1, 1) := by decide +kernel
theorem dX12_tiesOf_49 : decode cX12_tiesOf 49 = .ok (.if_icmp .ne 76, 3) := by decide +kernel
theorem dX12_tiesOf_52 : decode cX12_tiesOf 52 = .ok (.aload_n 0, 1) := by decide +kernel
theorem dX12_tiesOf_53 : decode cX12_tiesOf 53 = .ok (.getfield 96, 3) := by decide +kernel
theorem dX12_tiesOf_56 : decode cX12_tiesOf 56 = .ok (.bipush 30, 2) := by decide +kernel
theorem dX12_tiesOf_58 : decode cX12_tiesOf 58 = .ok (.iload 6, 2) := by decide +kernel
theorem dX12_tiesOf_60 : decode cX12_tiesOf 60 = .ok (.imul, 1) := by decide +kernel
theorem dX12_tiesOf_61 : decode cX12_tiesOf 61 = .ok (.iload 7, 2) := by decide +kernel
theorem dX12_tiesOf_63 : decode cX12_tiesOf 63 = .ok (.iadd, 1) := by decide +kernel
theorem dX12_tiesOf_64 : decode cX12_tiesOf 64 = .ok (.iaload, 1) := by decide +kernel
theorem dX12_tiesOf_65 : decode cX12_tiesOf 65 = .ok (.istore 8, 2) := by decide +kernel
theorem dX12_tiesOf_67 : decode cX12_tiesOf 67 = .ok (.iload_n 1, 1) := by decide +kernel
theorem dX12_tiesOf_68 : decode cX12_tiesOf 68 = .ok (.iload_n 2, 1) := by decide +kernel
theorem dX12_tiesOf_69 : decode cX12_tiesOf 69 = .ok (.iconst (-1), 1) := by decide +kernel
theorem dX12_tiesOf_70 : decode cX12_tiesOf 70 = .ok (.ixor, 1) := by decide +kernel
theorem dX12_tiesOf_71 : decode cX12_tiesOf 71 = .ok (.iand, 1) := by decide +kernel
theorem dX12_tiesOf_72 : decode cX12_tiesOf 72 = .ok (.iload 7, 2) := by decide +kernel
theorem dX12_tiesOf_74 : decode cX12_tiesOf 74 = .ok (.ishr, 1) := by decide +kernel
theorem dX12_tiesOf_75 : decode cX12_tiesOf 75 = .ok (.ifCond .eq 44, 3) := by decide +kernel
theorem dX12_tiesOf_78 : decode cX12_tiesOf 78 = .ok (.iload_n 1, 1) := by decide +kernel
theorem dX12_tiesOf_79 : decode cX12_tiesOf 79 = .ok (.iload_n 2, 1) := by decide +kernel
theorem dX12_tiesOf_80 : decode cX12_tiesOf 80 = .ok (.iconst (-1), 1) := by decide +kernel
theorem dX12_tiesOf_81 : decode cX12_tiesOf 81 = .ok (.ixor, 1) := by decide +kernel
theorem dX12_tiesOf_82 : decode cX12_tiesOf 82 = .ok (.iand, 1) := by decide +kernel
theorem dX12_tiesOf_83 : decode cX12_tiesOf 83 = .ok (.iload 7, 2) := by decide +kernel
theorem dX12_tiesOf_85 : decode cX12_tiesOf 85 = .ok (.ishr, 1) := by decide +kernel
theorem dX12_tiesOf_86 : decode cX12_tiesOf 86 = .ok (.iconst 1, 1) := by decide +kernel
theorem dX12_tiesOf_87 : decode cX12_tiesOf 87 = .ok (.iand, 1) := by decide +kernel
theorem dX12_tiesOf_88 : decode cX12_tiesOf 88 = .ok (.iconst 1, 1) := by decide +kernel
theorem dX12_tiesOf_89 : decode cX12_tiesOf 89 = .ok (.if_icmp .ne 30, 3) := by decide +kernel
theorem dX12_tiesOf_92 : decode cX12_tiesOf 92 = .ok (.iload 8, 2) := by decide +kernel
theorem dX12_tiesOf_94 : decode cX12_tiesOf 94 = .ok (.ifCond .lt 25, 3) := by decide +kernel
theorem dX12_tiesOf_97 : decode cX12_tiesOf 97 = .ok (.iload 4, 2) := by decide +kernel
theorem dX12_tiesOf_99 : decode cX12_tiesOf 99 = .ok (.ifCond .lt 10, 3) := by decide +kernel
theorem dX12_tiesOf_102 : decode cX12_tiesOf 102 = .ok (.iload 8, 2) := by decide +kernel
theorem dX12_tiesOf_104 : decode cX12_tiesOf 104 = .ok (.iload 4, 2) := by decide +kernel
theorem dX12_tiesOf_106 : decode cX12_tiesOf 106 = .ok (.if_icmp .ge 13, 3) := by decide +kernel
theorem dX12_tiesOf_109 : decode cX12_tiesOf 109 = .ok (.iload 8, 2) := by decide +kernel
theorem dX12_tiesOf_111 : decode cX12_tiesOf 111 = .ok (.istore 4, 2) := by decide +kernel
theorem dX12_tiesOf_113 : decode cX12_tiesOf 113 = .ok (.iconst 1, 1) := by decide +kernel
theorem dX12_tiesOf_114 : decode cX12_tiesOf 114 = .ok (.iload 7, 2) := by decide +kernel
theorem dX12_tiesOf_116 : decode cX12_tiesOf 116 = .ok (.ishl, 1) := by decide +kernel
theorem dX12_tiesOf_117 : decode cX12_tiesOf 117 = .ok (.istore 5, 2) := by decide +kernel
theorem dX12_tiesOf_119 : decode cX12_tiesOf 119 = .ok (.iinc 7 1, 3) := by decide +kernel
theorem dX12_tiesOf_122 : decode cX12_tiesOf 122 = .ok (.goto (-89), 3) := by decide +kernel
theorem dX12_tiesOf_125 : decode cX12_tiesOf 125 = .ok (.iinc 6 1, 3) := by decide +kernel
theorem dX12_tiesOf_128 : decode cX12_tiesOf 128 = .ok (.goto (-107), 3) := by decide +kernel
theorem dX12_tiesOf_131 : decode cX12_tiesOf 131 = .ok (.iload_n 3, 1) := by decide +kernel
theorem dX12_tiesOf_132 : decode cX12_tiesOf 132 = .ok (.iload 4, 2) := by decide +kernel
theorem dX12_tiesOf_134 : decode cX12_tiesOf 134 = .ok (.iadd, 1) := by decide +kernel
theorem dX12_tiesOf_135 : decode cX12_tiesOf 135 = .ok (.istore_n 3, 1) := by decide +kernel
theorem dX12_tiesOf_136 : decode cX12_tiesOf 136 = .ok (.iload_n 2, 1) := by decide +kernel
theorem dX12_tiesOf_137 : decode cX12_tiesOf 137 = .ok (.iload 5, 2) := by decide +kernel
theorem dX12_tiesOf_139 : decode cX12_tiesOf 139 = .ok (.ior, 1) := by decide +kernel
theorem dX12_tiesOf_140 : decode cX12_tiesOf 140 = .ok (.istore_n 2, 1) := by decide +kernel
theorem dX12_tiesOf_141 : decode cX12_tiesOf 141 = .ok (.goto (-134), 3) := by decide +kernel
theorem dX12_tiesOf_144 : decode cX12_tiesOf 144 = .ok (.iload_n 3, 1) := by decide +kernel
theorem dX12_tiesOf_145 : decode cX12_tiesOf 145 = .ok (.ireturn, 1) := by decide +kernel
theorem dX12_holderIn_0 : decode cX12_holderIn 0 = .ok (.iconst (-1), 1) := by decide +kernel
theorem dX12_holderIn_1 : decode cX12_holderIn 1 = .ok (.istore_n 3, 1) := by decide +kernel
theorem dX12_holderIn_2 : decode cX12_holderIn 2 = .ok (.iconst 0, 1) := by decide +kernel
theorem dX12_holderIn_3 : decode cX12_holderIn 3 = .ok (.istore 4, 2) := by decide +kernel
theorem dX12_holderIn_5 : decode cX12_holderIn 5 = .ok (.iload 4, 2) := by decide +kernel
theorem dX12_holderIn_7 : decode cX12_holderIn 7 = .ok (.aload_n 0, 1) := by decide +kernel
theorem dX12_holderIn_8 : decode cX12_holderIn 8 = .ok (.getfield 223, 3) := by decide +kernel
theorem dX12_holderIn_11 : decode cX12_holderIn 11 = .ok (.if_icmp .ge 67, 3) := by decide +kernel
theorem dX12_holderIn_14 : decode cX12_holderIn 14 = .ok (.iload_n 1, 1) := by decide +kernel
theorem dX12_holderIn_15 : decode cX12_holderIn 15 = .ok (.iload 4, 2) := by decide +kernel
theorem dX12_holderIn_17 : decode cX12_holderIn 17 = .ok (.ishr, 1) := by decide +kernel
theorem dX12_holderIn_18 : decode cX12_holderIn 18 = .ok (.iconst 1, 1) := by decide +kernel
theorem dX12_holderIn_19 : decode cX12_holderIn 19 = .ok (.iand, 1) := by decide +kernel
theorem dX12_holderIn_20 : decode cX12_holderIn 20 = .ok (.iconst 1, 1) := by decide +kernel
theorem dX12_holderIn_21 : decode cX12_holderIn 21 = .ok (.if_icmp .ne 17, 3) := by decide +kernel
theorem dX12_holderIn_24 : decode cX12_holderIn 24 = .ok (.aload_n 0, 1) := by decide +kernel
theorem dX12_holderIn_25 : decode cX12_holderIn 25 = .ok (.getfield 105, 3) := by decide +kernel
theorem dX12_holderIn_28 : decode cX12_holderIn 28 = .ok (.iconst 4, 1) := by decide +kernel
theorem dX12_holderIn_29 : decode cX12_holderIn 29 = .ok (.iload 4, 2) := by decide +kernel
theorem dX12_holderIn_31 : decode cX12_holderIn 31 = .ok (.imul, 1) := by decide +kernel
theorem dX12_holderIn_32 : decode cX12_holderIn 32 = .ok (.iload_n 2, 1) := by decide +kernel
theorem dX12_holderIn_33 : decode cX12_holderIn 33 = .ok (.iadd, 1) := by decide +kernel
theorem dX12_holderIn_34 : decode cX12_holderIn 34 = .ok (.iaload, 1) := by decide +kernel
theorem dX12_holderIn_35 : decode cX12_holderIn 35 = .ok (.goto 4, 3) := by decide +kernel
theorem dX12_holderIn_38 : decode cX12_holderIn 38 = .ok (.iconst (-1), 1) := by decide +kernel
theorem dX12_holderIn_39 : decode cX12_holderIn 39 = .ok (.istore 5, 2) := by decide +kernel
theorem dX12_holderIn_41 : decode cX12_holderIn 41 = .ok (.iload 5, 2) := by decide +kernel
theorem dX12_holderIn_43 : decode cX12_holderIn 43 = .ok (.ifCond .lt 27, 3) := by decide +kernel
theorem dX12_holderIn_46 : decode cX12_holderIn 46 = .ok (.iload_n 3, 1) := by decide +kernel
theorem dX12_holderIn_47 : decode cX12_holderIn 47 = .ok (.ifCond .lt 18, 3) := by decide +kernel
theorem dX12_holderIn_50 : decode cX12_holderIn 50 = .ok (.iload 5, 2) := by decide +kernel
theorem dX12_holderIn_52 : decode cX12_holderIn 52 = .ok (.aload_n 0, 1) := by decide +kernel
theorem dX12_holderIn_53 : decode cX12_holderIn 53 = .ok (.getfield 105, 3) := by decide +kernel
theorem dX12_holderIn_56 : decode cX12_holderIn 56 = .ok (.iconst 4, 1) := by decide +kernel
theorem dX12_holderIn_57 : decode cX12_holderIn 57 = .ok (.iload_n 3, 1) := by decide +kernel
theorem dX12_holderIn_58 : decode cX12_holderIn 58 = .ok (.imul, 1) := by decide +kernel
theorem dX12_holderIn_59 : decode cX12_holderIn 59 = .ok (.iload_n 2, 1) := by decide +kernel
theorem dX12_holderIn_60 : decode cX12_holderIn 60 = .ok (.iadd, 1) := by decide +kernel
theorem dX12_holderIn_61 : decode cX12_holderIn 61 = .ok (.iaload, 1) := by decide +kernel
theorem dX12_holderIn_62 : decode cX12_holderIn 62 = .ok (.if_icmp .ge 8, 3) := by decide +kernel
theorem dX12_holderIn_65 : decode cX12_holderIn 65 = .ok (.iload 4, 2) := by decide +kernel
theorem dX12_holderIn_67 : decode cX12_holderIn 67 = .ok (.goto 4, 3) := by decide +kernel
theorem dX12_holderIn_70 : decode cX12_holderIn 70 = .ok (.iload_n 3, 1) := by decide +kernel
theorem dX12_holderIn_71 : decode cX12_holderIn 71 = .ok (.istore_n 3, 1) := by decide +kernel
theorem dX12_holderIn_72 : decode cX12_holderIn 72 = .ok (.iinc 4 1, 3) := by decide +kernel
theorem dX12_holderIn_75 : decode cX12_holderIn 75 = .ok (.goto (-70), 3) := by decide +kernel
theorem dX12_holderIn_78 : decode cX12_holderIn 78 = .ok (.iload_n 3, 1) := by decide +kernel
theorem dX12_holderIn_79 : decode cX12_holderIn 79 = .ok (.ireturn, 1) := by decide +kernel
theorem dX12_termsOf_0 : decode cX12_termsOf 0 = .ok (.iconst 0, 1) := by decide +kernel
theorem dX12_termsOf_1 : decode cX12_termsOf 1 = .ok (.istore_n 2, 1) := by decide +kernel
theorem dX12_termsOf_2 : decode cX12_termsOf 2 = .ok (.iconst 0, 1) := by decide +kernel
theorem dX12_termsOf_3 : decode cX12_termsOf 3 = .ok (.istore_n 3, 1) := by decide +kernel
theorem dX12_termsOf_4 : decode cX12_termsOf 4 = .ok (.iload_n 3, 1) := by decide +kernel
theorem dX12_termsOf_5 : decode cX12_termsOf 5 = .ok (.aload_n 0, 1) := by decide +kernel
theorem dX12_termsOf_6 : decode cX12_termsOf 6 = .ok (.getfield 226, 3) := by decide +kernel
theorem dX12_termsOf_9 : decode cX12_termsOf 9 = .ok (.if_icmp .ge 27, 3) := by decide +kernel
theorem dX12_termsOf_12 : decode cX12_termsOf 12 = .ok (.iload_n 2, 1) := by decide +kernel
theorem dX12_termsOf_13 : decode cX12_termsOf 13 = .ok (.aload_n 0, 1) := by decide +kernel
theorem dX12_termsOf_14 : decode cX12_termsOf 14 = .ok (.getfield 105, 3) := by decide +kernel
theorem dX12_termsOf_17 : decode cX12_termsOf 17 = .ok (.iconst 4, 1) := by decide +kernel
theorem dX12_termsOf_18 : decode cX12_termsOf 18 = .ok (.aload_n 0, 1) := by decide +kernel
theorem dX12_termsOf_19 : decode cX12_termsOf 19 = .ok (.iload_n 1, 1) := by decide +kernel
theorem dX12_termsOf_20 : decode cX12_termsOf 20 = .ok (.iload_n 3, 1) := by decide +kernel
theorem dX12_termsOf_21 : decode cX12_termsOf 21 = .ok (.invokevirtual 360, 3) := by decide +kernel
theorem dX12_termsOf_24 : decode cX12_termsOf 24 = .ok (.imul, 1) := by decide +kernel
theorem dX12_termsOf_25 : decode cX12_termsOf 25 = .ok (.iload_n 3, 1) := by decide +kernel
theorem dX12_termsOf_26 : decode cX12_termsOf 26 = .ok (.iadd, 1) := by decide +kernel
theorem dX12_termsOf_27 : decode cX12_termsOf 27 = .ok (.iaload, 1) := by decide +kernel
theorem dX12_termsOf_28 : decode cX12_termsOf 28 = .ok (.iadd, 1) := by decide +kernel
theorem dX12_termsOf_29 : decode cX12_termsOf 29 = .ok (.istore_n 2, 1) := by decide +kernel
theorem dX12_termsOf_30 : decode cX12_termsOf 30 = .ok (.iinc 3 1, 3) := by decide +kernel
theorem dX12_termsOf_33 : decode cX12_termsOf 33 = .ok (.goto (-29), 3) := by decide +kernel
theorem dX12_termsOf_36 : decode cX12_termsOf 36 = .ok (.iload_n 2, 1) := by decide +kernel
theorem dX12_termsOf_37 : decode cX12_termsOf 37 = .ok (.ireturn, 1) := by decide +kernel
theorem dX12_nextOf_0 : decode cX12_nextOf 0 = .ok (.iload_n 0, 1) := by decide +kernel
theorem dX12_nextOf_1 : decode cX12_nextOf 1 = .ok (.iload_n 0, 1) := by decide +kernel
theorem dX12_nextOf_2 : decode cX12_nextOf 2 = .ok (.ineg, 1) := by decide +kernel
theorem dX12_nextOf_3 : decode cX12_nextOf 3 = .ok (.iand, 1) := by decide +kernel
theorem dX12_nextOf_4 : decode cX12_nextOf 4 = .ok (.istore_n 1, 1) := by decide +kernel
theorem dX12_nextOf_5 : decode cX12_nextOf 5 = .ok (.iload_n 0, 1) := by decide +kernel
theorem dX12_nextOf_6 : decode cX12_nextOf 6 = .ok (.iload_n 1, 1) := by decide +kernel
theorem dX12_nextOf_7 : decode cX12_nextOf 7 = .ok (.iadd, 1) := by decide +kernel
theorem dX12_nextOf_8 : decode cX12_nextOf 8 = .ok (.istore_n 2, 1) := by decide +kernel
theorem dX12_nextOf_9 : decode cX12_nextOf 9 = .ok (.iload_n 0, 1) := by decide +kernel
theorem dX12_nextOf_10 : decode cX12_nextOf 10 = .ok (.iload_n 2, 1) := by decide +kernel
theorem dX12_nextOf_11 : decode cX12_nextOf 11 = .ok (.ixor, 1) := by decide +kernel
theorem dX12_nextOf_12 : decode cX12_nextOf 12 = .ok (.iconst 2, 1) := by decide +kernel
theorem dX12_nextOf_13 : decode cX12_nextOf 13 = .ok (.ishr, 1) := by decide +kernel
theorem dX12_nextOf_14 : decode cX12_nextOf 14 = .ok (.istore_n 3, 1) := by decide +kernel
theorem dX12_nextOf_15 : decode cX12_nextOf 15 = .ok (.iload_n 1, 1) := by decide +kernel
theorem dX12_nextOf_16 : decode cX12_nextOf 16 = .ok (.istore 4, 2) := by decide +kernel
theorem dX12_nextOf_18 : decode cX12_nextOf 18 = .ok (.iload 4, 2) := by decide +kernel
theorem dX12_nextOf_20 : decode cX12_nextOf 20 = .ok (.iconst 1, 1) := by decide +kernel
theorem dX12_nextOf_21 : decode cX12_nextOf 21 = .ok (.if_icmp .le 16, 3) := by decide +kernel
theorem dX12_nextOf_24 : decode cX12_nextOf 24 = .ok (.iload_n 3, 1) := by decide +kernel
theorem dX12_nextOf_25 : decode cX12_nextOf 25 = .ok (.iconst 1, 1) := by decide +kernel
theorem dX12_nextOf_26 : decode cX12_nextOf 26 = .ok (.ishr, 1) := by decide +kernel
theorem dX12_nextOf_27 : decode cX12_nextOf 27 = .ok (.istore_n 3, 1) := by decide +kernel
theorem dX12_nextOf_28 : decode cX12_nextOf 28 = .ok (.iload 4, 2) := by decide +kernel
theorem dX12_nextOf_30 : decode cX12_nextOf 30 = .ok (.iconst 1, 1) := by decide +kernel
theorem dX12_nextOf_31 : decode cX12_nextOf 31 = .ok (.ishr, 1) := by decide +kernel
theorem dX12_nextOf_32 : decode cX12_nextOf 32 = .ok (.istore 4, 2) := by decide +kernel
theorem dX12_nextOf_34 : decode cX12_nextOf 34 = .ok (.goto (-16), 3) := by decide +kernel
theorem dX12_nextOf_37 : decode cX12_nextOf 37 = .ok (.iload_n 2, 1) := by decide +kernel
theorem dX12_nextOf_38 : decode cX12_nextOf 38 = .ok (.iload_n 3, 1) := by decide +kernel
theorem dX12_nextOf_39 : decode cX12_nextOf 39 = .ok (.ior, 1) := by decide +kernel
theorem dX12_nextOf_40 : decode cX12_nextOf 40 = .ok (.ireturn, 1) := by decide +kernel
theorem dX12_findAll_0 : decode cX12_findAll 0 = .ok (.aload_n 0, 1) := by decide +kernel
theorem dX12_findAll_1 : decode cX12_findAll 1 = .ok (.getfield 152, 3) := by decide +kernel
theorem dX12_findAll_4 : decode cX12_findAll 4 = .ok (.ifCond .ne 4, 3) := by decide +kernel
theorem dX12_findAll_7 : decode cX12_findAll 7 = .ok (.return_, 1) := by decide +kernel
theorem dX12_findAll_8 : decode cX12_findAll 8 = .ok (.aload_n 0, 1) := by decide +kernel
theorem dX12_findAll_9 : decode cX12_findAll 9 = .ok (.iconst 0, 1) := by decide +kernel
theorem dX12_findAll_10 : decode cX12_findAll 10 = .ok (.putfield 152, 3) := by decide +kernel
theorem dX12_findAll_13 : decode cX12_findAll 13 = .ok (.aload_n 0, 1) := by decide +kernel
theorem dX12_findAll_14 : decode cX12_findAll 14 = .ok (.invokevirtual 363, 3) := by decide +kernel
theorem dX12_findAll_17 : decode cX12_findAll 17 = .ok (.aload_n 0, 1) := by decide +kernel
theorem dX12_findAll_18 : decode cX12_findAll 18 = .ok (.iconst 0, 1) := by decide +kernel
theorem dX12_findAll_19 : decode cX12_findAll 19 = .ok (.putfield 366, 3) := by decide +kernel
theorem dX12_findAll_22 : decode cX12_findAll 22 = .ok (.iconst 1, 1) := by decide +kernel
theorem dX12_findAll_23 : decode cX12_findAll 23 = .ok (.aload_n 0, 1) := by decide +kernel
theorem dX12_findAll_24 : decode cX12_findAll 24 = .ok (.getfield 226, 3) := by decide +kernel
theorem dX12_findAll_27 : decode cX12_findAll 27 = .ok (.ishl, 1) := by decide +kernel
theorem dX12_findAll_28 : decode cX12_findAll 28 = .ok (.iconst 1, 1) := by decide +kernel
theorem dX12_findAll_29 : decode cX12_findAll 29 = .ok (.isub, 1) := by decide +kernel
theorem dX12_findAll_30 : decode cX12_findAll 30 = .ok (.istore_n 1, 1) := by decide +kernel
theorem dX12_findAll_31 : decode cX12_findAll 31 = .ok (.iconst 1, 1) := by decide +kernel
theorem dX12_findAll_32 : decode cX12_findAll 32 = .ok (.istore_n 2, 1) := by decide +kernel
theorem dX12_findAll_33 : decode cX12_findAll 33 = .ok (.iload_n 2, 1) := by decide +kernel
theorem dX12_findAll_34 : decode cX12_findAll 34 = .ok (.aload_n 0, 1) := by decide +kernel
theorem dX12_findAll_35 : decode cX12_findAll 35 = .ok (.getfield 149, 3) := by decide +kernel
theorem dX12_findAll_38 : decode cX12_findAll 38 = .ok (.if_icmp .gt 116, 3) := by decide +kernel
theorem dX12_findAll_41 : decode cX12_findAll 41 = .ok (.iload_n 2, 1) := by decide +kernel
theorem dX12_findAll_42 : decode cX12_findAll 42 = .ok (.aload_n 0, 1) := by decide +kernel
theorem dX12_findAll_43 : decode cX12_findAll 43 = .ok (.getfield 223, 3) := by decide +kernel
theorem dX12_findAll_46 : decode cX12_findAll 46 = .ok (.if_icmp .gt 108, 3) := by decide +kernel
theorem dX12_findAll_49 : decode cX12_findAll 49 = .ok (.aload_n 0, 1) := by decide +kernel
theorem dX12_findAll_50 : decode cX12_findAll 50 = .ok (.getfield 226, 3) := by decide +kernel
theorem dX12_findAll_53 : decode cX12_findAll 53 = .ok (.ifCond .le 101, 3) := by decide +kernel
theorem dX12_findAll_56 : decode cX12_findAll 56 = .ok (.iconst 1, 1) := by decide +kernel
theorem dX12_findAll_57 : decode cX12_findAll 57 = .ok (.iload_n 2, 1) := by decide +kernel
theorem dX12_findAll_58 : decode cX12_findAll 58 = .ok (.ishl, 1) := by decide +kernel
theorem dX12_findAll_59 : decode cX12_findAll 59 = .ok (.iconst 1, 1) := by decide +kernel
theorem dX12_findAll_60 : decode cX12_findAll 60 = .ok (.isub, 1) := by decide +kernel
theorem dX12_findAll_61 : decode cX12_findAll 61 = .ok (.istore_n 3, 1) := by decide +kernel
theorem dX12_findAll_62 : decode cX12_findAll 62 = .ok (.iload_n 3, 1) := by decide +kernel
theorem dX12_findAll_63 : decode cX12_findAll 63 = .ok (.iconst 1, 1) := by decide +kernel
theorem dX12_findAll_64 : decode cX12_findAll 64 = .ok (.aload_n 0, 1) := by decide +kernel
theorem dX12_findAll_65 : decode cX12_findAll 65 = .ok (.getfield 223, 3) := by decide +kernel
theorem dX12_findAll_68 : decode cX12_findAll 68 = .ok (.ishl, 1) := by decide +kernel
theorem dX12_findAll_69 : decode cX12_findAll 69 = .ok (.if_icmp .ge 79, 3) := by decide +kernel
theorem dX12_findAll_72 : decode cX12_findAll 72 = .ok (.iload_n 3, 1) := by decide +kernel
theorem dX12_findAll_73 : decode cX12_findAll 73 = .ok (.aload_n 0, 1) := by decide +kernel
theorem dX12_findAll_74 : decode cX12_findAll 74 = .ok (.getfield 337, 3) := by decide +kernel
theorem dX12_findAll_77 : decode cX12_findAll 77 = .ok (.iconst (-1), 1) := by decide +kernel
theorem dX12_findAll_78 : decode cX12_findAll 78 = .ok (.ixor, 1) := by decide +kernel
theorem dX12_findAll_79 : decode cX12_findAll 79 = .ok (.iand, 1) := by decide +kernel
theorem dX12_findAll_80 : decode cX12_findAll 80 = .ok (.ifCond .ne 60, 3) := by decide +kernel
theorem dX12_findAll_83 : decode cX12_findAll 83 = .ok (.aload_n 0, 1) := by decide +kernel
theorem dX12_findAll_84 : decode cX12_findAll 84 = .ok (.iload_n 3, 1) := by decide +kernel
theorem dX12_findAll_85 : decode cX12_findAll 85 = .ok (.invokevirtual 357, 3) := by decide +kernel
theorem dX12_findAll_88 : decode cX12_findAll 88 = .ok (.ifCond .eq 52, 3) := by decide +kernel
theorem dX12_findAll_91 : decode cX12_findAll 91 = .ok (.aload_n 0, 1) := by decide +kernel
theorem dX12_findAll_92 : decode cX12_findAll 92 = .ok (.iload_n 3, 1) := by decide +kernel
theorem dX12_findAll_93 : decode cX12_findAll 93 = .ok (.iload_n 1, 1) := by decide +kernel
theorem dX12_findAll_94 : decode cX12_findAll 94 = .ok (.invokevirtual 369, 3) := by decide +kernel
theorem dX12_findAll_97 : decode cX12_findAll 97 = .ok (.ifCond .eq 43, 3) := by decide +kernel
theorem dX12_findAll_100 : decode cX12_findAll 100 = .ok (.aload_n 0, 1) := by decide +kernel
theorem dX12_findAll_101 : decode cX12_findAll 101 = .ok (.getfield 109, 3) := by decide +kernel
theorem dX12_findAll_104 : decode cX12_findAll 104 = .ok (.aload_n 0, 1) := by decide +kernel
theorem dX12_findAll_105 : decode cX12_findAll 105 = .ok (.getfield 366, 3) := by decide +kernel
theorem dX12_findAll_108 : decode cX12_findAll 108 = .ok (.iload_n 3, 1) := by decide +kernel
theorem dX12_findAll_109 : decode cX12_findAll 109 = .ok (.iastore, 1) := by decide +kernel
theorem dX12_findAll_110 : decode cX12_findAll 110 = .ok (.aload_n 0, 1) := by decide +kernel
theorem dX12_findAll_111 : decode cX12_findAll 111 = .ok (.getfield 112, 3) := by decide +kernel
theorem dX12_findAll_114 : decode cX12_findAll 114 = .ok (.aload_n 0, 1) := by decide +kernel
theorem dX12_findAll_115 : decode cX12_findAll 115 = .ok (.getfield 366, 3) := by decide +kernel
theorem dX12_findAll_118 : decode cX12_findAll 118 = .ok (.aload_n 0, 1) := by decide +kernel
theorem dX12_findAll_119 : decode cX12_findAll 119 = .ok (.iload_n 3, 1) := by decide +kernel
theorem dX12_findAll_120 : decode cX12_findAll 120 = .ok (.invokevirtual 372, 3) := by decide +kernel
theorem dX12_findAll_123 : decode cX12_findAll 123 = .ok (.aload_n 0, 1) := by decide +kernel
theorem dX12_findAll_124 : decode cX12_findAll 124 = .ok (.iload_n 3, 1) := by decide +kernel
theorem dX12_findAll_125 : decode cX12_findAll 125 = .ok (.invokevirtual 375, 3) := by decide +kernel
theorem dX12_findAll_128 : decode cX12_findAll 128 = .ok (.iadd, 1) := by decide +kernel
theorem dX12_findAll_129 : decode cX12_findAll 129 = .ok (.iastore, 1) := by decide +kernel
theorem dX12_findAll_130 : decode cX12_findAll 130 = .ok (.aload_n 0, 1) := by decide +kernel
theorem dX12_findAll_131 : decode cX12_findAll 131 = .ok (.dup, 1) := by decide +kernel
theorem dX12_findAll_132 : decode cX12_findAll 132 = .ok (.getfield 366, 3) := by decide +kernel
theorem dX12_findAll_135 : decode cX12_findAll 135 = .ok (.iconst 1, 1) := by decide +kernel
theorem dX12_findAll_136 : decode cX12_findAll 136 = .ok (.iadd, 1) := by decide +kernel
theorem dX12_findAll_137 : decode cX12_findAll 137 = .ok (.putfield 366, 3) := by decide +kernel
theorem dX12_findAll_140 : decode cX12_findAll 140 = .ok (.iload_n 3, 1) := by decide +kernel
theorem dX12_findAll_141 : decode cX12_findAll 141 = .ok (.invokestatic 378, 3) := by decide +kernel
theorem dX12_findAll_144 : decode cX12_findAll 144 = .ok (.istore_n 3, 1) := by decide +kernel
theorem dX12_findAll_145 : decode cX12_findAll 145 = .ok (.goto (-83), 3) := by decide +kernel
theorem dX12_findAll_148 : decode cX12_findAll 148 = .ok (.iinc 2 1, 3) := by decide +kernel
theorem dX12_findAll_151 : decode cX12_findAll 151 = .ok (.goto (-118), 3) := by decide +kernel
theorem dX12_findAll_154 : decode cX12_findAll 154 = .ok (.iconst 0, 1) := by decide +kernel
theorem dX12_findAll_155 : decode cX12_findAll 155 = .ok (.istore_n 2, 1) := by decide +kernel
theorem dX12_findAll_156 : decode cX12_findAll 156 = .ok (.iload_n 2, 1) := by decide +kernel
theorem dX12_findAll_157 : decode cX12_findAll 157 = .ok (.sipush 200, 3) := by decide +kernel
theorem dX12_findAll_160 : decode cX12_findAll 160 = .ok (.if_icmp .ge 16, 3) := by decide +kernel
theorem dX12_findAll_163 : decode cX12_findAll 163 = .ok (.aload_n 0, 1) := by decide +kernel
theorem dX12_findAll_164 : decode cX12_findAll 164 = .ok (.getfield 118, 3) := by decide +kernel
theorem dX12_findAll_167 : decode cX12_findAll 167 = .ok (.iload_n 2, 1) := by decide +kernel
theorem dX12_findAll_168 : decode cX12_findAll 168 = .ok (.iconst 0, 1) := by decide +kernel
theorem dX12_findAll_169 : decode cX12_findAll 169 = .ok (.iastore, 1) := by decide +kernel
theorem dX12_findAll_170 : decode cX12_findAll 170 = .ok (.iinc 2 1, 3) := by decide +kernel
theorem dX12_findAll_173 : decode cX12_findAll 173 = .ok (.goto (-17), 3) := by decide +kernel
theorem dX12_findAll_176 : decode cX12_findAll 176 = .ok (.iconst 0, 1) := by decide +kernel
theorem dX12_findAll_177 : decode cX12_findAll 177 = .ok (.istore_n 2, 1) := by decide +kernel
theorem dX12_findAll_178 : decode cX12_findAll 178 = .ok (.iload_n 2, 1) := by decide +kernel
theorem dX12_findAll_179 : decode cX12_findAll 179 = .ok (.aload_n 0, 1) := by decide +kernel
theorem dX12_findAll_180 : decode cX12_findAll 180 = .ok (.getfield 366, 3) := by decide +kernel
theorem dX12_findAll_183 : decode cX12_findAll 183 = .ok (.if_icmp .ge 26, 3) := by decide +kernel
theorem dX12_findAll_186 : decode cX12_findAll 186 = .ok (.aload_n 0, 1) := by decide +kernel
theorem dX12_findAll_187 : decode cX12_findAll 187 = .ok (.getfield 118, 3) := by decide +kernel
theorem dX12_findAll_190 : decode cX12_findAll 190 = .ok (.aload_n 0, 1) := by decide +kernel
theorem dX12_findAll_191 : decode cX12_findAll 191 = .ok (.getfield 112, 3) := by decide +kernel
theorem dX12_findAll_194 : decode cX12_findAll 194 = .ok (.iload_n 2, 1) := by decide +kernel
theorem dX12_findAll_195 : decode cX12_findAll 195 = .ok (.iaload, 1) := by decide +kernel
theorem dX12_findAll_196 : decode cX12_findAll 196 = .ok (.iconst 1, 1) := by decide +kernel
theorem dX12_findAll_197 : decode cX12_findAll 197 = .ok (.iadd, 1) := by decide +kernel
theorem dX12_findAll_198 : decode cX12_findAll 198 = .ok (.dup2, 1) := by decide +kernel
theorem dX12_findAll_199 : decode cX12_findAll 199 = .ok (.iaload, 1) := by decide +kernel
theorem dX12_findAll_200 : decode cX12_findAll 200 = .ok (.iconst 1, 1) := by decide +kernel
theorem dX12_findAll_201 : decode cX12_findAll 201 = .ok (.iadd, 1) := by decide +kernel
theorem dX12_findAll_202 : decode cX12_findAll 202 = .ok (.iastore, 1) := by decide +kernel
theorem dX12_findAll_203 : decode cX12_findAll 203 = .ok (.iinc 2 1, 3) := by decide +kernel
theorem dX12_findAll_206 : decode cX12_findAll 206 = .ok (.goto (-28), 3) := by decide +kernel
theorem dX12_findAll_209 : decode cX12_findAll 209 = .ok (.iconst 1, 1) := by decide +kernel
theorem dX12_findAll_210 : decode cX12_findAll 210 = .ok (.istore_n 2, 1) := by decide +kernel
theorem dX12_findAll_211 : decode cX12_findAll 211 = .ok (.iload_n 2, 1) := by decide +kernel
theorem dX12_findAll_212 : decode cX12_findAll 212 = .ok (.sipush 200, 3) := by decide +kernel
theorem dX12_findAll_215 : decode cX12_findAll 215 = .ok (.if_icmp .ge 26, 3) := by decide +kernel
theorem dX12_findAll_218 : decode cX12_findAll 218 = .ok (.aload_n 0, 1) := by decide +kernel
theorem dX12_findAll_219 : decode cX12_findAll 219 = .ok (.getfield 118, 3) := by decide +kernel
theorem dX12_findAll_222 : decode cX12_findAll 222 = .ok (.iload_n 2, 1) := by decide +kernel
theorem dX12_findAll_223 : decode cX12_findAll 223 = .ok (.dup2, 1) := by decide +kernel
theorem dX12_findAll_224 : decode cX12_findAll 224 = .ok (.iaload, 1) := by decide +kernel
theorem dX12_findAll_225 : decode cX12_findAll 225 = .ok (.aload_n 0, 1) := by decide +kernel
theorem dX12_findAll_226 : decode cX12_findAll 226 = .ok (.getfield 118, 3) := by decide +kernel
theorem dX12_findAll_229 : decode cX12_findAll 229 = .ok (.iload_n 2, 1) := by decide +kernel
theorem dX12_findAll_230 : decode cX12_findAll 230 = .ok (.iconst 1, 1) := by decide +kernel
theorem dX12_findAll_231 : decode cX12_findAll 231 = .ok (.isub, 1) := by decide +kernel
theorem dX12_findAll_232 : decode cX12_findAll 232 = .ok (.iaload, 1) := by decide +kernel
theorem dX12_findAll_233 : decode cX12_findAll 233 = .ok (.iadd, 1) := by decide +kernel
theorem dX12_findAll_234 : decode cX12_findAll 234 = .ok (.iastore, 1) := by decide +kernel
theorem dX12_findAll_235 : decode cX12_findAll 235 = .ok (.iinc 2 1, 3) := by decide +kernel
theorem dX12_findAll_238 : decode cX12_findAll 238 = .ok (.goto (-27), 3) := by decide +kernel
theorem dX12_findAll_241 : decode cX12_findAll 241 = .ok (.iconst 0, 1) := by decide +kernel
theorem dX12_findAll_242 : decode cX12_findAll 242 = .ok (.istore_n 2, 1) := by decide +kernel
theorem dX12_findAll_243 : decode cX12_findAll 243 = .ok (.iload_n 2, 1) := by decide +kernel
theorem dX12_findAll_244 : decode cX12_findAll 244 = .ok (.aload_n 0, 1) := by decide +kernel
theorem dX12_findAll_245 : decode cX12_findAll 245 = .ok (.getfield 366, 3) := by decide +kernel
theorem dX12_findAll_248 : decode cX12_findAll 248 = .ok (.if_icmp .ge 41, 3) := by decide +kernel
theorem dX12_findAll_251 : decode cX12_findAll 251 = .ok (.aload_n 0, 1) := by decide +kernel
theorem dX12_findAll_252 : decode cX12_findAll 252 = .ok (.getfield 115, 3) := by decide +kernel
theorem dX12_findAll_255 : decode cX12_findAll 255 = .ok (.aload_n 0, 1) := by decide +kernel
theorem dX12_findAll_256 : decode cX12_findAll 256 = .ok (.getfield 118, 3) := by decide +kernel
theorem dX12_findAll_259 : decode cX12_findAll 259 = .ok (.aload_n 0, 1) := by decide +kernel
theorem dX12_findAll_260 : decode cX12_findAll 260 = .ok (.getfield 112, 3) := by decide +kernel
theorem dX12_findAll_263 : decode cX12_findAll 263 = .ok (.iload_n 2, 1) := by decide +kernel
theorem dX12_findAll_264 : decode cX12_findAll 264 = .ok (.iaload, 1) := by decide +kernel
theorem dX12_findAll_265 : decode cX12_findAll 265 = .ok (.iaload, 1) := by decide +kernel
theorem dX12_findAll_266 : decode cX12_findAll 266 = .ok (.iload_n 2, 1) := by decide +kernel
theorem dX12_findAll_267 : decode cX12_findAll 267 = .ok (.iastore, 1) := by decide +kernel
theorem dX12_findAll_268 : decode cX12_findAll 268 = .ok (.aload_n 0, 1) := by decide +kernel
theorem dX12_findAll_269 : decode cX12_findAll 269 = .ok (.getfield 118, 3) := by decide +kernel
theorem dX12_findAll_272 : decode cX12_findAll 272 = .ok (.aload_n 0, 1) := by decide +kernel
theorem dX12_findAll_273 : decode cX12_findAll 273 = .ok (.getfield 112, 3) := by decide +kernel
theorem dX12_findAll_276 : decode cX12_findAll 276 = .ok (.iload_n 2, 1) := by decide +kernel
theorem dX12_findAll_277 : decode cX12_findAll 277 = .ok (.iaload, 1) := by decide +kernel
theorem dX12_findAll_278 : decode cX12_findAll 278 = .ok (.dup2, 1) := by decide +kernel
theorem dX12_findAll_279 : decode cX12_findAll 279 = .ok (.iaload, 1) := by decide +kernel
theorem dX12_findAll_280 : decode cX12_findAll 280 = .ok (.iconst 1, 1) := by decide +kernel
theorem dX12_findAll_281 : decode cX12_findAll 281 = .ok (.iadd, 1) := by decide +kernel
theorem dX12_findAll_282 : decode cX12_findAll 282 = .ok (.iastore, 1) := by decide +kernel
theorem dX12_findAll_283 : decode cX12_findAll 283 = .ok (.iinc 2 1, 3) := by decide +kernel
theorem dX12_findAll_286 : decode cX12_findAll 286 = .ok (.goto (-43), 3) := by decide +kernel
theorem dX12_findAll_289 : decode cX12_findAll 289 = .ok (.aload_n 0, 1) := by decide +kernel
theorem dX12_findAll_290 : decode cX12_findAll 290 = .ok (.invokevirtual 381, 3) := by decide +kernel
theorem dX12_findAll_293 : decode cX12_findAll 293 = .ok (.return_, 1) := by decide +kernel
theorem dX12_isOne_0 : decode cX12_isOne 0 = .ok (.aload_n 0, 1) := by decide +kernel
theorem dX12_isOne_1 : decode cX12_isOne 1 = .ok (.invokevirtual 271, 3) := by decide +kernel
theorem dX12_isOne_4 : decode cX12_isOne 4 = .ok (.iload_n 1, 1) := by decide +kernel
theorem dX12_isOne_5 : decode cX12_isOne 5 = .ok (.ifCond .lt 15, 3) := by decide +kernel
theorem dX12_isOne_8 : decode cX12_isOne 8 = .ok (.iload_n 1, 1) := by decide +kernel
theorem dX12_isOne_9 : decode cX12_isOne 9 = .ok (.aload_n 0, 1) := by decide +kernel
theorem dX12_isOne_10 : decode cX12_isOne 10 = .ok (.getfield 366, 3) := by decide +kernel
theorem dX12_isOne_13 : decode cX12_isOne 13 = .ok (.if_icmp .ge 7, 3) := by decide +kernel
theorem dX12_isOne_16 : decode cX12_isOne 16 = .ok (.iconst 1, 1) := by decide +kernel
theorem dX12_isOne_17 : decode cX12_isOne 17 = .ok (.goto 4, 3) := by decide +kernel
theorem dX12_isOne_20 : decode cX12_isOne 20 = .ok (.iconst 0, 1) := by decide +kernel
theorem dX12_isOne_21 : decode cX12_isOne 21 = .ok (.ireturn, 1) := by decide +kernel
theorem dX12_joining_0 : decode cX12_joining 0 = .ok (.aload_n 0, 1) := by decide +kernel
theorem dX12_joining_1 : decode cX12_joining 1 = .ok (.iconst 0, 1) := by decide +kernel
theorem dX12_joining_2 : decode cX12_joining 2 = .ok (.putfield 1, 3) := by decide +kernel
theorem dX12_joining_5 : decode cX12_joining 5 = .ok (.aload_n 0, 1) := by decide +kernel
theorem dX12_joining_6 : decode cX12_joining 6 = .ok (.iload_n 1, 1) := by decide +kernel
theorem dX12_joining_7 : decode cX12_joining 7 = .ok (.invokevirtual 384, 3) := by decide +kernel
theorem dX12_joining_10 : decode cX12_joining 10 = .ok (.ifCond .eq 12, 3) := by decide +kernel
theorem dX12_joining_13 : decode cX12_joining 13 = .ok (.iload_n 2, 1) := by decide +kernel
theorem dX12_joining_14 : decode cX12_joining 14 = .ok (.iconst 0, 1) := by decide +kernel
theorem dX12_joining_15 : decode cX12_joining 15 = .ok (.iconst 3, 1) := by decide +kernel
theorem dX12_joining_16 : decode cX12_joining 16 = .ok (.invokestatic 277, 3) := by decide +kernel
theorem dX12_joining_19 : decode cX12_joining 19 = .ok (.ifCond .ne 5, 3) := by decide +kernel
theorem dX12_joining_22 : decode cX12_joining 22 = .ok (.iconst (-1), 1) := by decide +kernel
theorem dX12_joining_23 : decode cX12_joining 23 = .ok (.ireturn, 1) := by decide +kernel
theorem dX12_joining_24 : decode cX12_joining 24 = .ok (.aload_n 0, 1) := by decide +kernel
theorem dX12_joining_25 : decode cX12_joining 25 = .ok (.getfield 109, 3) := by decide +kernel
theorem dX12_joining_28 : decode cX12_joining 28 = .ok (.aload_n 0, 1) := by decide +kernel
theorem dX12_joining_29 : decode cX12_joining 29 = .ok (.getfield 115, 3) := by decide +kernel
theorem dX12_joining_32 : decode cX12_joining 32 = .ok (.iload_n 1, 1) := by decide +kernel
theorem dX12_joining_33 : decode cX12_joining 33 = .ok (.iaload, 1) := by decide +kernel
theorem dX12_joining_34 : decode cX12_joining 34 = .ok (.iaload, 1) := by decide +kernel
theorem dX12_joining_35 : decode cX12_joining 35 = .ok (.istore_n 3, 1) := by decide +kernel
theorem dX12_joining_36 : decode cX12_joining 36 = .ok (.iload_n 2, 1) := by decide +kernel
theorem dX12_joining_37 : decode cX12_joining 37 = .ok (.tableswitch 51 0 2 #[27, 29, 41], 27) := by decide +kernel
theorem dX12_joining_64 : decode cX12_joining 64 = .ok (.iload_n 3, 1) := by decide +kernel
theorem dX12_joining_65 : decode cX12_joining 65 = .ok (.ireturn, 1) := by decide +kernel
theorem dX12_joining_66 : decode cX12_joining 66 = .ok (.aload_n 0, 1) := by decide +kernel
theorem dX12_joining_67 : decode cX12_joining 67 = .ok (.getfield 112, 3) := by decide +kernel
theorem dX12_joining_70 : decode cX12_joining 70 = .ok (.aload_n 0, 1) := by decide +kernel
theorem dX12_joining_71 : decode cX12_joining 71 = .ok (.getfield 115, 3) := by decide +kernel
theorem dX12_joining_74 : decode cX12_joining 74 = .ok (.iload_n 1, 1) := by decide +kernel
theorem dX12_joining_75 : decode cX12_joining 75 = .ok (.iaload, 1) := by decide +kernel
theorem dX12_joining_76 : decode cX12_joining 76 = .ok (.iaload, 1) := by decide +kernel
theorem dX12_joining_77 : decode cX12_joining 77 = .ok (.ireturn, 1) := by decide +kernel
theorem dX12_joining_78 : decode cX12_joining 78 = .ok (.aload_n 0, 1) := by decide +kernel
theorem dX12_joining_79 : decode cX12_joining 79 = .ok (.aload_n 0, 1) := by decide +kernel
theorem dX12_joining_80 : decode cX12_joining 80 = .ok (.iload_n 3, 1) := by decide +kernel
theorem dX12_joining_81 : decode cX12_joining 81 = .ok (.invokevirtual 387, 3) := by decide +kernel
theorem dX12_joining_84 : decode cX12_joining 84 = .ok (.invokevirtual 274, 3) := by decide +kernel
theorem dX12_joining_87 : decode cX12_joining 87 = .ok (.ireturn, 1) := by decide +kernel
theorem dX12_joining_88 : decode cX12_joining 88 = .ok (.aload_n 0, 1) := by decide +kernel
theorem dX12_joining_89 : decode cX12_joining 89 = .ok (.iload_n 3, 1) := by decide +kernel
theorem dX12_joining_90 : decode cX12_joining 90 = .ok (.invokevirtual 372, 3) := by decide +kernel
theorem dX12_joining_93 : decode cX12_joining 93 = .ok (.ireturn, 1) := by decide +kernel
theorem dX12_place_0 : decode cX12_place 0 = .ok (.aload_n 0, 1) := by decide +kernel
theorem dX12_place_1 : decode cX12_place 1 = .ok (.iconst 0, 1) := by decide +kernel
theorem dX12_place_2 : decode cX12_place 2 = .ok (.putfield 1, 3) := by decide +kernel
theorem dX12_place_5 : decode cX12_place 5 = .ok (.aload_n 0, 1) := by decide +kernel
theorem dX12_place_6 : decode cX12_place 6 = .ok (.iload_n 1, 1) := by decide +kernel
theorem dX12_place_7 : decode cX12_place 7 = .ok (.invokevirtual 384, 3) := by decide +kernel
theorem dX12_place_10 : decode cX12_place 10 = .ok (.ifCond .eq 36, 3) := by decide +kernel
theorem dX12_place_13 : decode cX12_place 13 = .ok (.iload_n 2, 1) := by decide +kernel
theorem dX12_place_14 : decode cX12_place 14 = .ok (.iconst 0, 1) := by decide +kernel
theorem dX12_place_15 : decode cX12_place 15 = .ok (.aload_n 0, 1) := by decide +kernel
theorem dX12_place_16 : decode cX12_place 16 = .ok (.getfield 226, 3) := by decide +kernel
theorem dX12_place_19 : decode cX12_place 19 = .ok (.iconst 1, 1) := by decide +kernel
theorem dX12_place_20 : decode cX12_place 20 = .ok (.isub, 1) := by decide +kernel
theorem dX12_place_21 : decode cX12_place 21 = .ok (.invokestatic 277, 3) := by decide +kernel
theorem dX12_place_24 : decode cX12_place 24 = .ok (.ifCond .eq 22, 3) := by decide +kernel
theorem dX12_place_27 : decode cX12_place 27 = .ok (.aload_n 0, 1) := by decide +kernel
theorem dX12_place_28 : decode cX12_place 28 = .ok (.aload_n 0, 1) := by decide +kernel
theorem dX12_place_29 : decode cX12_place 29 = .ok (.getfield 109, 3) := by decide +kernel
theorem dX12_place_32 : decode cX12_place 32 = .ok (.aload_n 0, 1) := by decide +kernel
theorem dX12_place_33 : decode cX12_place 33 = .ok (.getfield 115, 3) := by decide +kernel
theorem dX12_place_36 : decode cX12_place 36 = .ok (.iload_n 1, 1) := by decide +kernel
theorem dX12_place_37 : decode cX12_place 37 = .ok (.iaload, 1) := by decide +kernel
theorem dX12_place_38 : decode cX12_place 38 = .ok (.iaload, 1) := by decide +kernel
theorem dX12_place_39 : decode cX12_place 39 = .ok (.iload_n 2, 1) := by decide +kernel
theorem dX12_place_40 : decode cX12_place 40 = .ok (.invokevirtual 360, 3) := by decide +kernel
theorem dX12_place_43 : decode cX12_place 43 = .ok (.goto 4, 3) := by decide +kernel
theorem dX12_place_46 : decode cX12_place 46 = .ok (.iconst (-1), 1) := by decide +kernel
theorem dX12_place_47 : decode cX12_place 47 = .ok (.ireturn, 1) := by decide +kernel
theorem dX12_holds_0 : decode cX12_holds 0 = .ok (.aload_n 0, 1) := by decide +kernel
theorem dX12_holds_1 : decode cX12_holds 1 = .ok (.iconst 0, 1) := by decide +kernel
theorem dX12_holds_2 : decode cX12_holds 2 = .ok (.putfield 1, 3) := by decide +kernel
theorem dX12_holds_5 : decode cX12_holds 5 = .ok (.aload_n 0, 1) := by decide +kernel
theorem dX12_holds_6 : decode cX12_holds 6 = .ok (.invokevirtual 271, 3) := by decide +kernel
theorem dX12_holds_9 : decode cX12_holds 9 = .ok (.aload_n 0, 1) := by decide +kernel
theorem dX12_holds_10 : decode cX12_holds 10 = .ok (.iload_n 1, 1) := by decide +kernel
theorem dX12_holds_11 : decode cX12_holds 11 = .ok (.invokevirtual 287, 3) := by decide +kernel
theorem dX12_holds_14 : decode cX12_holds 14 = .ok (.ifCond .eq 30, 3) := by decide +kernel
theorem dX12_holds_17 : decode cX12_holds 17 = .ok (.iload_n 2, 1) := by decide +kernel
theorem dX12_holds_18 : decode cX12_holds 18 = .ok (.iconst 0, 1) := by decide +kernel
theorem dX12_holds_19 : decode cX12_holds 19 = .ok (.aload_n 0, 1) := by decide +kernel
theorem dX12_holds_20 : decode cX12_holds 20 = .ok (.getfield 226, 3) := by decide +kernel
theorem dX12_holds_23 : decode cX12_holds 23 = .ok (.iconst 1, 1) := by decide +kernel
theorem dX12_holds_24 : decode cX12_holds 24 = .ok (.isub, 1) := by decide +kernel
theorem dX12_holds_25 : decode cX12_holds 25 = .ok (.invokestatic 277, 3) := by decide +kernel
theorem dX12_holds_28 : decode cX12_holds 28 = .ok (.ifCond .eq 16, 3) := by decide +kernel
theorem dX12_holds_31 : decode cX12_holds 31 = .ok (.aload_n 0, 1) := by decide +kernel
theorem dX12_holds_32 : decode cX12_holds 32 = .ok (.getfield 105, 3) := by decide +kernel
theorem dX12_holds_35 : decode cX12_holds 35 = .ok (.iconst 4, 1) := by decide +kernel
theorem dX12_holds_36 : decode cX12_holds 36 = .ok (.iload_n 1, 1) := by decide +kernel
theorem dX12_holds_37 : decode cX12_holds 37 = .ok (.imul, 1) := by decide +kernel
theorem dX12_holds_38 : decode cX12_holds 38 = .ok (.iload_n 2, 1) := by decide +kernel
theorem dX12_holds_39 : decode cX12_holds 39 = .ok (.iadd, 1) := by decide +kernel
theorem dX12_holds_40 : decode cX12_holds 40 = .ok (.iaload, 1) := by decide +kernel
theorem dX12_holds_41 : decode cX12_holds 41 = .ok (.goto 4, 3) := by decide +kernel
theorem dX12_holds_44 : decode cX12_holds 44 = .ok (.iconst (-1), 1) := by decide +kernel
theorem dX12_holds_45 : decode cX12_holds 45 = .ok (.ireturn, 1) := by decide +kernel
theorem dX12_found_0 : decode cX12_found 0 = .ok (.aload_n 0, 1) := by decide +kernel
theorem dX12_found_1 : decode cX12_found 1 = .ok (.iconst 0, 1) := by decide +kernel
theorem dX12_found_2 : decode cX12_found 2 = .ok (.putfield 1, 3) := by decide +kernel
theorem dX12_found_5 : decode cX12_found 5 = .ok (.aload_n 0, 1) := by decide +kernel
theorem dX12_found_6 : decode cX12_found 6 = .ok (.invokevirtual 271, 3) := by decide +kernel
theorem dX12_found_9 : decode cX12_found 9 = .ok (.iload_n 1, 1) := by decide +kernel
theorem dX12_found_10 : decode cX12_found 10 = .ok (.iconst 0, 1) := by decide +kernel
theorem dX12_found_11 : decode cX12_found 11 = .ok (.aload_n 0, 1) := by decide +kernel
theorem dX12_found_12 : decode cX12_found 12 = .ok (.getfield 226, 3) := by decide +kernel
theorem dX12_found_15 : decode cX12_found 15 = .ok (.iconst 1, 1) := by decide +kernel
theorem dX12_found_16 : decode cX12_found 16 = .ok (.isub, 1) := by decide +kernel
theorem dX12_found_17 : decode cX12_found 17 = .ok (.invokestatic 277, 3) := by decide +kernel
theorem dX12_found_20 : decode cX12_found 20 = .ok (.ifCond .ne 5, 3) := by decide +kernel
theorem dX12_found_23 : decode cX12_found 23 = .ok (.iconst (-1), 1) := by decide +kernel
theorem dX12_found_24 : decode cX12_found 24 = .ok (.ireturn, 1) := by decide +kernel
theorem dX12_found_25 : decode cX12_found 25 = .ok (.iconst 0, 1) := by decide +kernel
theorem dX12_found_26 : decode cX12_found 26 = .ok (.istore_n 2, 1) := by decide +kernel
theorem dX12_found_27 : decode cX12_found 27 = .ok (.iconst 0, 1) := by decide +kernel
theorem dX12_found_28 : decode cX12_found 28 = .ok (.istore_n 3, 1) := by decide +kernel
theorem dX12_found_29 : decode cX12_found 29 = .ok (.iload_n 3, 1) := by decide +kernel
theorem dX12_found_30 : decode cX12_found 30 = .ok (.aload_n 0, 1) := by decide +kernel
theorem dX12_found_31 : decode cX12_found 31 = .ok (.getfield 223, 3) := by decide +kernel
theorem dX12_found_34 : decode cX12_found 34 = .ok (.if_icmp .ge 30, 3) := by decide +kernel
theorem dX12_found_37 : decode cX12_found 37 = .ok (.iload_n 2, 1) := by decide +kernel
theorem dX12_found_38 : decode cX12_found 38 = .ok (.aload_n 0, 1) := by decide +kernel
theorem dX12_found_39 : decode cX12_found 39 = .ok (.getfield 105, 3) := by decide +kernel
theorem dX12_found_42 : decode cX12_found 42 = .ok (.iconst 4, 1) := by decide +kernel
theorem dX12_found_43 : decode cX12_found 43 = .ok (.iload_n 3, 1) := by decide +kernel
theorem dX12_found_44 : decode cX12_found 44 = .ok (.imul, 1) := by decide +kernel
theorem dX12_found_45 : decode cX12_found 45 = .ok (.iload_n 1, 1) := by decide +kernel
theorem dX12_found_46 : decode cX12_found 46 = .ok (.iadd, 1) := by decide +kernel
theorem dX12_found_47 : decode cX12_found 47 = .ok (.iaload, 1) := by decide +kernel
theorem dX12_found_48 : decode cX12_found 48 = .ok (.ifCond .lt 7, 3) := by decide +kernel
theorem dX12_found_51 : decode cX12_found 51 = .ok (.iconst 1, 1) := by decide +kernel
theorem dX12_found_52 : decode cX12_found 52 = .ok (.goto 4, 3) := by decide +kernel
theorem dX12_found_55 : decode cX12_found 55 = .ok (.iconst 0, 1) := by decide +kernel
theorem dX12_found_56 : decode cX12_found 56 = .ok (.iadd, 1) := by decide +kernel
theorem dX12_found_57 : decode cX12_found 57 = .ok (.istore_n 2, 1) := by decide +kernel
theorem dX12_found_58 : decode cX12_found 58 = .ok (.iinc 3 1, 3) := by decide +kernel
theorem dX12_found_61 : decode cX12_found 61 = .ok (.goto (-32), 3) := by decide +kernel
theorem dX12_found_64 : decode cX12_found 64 = .ok (.iload_n 2, 1) := by decide +kernel
theorem dX12_found_65 : decode cX12_found 65 = .ok (.ireturn, 1) := by decide +kernel
theorem dX12_tie_0 : decode cX12_tie 0 = .ok (.aload_n 0, 1) := by decide +kernel
theorem dX12_tie_1 : decode cX12_tie 1 = .ok (.iconst 0, 1) := by decide +kernel
theorem dX12_tie_2 : decode cX12_tie 2 = .ok (.putfield 1, 3) := by decide +kernel
theorem dX12_tie_5 : decode cX12_tie 5 = .ok (.aload_n 0, 1) := by decide +kernel
theorem dX12_tie_6 : decode cX12_tie 6 = .ok (.invokevirtual 271, 3) := by decide +kernel
theorem dX12_tie_9 : decode cX12_tie 9 = .ok (.aload_n 0, 1) := by decide +kernel
theorem dX12_tie_10 : decode cX12_tie 10 = .ok (.iload_n 1, 1) := by decide +kernel
theorem dX12_tie_11 : decode cX12_tie 11 = .ok (.invokevirtual 287, 3) := by decide +kernel
theorem dX12_tie_14 : decode cX12_tie 14 = .ok (.ifCond .eq 25, 3) := by decide +kernel
theorem dX12_tie_17 : decode cX12_tie 17 = .ok (.aload_n 0, 1) := by decide +kernel
theorem dX12_tie_18 : decode cX12_tie 18 = .ok (.iload_n 2, 1) := by decide +kernel
theorem dX12_tie_19 : decode cX12_tie 19 = .ok (.invokevirtual 287, 3) := by decide +kernel
theorem dX12_tie_22 : decode cX12_tie 22 = .ok (.ifCond .eq 17, 3) := by decide +kernel
theorem dX12_tie_25 : decode cX12_tie 25 = .ok (.aload_n 0, 1) := by decide +kernel
theorem dX12_tie_26 : decode cX12_tie 26 = .ok (.getfield 96, 3) := by decide +kernel
theorem dX12_tie_29 : decode cX12_tie 29 = .ok (.bipush 30, 2) := by decide +kernel
theorem dX12_tie_31 : decode cX12_tie 31 = .ok (.iload_n 1, 1) := by decide +kernel
theorem dX12_tie_32 : decode cX12_tie 32 = .ok (.imul, 1) := by decide +kernel
theorem dX12_tie_33 : decode cX12_tie 33 = .ok (.iload_n 2, 1) := by decide +kernel
theorem dX12_tie_34 : decode cX12_tie 34 = .ok (.iadd, 1) := by decide +kernel
theorem dX12_tie_35 : decode cX12_tie 35 = .ok (.iaload, 1) := by decide +kernel
theorem dX12_tie_36 : decode cX12_tie 36 = .ok (.goto 4, 3) := by decide +kernel
theorem dX12_tie_39 : decode cX12_tie 39 = .ok (.iconst (-1), 1) := by decide +kernel
theorem dX12_tie_40 : decode cX12_tie 40 = .ok (.ireturn, 1) := by decide +kernel
theorem dX12_leastTie_0 : decode cX12_leastTie 0 = .ok (.iconst (-1), 1) := by decide +kernel
theorem dX12_leastTie_1 : decode cX12_leastTie 1 = .ok (.istore_n 1, 1) := by decide +kernel
theorem dX12_leastTie_2 : decode cX12_leastTie 2 = .ok (.iconst 0, 1) := by decide +kernel
theorem dX12_leastTie_3 : decode cX12_leastTie 3 = .ok (.istore_n 2, 1) := by decide +kernel
theorem dX12_leastTie_4 : decode cX12_leastTie 4 = .ok (.iload_n 2, 1) := by decide +kernel
theorem dX12_leastTie_5 : decode cX12_leastTie 5 = .ok (.sipush 900, 3) := by decide +kernel
theorem dX12_leastTie_8 : decode cX12_leastTie 8 = .ok (.if_icmp .ge 33, 3) := by decide +kernel
theorem dX12_leastTie_11 : decode cX12_leastTie 11 = .ok (.aload_n 0, 1) := by decide +kernel
theorem dX12_leastTie_12 : decode cX12_leastTie 12 = .ok (.getfield 96, 3) := by decide +kernel
theorem dX12_leastTie_15 : decode cX12_leastTie 15 = .ok (.iload_n 2, 1) := by decide +kernel
theorem dX12_leastTie_16 : decode cX12_leastTie 16 = .ok (.iaload, 1) := by decide +kernel
theorem dX12_leastTie_17 : decode cX12_leastTie 17 = .ok (.ifCond .ge 7, 3) := by decide +kernel
theorem dX12_leastTie_20 : decode cX12_leastTie 20 = .ok (.iload_n 1, 1) := by decide +kernel
theorem dX12_leastTie_21 : decode cX12_leastTie 21 = .ok (.goto 13, 3) := by decide +kernel
theorem dX12_leastTie_24 : decode cX12_leastTie 24 = .ok (.iload_n 1, 1) := by decide +kernel
theorem dX12_leastTie_25 : decode cX12_leastTie 25 = .ok (.aload_n 0, 1) := by decide +kernel
theorem dX12_leastTie_26 : decode cX12_leastTie 26 = .ok (.getfield 96, 3) := by decide +kernel
theorem dX12_leastTie_29 : decode cX12_leastTie 29 = .ok (.iload_n 2, 1) := by decide +kernel
theorem dX12_leastTie_30 : decode cX12_leastTie 30 = .ok (.iaload, 1) := by decide +kernel
theorem dX12_leastTie_31 : decode cX12_leastTie 31 = .ok (.invokestatic 314, 3) := by decide +kernel
theorem dX12_leastTie_34 : decode cX12_leastTie 34 = .ok (.istore_n 1, 1) := by decide +kernel
theorem dX12_leastTie_35 : decode cX12_leastTie 35 = .ok (.iinc 2 1, 3) := by decide +kernel
theorem dX12_leastTie_38 : decode cX12_leastTie 38 = .ok (.goto (-34), 3) := by decide +kernel
theorem dX12_leastTie_41 : decode cX12_leastTie 41 = .ok (.iload_n 1, 1) := by decide +kernel
theorem dX12_leastTie_42 : decode cX12_leastTie 42 = .ok (.ireturn, 1) := by decide +kernel
theorem dX12_boundOf_0 : decode cX12_boundOf 0 = .ok (.iconst 0, 1) := by decide +kernel
theorem dX12_boundOf_1 : decode cX12_boundOf 1 = .ok (.istore_n 2, 1) := by decide +kernel
theorem dX12_boundOf_2 : decode cX12_boundOf 2 = .ok (.iconst 0, 1) := by decide +kernel
theorem dX12_boundOf_3 : decode cX12_boundOf 3 = .ok (.istore_n 3, 1) := by decide +kernel
theorem dX12_boundOf_4 : decode cX12_boundOf 4 = .ok (.iload_n 3, 1) := by decide +kernel
theorem dX12_boundOf_5 : decode cX12_boundOf 5 = .ok (.aload_n 0, 1) := by decide +kernel
theorem dX12_boundOf_6 : decode cX12_boundOf 6 = .ok (.getfield 226, 3) := by decide +kernel
theorem dX12_boundOf_9 : decode cX12_boundOf 9 = .ok (.if_icmp .ge 79, 3) := by decide +kernel
theorem dX12_boundOf_12 : decode cX12_boundOf 12 = .ok (.iconst (-1), 1) := by decide +kernel
theorem dX12_boundOf_13 : decode cX12_boundOf 13 = .ok (.istore 4, 2) := by decide +kernel
theorem dX12_boundOf_15 : decode cX12_boundOf 15 = .ok (.iconst 0, 1) := by decide +kernel
theorem dX12_boundOf_16 : decode cX12_boundOf 16 = .ok (.istore 5, 2) := by decide +kernel
theorem dX12_boundOf_18 : decode cX12_boundOf 18 = .ok (.iload 5, 2) := by decide +kernel
theorem dX12_boundOf_20 : decode cX12_boundOf 20 = .ok (.aload_n 0, 1) := by decide +kernel
theorem dX12_boundOf_21 : decode cX12_boundOf 21 = .ok (.getfield 223, 3) := by decide +kernel
theorem dX12_boundOf_24 : decode cX12_boundOf 24 = .ok (.if_icmp .ge 46, 3) := by decide +kernel
theorem dX12_boundOf_27 : decode cX12_boundOf 27 = .ok (.aload_n 0, 1) := by decide +kernel
theorem dX12_boundOf_28 : decode cX12_boundOf 28 = .ok (.getfield 105, 3) := by decide +kernel
theorem dX12_boundOf_31 : decode cX12_boundOf 31 = .ok (.iconst 4, 1) := by decide +kernel
theorem dX12_boundOf_32 : decode cX12_boundOf 32 = .ok (.iload 5, 2) := by decide +kernel
theorem dX12_boundOf_34 : decode cX12_boundOf 34 = .ok (.imul, 1) := by decide +kernel
theorem dX12_boundOf_35 : decode cX12_boundOf 35 = .ok (.iload_n 3, 1) := by decide +kernel
theorem dX12_boundOf_36 : decode cX12_boundOf 36 = .ok (.iadd, 1) := by decide +kernel
theorem dX12_boundOf_37 : decode cX12_boundOf 37 = .ok (.iaload, 1) := by decide +kernel
theorem dX12_boundOf_38 : decode cX12_boundOf 38 = .ok (.ifCond .ge 8, 3) := by decide +kernel
theorem dX12_boundOf_41 : decode cX12_boundOf 41 = .ok (.iload 4, 2) := by decide +kernel
theorem dX12_boundOf_43 : decode cX12_boundOf 43 = .ok (.goto 19, 3) := by decide +kernel
theorem dX12_boundOf_46 : decode cX12_boundOf 46 = .ok (.iload 4, 2) := by decide +kernel
theorem dX12_boundOf_48 : decode cX12_boundOf 48 = .ok (.aload_n 0, 1) := by decide +kernel
theorem dX12_boundOf_49 : decode cX12_boundOf 49 = .ok (.getfield 105, 3) := by decide +kernel
theorem dX12_boundOf_52 : decode cX12_boundOf 52 = .ok (.iconst 4, 1) := by decide +kernel
theorem dX12_boundOf_53 : decode cX12_boundOf 53 = .ok (.iload 5, 2) := by decide +kernel
theorem dX12_boundOf_55 : decode cX12_boundOf 55 = .ok (.imul, 1) := by decide +kernel
theorem dX12_boundOf_56 : decode cX12_boundOf 56 = .ok (.iload_n 3, 1) := by decide +kernel
theorem dX12_boundOf_57 : decode cX12_boundOf 57 = .ok (.iadd, 1) := by decide +kernel
theorem dX12_boundOf_58 : decode cX12_boundOf 58 = .ok (.iaload, 1) := by decide +kernel
theorem dX12_boundOf_59 : decode cX12_boundOf 59 = .ok (.invokestatic 314, 3) := by decide +kernel
theorem dX12_boundOf_62 : decode cX12_boundOf 62 = .ok (.istore 4, 2) := by decide +kernel
theorem dX12_boundOf_64 : decode cX12_boundOf 64 = .ok (.iinc 5 1, 3) := by decide +kernel
theorem dX12_boundOf_67 : decode cX12_boundOf 67 = .ok (.goto (-49), 3) := by decide +kernel
theorem dX12_boundOf_70 : decode cX12_boundOf 70 = .ok (.iload 4, 2) := by decide +kernel
theorem dX12_boundOf_72 : decode cX12_boundOf 72 = .ok (.ifCond .ge 5, 3) := by decide +kernel
theorem dX12_boundOf_75 : decode cX12_boundOf 75 = .ok (.iconst (-1), 1) := by decide +kernel
theorem dX12_boundOf_76 : decode cX12_boundOf 76 = .ok (.ireturn, 1) := by decide +kernel
theorem dX12_boundOf_77 : decode cX12_boundOf 77 = .ok (.iload_n 2, 1) := by decide +kernel
theorem dX12_boundOf_78 : decode cX12_boundOf 78 = .ok (.iload 4, 2) := by decide +kernel
theorem dX12_boundOf_80 : decode cX12_boundOf 80 = .ok (.iadd, 1) := by decide +kernel
theorem dX12_boundOf_81 : decode cX12_boundOf 81 = .ok (.istore_n 2, 1) := by decide +kernel
theorem dX12_boundOf_82 : decode cX12_boundOf 82 = .ok (.iinc 3 1, 3) := by decide +kernel
theorem dX12_boundOf_85 : decode cX12_boundOf 85 = .ok (.goto (-81), 3) := by decide +kernel
theorem dX12_boundOf_88 : decode cX12_boundOf 88 = .ok (.iload_n 1, 1) := by decide +kernel
theorem dX12_boundOf_89 : decode cX12_boundOf 89 = .ok (.iconst 1, 1) := by decide +kernel
theorem dX12_boundOf_90 : decode cX12_boundOf 90 = .ok (.if_icmp .ne 5, 3) := by decide +kernel
theorem dX12_boundOf_93 : decode cX12_boundOf 93 = .ok (.iload_n 2, 1) := by decide +kernel
theorem dX12_boundOf_94 : decode cX12_boundOf 94 = .ok (.ireturn, 1) := by decide +kernel
theorem dX12_boundOf_95 : decode cX12_boundOf 95 = .ok (.aload_n 0, 1) := by decide +kernel
theorem dX12_boundOf_96 : decode cX12_boundOf 96 = .ok (.invokevirtual 390, 3) := by decide +kernel
theorem dX12_boundOf_99 : decode cX12_boundOf 99 = .ok (.ifCond .ge 7, 3) := by decide +kernel
theorem dX12_boundOf_102 : decode cX12_boundOf 102 = .ok (.iconst (-1), 1) := by decide +kernel
theorem dX12_boundOf_103 : decode cX12_boundOf 103 = .ok (.goto 13, 3) := by decide +kernel
theorem dX12_boundOf_106 : decode cX12_boundOf 106 = .ok (.iload_n 2, 1) := by decide +kernel
theorem dX12_boundOf_107 : decode cX12_boundOf 107 = .ok (.iload_n 1, 1) := by decide +kernel
theorem dX12_boundOf_108 : decode cX12_boundOf 108 = .ok (.iconst 1, 1) := by decide +kernel
theorem dX12_boundOf_109 : decode cX12_boundOf 109 = .ok (.isub, 1) := by decide +kernel
theorem dX12_boundOf_110 : decode cX12_boundOf 110 = .ok (.aload_n 0, 1) := by decide +kernel
theorem dX12_boundOf_111 : decode cX12_boundOf 111 = .ok (.invokevirtual 390, 3) := by decide +kernel
theorem dX12_boundOf_114 : decode cX12_boundOf 114 = .ok (.imul, 1) := by decide +kernel
theorem dX12_boundOf_115 : decode cX12_boundOf 115 = .ok (.iadd, 1) := by decide +kernel
theorem dX12_boundOf_116 : decode cX12_boundOf 116 = .ok (.ireturn, 1) := by decide +kernel
theorem dX12_looks_0 : decode cX12_looks 0 = .ok (.aload_n 0, 1) := by decide +kernel
theorem dX12_looks_1 : decode cX12_looks 1 = .ok (.iconst 0, 1) := by decide +kernel
theorem dX12_looks_2 : decode cX12_looks 2 = .ok (.putfield 1, 3) := by decide +kernel
theorem dX12_looks_5 : decode cX12_looks 5 = .ok (.aload_n 0, 1) := by decide +kernel
theorem dX12_looks_6 : decode cX12_looks 6 = .ok (.getfield 226, 3) := by decide +kernel
theorem dX12_looks_9 : decode cX12_looks 9 = .ok (.ifCond .eq 23, 3) := by decide +kernel
theorem dX12_looks_12 : decode cX12_looks 12 = .ok (.iload_n 1, 1) := by decide +kernel
theorem dX12_looks_13 : decode cX12_looks 13 = .ok (.iconst 0, 1) := by decide +kernel
theorem dX12_looks_14 : decode cX12_looks 14 = .ok (.ldc_w 393, 3) := by decide +kernel
theorem dX12_looks_17 : decode cX12_looks 17 = .ok (.invokestatic 277, 3) := by decide +kernel
theorem dX12_looks_20 : decode cX12_looks 20 = .ok (.ifCond .eq 12, 3) := by decide +kernel
theorem dX12_looks_23 : decode cX12_looks 23 = .ok (.iload_n 2, 1) := by decide +kernel
theorem dX12_looks_24 : decode cX12_looks 24 = .ok (.iconst 0, 1) := by decide +kernel
theorem dX12_looks_25 : decode cX12_looks 25 = .ok (.iconst 2, 1) := by decide +kernel
theorem dX12_looks_26 : decode cX12_looks 26 = .ok (.invokestatic 277, 3) := by decide +kernel
theorem dX12_looks_29 : decode cX12_looks 29 = .ok (.ifCond .ne 5, 3) := by decide +kernel
theorem dX12_looks_32 : decode cX12_looks 32 = .ok (.iconst (-1), 1) := by decide +kernel
theorem dX12_looks_33 : decode cX12_looks 33 = .ok (.ireturn, 1) := by decide +kernel
theorem dX12_looks_34 : decode cX12_looks 34 = .ok (.aload_n 0, 1) := by decide +kernel
theorem dX12_looks_35 : decode cX12_looks 35 = .ok (.invokevirtual 271, 3) := by decide +kernel
theorem dX12_looks_38 : decode cX12_looks 38 = .ok (.iconst 1, 1) := by decide +kernel
theorem dX12_looks_39 : decode cX12_looks 39 = .ok (.aload_n 0, 1) := by decide +kernel
theorem dX12_looks_40 : decode cX12_looks 40 = .ok (.getfield 226, 3) := by decide +kernel
theorem dX12_looks_43 : decode cX12_looks 43 = .ok (.ishl, 1) := by decide +kernel
theorem dX12_looks_44 : decode cX12_looks 44 = .ok (.iconst 1, 1) := by decide +kernel
theorem dX12_looks_45 : decode cX12_looks 45 = .ok (.isub, 1) := by decide +kernel
theorem dX12_looks_46 : decode cX12_looks 46 = .ok (.istore_n 3, 1) := by decide +kernel
theorem dX12_looks_47 : decode cX12_looks 47 = .ok (.iconst 0, 1) := by decide +kernel
theorem dX12_looks_48 : decode cX12_looks 48 = .ok (.istore 4, 2) := by decide +kernel
theorem dX12_looks_50 : decode cX12_looks 50 = .ok (.iconst (-1), 1) := by decide +kernel
theorem dX12_looks_51 : decode cX12_looks 51 = .ok (.istore 5, 2) := by decide +kernel
theorem dX12_looks_53 : decode cX12_looks 53 = .ok (.iconst 1, 1) := by decide +kernel
theorem dX12_looks_54 : decode cX12_looks 54 = .ok (.istore 6, 2) := by decide +kernel
theorem dX12_looks_56 : decode cX12_looks 56 = .ok (.iload 6, 2) := by decide +kernel
theorem dX12_looks_58 : decode cX12_looks 58 = .ok (.aload_n 0, 1) := by decide +kernel
theorem dX12_looks_59 : decode cX12_looks 59 = .ok (.getfield 149, 3) := by decide +kernel
theorem dX12_looks_62 : decode cX12_looks 62 = .ok (.if_icmp .gt 137, 3) := by decide +kernel
theorem dX12_looks_65 : decode cX12_looks 65 = .ok (.iload 6, 2) := by decide +kernel
theorem dX12_looks_67 : decode cX12_looks 67 = .ok (.aload_n 0, 1) := by decide +kernel
theorem dX12_looks_68 : decode cX12_looks 68 = .ok (.getfield 223, 3) := by decide +kernel
theorem dX12_looks_71 : decode cX12_looks 71 = .ok (.if_icmp .gt 128, 3) := by decide +kernel
theorem dX12_looks_74 : decode cX12_looks 74 = .ok (.iconst 1, 1) := by decide +kernel
theorem dX12_looks_75 : decode cX12_looks 75 = .ok (.iload 6, 2) := by decide +kernel
theorem dX12_looks_77 : decode cX12_looks 77 = .ok (.ishl, 1) := by decide +kernel
theorem dX12_looks_78 : decode cX12_looks 78 = .ok (.iconst 1, 1) := by decide +kernel
theorem dX12_looks_79 : decode cX12_looks 79 = .ok (.isub, 1) := by decide +kernel
theorem dX12_looks_80 : decode cX12_looks 80 = .ok (.istore 7, 2) := by decide +kernel
theorem dX12_looks_82 : decode cX12_looks 82 = .ok (.iload 7, 2) := by decide +kernel
theorem dX12_looks_84 : decode cX12_looks 84 = .ok (.iconst 1, 1) := by decide +kernel
theorem dX12_looks_85 : decode cX12_looks 85 = .ok (.aload_n 0, 1) := by decide +kernel
theorem dX12_looks_86 : decode cX12_looks 86 = .ok (.getfield 223, 3) := by decide +kernel
theorem dX12_looks_89 : decode cX12_looks 89 = .ok (.ishl, 1) := by decide +kernel
theorem dX12_looks_90 : decode cX12_looks 90 = .ok (.if_icmp .ge 103, 3) := by decide +kernel
theorem dX12_looks_93 : decode cX12_looks 93 = .ok (.iload 7, 2) := by decide +kernel
theorem dX12_looks_95 : decode cX12_looks 95 = .ok (.aload_n 0, 1) := by decide +kernel
theorem dX12_looks_96 : decode cX12_looks 96 = .ok (.getfield 337, 3) := by decide +kernel
theorem dX12_looks_99 : decode cX12_looks 99 = .ok (.iconst (-1), 1) := by decide +kernel
theorem dX12_looks_100 : decode cX12_looks 100 = .ok (.ixor, 1) := by decide +kernel
theorem dX12_looks_101 : decode cX12_looks 101 = .ok (.iand, 1) := by decide +kernel
theorem dX12_looks_102 : decode cX12_looks 102 = .ok (.ifCond .ne 81, 3) := by decide +kernel
theorem dX12_looks_105 : decode cX12_looks 105 = .ok (.aload_n 0, 1) := by decide +kernel
theorem dX12_looks_106 : decode cX12_looks 106 = .ok (.iload 7, 2) := by decide +kernel
theorem dX12_looks_108 : decode cX12_looks 108 = .ok (.invokevirtual 357, 3) := by decide +kernel
theorem dX12_looks_111 : decode cX12_looks 111 = .ok (.ifCond .eq 72, 3) := by decide +kernel
theorem dX12_looks_114 : decode cX12_looks 114 = .ok (.iload 4, 2) := by decide +kernel
theorem dX12_looks_116 : decode cX12_looks 116 = .ok (.iload_n 1, 1) := by decide +kernel
theorem dX12_looks_117 : decode cX12_looks 117 = .ok (.if_icmp .ne 29, 3) := by decide +kernel
theorem dX12_looks_120 : decode cX12_looks 120 = .ok (.iload_n 2, 1) := by decide +kernel
theorem dX12_looks_121 : decode cX12_looks 121 = .ok (.ifCond .ne 8, 3) := by decide +kernel
theorem dX12_looks_124 : decode cX12_looks 124 = .ok (.iload 5, 2) := by decide +kernel
theorem dX12_looks_126 : decode cX12_looks 126 = .ok (.goto 19, 3) := by decide +kernel
theorem dX12_looks_129 : decode cX12_looks 129 = .ok (.iload_n 2, 1) := by decide +kernel
theorem dX12_looks_130 : decode cX12_looks 130 = .ok (.iconst 1, 1) := by decide +kernel
theorem dX12_looks_131 : decode cX12_looks 131 = .ok (.if_icmp .ne 12, 3) := by decide +kernel
theorem dX12_looks_134 : decode cX12_looks 134 = .ok (.aload_n 0, 1) := by decide +kernel
theorem dX12_looks_135 : decode cX12_looks 135 = .ok (.iload 6, 2) := by decide +kernel
theorem dX12_looks_137 : decode cX12_looks 137 = .ok (.invokevirtual 394, 3) := by decide +kernel
theorem dX12_looks_140 : decode cX12_looks 140 = .ok (.goto 5, 3) := by decide +kernel
theorem dX12_looks_143 : decode cX12_looks 143 = .ok (.iload 4, 2) := by decide +kernel
theorem dX12_looks_145 : decode cX12_looks 145 = .ok (.ireturn, 1) := by decide +kernel
theorem dX12_looks_146 : decode cX12_looks 146 = .ok (.iinc 4 1, 3) := by decide +kernel
theorem dX12_looks_149 : decode cX12_looks 149 = .ok (.iload_n 2, 1) := by decide +kernel
theorem dX12_looks_150 : decode cX12_looks 150 = .ok (.ifCond .ne 33, 3) := by decide +kernel
theorem dX12_looks_153 : decode cX12_looks 153 = .ok (.aload_n 0, 1) := by decide +kernel
theorem dX12_looks_154 : decode cX12_looks 154 = .ok (.iload 7, 2) := by decide +kernel
theorem dX12_looks_156 : decode cX12_looks 156 = .ok (.iload_n 3, 1) := by decide +kernel
theorem dX12_looks_157 : decode cX12_looks 157 = .ok (.invokevirtual 369, 3) := by decide +kernel
theorem dX12_looks_160 : decode cX12_looks 160 = .ok (.ifCond .eq 23, 3) := by decide +kernel
theorem dX12_looks_163 : decode cX12_looks 163 = .ok (.iload 5, 2) := by decide +kernel
theorem dX12_looks_165 : decode cX12_looks 165 = .ok (.aload_n 0, 1) := by decide +kernel
theorem dX12_looks_166 : decode cX12_looks 166 = .ok (.iload 7, 2) := by decide +kernel
theorem dX12_looks_168 : decode cX12_looks 168 = .ok (.invokevirtual 372, 3) := by decide +kernel
theorem dX12_looks_171 : decode cX12_looks 171 = .ok (.aload_n 0, 1) := by decide +kernel
theorem dX12_looks_172 : decode cX12_looks 172 = .ok (.iload 7, 2) := by decide +kernel
theorem dX12_looks_174 : decode cX12_looks 174 = .ok (.invokevirtual 375, 3) := by decide +kernel
theorem dX12_looks_177 : decode cX12_looks 177 = .ok (.iadd, 1) := by decide +kernel
theorem dX12_looks_178 : decode cX12_looks 178 = .ok (.invokestatic 314, 3) := by decide +kernel
theorem dX12_looks_181 : decode cX12_looks 181 = .ok (.istore 5, 2) := by decide +kernel
theorem dX12_looks_183 : decode cX12_looks 183 = .ok (.iload 7, 2) := by decide +kernel
theorem dX12_looks_185 : decode cX12_looks 185 = .ok (.invokestatic 378, 3) := by decide +kernel
theorem dX12_looks_188 : decode cX12_looks 188 = .ok (.istore 7, 2) := by decide +kernel
theorem dX12_looks_190 : decode cX12_looks 190 = .ok (.goto (-108), 3) := by decide +kernel
theorem dX12_looks_193 : decode cX12_looks 193 = .ok (.iinc 6 1, 3) := by decide +kernel
theorem dX12_looks_196 : decode cX12_looks 196 = .ok (.goto (-140), 3) := by decide +kernel
theorem dX12_looks_199 : decode cX12_looks 199 = .ok (.iload_n 2, 1) := by decide +kernel
theorem dX12_looks_200 : decode cX12_looks 200 = .ok (.ifCond .ne 8, 3) := by decide +kernel
theorem dX12_looks_203 : decode cX12_looks 203 = .ok (.iload 5, 2) := by decide +kernel
theorem dX12_looks_205 : decode cX12_looks 205 = .ok (.goto 14, 3) := by decide +kernel
theorem dX12_looks_208 : decode cX12_looks 208 = .ok (.iload_n 2, 1) := by decide +kernel
theorem dX12_looks_209 : decode cX12_looks 209 = .ok (.iconst 1, 1) := by decide +kernel
theorem dX12_looks_210 : decode cX12_looks 210 = .ok (.if_icmp .ne 7, 3) := by decide +kernel
theorem dX12_looks_213 : decode cX12_looks 213 = .ok (.iconst (-1), 1) := by decide +kernel
theorem dX12_looks_214 : decode cX12_looks 214 = .ok (.goto 5, 3) := by decide +kernel
theorem dX12_looks_217 : decode cX12_looks 217 = .ok (.iload 4, 2) := by decide +kernel
theorem dX12_looks_219 : decode cX12_looks 219 = .ok (.ireturn, 1) := by decide +kernel
theorem dX12_codeOf_0 : decode cX12_codeOf 0 = .ok (.iconst 0, 1) := by decide +kernel
theorem dX12_codeOf_1 : decode cX12_codeOf 1 = .ok (.istore_n 2, 1) := by decide +kernel
theorem dX12_codeOf_2 : decode cX12_codeOf 2 = .ok (.iconst 4, 1) := by decide +kernel
theorem dX12_codeOf_3 : decode cX12_codeOf 3 = .ok (.istore_n 3, 1) := by decide +kernel
theorem dX12_codeOf_4 : decode cX12_codeOf 4 = .ok (.iload_n 3, 1) := by decide +kernel
theorem dX12_codeOf_5 : decode cX12_codeOf 5 = .ok (.ifCond .lt 69, 3) := by decide +kernel
theorem dX12_codeOf_8 : decode cX12_codeOf 8 = .ok (.iconst 0, 1) := by decide +kernel
theorem dX12_codeOf_9 : decode cX12_codeOf 9 = .ok (.istore 4, 2) := by decide +kernel
theorem dX12_codeOf_11 : decode cX12_codeOf 11 = .ok (.iconst 0, 1) := by decide +kernel
theorem dX12_codeOf_12 : decode cX12_codeOf 12 = .ok (.istore 5, 2) := by decide +kernel
theorem dX12_codeOf_14 : decode cX12_codeOf 14 = .ok (.iload 5, 2) := by decide +kernel
theorem dX12_codeOf_16 : decode cX12_codeOf 16 = .ok (.aload_n 0, 1) := by decide +kernel
theorem dX12_codeOf_17 : decode cX12_codeOf 17 = .ok (.getfield 223, 3) := by decide +kernel
theorem dX12_codeOf_20 : decode cX12_codeOf 20 = .ok (.if_icmp .ge 40, 3) := by decide +kernel
theorem dX12_codeOf_23 : decode cX12_codeOf 23 = .ok (.iload 4, 2) := by decide +kernel
theorem dX12_codeOf_25 : decode cX12_codeOf 25 = .ok (.iload_n 1, 1) := by decide +kernel
theorem dX12_codeOf_26 : decode cX12_codeOf 26 = .ok (.iload 5, 2) := by decide +kernel
theorem dX12_codeOf_28 : decode cX12_codeOf 28 = .ok (.ishr, 1) := by decide +kernel
theorem dX12_codeOf_29 : decode cX12_codeOf 29 = .ok (.iconst 1, 1) := by decide +kernel
theorem dX12_codeOf_30 : decode cX12_codeOf 30 = .ok (.iand, 1) := by decide +kernel
theorem dX12_codeOf_31 : decode cX12_codeOf 31 = .ok (.iconst 1, 1) := by decide +kernel
theorem dX12_codeOf_32 : decode cX12_codeOf 32 = .ok (.if_icmp .ne 18, 3) := by decide +kernel
theorem dX12_codeOf_35 : decode cX12_codeOf 35 = .ok (.aload_n 0, 1) := by decide +kernel
theorem dX12_codeOf_36 : decode cX12_codeOf 36 = .ok (.getfield 68, 3) := by decide +kernel
theorem dX12_codeOf_39 : decode cX12_codeOf 39 = .ok (.iload 5, 2) := by decide +kernel
theorem dX12_codeOf_41 : decode cX12_codeOf 41 = .ok (.iaload, 1) := by decide +kernel
theorem dX12_codeOf_42 : decode cX12_codeOf 42 = .ok (.iload_n 3, 1) := by decide +kernel
theorem dX12_codeOf_43 : decode cX12_codeOf 43 = .ok (.if_icmp .ne 7, 3) := by decide +kernel
theorem dX12_codeOf_46 : decode cX12_codeOf 46 = .ok (.iconst 1, 1) := by decide +kernel
theorem dX12_codeOf_47 : decode cX12_codeOf 47 = .ok (.goto 4, 3) := by decide +kernel
theorem dX12_codeOf_50 : decode cX12_codeOf 50 = .ok (.iconst 0, 1) := by decide +kernel
theorem dX12_codeOf_51 : decode cX12_codeOf 51 = .ok (.iadd, 1) := by decide +kernel
theorem dX12_codeOf_52 : decode cX12_codeOf 52 = .ok (.istore 4, 2) := by decide +kernel
theorem dX12_codeOf_54 : decode cX12_codeOf 54 = .ok (.iinc 5 1, 3) := by decide +kernel
theorem dX12_codeOf_57 : decode cX12_codeOf 57 = .ok (.goto (-43), 3) := by decide +kernel
theorem dX12_codeOf_60 : decode cX12_codeOf 60 = .ok (.bipush 6, 2) := by decide +kernel
theorem dX12_codeOf_62 : decode cX12_codeOf 62 = .ok (.iload_n 2, 1) := by decide +kernel
theorem dX12_codeOf_63 : decode cX12_codeOf 63 = .ok (.imul, 1) := by decide +kernel
theorem dX12_codeOf_64 : decode cX12_codeOf 64 = .ok (.iload 4, 2) := by decide +kernel
theorem dX12_codeOf_66 : decode cX12_codeOf 66 = .ok (.iadd, 1) := by decide +kernel
theorem dX12_codeOf_67 : decode cX12_codeOf 67 = .ok (.istore_n 2, 1) := by decide +kernel
theorem dX12_codeOf_68 : decode cX12_codeOf 68 = .ok (.iinc 3 (-1), 3) := by decide +kernel
theorem dX12_codeOf_71 : decode cX12_codeOf 71 = .ok (.goto (-67), 3) := by decide +kernel
theorem dX12_codeOf_74 : decode cX12_codeOf 74 = .ok (.iconst 0, 1) := by decide +kernel
theorem dX12_codeOf_75 : decode cX12_codeOf 75 = .ok (.istore_n 3, 1) := by decide +kernel
theorem dX12_codeOf_76 : decode cX12_codeOf 76 = .ok (.iload_n 3, 1) := by decide +kernel
theorem dX12_codeOf_77 : decode cX12_codeOf 77 = .ok (.iconst 4, 1) := by decide +kernel
theorem dX12_codeOf_78 : decode cX12_codeOf 78 = .ok (.if_icmp .ge 37, 3) := by decide +kernel
theorem dX12_codeOf_81 : decode cX12_codeOf 81 = .ok (.iconst 5, 1) := by decide +kernel
theorem dX12_codeOf_82 : decode cX12_codeOf 82 = .ok (.iload_n 2, 1) := by decide +kernel
theorem dX12_codeOf_83 : decode cX12_codeOf 83 = .ok (.imul, 1) := by decide +kernel
theorem dX12_codeOf_84 : decode cX12_codeOf 84 = .ok (.iload_n 3, 1) := by decide +kernel
theorem dX12_codeOf_85 : decode cX12_codeOf 85 = .ok (.aload_n 0, 1) := by decide +kernel
theorem dX12_codeOf_86 : decode cX12_codeOf 86 = .ok (.getfield 226, 3) := by decide +kernel
theorem dX12_codeOf_89 : decode cX12_codeOf 89 = .ok (.if_icmp .ge 17, 3) := by decide +kernel
theorem dX12_codeOf_92 : decode cX12_codeOf 92 = .ok (.aload_n 0, 1) := by decide +kernel
theorem dX12_codeOf_93 : decode cX12_codeOf 93 = .ok (.getfield 68, 3) := by decide +kernel
theorem dX12_codeOf_96 : decode cX12_codeOf 96 = .ok (.aload_n 0, 1) := by decide +kernel
theorem dX12_codeOf_97 : decode cX12_codeOf 97 = .ok (.iload_n 1, 1) := by decide +kernel
theorem dX12_codeOf_98 : decode cX12_codeOf 98 = .ok (.iload_n 3, 1) := by decide +kernel
theorem dX12_codeOf_99 : decode cX12_codeOf 99 = .ok (.invokevirtual 360, 3) := by decide +kernel
theorem dX12_codeOf_102 : decode cX12_codeOf 102 = .ok (.iaload, 1) := by decide +kernel
theorem dX12_codeOf_103 : decode cX12_codeOf 103 = .ok (.goto 4, 3) := by decide +kernel
theorem dX12_codeOf_106 : decode cX12_codeOf 106 = .ok (.iconst 0, 1) := by decide +kernel
theorem dX12_codeOf_107 : decode cX12_codeOf 107 = .ok (.iadd, 1) := by decide +kernel
theorem dX12_codeOf_108 : decode cX12_codeOf 108 = .ok (.istore_n 2, 1) := by decide +kernel
theorem dX12_codeOf_109 : decode cX12_codeOf 109 = .ok (.iinc 3 1, 3) := by decide +kernel
theorem dX12_codeOf_112 : decode cX12_codeOf 112 = .ok (.goto (-36), 3) := by decide +kernel
theorem dX12_codeOf_115 : decode cX12_codeOf 115 = .ok (.iload_n 2, 1) := by decide +kernel
theorem dX12_codeOf_116 : decode cX12_codeOf 116 = .ok (.ireturn, 1) := by decide +kernel
theorem dX12_questionOf_0 : decode cX12_questionOf 0 = .ok (.aload_n 0, 1) := by decide +kernel
theorem dX12_questionOf_1 : decode cX12_questionOf 1 = .ok (.getfield 121, 3) := by decide +kernel
theorem dX12_questionOf_4 : decode cX12_questionOf 4 = .ok (.iload_n 1, 1) := by decide +kernel
theorem dX12_questionOf_5 : decode cX12_questionOf 5 = .ok (.sipush 4099, 3) := by decide +kernel
theorem dX12_questionOf_8 : decode cX12_questionOf 8 = .ok (.irem, 1) := by decide +kernel
theorem dX12_questionOf_9 : decode cX12_questionOf 9 = .ok (.iaload, 1) := by decide +kernel
theorem dX12_questionOf_10 : decode cX12_questionOf 10 = .ok (.istore_n 2, 1) := by decide +kernel
theorem dX12_questionOf_11 : decode cX12_questionOf 11 = .ok (.iload_n 2, 1) := by decide +kernel
theorem dX12_questionOf_12 : decode cX12_questionOf 12 = .ok (.ifCond .lt 23, 3) := by decide +kernel
theorem dX12_questionOf_15 : decode cX12_questionOf 15 = .ok (.aload_n 0, 1) := by decide +kernel
theorem dX12_questionOf_16 : decode cX12_questionOf 16 = .ok (.getfield 128, 3) := by decide +kernel
theorem dX12_questionOf_19 : decode cX12_questionOf 19 = .ok (.iload_n 2, 1) := by decide +kernel
theorem dX12_questionOf_20 : decode cX12_questionOf 20 = .ok (.iaload, 1) := by decide +kernel
theorem dX12_questionOf_21 : decode cX12_questionOf 21 = .ok (.iload_n 1, 1) := by decide +kernel
theorem dX12_questionOf_22 : decode cX12_questionOf 22 = .ok (.if_icmp .eq 13, 3) := by decide +kernel
theorem dX12_questionOf_25 : decode cX12_questionOf 25 = .ok (.aload_n 0, 1) := by decide +kernel
theorem dX12_questionOf_26 : decode cX12_questionOf 26 = .ok (.getfield 125, 3) := by decide +kernel
theorem dX12_questionOf_29 : decode cX12_questionOf 29 = .ok (.iload_n 2, 1) := by decide +kernel
theorem dX12_questionOf_30 : decode cX12_questionOf 30 = .ok (.iaload, 1) := by decide +kernel
theorem dX12_questionOf_31 : decode cX12_questionOf 31 = .ok (.istore_n 2, 1) := by decide +kernel
theorem dX12_questionOf_32 : decode cX12_questionOf 32 = .ok (.goto (-21), 3) := by decide +kernel
theorem dX12_questionOf_35 : decode cX12_questionOf 35 = .ok (.iload_n 2, 1) := by decide +kernel
theorem dX12_questionOf_36 : decode cX12_questionOf 36 = .ok (.ireturn, 1) := by decide +kernel
theorem dX12_findQuestions_0 : decode cX12_findQuestions 0 = .ok (.aload_n 0, 1) := by decide +kernel
theorem dX12_findQuestions_1 : decode cX12_findQuestions 1 = .ok (.iconst 0, 1) := by decide +kernel
theorem dX12_findQuestions_2 : decode cX12_findQuestions 2 = .ok (.putfield 397, 3) := by decide +kernel
theorem dX12_findQuestions_5 : decode cX12_findQuestions 5 = .ok (.iconst 0, 1) := by decide +kernel
theorem dX12_findQuestions_6 : decode cX12_findQuestions 6 = .ok (.istore_n 1, 1) := by decide +kernel
theorem dX12_findQuestions_7 : decode cX12_findQuestions 7 = .ok (.iload_n 1, 1) := by decide +kernel
theorem dX12_findQuestions_8 : decode cX12_findQuestions 8 = .ok (.sipush 4099, 3) := by decide +kernel
theorem dX12_findQuestions_11 : decode cX12_findQuestions 11 = .ok (.if_icmp .ge 16, 3) := by decide +kernel
theorem dX12_findQuestions_14 : decode cX12_findQuestions 14 = .ok (.aload_n 0, 1) := by decide +kernel
theorem dX12_findQuestions_15 : decode cX12_findQuestions 15 = .ok (.getfield 121, 3) := by decide +kernel
theorem dX12_findQuestions_18 : decode cX12_findQuestions 18 = .ok (.iload_n 1, 1) := by decide +kernel
theorem dX12_findQuestions_19 : decode cX12_findQuestions 19 = .ok (.iconst (-1), 1) := by decide +kernel
theorem dX12_findQuestions_20 : decode cX12_findQuestions 20 = .ok (.iastore, 1) := by decide +kernel
theorem dX12_findQuestions_21 : decode cX12_findQuestions 21 = .ok (.iinc 1 1, 3) := by decide +kernel
theorem dX12_findQuestions_24 : decode cX12_findQuestions 24 = .ok (.goto (-17), 3) := by decide +kernel
theorem dX12_findQuestions_27 : decode cX12_findQuestions 27 = .ok (.iconst 0, 1) := by decide +kernel
theorem dX12_findQuestions_28 : decode cX12_findQuestions 28 = .ok (.istore_n 1, 1) := by decide +kernel
theorem dX12_findQuestions_29 : decode cX12_findQuestions 29 = .ok (.iload_n 1, 1) := by decide +kernel
theorem dX12_findQuestions_30 : decode cX12_findQuestions 30 = .ok (.aload_n 0, 1) := by decide +kernel
theorem dX12_findQuestions_31 : decode cX12_findQuestions 31 = .ok (.getfield 366, 3) := by decide +kernel
theorem dX12_findQuestions_34 : decode cX12_findQuestions 34 = .ok (.if_icmp .ge 108, 3) := by decide +kernel
theorem dX12_findQuestions_37 : decode cX12_findQuestions 37 = .ok (.aload_n 0, 1) := by decide +kernel
theorem dX12_findQuestions_38 : decode cX12_findQuestions 38 = .ok (.aload_n 0, 1) := by decide +kernel
theorem dX12_findQuestions_39 : decode cX12_findQuestions 39 = .ok (.getfield 109, 3) := by decide +kernel
theorem dX12_findQuestions_42 : decode cX12_findQuestions 42 = .ok (.aload_n 0, 1) := by decide +kernel
theorem dX12_findQuestions_43 : decode cX12_findQuestions 43 = .ok (.getfield 115, 3) := by decide +kernel
theorem dX12_findQuestions_46 : decode cX12_findQuestions 46 = .ok (.iload_n 1, 1) := by decide +kernel
theorem dX12_findQuestions_47 : decode cX12_findQuestions 47 = .ok (.iaload, 1) := by decide +kernel
theorem dX12_findQuestions_48 : decode cX12_findQuestions 48 = .ok (.iaload, 1) := by decide +kernel
theorem dX12_findQuestions_49 : decode cX12_findQuestions 49 = .ok (.invokevirtual 387, 3) := by decide +kernel
theorem dX12_findQuestions_52 : decode cX12_findQuestions 52 = .ok (.istore_n 2, 1) := by decide +kernel
theorem dX12_findQuestions_53 : decode cX12_findQuestions 53 = .ok (.aload_n 0, 1) := by decide +kernel
theorem dX12_findQuestions_54 : decode cX12_findQuestions 54 = .ok (.iload_n 2, 1) := by decide +kernel
theorem dX12_findQuestions_55 : decode cX12_findQuestions 55 = .ok (.invokevirtual 274, 3) := by decide +kernel
theorem dX12_findQuestions_58 : decode cX12_findQuestions 58 = .ok (.istore_n 3, 1) := by decide +kernel
theorem dX12_findQuestions_59 : decode cX12_findQuestions 59 = .ok (.iload_n 3, 1) := by decide +kernel
theorem dX12_findQuestions_60 : decode cX12_findQuestions 60 = .ok (.ifCond .ge 66, 3) := by decide +kernel
theorem dX12_findQuestions_63 : decode cX12_findQuestions 63 = .ok (.aload_n 0, 1) := by decide +kernel
theorem dX12_findQuestions_64 : decode cX12_findQuestions 64 = .ok (.getfield 397, 3) := by decide +kernel
theorem dX12_findQuestions_67 : decode cX12_findQuestions 67 = .ok (.istore_n 3, 1) := by decide +kernel
theorem dX12_findQuestions_68 : decode cX12_findQuestions 68 = .ok (.aload_n 0, 1) := by decide +kernel
theorem dX12_findQuestions_69 : decode cX12_findQuestions 69 = .ok (.getfield 128, 3) := by decide +kernel
theorem dX12_findQuestions_72 : decode cX12_findQuestions 72 = .ok (.iload_n 3, 1) := by decide +kernel
theorem dX12_findQuestions_73 : decode cX12_findQuestions 73 = .ok (.iload_n 2, 1) := by decide +kernel
theorem dX12_findQuestions_74 : decode cX12_findQuestions 74 = .ok (.iastore, 1) := by decide +kernel
theorem dX12_findQuestions_75 : decode cX12_findQuestions 75 = .ok (.aload_n 0, 1) := by decide +kernel
theorem dX12_findQuestions_76 : decode cX12_findQuestions 76 = .ok (.getfield 131, 3) := by decide +kernel
theorem dX12_findQuestions_79 : decode cX12_findQuestions 79 = .ok (.iload_n 3, 1) := by decide +kernel
theorem dX12_findQuestions_80 : decode cX12_findQuestions 80 = .ok (.iload_n 1, 1) := by decide +kernel
theorem dX12_findQuestions_81 : decode cX12_findQuestions 81 = .ok (.iastore, 1) := by decide +kernel
theorem dX12_findQuestions_82 : decode cX12_findQuestions 82 = .ok (.aload_n 0, 1) := by decide +kernel
theorem dX12_findQuestions_83 : decode cX12_findQuestions 83 = .ok (.getfield 134, 3) := by decide +kernel
theorem dX12_findQuestions_86 : decode cX12_findQuestions 86 = .ok (.iload_n 3, 1) := by decide +kernel
theorem dX12_findQuestions_87 : decode cX12_findQuestions 87 = .ok (.iconst 0, 1) := by decide +kernel
theorem dX12_findQuestions_88 : decode cX12_findQuestions 88 = .ok (.iastore, 1) := by decide +kernel
theorem dX12_findQuestions_89 : decode cX12_findQuestions 89 = .ok (.aload_n 0, 1) := by decide +kernel
theorem dX12_findQuestions_90 : decode cX12_findQuestions 90 = .ok (.getfield 125, 3) := by decide +kernel
theorem dX12_findQuestions_93 : decode cX12_findQuestions 93 = .ok (.iload_n 3, 1) := by decide +kernel
theorem dX12_findQuestions_94 : decode cX12_findQuestions 94 = .ok (.aload_n 0, 1) := by decide +kernel
theorem dX12_findQuestions_95 : decode cX12_findQuestions 95 = .ok (.getfield 121, 3) := by decide +kernel
theorem dX12_findQuestions_98 : decode cX12_findQuestions 98 = .ok (.iload_n 2, 1) := by decide +kernel
theorem dX12_findQuestions_99 : decode cX12_findQuestions 99 = .ok (.sipush 4099, 3) := by decide +kernel
theorem dX12_findQuestions_102 : decode cX12_findQuestions 102 = .ok (.irem, 1) := by decide +kernel
theorem dX12_findQuestions_103 : decode cX12_findQuestions 103 = .ok (.iaload, 1) := by decide +kernel
theorem dX12_findQuestions_104 : decode cX12_findQuestions 104 = .ok (.iastore, 1) := by decide +kernel
theorem dX12_findQuestions_105 : decode cX12_findQuestions 105 = .ok (.aload_n 0, 1) := by decide +kernel
theorem dX12_findQuestions_106 : decode cX12_findQuestions 106 = .ok (.getfield 121, 3) := by decide +kernel
theorem dX12_findQuestions_109 : decode cX12_findQuestions 109 = .ok (.iload_n 2, 1) := by decide +kernel
theorem dX12_findQuestions_110 : decode cX12_findQuestions 110 = .ok (.sipush 4099, 3) := by decide +kernel
theorem dX12_findQuestions_113 : decode cX12_findQuestions 113 = .ok (.irem, 1) := by decide +kernel
theorem dX12_findQuestions_114 : decode cX12_findQuestions 114 = .ok (.iload_n 3, 1) := by decide +kernel
theorem dX12_findQuestions_115 : decode cX12_findQuestions 115 = .ok (.iastore, 1) := by decide +kernel
theorem dX12_findQuestions_116 : decode cX12_findQuestions 116 = .ok (.aload_n 0, 1) := by decide +kernel
theorem dX12_findQuestions_117 : decode cX12_findQuestions 117 = .ok (.dup, 1) := by decide +kernel
theorem dX12_findQuestions_118 : decode cX12_findQuestions 118 = .ok (.getfield 397, 3) := by decide +kernel
theorem dX12_findQuestions_121 : decode cX12_findQuestions 121 = .ok (.iconst 1, 1) := by decide +kernel
theorem dX12_findQuestions_122 : decode cX12_findQuestions 122 = .ok (.iadd, 1) := by decide +kernel
theorem dX12_findQuestions_123 : decode cX12_findQuestions 123 = .ok (.putfield 397, 3) := by decide +kernel
theorem dX12_findQuestions_126 : decode cX12_findQuestions 126 = .ok (.aload_n 0, 1) := by decide +kernel
theorem dX12_findQuestions_127 : decode cX12_findQuestions 127 = .ok (.getfield 134, 3) := by decide +kernel
theorem dX12_findQuestions_130 : decode cX12_findQuestions 130 = .ok (.iload_n 3, 1) := by decide +kernel
theorem dX12_findQuestions_131 : decode cX12_findQuestions 131 = .ok (.dup2, 1) := by decide +kernel
theorem dX12_findQuestions_132 : decode cX12_findQuestions 132 = .ok (.iaload, 1) := by decide +kernel
theorem dX12_findQuestions_133 : decode cX12_findQuestions 133 = .ok (.iconst 1, 1) := by decide +kernel
theorem dX12_findQuestions_134 : decode cX12_findQuestions 134 = .ok (.iadd, 1) := by decide +kernel
theorem dX12_findQuestions_135 : decode cX12_findQuestions 135 = .ok (.iastore, 1) := by decide +kernel
theorem dX12_findQuestions_136 : decode cX12_findQuestions 136 = .ok (.iinc 1 1, 3) := by decide +kernel
theorem dX12_findQuestions_139 : decode cX12_findQuestions 139 = .ok (.goto (-110), 3) := by decide +kernel
theorem dX12_findQuestions_142 : decode cX12_findQuestions 142 = .ok (.return_, 1) := by decide +kernel
theorem dX12_isQuestion_0 : decode cX12_isQuestion 0 = .ok (.aload_n 0, 1) := by decide +kernel
theorem dX12_isQuestion_1 : decode cX12_isQuestion 1 = .ok (.invokevirtual 271, 3) := by decide +kernel
theorem dX12_isQuestion_4 : decode cX12_isQuestion 4 = .ok (.iload_n 1, 1) := by decide +kernel
theorem dX12_isQuestion_5 : decode cX12_isQuestion 5 = .ok (.ifCond .lt 15, 3) := by decide +kernel
theorem dX12_isQuestion_8 : decode cX12_isQuestion 8 = .ok (.iload_n 1, 1) := by decide +kernel
theorem dX12_isQuestion_9 : decode cX12_isQuestion 9 = .ok (.aload_n 0, 1) := by decide +kernel
theorem dX12_isQuestion_10 : decode cX12_isQuestion 10 = .ok (.getfield 397, 3) := by decide +kernel
theorem dX12_isQuestion_13 : decode cX12_isQuestion 13 = .ok (.if_icmp .ge 7, 3) := by decide +kernel
theorem dX12_isQuestion_16 : decode cX12_isQuestion 16 = .ok (.iconst 1, 1) := by decide +kernel
theorem dX12_isQuestion_17 : decode cX12_isQuestion 17 = .ok (.goto 4, 3) := by decide +kernel
theorem dX12_isQuestion_20 : decode cX12_isQuestion 20 = .ok (.iconst 0, 1) := by decide +kernel
theorem dX12_isQuestion_21 : decode cX12_isQuestion 21 = .ok (.ireturn, 1) := by decide +kernel
theorem dX12_tablesOf_0 : decode cX12_tablesOf 0 = .ok (.aload_n 0, 1) := by decide +kernel
theorem dX12_tablesOf_1 : decode cX12_tablesOf 1 = .ok (.getfield 128, 3) := by decide +kernel
theorem dX12_tablesOf_4 : decode cX12_tablesOf 4 = .ok (.iload_n 1, 1) := by decide +kernel
theorem dX12_tablesOf_5 : decode cX12_tablesOf 5 = .ok (.iaload, 1) := by decide +kernel
theorem dX12_tablesOf_6 : decode cX12_tablesOf 6 = .ok (.sipush 625, 3) := by decide +kernel
theorem dX12_tablesOf_9 : decode cX12_tablesOf 9 = .ok (.idiv, 1) := by decide +kernel
theorem dX12_tablesOf_10 : decode cX12_tablesOf 10 = .ok (.ireturn, 1) := by decide +kernel
theorem dX12_rankOf_0 : decode cX12_rankOf 0 = .ok (.iconst 0, 1) := by decide +kernel
theorem dX12_rankOf_1 : decode cX12_rankOf 1 = .ok (.istore_n 2, 1) := by decide +kernel
theorem dX12_rankOf_2 : decode cX12_rankOf 2 = .ok (.iconst 0, 1) := by decide +kernel
theorem dX12_rankOf_3 : decode cX12_rankOf 3 = .ok (.istore_n 3, 1) := by decide +kernel
theorem dX12_rankOf_4 : decode cX12_rankOf 4 = .ok (.iload_n 3, 1) := by decide +kernel
theorem dX12_rankOf_5 : decode cX12_rankOf 5 = .ok (.aload_n 0, 1) := by decide +kernel
theorem dX12_rankOf_6 : decode cX12_rankOf 6 = .ok (.getfield 397, 3) := by decide +kernel
theorem dX12_rankOf_9 : decode cX12_rankOf 9 = .ok (.if_icmp .ge 55, 3) := by decide +kernel
theorem dX12_rankOf_12 : decode cX12_rankOf 12 = .ok (.aload_n 0, 1) := by decide +kernel
theorem dX12_rankOf_13 : decode cX12_rankOf 13 = .ok (.getfield 137, 3) := by decide +kernel
theorem dX12_rankOf_16 : decode cX12_rankOf 16 = .ok (.aload_n 0, 1) := by decide +kernel
theorem dX12_rankOf_17 : decode cX12_rankOf 17 = .ok (.iload_n 3, 1) := by decide +kernel
theorem dX12_rankOf_18 : decode cX12_rankOf 18 = .ok (.invokevirtual 400, 3) := by decide +kernel
theorem dX12_rankOf_21 : decode cX12_rankOf 21 = .ok (.iaload, 1) := by decide +kernel
theorem dX12_rankOf_22 : decode cX12_rankOf 22 = .ok (.aload_n 0, 1) := by decide +kernel
theorem dX12_rankOf_23 : decode cX12_rankOf 23 = .ok (.getfield 137, 3) := by decide +kernel
theorem dX12_rankOf_26 : decode cX12_rankOf 26 = .ok (.aload_n 0, 1) := by decide +kernel
theorem dX12_rankOf_27 : decode cX12_rankOf 27 = .ok (.iload_n 1, 1) := by decide +kernel
theorem dX12_rankOf_28 : decode cX12_rankOf 28 = .ok (.invokevirtual 400, 3) := by decide +kernel
theorem dX12_rankOf_31 : decode cX12_rankOf 31 = .ok (.iaload, 1) := by decide +kernel
theorem dX12_rankOf_32 : decode cX12_rankOf 32 = .ok (.isub, 1) := by decide +kernel
theorem dX12_rankOf_33 : decode cX12_rankOf 33 = .ok (.istore 4, 2) := by decide +kernel
theorem dX12_rankOf_35 : decode cX12_rankOf 35 = .ok (.iload_n 2, 1) := by decide +kernel
theorem dX12_rankOf_36 : decode cX12_rankOf 36 = .ok (.iload 4, 2) := by decide +kernel
theorem dX12_rankOf_38 : decode cX12_rankOf 38 = .ok (.ifCond .gt 13, 3) := by decide +kernel
theorem dX12_rankOf_41 : decode cX12_rankOf 41 = .ok (.iload 4, 2) := by decide +kernel
theorem dX12_rankOf_43 : decode cX12_rankOf 43 = .ok (.ifCond .ne 12, 3) := by decide +kernel
theorem dX12_rankOf_46 : decode cX12_rankOf 46 = .ok (.iload_n 3, 1) := by decide +kernel
theorem dX12_rankOf_47 : decode cX12_rankOf 47 = .ok (.iload_n 1, 1) := by decide +kernel
theorem dX12_rankOf_48 : decode cX12_rankOf 48 = .ok (.if_icmp .ge 7, 3) := by decide +kernel
theorem dX12_rankOf_51 : decode cX12_rankOf 51 = .ok (.iconst 1, 1) := by decide +kernel
theorem dX12_rankOf_52 : decode cX12_rankOf 52 = .ok (.goto 4, 3) := by decide +kernel
theorem dX12_rankOf_55 : decode cX12_rankOf 55 = .ok (.iconst 0, 1) := by decide +kernel
theorem dX12_rankOf_56 : decode cX12_rankOf 56 = .ok (.iadd, 1) := by decide +kernel
theorem dX12_rankOf_57 : decode cX12_rankOf 57 = .ok (.istore_n 2, 1) := by decide +kernel
theorem dX12_rankOf_58 : decode cX12_rankOf 58 = .ok (.iinc 3 1, 3) := by decide +kernel
theorem dX12_rankOf_61 : decode cX12_rankOf 61 = .ok (.goto (-57), 3) := by decide +kernel
theorem dX12_rankOf_64 : decode cX12_rankOf 64 = .ok (.iload_n 2, 1) := by decide +kernel
theorem dX12_rankOf_65 : decode cX12_rankOf 65 = .ok (.ireturn, 1) := by decide +kernel
theorem dX12_says_0 : decode cX12_says 0 = .ok (.aload_n 0, 1) := by decide +kernel
theorem dX12_says_1 : decode cX12_says 1 = .ok (.getfield 140, 3) := by decide +kernel
theorem dX12_says_4 : decode cX12_says 4 = .ok (.aload_n 0, 1) := by decide +kernel
theorem dX12_says_5 : decode cX12_says 5 = .ok (.getfield 403, 3) := by decide +kernel
theorem dX12_says_8 : decode cX12_says 8 = .ok (.iload_n 1, 1) := by decide +kernel
theorem dX12_says_9 : decode cX12_says 9 = .ok (.iastore, 1) := by decide +kernel
theorem dX12_says_10 : decode cX12_says 10 = .ok (.aload_n 0, 1) := by decide +kernel
theorem dX12_says_11 : decode cX12_says 11 = .ok (.dup, 1) := by decide +kernel
theorem dX12_says_12 : decode cX12_says 12 = .ok (.getfield 403, 3) := by decide +kernel
theorem dX12_says_15 : decode cX12_says 15 = .ok (.iconst 1, 1) := by decide +kernel
theorem dX12_says_16 : decode cX12_says 16 = .ok (.iadd, 1) := by decide +kernel
theorem dX12_says_17 : decode cX12_says 17 = .ok (.putfield 403, 3) := by decide +kernel
theorem dX12_says_20 : decode cX12_says 20 = .ok (.return_, 1) := by decide +kernel
theorem dX12_saysWord_0 : decode cX12_saysWord 0 = .ok (.lload_n 1, 1) := by decide +kernel
theorem dX12_saysWord_1 : decode cX12_saysWord 1 = .ok (.invokestatic 297, 3) := by decide +kernel
theorem dX12_saysWord_4 : decode cX12_saysWord 4 = .ok (.iconst 1, 1) := by decide +kernel
theorem dX12_saysWord_5 : decode cX12_saysWord 5 = .ok (.isub, 1) := by decide +kernel
theorem dX12_saysWord_6 : decode cX12_saysWord 6 = .ok (.istore_n 3, 1) := by decide +kernel
theorem dX12_saysWord_7 : decode cX12_saysWord 7 = .ok (.iload_n 3, 1) := by decide +kernel
theorem dX12_saysWord_8 : decode cX12_saysWord 8 = .ok (.ifCond .lt 22, 3) := by decide +kernel
theorem dX12_saysWord_11 : decode cX12_saysWord 11 = .ok (.aload_n 0, 1) := by decide +kernel
theorem dX12_saysWord_12 : decode cX12_saysWord 12 = .ok (.lload_n 1, 1) := by decide +kernel
theorem dX12_saysWord_13 : decode cX12_saysWord 13 = .ok (.iload_n 3, 1) := by decide +kernel
theorem dX12_saysWord_14 : decode cX12_saysWord 14 = .ok (.invokestatic 301, 3) := by decide +kernel
theorem dX12_saysWord_17 : decode cX12_saysWord 17 = .ok (.l2i, 1) := by decide +kernel
theorem dX12_saysWord_18 : decode cX12_saysWord 18 = .ok (.bipush 96, 2) := by decide +kernel
theorem dX12_saysWord_20 : decode cX12_saysWord 20 = .ok (.iadd, 1) := by decide +kernel
theorem dX12_saysWord_21 : decode cX12_saysWord 21 = .ok (.invokevirtual 406, 3) := by decide +kernel
theorem dX12_saysWord_24 : decode cX12_saysWord 24 = .ok (.iinc 3 (-1), 3) := by decide +kernel
theorem dX12_saysWord_27 : decode cX12_saysWord 27 = .ok (.goto (-20), 3) := by decide +kernel
theorem dX12_saysWord_30 : decode cX12_saysWord 30 = .ok (.return_, 1) := by decide +kernel
theorem dX12_saysNumber_0 : decode cX12_saysNumber 0 = .ok (.ldc2_w 409, 3) := by decide +kernel
theorem dX12_saysNumber_3 : decode cX12_saysNumber 3 = .ok (.lstore_n 3, 1) := by decide +kernel
theorem dX12_saysNumber_4 : decode cX12_saysNumber 4 = .ok (.lload_n 3, 1) := by decide +kernel
theorem dX12_saysNumber_5 : decode cX12_saysNumber 5 = .ok (.lconst 0, 1) := by decide +kernel
theorem dX12_saysNumber_6 : decode cX12_saysNumber 6 = .ok (.lcmp, 1) := by decide +kernel
theorem dX12_saysNumber_7 : decode cX12_saysNumber 7 = .ok (.ifCond .le 39, 3) := by decide +kernel
theorem dX12_saysNumber_10 : decode cX12_saysNumber 10 = .ok (.lload_n 1, 1) := by decide +kernel
theorem dX12_saysNumber_11 : decode cX12_saysNumber 11 = .ok (.lload_n 3, 1) := by decide +kernel
theorem dX12_saysNumber_12 : decode cX12_saysNumber 12 = .ok (.lcmp, 1) := by decide +kernel
theorem dX12_saysNumber_13 : decode cX12_saysNumber 13 = .ok (.ifCond .ge 9, 3) := by decide +kernel
theorem dX12_saysNumber_16 : decode cX12_saysNumber 16 = .ok (.lload_n 3, 1) := by decide +kernel
theorem dX12_saysNumber_17 : decode cX12_saysNumber 17 = .ok (.lconst 1, 1) := by decide +kernel
theorem dX12_saysNumber_18 : decode cX12_saysNumber 18 = .ok (.lcmp, 1) := by decide +kernel
theorem dX12_saysNumber_19 : decode cX12_saysNumber 19 = .ok (.ifCond .ne 18, 3) := by decide +kernel
theorem dX12_saysNumber_22 : decode cX12_saysNumber 22 = .ok (.aload_n 0, 1) := by decide +kernel
theorem dX12_saysNumber_23 : decode cX12_saysNumber 23 = .ok (.lload_n 1, 1) := by decide +kernel
theorem dX12_saysNumber_24 : decode cX12_saysNumber 24 = .ok (.lload_n 3, 1) := by decide +kernel
theorem dX12_saysNumber_25 : decode cX12_saysNumber 25 = .ok (.ldiv, 1) := by decide +kernel
theorem dX12_saysNumber_26 : decode cX12_saysNumber 26 = .ok (.ldc2_w 172, 3) := by decide +kernel
theorem dX12_saysNumber_29 : decode cX12_saysNumber 29 = .ok (.lrem, 1) := by decide +kernel
theorem dX12_saysNumber_30 : decode cX12_saysNumber 30 = .ok (.l2i, 1) := by decide +kernel
theorem dX12_saysNumber_31 : decode cX12_saysNumber 31 = .ok (.bipush 48, 2) := by decide +kernel
theorem dX12_saysNumber_33 : decode cX12_saysNumber 33 = .ok (.iadd, 1) := by decide +kernel
theorem dX12_saysNumber_34 : decode cX12_saysNumber 34 = .ok (.invokevirtual 406, 3) := by decide +kernel
theorem dX12_saysNumber_37 : decode cX12_saysNumber 37 = .ok (.lload_n 3, 1) := by decide +kernel
theorem dX12_saysNumber_38 : decode cX12_saysNumber 38 = .ok (.ldc2_w 172, 3) := by decide +kernel
theorem dX12_saysNumber_41 : decode cX12_saysNumber 41 = .ok (.ldiv, 1) := by decide +kernel
theorem dX12_saysNumber_42 : decode cX12_saysNumber 42 = .ok (.lstore_n 3, 1) := by decide +kernel
theorem dX12_saysNumber_43 : decode cX12_saysNumber 43 = .ok (.goto (-39), 3) := by decide +kernel
theorem dX12_saysNumber_46 : decode cX12_saysNumber 46 = .ok (.return_, 1) := by decide +kernel
theorem dX12_saysSentence_0 : decode cX12_saysSentence 0 = .ok (.aload_n 0, 1) := by decide +kernel
theorem dX12_saysSentence_1 : decode cX12_saysSentence 1 = .ok (.iconst 0, 1) := by decide +kernel
theorem dX12_saysSentence_2 : decode cX12_saysSentence 2 = .ok (.putfield 403, 3) := by decide +kernel
theorem dX12_saysSentence_5 : decode cX12_saysSentence 5 = .ok (.iconst 1, 1) := by decide +kernel
theorem dX12_saysSentence_6 : decode cX12_saysSentence 6 = .ok (.istore_n 2, 1) := by decide +kernel
theorem dX12_saysSentence_7 : decode cX12_saysSentence 7 = .ok (.aload_n 0, 1) := by decide +kernel
theorem dX12_saysSentence_8 : decode cX12_saysSentence 8 = .ok (.iload_n 1, 1) := by decide +kernel
theorem dX12_saysSentence_9 : decode cX12_saysSentence 9 = .ok (.invokevirtual 400, 3) := by decide +kernel
theorem dX12_saysSentence_12 : decode cX12_saysSentence 12 = .ok (.istore_n 3, 1) := by decide +kernel
theorem dX12_saysSentence_13 : decode cX12_saysSentence 13 = .ok (.iconst 0, 1) := by decide +kernel
theorem dX12_saysSentence_14 : decode cX12_saysSentence 14 = .ok (.istore 4, 2) := by decide +kernel
theorem dX12_saysSentence_16 : decode cX12_saysSentence 16 = .ok (.iload 4, 2) := by decide +kernel
theorem dX12_saysSentence_18 : decode cX12_saysSentence 18 = .ok (.iconst 5, 1) := by decide +kernel
theorem dX12_saysSentence_19 : decode cX12_saysSentence 19 = .ok (.if_icmp .ge 67, 3) := by decide +kernel
theorem dX12_saysSentence_22 : decode cX12_saysSentence 22 = .ok (.iconst 0, 1) := by decide +kernel
theorem dX12_saysSentence_23 : decode cX12_saysSentence 23 = .ok (.istore 5, 2) := by decide +kernel
theorem dX12_saysSentence_25 : decode cX12_saysSentence 25 = .ok (.iload 5, 2) := by decide +kernel
theorem dX12_saysSentence_27 : decode cX12_saysSentence 27 = .ok (.iload_n 3, 1) := by decide +kernel
theorem dX12_saysSentence_28 : decode cX12_saysSentence 28 = .ok (.bipush 6, 2) := by decide +kernel
theorem dX12_saysSentence_30 : decode cX12_saysSentence 30 = .ok (.irem, 1) := by decide +kernel
theorem dX12_saysSentence_31 : decode cX12_saysSentence 31 = .ok (.if_icmp .ge 44, 3) := by decide +kernel
theorem dX12_saysSentence_34 : decode cX12_saysSentence 34 = .ok (.iload_n 2, 1) := by decide +kernel
theorem dX12_saysSentence_35 : decode cX12_saysSentence 35 = .ok (.ifCond .ne 21, 3) := by decide +kernel
theorem dX12_saysSentence_38 : decode cX12_saysSentence 38 = .ok (.aload_n 0, 1) := by decide +kernel
theorem dX12_saysSentence_39 : decode cX12_saysSentence 39 = .ok (.bipush 32, 2) := by decide +kernel
theorem dX12_saysSentence_41 : decode cX12_saysSentence 41 = .ok (.invokevirtual 406, 3) := by decide +kernel
theorem dX12_saysSentence_44 : decode cX12_saysSentence 44 = .ok (.aload_n 0, 1) := by decide +kernel
theorem dX12_saysSentence_45 : decode cX12_saysSentence 45 = .ok (.bipush 44, 2) := by decide +kernel
theorem dX12_saysSentence_47 : decode cX12_saysSentence 47 = .ok (.invokevirtual 406, 3) := by decide +kernel
theorem dX12_saysSentence_50 : decode cX12_saysSentence 50 = .ok (.aload_n 0, 1) := by decide +kernel
theorem dX12_saysSentence_51 : decode cX12_saysSentence 51 = .ok (.bipush 32, 2) := by decide +kernel
theorem dX12_saysSentence_53 : decode cX12_saysSentence 53 = .ok (.invokevirtual 406, 3) := by decide +kernel
theorem dX12_saysSentence_56 : decode cX12_saysSentence 56 = .ok (.aload_n 0, 1) := by decide +kernel
theorem dX12_saysSentence_57 : decode cX12_saysSentence 57 = .ok (.aload_n 0, 1) := by decide +kernel
theorem dX12_saysSentence_58 : decode cX12_saysSentence 58 = .ok (.getfield 56, 3) := by decide +kernel
theorem dX12_saysSentence_61 : decode cX12_saysSentence 61 = .ok (.iload 4, 2) := by decide +kernel
theorem dX12_saysSentence_63 : decode cX12_saysSentence 63 = .ok (.laload, 1) := by decide +kernel
theorem dX12_saysSentence_64 : decode cX12_saysSentence 64 = .ok (.invokevirtual 411, 3) := by decide +kernel
theorem dX12_saysSentence_67 : decode cX12_saysSentence 67 = .ok (.iconst 0, 1) := by decide +kernel
theorem dX12_saysSentence_68 : decode cX12_saysSentence 68 = .ok (.istore_n 2, 1) := by decide +kernel
theorem dX12_saysSentence_69 : decode cX12_saysSentence 69 = .ok (.iinc 5 1, 3) := by decide +kernel
theorem dX12_saysSentence_72 : decode cX12_saysSentence 72 = .ok (.goto (-47), 3) := by decide +kernel
theorem dX12_saysSentence_75 : decode cX12_saysSentence 75 = .ok (.iload_n 3, 1) := by decide +kernel
theorem dX12_saysSentence_76 : decode cX12_saysSentence 76 = .ok (.bipush 6, 2) := by decide +kernel
theorem dX12_saysSentence_78 : decode cX12_saysSentence 78 = .ok (.idiv, 1) := by decide +kernel
theorem dX12_saysSentence_79 : decode cX12_saysSentence 79 = .ok (.istore_n 3, 1) := by decide +kernel
theorem dX12_saysSentence_80 : decode cX12_saysSentence 80 = .ok (.iinc 4 1, 3) := by decide +kernel
theorem dX12_saysSentence_83 : decode cX12_saysSentence 83 = .ok (.goto (-67), 3) := by decide +kernel
theorem dX12_saysSentence_86 : decode cX12_saysSentence 86 = .ok (.aload_n 0, 1) := by decide +kernel
theorem dX12_saysSentence_87 : decode cX12_saysSentence 87 = .ok (.bipush 32, 2) := by decide +kernel
theorem dX12_saysSentence_89 : decode cX12_saysSentence 89 = .ok (.invokevirtual 406, 3) := by decide +kernel
theorem dX12_saysSentence_92 : decode cX12_saysSentence 92 = .ok (.aload_n 0, 1) := by decide +kernel
theorem dX12_saysSentence_93 : decode cX12_saysSentence 93 = .ok (.bipush 58, 2) := by decide +kernel
theorem dX12_saysSentence_95 : decode cX12_saysSentence 95 = .ok (.invokevirtual 406, 3) := by decide +kernel
theorem dX12_saysSentence_98 : decode cX12_saysSentence 98 = .ok (.iconst 0, 1) := by decide +kernel
theorem dX12_saysSentence_99 : decode cX12_saysSentence 99 = .ok (.istore 4, 2) := by decide +kernel
theorem dX12_saysSentence_101 : decode cX12_saysSentence 101 = .ok (.iload 4, 2) := by decide +kernel
theorem dX12_saysSentence_103 : decode cX12_saysSentence 103 = .ok (.aload_n 0, 1) := by decide +kernel
theorem dX12_saysSentence_104 : decode cX12_saysSentence 104 = .ok (.getfield 226, 3) := by decide +kernel
theorem dX12_saysSentence_107 : decode cX12_saysSentence 107 = .ok (.if_icmp .ge 185, 3) := by decide +kernel
theorem dX12_saysSentence_110 : decode cX12_saysSentence 110 = .ok (.iload 4, 2) := by decide +kernel
theorem dX12_saysSentence_112 : decode cX12_saysSentence 112 = .ok (.ifCond .le 15, 3) := by decide +kernel
theorem dX12_saysSentence_115 : decode cX12_saysSentence 115 = .ok (.aload_n 0, 1) := by decide +kernel
theorem dX12_saysSentence_116 : decode cX12_saysSentence 116 = .ok (.bipush 32, 2) := by decide +kernel
theorem dX12_saysSentence_118 : decode cX12_saysSentence 118 = .ok (.invokevirtual 406, 3) := by decide +kernel
theorem dX12_saysSentence_121 : decode cX12_saysSentence 121 = .ok (.aload_n 0, 1) := by decide +kernel
theorem dX12_saysSentence_122 : decode cX12_saysSentence 122 = .ok (.bipush 44, 2) := by decide +kernel
theorem dX12_saysSentence_124 : decode cX12_saysSentence 124 = .ok (.invokevirtual 406, 3) := by decide +kernel
theorem dX12_saysSentence_127 : decode cX12_saysSentence 127 = .ok (.aload_n 0, 1) := by decide +kernel
theorem dX12_saysSentence_128 : decode cX12_saysSentence 128 = .ok (.bipush 32, 2) := by decide +kernel
theorem dX12_saysSentence_130 : decode cX12_saysSentence 130 = .ok (.invokevirtual 406, 3) := by decide +kernel
theorem dX12_saysSentence_133 : decode cX12_saysSentence 133 = .ok (.aload_n 0, 1) := by decide +kernel
theorem dX12_saysSentence_134 : decode cX12_saysSentence 134 = .ok (.getfield 74, 3) := by decide +kernel
theorem dX12_saysSentence_137 : decode cX12_saysSentence 137 = .ok (.iload 4, 2) := by decide +kernel
theorem dX12_saysSentence_139 : decode cX12_saysSentence 139 = .ok (.iaload, 1) := by decide +kernel
theorem dX12_saysSentence_140 : decode cX12_saysSentence 140 = .ok (.ifCond .eq 29, 3) := by decide +kernel
theorem dX12_saysSentence_143 : decode cX12_saysSentence 143 = .ok (.aload_n 0, 1) := by decide +kernel
theorem dX12_saysSentence_144 : decode cX12_saysSentence 144 = .ok (.aload_n 0, 1) := by decide +kernel
theorem dX12_saysSentence_145 : decode cX12_saysSentence 145 = .ok (.getfield 50, 3) := by decide +kernel
theorem dX12_saysSentence_148 : decode cX12_saysSentence 148 = .ok (.iconst 4, 1) := by decide +kernel
theorem dX12_saysSentence_149 : decode cX12_saysSentence 149 = .ok (.aload_n 0, 1) := by decide +kernel
theorem dX12_saysSentence_150 : decode cX12_saysSentence 150 = .ok (.getfield 74, 3) := by decide +kernel
theorem dX12_saysSentence_153 : decode cX12_saysSentence 153 = .ok (.iload 4, 2) := by decide +kernel
theorem dX12_saysSentence_155 : decode cX12_saysSentence 155 = .ok (.iaload, 1) := by decide +kernel
theorem dX12_saysSentence_156 : decode cX12_saysSentence 156 = .ok (.iadd, 1) := by decide +kernel
theorem dX12_saysSentence_157 : decode cX12_saysSentence 157 = .ok (.iconst 1, 1) := by decide +kernel
theorem dX12_saysSentence_158 : decode cX12_saysSentence 158 = .ok (.isub, 1) := by decide +kernel
theorem dX12_saysSentence_159 : decode cX12_saysSentence 159 = .ok (.laload, 1) := by decide +kernel
theorem dX12_saysSentence_160 : decode cX12_saysSentence 160 = .ok (.invokevirtual 411, 3) := by decide +kernel
theorem dX12_saysSentence_163 : decode cX12_saysSentence 163 = .ok (.aload_n 0, 1) := by decide +kernel
theorem dX12_saysSentence_164 : decode cX12_saysSentence 164 = .ok (.bipush 32, 2) := by decide +kernel
theorem dX12_saysSentence_166 : decode cX12_saysSentence 166 = .ok (.invokevirtual 406, 3) := by decide +kernel
theorem dX12_saysSentence_169 : decode cX12_saysSentence 169 = .ok (.aload_n 0, 1) := by decide +kernel
theorem dX12_saysSentence_170 : decode cX12_saysSentence 170 = .ok (.getfield 74, 3) := by decide +kernel
theorem dX12_saysSentence_173 : decode cX12_saysSentence 173 = .ok (.iload 4, 2) := by decide +kernel
theorem dX12_saysSentence_175 : decode cX12_saysSentence 175 = .ok (.iaload, 1) := by decide +kernel
theorem dX12_saysSentence_176 : decode cX12_saysSentence 176 = .ok (.iconst 2, 1) := by decide +kernel
theorem dX12_saysSentence_177 : decode cX12_saysSentence 177 = .ok (.if_icmp .eq 14, 3) := by decide +kernel
theorem dX12_saysSentence_180 : decode cX12_saysSentence 180 = .ok (.aload_n 0, 1) := by decide +kernel
theorem dX12_saysSentence_181 : decode cX12_saysSentence 181 = .ok (.getfield 74, 3) := by decide +kernel
theorem dX12_saysSentence_184 : decode cX12_saysSentence 184 = .ok (.iload 4, 2) := by decide +kernel
theorem dX12_saysSentence_186 : decode cX12_saysSentence 186 = .ok (.iaload, 1) := by decide +kernel
theorem dX12_saysSentence_187 : decode cX12_saysSentence 187 = .ok (.iconst 3, 1) := by decide +kernel
theorem dX12_saysSentence_188 : decode cX12_saysSentence 188 = .ok (.if_icmp .ne 17, 3) := by decide +kernel
theorem dX12_saysSentence_191 : decode cX12_saysSentence 191 = .ok (.aload_n 0, 1) := by decide +kernel
theorem dX12_saysSentence_192 : decode cX12_saysSentence 192 = .ok (.aload_n 0, 1) := by decide +kernel
theorem dX12_saysSentence_193 : decode cX12_saysSentence 193 = .ok (.getfield 77, 3) := by decide +kernel
theorem dX12_saysSentence_196 : decode cX12_saysSentence 196 = .ok (.iload 4, 2) := by decide +kernel
theorem dX12_saysSentence_198 : decode cX12_saysSentence 198 = .ok (.laload, 1) := by decide +kernel
theorem dX12_saysSentence_199 : decode cX12_saysSentence 199 = .ok (.invokevirtual 414, 3) := by decide +kernel
theorem dX12_saysSentence_202 : decode cX12_saysSentence 202 = .ok (.goto 14, 3) := by decide +kernel
theorem dX12_saysSentence_205 : decode cX12_saysSentence 205 = .ok (.aload_n 0, 1) := by decide +kernel
theorem dX12_saysSentence_206 : decode cX12_saysSentence 206 = .ok (.aload_n 0, 1) := by decide +kernel
theorem dX12_saysSentence_207 : decode cX12_saysSentence 207 = .ok (.getfield 77, 3) := by decide +kernel
theorem dX12_saysSentence_210 : decode cX12_saysSentence 210 = .ok (.iload 4, 2) := by decide +kernel
theorem dX12_saysSentence_212 : decode cX12_saysSentence 212 = .ok (.laload, 1) := by decide +kernel
theorem dX12_saysSentence_213 : decode cX12_saysSentence 213 = .ok (.invokevirtual 411, 3) := by decide +kernel
theorem dX12_saysSentence_216 : decode cX12_saysSentence 216 = .ok (.aload_n 0, 1) := by decide +kernel
theorem dX12_saysSentence_217 : decode cX12_saysSentence 217 = .ok (.bipush 32, 2) := by decide +kernel
theorem dX12_saysSentence_219 : decode cX12_saysSentence 219 = .ok (.invokevirtual 406, 3) := by decide +kernel
theorem dX12_saysSentence_222 : decode cX12_saysSentence 222 = .ok (.aload_n 0, 1) := by decide +kernel
theorem dX12_saysSentence_223 : decode cX12_saysSentence 223 = .ok (.aload_n 0, 1) := by decide +kernel
theorem dX12_saysSentence_224 : decode cX12_saysSentence 224 = .ok (.getfield 50, 3) := by decide +kernel
theorem dX12_saysSentence_227 : decode cX12_saysSentence 227 = .ok (.bipush 7, 2) := by decide +kernel
theorem dX12_saysSentence_229 : decode cX12_saysSentence 229 = .ok (.laload, 1) := by decide +kernel
theorem dX12_saysSentence_230 : decode cX12_saysSentence 230 = .ok (.invokevirtual 411, 3) := by decide +kernel
theorem dX12_saysSentence_233 : decode cX12_saysSentence 233 = .ok (.aload_n 0, 1) := by decide +kernel
theorem dX12_saysSentence_234 : decode cX12_saysSentence 234 = .ok (.bipush 32, 2) := by decide +kernel
theorem dX12_saysSentence_236 : decode cX12_saysSentence 236 = .ok (.invokevirtual 406, 3) := by decide +kernel
theorem dX12_saysSentence_239 : decode cX12_saysSentence 239 = .ok (.aload_n 0, 1) := by decide +kernel
theorem dX12_saysSentence_240 : decode cX12_saysSentence 240 = .ok (.getfield 128, 3) := by decide +kernel
theorem dX12_saysSentence_243 : decode cX12_saysSentence 243 = .ok (.iload_n 1, 1) := by decide +kernel
theorem dX12_saysSentence_244 : decode cX12_saysSentence 244 = .ok (.iaload, 1) := by decide +kernel
theorem dX12_saysSentence_245 : decode cX12_saysSentence 245 = .ok (.sipush 625, 3) := by decide +kernel
theorem dX12_saysSentence_248 : decode cX12_saysSentence 248 = .ok (.irem, 1) := by decide +kernel
theorem dX12_saysSentence_249 : decode cX12_saysSentence 249 = .ok (.istore 5, 2) := by decide +kernel
theorem dX12_saysSentence_251 : decode cX12_saysSentence 251 = .ok (.iconst 3, 1) := by decide +kernel
theorem dX12_saysSentence_252 : decode cX12_saysSentence 252 = .ok (.istore 6, 2) := by decide +kernel
theorem dX12_saysSentence_254 : decode cX12_saysSentence 254 = .ok (.iload 6, 2) := by decide +kernel
theorem dX12_saysSentence_256 : decode cX12_saysSentence 256 = .ok (.iload 4, 2) := by decide +kernel
theorem dX12_saysSentence_258 : decode cX12_saysSentence 258 = .ok (.if_icmp .le 15, 3) := by decide +kernel
theorem dX12_saysSentence_261 : decode cX12_saysSentence 261 = .ok (.iload 5, 2) := by decide +kernel
theorem dX12_saysSentence_263 : decode cX12_saysSentence 263 = .ok (.iconst 5, 1) := by decide +kernel
theorem dX12_saysSentence_264 : decode cX12_saysSentence 264 = .ok (.idiv, 1) := by decide +kernel
theorem dX12_saysSentence_265 : decode cX12_saysSentence 265 = .ok (.istore 5, 2) := by decide +kernel
theorem dX12_saysSentence_267 : decode cX12_saysSentence 267 = .ok (.iinc 6 (-1), 3) := by decide +kernel
theorem dX12_saysSentence_270 : decode cX12_saysSentence 270 = .ok (.goto (-16), 3) := by decide +kernel
theorem dX12_saysSentence_273 : decode cX12_saysSentence 273 = .ok (.aload_n 0, 1) := by decide +kernel
theorem dX12_saysSentence_274 : decode cX12_saysSentence 274 = .ok (.aload_n 0, 1) := by decide +kernel
theorem dX12_saysSentence_275 : decode cX12_saysSentence 275 = .ok (.getfield 56, 3) := by decide +kernel
theorem dX12_saysSentence_278 : decode cX12_saysSentence 278 = .ok (.iload 5, 2) := by decide +kernel
theorem dX12_saysSentence_280 : decode cX12_saysSentence 280 = .ok (.iconst 5, 1) := by decide +kernel
theorem dX12_saysSentence_281 : decode cX12_saysSentence 281 = .ok (.irem, 1) := by decide +kernel
theorem dX12_saysSentence_282 : decode cX12_saysSentence 282 = .ok (.laload, 1) := by decide +kernel
theorem dX12_saysSentence_283 : decode cX12_saysSentence 283 = .ok (.invokevirtual 411, 3) := by decide +kernel
theorem dX12_saysSentence_286 : decode cX12_saysSentence 286 = .ok (.iinc 4 1, 3) := by decide +kernel
theorem dX12_saysSentence_289 : decode cX12_saysSentence 289 = .ok (.goto (-188), 3) := by decide +kernel
theorem dX12_saysSentence_292 : decode cX12_saysSentence 292 = .ok (.return_, 1) := by decide +kernel
theorem dX12_asked_0 : decode cX12_asked 0 = .ok (.aload_n 0, 1) := by decide +kernel
theorem dX12_asked_1 : decode cX12_asked 1 = .ok (.iconst 0, 1) := by decide +kernel
theorem dX12_asked_2 : decode cX12_asked 2 = .ok (.putfield 1, 3) := by decide +kernel
theorem dX12_asked_5 : decode cX12_asked 5 = .ok (.aload_n 0, 1) := by decide +kernel
theorem dX12_asked_6 : decode cX12_asked 6 = .ok (.iload_n 1, 1) := by decide +kernel
theorem dX12_asked_7 : decode cX12_asked 7 = .ok (.invokevirtual 417, 3) := by decide +kernel
theorem dX12_asked_10 : decode cX12_asked 10 = .ok (.ifCond .eq 12, 3) := by decide +kernel
theorem dX12_asked_13 : decode cX12_asked 13 = .ok (.iload_n 2, 1) := by decide +kernel
theorem dX12_asked_14 : decode cX12_asked 14 = .ok (.iconst 0, 1) := by decide +kernel
theorem dX12_asked_15 : decode cX12_asked 15 = .ok (.iconst 4, 1) := by decide +kernel
theorem dX12_asked_16 : decode cX12_asked 16 = .ok (.invokestatic 277, 3) := by decide +kernel
theorem dX12_asked_19 : decode cX12_asked 19 = .ok (.ifCond .ne 5, 3) := by decide +kernel
theorem dX12_asked_22 : decode cX12_asked 22 = .ok (.iconst (-1), 1) := by decide +kernel
theorem dX12_asked_23 : decode cX12_asked 23 = .ok (.ireturn, 1) := by decide +kernel
theorem dX12_asked_24 : decode cX12_asked 24 = .ok (.iload_n 2, 1) := by decide +kernel
theorem dX12_asked_25 : decode cX12_asked 25 = .ok (.tableswitch 62 0 3 #[31, 38, 45, 56], 31) := by decide +kernel
theorem dX12_asked_56 : decode cX12_asked 56 = .ok (.aload_n 0, 1) := by decide +kernel
theorem dX12_asked_57 : decode cX12_asked 57 = .ok (.getfield 134, 3) := by decide +kernel
theorem dX12_asked_60 : decode cX12_asked 60 = .ok (.iload_n 1, 1) := by decide +kernel
theorem dX12_asked_61 : decode cX12_asked 61 = .ok (.iaload, 1) := by decide +kernel
theorem dX12_asked_62 : decode cX12_asked 62 = .ok (.ireturn, 1) := by decide +kernel
theorem dX12_asked_63 : decode cX12_asked 63 = .ok (.aload_n 0, 1) := by decide +kernel
theorem dX12_asked_64 : decode cX12_asked 64 = .ok (.getfield 131, 3) := by decide +kernel
theorem dX12_asked_67 : decode cX12_asked 67 = .ok (.iload_n 1, 1) := by decide +kernel
theorem dX12_asked_68 : decode cX12_asked 68 = .ok (.iaload, 1) := by decide +kernel
theorem dX12_asked_69 : decode cX12_asked 69 = .ok (.ireturn, 1) := by decide +kernel
theorem dX12_asked_70 : decode cX12_asked 70 = .ok (.aload_n 0, 1) := by decide +kernel
theorem dX12_asked_71 : decode cX12_asked 71 = .ok (.getfield 137, 3) := by decide +kernel
theorem dX12_asked_74 : decode cX12_asked 74 = .ok (.aload_n 0, 1) := by decide +kernel
theorem dX12_asked_75 : decode cX12_asked 75 = .ok (.iload_n 1, 1) := by decide +kernel
theorem dX12_asked_76 : decode cX12_asked 76 = .ok (.invokevirtual 400, 3) := by decide +kernel
theorem dX12_asked_79 : decode cX12_asked 79 = .ok (.iaload, 1) := by decide +kernel
theorem dX12_asked_80 : decode cX12_asked 80 = .ok (.ireturn, 1) := by decide +kernel
theorem dX12_asked_81 : decode cX12_asked 81 = .ok (.aload_n 0, 1) := by decide +kernel
theorem dX12_asked_82 : decode cX12_asked 82 = .ok (.iload_n 1, 1) := by decide +kernel
theorem dX12_asked_83 : decode cX12_asked 83 = .ok (.invokevirtual 420, 3) := by decide +kernel
theorem dX12_asked_86 : decode cX12_asked 86 = .ok (.ireturn, 1) := by decide +kernel
theorem dX12_asked_87 : decode cX12_asked 87 = .ok (.aload_n 0, 1) := by decide +kernel
theorem dX12_asked_88 : decode cX12_asked 88 = .ok (.iload_n 1, 1) := by decide +kernel
theorem dX12_asked_89 : decode cX12_asked 89 = .ok (.invokevirtual 423, 3) := by decide +kernel
theorem dX12_asked_92 : decode cX12_asked 92 = .ok (.aload_n 0, 1) := by decide +kernel
theorem dX12_asked_93 : decode cX12_asked 93 = .ok (.getfield 403, 3) := by decide +kernel
theorem dX12_asked_96 : decode cX12_asked 96 = .ok (.ireturn, 1) := by decide +kernel
theorem dX12_said_0 : decode cX12_said 0 = .ok (.aload_n 0, 1) := by decide +kernel
theorem dX12_said_1 : decode cX12_said 1 = .ok (.iconst 0, 1) := by decide +kernel
theorem dX12_said_2 : decode cX12_said 2 = .ok (.putfield 1, 3) := by decide +kernel
theorem dX12_said_5 : decode cX12_said 5 = .ok (.aload_n 0, 1) := by decide +kernel
theorem dX12_said_6 : decode cX12_said 6 = .ok (.iload_n 1, 1) := by decide +kernel
theorem dX12_said_7 : decode cX12_said 7 = .ok (.invokevirtual 417, 3) := by decide +kernel
theorem dX12_said_10 : decode cX12_said 10 = .ok (.ifCond .ne 5, 3) := by decide +kernel
theorem dX12_said_13 : decode cX12_said 13 = .ok (.iconst (-1), 1) := by decide +kernel
theorem dX12_said_14 : decode cX12_said 14 = .ok (.ireturn, 1) := by decide +kernel
theorem dX12_said_15 : decode cX12_said 15 = .ok (.aload_n 0, 1) := by decide +kernel
theorem dX12_said_16 : decode cX12_said 16 = .ok (.iload_n 1, 1) := by decide +kernel
theorem dX12_said_17 : decode cX12_said 17 = .ok (.invokevirtual 423, 3) := by decide +kernel
theorem dX12_said_20 : decode cX12_said 20 = .ok (.iload_n 2, 1) := by decide +kernel
theorem dX12_said_21 : decode cX12_said 21 = .ok (.iconst 0, 1) := by decide +kernel
theorem dX12_said_22 : decode cX12_said 22 = .ok (.aload_n 0, 1) := by decide +kernel
theorem dX12_said_23 : decode cX12_said 23 = .ok (.getfield 403, 3) := by decide +kernel
theorem dX12_said_26 : decode cX12_said 26 = .ok (.iconst 1, 1) := by decide +kernel
theorem dX12_said_27 : decode cX12_said 27 = .ok (.isub, 1) := by decide +kernel
theorem dX12_said_28 : decode cX12_said 28 = .ok (.invokestatic 277, 3) := by decide +kernel
theorem dX12_said_31 : decode cX12_said 31 = .ok (.ifCond .eq 12, 3) := by decide +kernel
theorem dX12_said_34 : decode cX12_said 34 = .ok (.aload_n 0, 1) := by decide +kernel
theorem dX12_said_35 : decode cX12_said 35 = .ok (.getfield 140, 3) := by decide +kernel
theorem dX12_said_38 : decode cX12_said 38 = .ok (.iload_n 2, 1) := by decide +kernel
theorem dX12_said_39 : decode cX12_said 39 = .ok (.iaload, 1) := by decide +kernel
theorem dX12_said_40 : decode cX12_said 40 = .ok (.goto 4, 3) := by decide +kernel
theorem dX12_said_43 : decode cX12_said 43 = .ok (.iconst (-1), 1) := by decide +kernel
theorem dX12_said_44 : decode cX12_said 44 = .ok (.ireturn, 1) := by decide +kernel
theorem dX12_choose_0 : decode cX12_choose 0 = .ok (.aload_n 0, 1) := by decide +kernel
theorem dX12_choose_1 : decode cX12_choose 1 = .ok (.iconst 0, 1) := by decide +kernel
theorem dX12_choose_2 : decode cX12_choose 2 = .ok (.putfield 1, 3) := by decide +kernel
theorem dX12_choose_5 : decode cX12_choose 5 = .ok (.aload_n 0, 1) := by decide +kernel
theorem dX12_choose_6 : decode cX12_choose 6 = .ok (.iload_n 1, 1) := by decide +kernel
theorem dX12_choose_7 : decode cX12_choose 7 = .ok (.invokevirtual 417, 3) := by decide +kernel
theorem dX12_choose_10 : decode cX12_choose 10 = .ok (.ifCond .ne 5, 3) := by decide +kernel
theorem dX12_choose_13 : decode cX12_choose 13 = .ok (.iconst (-1), 1) := by decide +kernel
theorem dX12_choose_14 : decode cX12_choose 14 = .ok (.ireturn, 1) := by decide +kernel
theorem dX12_choose_15 : decode cX12_choose 15 = .ok (.aload_n 0, 1) := by decide +kernel
theorem dX12_choose_16 : decode cX12_choose 16 = .ok (.getfield 137, 3) := by decide +kernel
theorem dX12_choose_19 : decode cX12_choose 19 = .ok (.aload_n 0, 1) := by decide +kernel
theorem dX12_choose_20 : decode cX12_choose 20 = .ok (.iload_n 1, 1) := by decide +kernel
theorem dX12_choose_21 : decode cX12_choose 21 = .ok (.invokevirtual 400, 3) := by decide +kernel
theorem dX12_choose_24 : decode cX12_choose 24 = .ok (.dup2, 1) := by decide +kernel
theorem dX12_choose_25 : decode cX12_choose 25 = .ok (.iaload, 1) := by decide +kernel
theorem dX12_choose_26 : decode cX12_choose 26 = .ok (.iconst 1, 1) := by decide +kernel
theorem dX12_choose_27 : decode cX12_choose 27 = .ok (.iadd, 1) := by decide +kernel
theorem dX12_choose_28 : decode cX12_choose 28 = .ok (.iastore, 1) := by decide +kernel
theorem dX12_choose_29 : decode cX12_choose 29 = .ok (.aload_n 0, 1) := by decide +kernel
theorem dX12_choose_30 : decode cX12_choose 30 = .ok (.getfield 137, 3) := by decide +kernel
theorem dX12_choose_33 : decode cX12_choose 33 = .ok (.aload_n 0, 1) := by decide +kernel
theorem dX12_choose_34 : decode cX12_choose 34 = .ok (.iload_n 1, 1) := by decide +kernel
theorem dX12_choose_35 : decode cX12_choose 35 = .ok (.invokevirtual 400, 3) := by decide +kernel
theorem dX12_choose_38 : decode cX12_choose 38 = .ok (.iaload, 1) := by decide +kernel
theorem dX12_choose_39 : decode cX12_choose 39 = .ok (.ireturn, 1) := by decide +kernel
theorem dX12_filled_0 : decode cX12_filled 0 = .ok (.lload_n 0, 1) := by decide +kernel
theorem dX12_filled_1 : decode cX12_filled 1 = .ok (.bipush 8, 2) := by decide +kernel
theorem dX12_filled_3 : decode cX12_filled 3 = .ok (.lload_n 0, 1) := by decide +kernel
theorem dX12_filled_4 : decode cX12_filled 4 = .ok (.invokestatic 297, 3) := by decide +kernel
theorem dX12_filled_7 : decode cX12_filled 7 = .ok (.isub, 1) := by decide +kernel
theorem dX12_filled_8 : decode cX12_filled 8 = .ok (.invokestatic 293, 3) := by decide +kernel
theorem dX12_filled_11 : decode cX12_filled 11 = .ok (.lmul, 1) := by decide +kernel
theorem dX12_filled_12 : decode cX12_filled 12 = .ok (.lreturn, 1) := by decide +kernel
theorem dX12_isTerm_0 : decode cX12_isTerm 0 = .ok (.iconst 0, 1) := by decide +kernel
theorem dX12_isTerm_1 : decode cX12_isTerm 1 = .ok (.istore_n 3, 1) := by decide +kernel
theorem dX12_isTerm_2 : decode cX12_isTerm 2 = .ok (.iconst 0, 1) := by decide +kernel
theorem dX12_isTerm_3 : decode cX12_isTerm 3 = .ok (.istore 4, 2) := by decide +kernel
theorem dX12_isTerm_5 : decode cX12_isTerm 5 = .ok (.iload 4, 2) := by decide +kernel
theorem dX12_isTerm_7 : decode cX12_isTerm 7 = .ok (.aload_n 0, 1) := by decide +kernel
theorem dX12_isTerm_8 : decode cX12_isTerm 8 = .ok (.getfield 226, 3) := by decide +kernel
theorem dX12_isTerm_11 : decode cX12_isTerm 11 = .ok (.if_icmp .ge 41, 3) := by decide +kernel
theorem dX12_isTerm_14 : decode cX12_isTerm 14 = .ok (.iload_n 3, 1) := by decide +kernel
theorem dX12_isTerm_15 : decode cX12_isTerm 15 = .ok (.ifCond .ne 25, 3) := by decide +kernel
theorem dX12_isTerm_18 : decode cX12_isTerm 18 = .ok (.aload_n 0, 1) := by decide +kernel
theorem dX12_isTerm_19 : decode cX12_isTerm 19 = .ok (.getfield 74, 3) := by decide +kernel
theorem dX12_isTerm_22 : decode cX12_isTerm 22 = .ok (.iload 4, 2) := by decide +kernel
theorem dX12_isTerm_24 : decode cX12_isTerm 24 = .ok (.iaload, 1) := by decide +kernel
theorem dX12_isTerm_25 : decode cX12_isTerm 25 = .ok (.ifCond .ne 19, 3) := by decide +kernel
theorem dX12_isTerm_28 : decode cX12_isTerm 28 = .ok (.aload_n 0, 1) := by decide +kernel
theorem dX12_isTerm_29 : decode cX12_isTerm 29 = .ok (.getfield 77, 3) := by decide +kernel
theorem dX12_isTerm_32 : decode cX12_isTerm 32 = .ok (.iload 4, 2) := by decide +kernel
theorem dX12_isTerm_34 : decode cX12_isTerm 34 = .ok (.laload, 1) := by decide +kernel
theorem dX12_isTerm_35 : decode cX12_isTerm 35 = .ok (.lload_n 1, 1) := by decide +kernel
theorem dX12_isTerm_36 : decode cX12_isTerm 36 = .ok (.lcmp, 1) := by decide +kernel
theorem dX12_isTerm_37 : decode cX12_isTerm 37 = .ok (.ifCond .ne 7, 3) := by decide +kernel
theorem dX12_isTerm_40 : decode cX12_isTerm 40 = .ok (.iconst 1, 1) := by decide +kernel
theorem dX12_isTerm_41 : decode cX12_isTerm 41 = .ok (.goto 4, 3) := by decide +kernel
theorem dX12_isTerm_44 : decode cX12_isTerm 44 = .ok (.iconst 0, 1) := by decide +kernel
theorem dX12_isTerm_45 : decode cX12_isTerm 45 = .ok (.istore_n 3, 1) := by decide +kernel
theorem dX12_isTerm_46 : decode cX12_isTerm 46 = .ok (.iinc 4 1, 3) := by decide +kernel
theorem dX12_isTerm_49 : decode cX12_isTerm 49 = .ok (.goto (-44), 3) := by decide +kernel
theorem dX12_isTerm_52 : decode cX12_isTerm 52 = .ok (.iload_n 3, 1) := by decide +kernel
theorem dX12_isTerm_53 : decode cX12_isTerm 53 = .ok (.ireturn, 1) := by decide +kernel
theorem dX12_rowsWith_0 : decode cX12_rowsWith 0 = .ok (.iconst 0, 1) := by decide +kernel
theorem dX12_rowsWith_1 : decode cX12_rowsWith 1 = .ok (.istore_n 3, 1) := by decide +kernel
theorem dX12_rowsWith_2 : decode cX12_rowsWith 2 = .ok (.iconst 0, 1) := by decide +kernel
theorem dX12_rowsWith_3 : decode cX12_rowsWith 3 = .ok (.istore 4, 2) := by decide +kernel
theorem dX12_rowsWith_5 : decode cX12_rowsWith 5 = .ok (.iload 4, 2) := by decide +kernel
theorem dX12_rowsWith_7 : decode cX12_rowsWith 7 = .ok (.aload_n 0, 1) := by decide +kernel
theorem dX12_rowsWith_8 : decode cX12_rowsWith 8 = .ok (.getfield 223, 3) := by decide +kernel
theorem dX12_rowsWith_11 : decode cX12_rowsWith 11 = .ok (.if_icmp .ge 72, 3) := by decide +kernel
theorem dX12_rowsWith_14 : decode cX12_rowsWith 14 = .ok (.iconst 0, 1) := by decide +kernel
theorem dX12_rowsWith_15 : decode cX12_rowsWith 15 = .ok (.istore 5, 2) := by decide +kernel
theorem dX12_rowsWith_17 : decode cX12_rowsWith 17 = .ok (.iload 5, 2) := by decide +kernel
theorem dX12_rowsWith_19 : decode cX12_rowsWith 19 = .ok (.iconst 4, 1) := by decide +kernel
theorem dX12_rowsWith_20 : decode cX12_rowsWith 20 = .ok (.if_icmp .ge 57, 3) := by decide +kernel
theorem dX12_rowsWith_23 : decode cX12_rowsWith 23 = .ok (.aload_n 0, 1) := by decide +kernel
theorem dX12_rowsWith_24 : decode cX12_rowsWith 24 = .ok (.iload 4, 2) := by decide +kernel
theorem dX12_rowsWith_26 : decode cX12_rowsWith 26 = .ok (.invokevirtual 287, 3) := by decide +kernel
theorem dX12_rowsWith_29 : decode cX12_rowsWith 29 = .ok (.ifCond .eq 48, 3) := by decide +kernel
theorem dX12_rowsWith_32 : decode cX12_rowsWith 32 = .ok (.iload_n 3, 1) := by decide +kernel
theorem dX12_rowsWith_33 : decode cX12_rowsWith 33 = .ok (.aload_n 0, 1) := by decide +kernel
theorem dX12_rowsWith_34 : decode cX12_rowsWith 34 = .ok (.iload 4, 2) := by decide +kernel
theorem dX12_rowsWith_36 : decode cX12_rowsWith 36 = .ok (.iload 5, 2) := by decide +kernel
theorem dX12_rowsWith_38 : decode cX12_rowsWith 38 = .ok (.invokevirtual 426, 3) := by decide +kernel
theorem dX12_rowsWith_41 : decode cX12_rowsWith 41 = .ok (.ifCond .eq 27, 3) := by decide +kernel
theorem dX12_rowsWith_44 : decode cX12_rowsWith 44 = .ok (.aload_n 0, 1) := by decide +kernel
theorem dX12_rowsWith_45 : decode cX12_rowsWith 45 = .ok (.getfield 71, 3) := by decide +kernel
theorem dX12_rowsWith_48 : decode cX12_rowsWith 48 = .ok (.iconst 4, 1) := by decide +kernel
theorem dX12_rowsWith_49 : decode cX12_rowsWith 49 = .ok (.iload 4, 2) := by decide +kernel
theorem dX12_rowsWith_51 : decode cX12_rowsWith 51 = .ok (.imul, 1) := by decide +kernel
theorem dX12_rowsWith_52 : decode cX12_rowsWith 52 = .ok (.iload 5, 2) := by decide +kernel
theorem dX12_rowsWith_54 : decode cX12_rowsWith 54 = .ok (.iadd, 1) := by decide +kernel
theorem dX12_rowsWith_55 : decode cX12_rowsWith 55 = .ok (.laload, 1) := by decide +kernel
theorem dX12_rowsWith_56 : decode cX12_rowsWith 56 = .ok (.lload_n 1, 1) := by decide +kernel
theorem dX12_rowsWith_57 : decode cX12_rowsWith 57 = .ok (.lcmp, 1) := by decide +kernel
theorem dX12_rowsWith_58 : decode cX12_rowsWith 58 = .ok (.ifCond .ne 10, 3) := by decide +kernel
theorem dX12_rowsWith_61 : decode cX12_rowsWith 61 = .ok (.iconst 1, 1) := by decide +kernel
theorem dX12_rowsWith_62 : decode cX12_rowsWith 62 = .ok (.iload 4, 2) := by decide +kernel
theorem dX12_rowsWith_64 : decode cX12_rowsWith 64 = .ok (.ishl, 1) := by decide +kernel
theorem dX12_rowsWith_65 : decode cX12_rowsWith 65 = .ok (.goto 4, 3) := by decide +kernel
theorem dX12_rowsWith_68 : decode cX12_rowsWith 68 = .ok (.iconst 0, 1) := by decide +kernel
theorem dX12_rowsWith_69 : decode cX12_rowsWith 69 = .ok (.ior, 1) := by decide +kernel
theorem dX12_rowsWith_70 : decode cX12_rowsWith 70 = .ok (.istore_n 3, 1) := by decide +kernel
theorem dX12_rowsWith_71 : decode cX12_rowsWith 71 = .ok (.iinc 5 1, 3) := by decide +kernel
theorem dX12_rowsWith_74 : decode cX12_rowsWith 74 = .ok (.goto (-57), 3) := by decide +kernel
theorem dX12_rowsWith_77 : decode cX12_rowsWith 77 = .ok (.iinc 4 1, 3) := by decide +kernel
theorem dX12_rowsWith_80 : decode cX12_rowsWith 80 = .ok (.goto (-75), 3) := by decide +kernel
theorem dX12_rowsWith_83 : decode cX12_rowsWith 83 = .ok (.iload_n 3, 1) := by decide +kernel
theorem dX12_rowsWith_84 : decode cX12_rowsWith 84 = .ok (.ireturn, 1) := by decide +kernel
theorem dX12_findParts_0 : decode cX12_findParts 0 = .ok (.aload_n 0, 1) := by decide +kernel
theorem dX12_findParts_1 : decode cX12_findParts 1 = .ok (.ldc2_w 245, 3) := by decide +kernel
theorem dX12_findParts_4 : decode cX12_findParts 4 = .ok (.putfield 429, 3) := by decide +kernel
theorem dX12_findParts_7 : decode cX12_findParts 7 = .ok (.aload_n 0, 1) := by decide +kernel
theorem dX12_findParts_8 : decode cX12_findParts 8 = .ok (.iconst 0, 1) := by decide +kernel
theorem dX12_findParts_9 : decode cX12_findParts 9 = .ok (.putfield 433, 3) := by decide +kernel
theorem dX12_findParts_12 : decode cX12_findParts 12 = .ok (.iconst 0, 1) := by decide +kernel
theorem dX12_findParts_13 : decode cX12_findParts 13 = .ok (.istore_n 1, 1) := by decide +kernel
theorem dX12_findParts_14 : decode cX12_findParts 14 = .ok (.iload_n 1, 1) := by decide +kernel
theorem dX12_findParts_15 : decode cX12_findParts 15 = .ok (.iconst 4, 1) := by decide +kernel
theorem dX12_findParts_16 : decode cX12_findParts 16 = .ok (.aload_n 0, 1) := by decide +kernel
theorem dX12_findParts_17 : decode cX12_findParts 17 = .ok (.getfield 223, 3) := by decide +kernel
theorem dX12_findParts_20 : decode cX12_findParts 20 = .ok (.imul, 1) := by decide +kernel
theorem dX12_findParts_21 : decode cX12_findParts 21 = .ok (.if_icmp .ge 208, 3) := by decide +kernel
theorem dX12_findParts_24 : decode cX12_findParts 24 = .ok (.aload_n 0, 1) := by decide +kernel
theorem dX12_findParts_25 : decode cX12_findParts 25 = .ok (.getfield 71, 3) := by decide +kernel
theorem dX12_findParts_28 : decode cX12_findParts 28 = .ok (.iload_n 1, 1) := by decide +kernel
theorem dX12_findParts_29 : decode cX12_findParts 29 = .ok (.laload, 1) := by decide +kernel
theorem dX12_findParts_30 : decode cX12_findParts 30 = .ok (.lstore_n 2, 1) := by decide +kernel
theorem dX12_findParts_31 : decode cX12_findParts 31 = .ok (.aload_n 0, 1) := by decide +kernel
theorem dX12_findParts_32 : decode cX12_findParts 32 = .ok (.iload_n 1, 1) := by decide +kernel
theorem dX12_findParts_33 : decode cX12_findParts 33 = .ok (.iconst 4, 1) := by decide +kernel
theorem dX12_findParts_34 : decode cX12_findParts 34 = .ok (.idiv, 1) := by decide +kernel
theorem dX12_findParts_35 : decode cX12_findParts 35 = .ok (.invokevirtual 287, 3) := by decide +kernel
theorem dX12_findParts_38 : decode cX12_findParts 38 = .ok (.ifCond .eq 185, 3) := by decide +kernel
theorem dX12_findParts_41 : decode cX12_findParts 41 = .ok (.aload_n 0, 1) := by decide +kernel
theorem dX12_findParts_42 : decode cX12_findParts 42 = .ok (.iload_n 1, 1) := by decide +kernel
theorem dX12_findParts_43 : decode cX12_findParts 43 = .ok (.iconst 4, 1) := by decide +kernel
theorem dX12_findParts_44 : decode cX12_findParts 44 = .ok (.idiv, 1) := by decide +kernel
theorem dX12_findParts_45 : decode cX12_findParts 45 = .ok (.iload_n 1, 1) := by decide +kernel
theorem dX12_findParts_46 : decode cX12_findParts 46 = .ok (.iconst 4, 1) := by decide +kernel
theorem dX12_findParts_47 : decode cX12_findParts 47 = .ok (.irem, 1) := by decide +kernel
theorem dX12_findParts_48 : decode cX12_findParts 48 = .ok (.invokevirtual 426, 3) := by decide +kernel
theorem dX12_findParts_51 : decode cX12_findParts 51 = .ok (.ifCond .eq 172, 3) := by decide +kernel
theorem dX12_findParts_54 : decode cX12_findParts 54 = .ok (.aload_n 0, 1) := by decide +kernel
theorem dX12_findParts_55 : decode cX12_findParts 55 = .ok (.lload_n 2, 1) := by decide +kernel
theorem dX12_findParts_56 : decode cX12_findParts 56 = .ok (.invokevirtual 436, 3) := by decide +kernel
theorem dX12_findParts_59 : decode cX12_findParts 59 = .ok (.ifCond .ne 164, 3) := by decide +kernel
theorem dX12_findParts_62 : decode cX12_findParts 62 = .ok (.aload_n 0, 1) := by decide +kernel
theorem dX12_findParts_63 : decode cX12_findParts 63 = .ok (.lload_n 2, 1) := by decide +kernel
theorem dX12_findParts_64 : decode cX12_findParts 64 = .ok (.invokevirtual 440, 3) := by decide +kernel
theorem dX12_findParts_67 : decode cX12_findParts 67 = .ok (.istore 4, 2) := by decide +kernel
theorem dX12_findParts_69 : decode cX12_findParts 69 = .ok (.iconst 0, 1) := by decide +kernel
theorem dX12_findParts_70 : decode cX12_findParts 70 = .ok (.istore 5, 2) := by decide +kernel
theorem dX12_findParts_72 : decode cX12_findParts 72 = .ok (.iconst 0, 1) := by decide +kernel
theorem dX12_findParts_73 : decode cX12_findParts 73 = .ok (.istore 6, 2) := by decide +kernel
theorem dX12_findParts_75 : decode cX12_findParts 75 = .ok (.iload 6, 2) := by decide +kernel
theorem dX12_findParts_77 : decode cX12_findParts 77 = .ok (.aload_n 0, 1) := by decide +kernel
theorem dX12_findParts_78 : decode cX12_findParts 78 = .ok (.getfield 366, 3) := by decide +kernel
theorem dX12_findParts_81 : decode cX12_findParts 81 = .ok (.if_icmp .ge 46, 3) := by decide +kernel
theorem dX12_findParts_84 : decode cX12_findParts 84 = .ok (.iload 4, 2) := by decide +kernel
theorem dX12_findParts_86 : decode cX12_findParts 86 = .ok (.iload 4, 2) := by decide +kernel
theorem dX12_findParts_88 : decode cX12_findParts 88 = .ok (.ineg, 1) := by decide +kernel
theorem dX12_findParts_89 : decode cX12_findParts 89 = .ok (.iand, 1) := by decide +kernel
theorem dX12_findParts_90 : decode cX12_findParts 90 = .ok (.iconst 1, 1) := by decide +kernel
theorem dX12_findParts_91 : decode cX12_findParts 91 = .ok (.iload_n 1, 1) := by decide +kernel
theorem dX12_findParts_92 : decode cX12_findParts 92 = .ok (.iconst 4, 1) := by decide +kernel
theorem dX12_findParts_93 : decode cX12_findParts 93 = .ok (.idiv, 1) := by decide +kernel
theorem dX12_findParts_94 : decode cX12_findParts 94 = .ok (.ishl, 1) := by decide +kernel
theorem dX12_findParts_95 : decode cX12_findParts 95 = .ok (.if_icmp .ne 32, 3) := by decide +kernel
theorem dX12_findParts_98 : decode cX12_findParts 98 = .ok (.iload 5, 2) := by decide +kernel
theorem dX12_findParts_100 : decode cX12_findParts 100 = .ok (.aload_n 0, 1) := by decide +kernel
theorem dX12_findParts_101 : decode cX12_findParts 101 = .ok (.getfield 109, 3) := by decide +kernel
theorem dX12_findParts_104 : decode cX12_findParts 104 = .ok (.iload 6, 2) := by decide +kernel
theorem dX12_findParts_106 : decode cX12_findParts 106 = .ok (.iaload, 1) := by decide +kernel
theorem dX12_findParts_107 : decode cX12_findParts 107 = .ok (.iload 4, 2) := by decide +kernel
theorem dX12_findParts_109 : decode cX12_findParts 109 = .ok (.iand, 1) := by decide +kernel
theorem dX12_findParts_110 : decode cX12_findParts 110 = .ok (.ifCond .eq 7, 3) := by decide +kernel
theorem dX12_findParts_113 : decode cX12_findParts 113 = .ok (.iconst 1, 1) := by decide +kernel
theorem dX12_findParts_114 : decode cX12_findParts 114 = .ok (.goto 4, 3) := by decide +kernel
theorem dX12_findParts_117 : decode cX12_findParts 117 = .ok (.iconst 0, 1) := by decide +kernel
theorem dX12_findParts_118 : decode cX12_findParts 118 = .ok (.iadd, 1) := by decide +kernel
theorem dX12_findParts_119 : decode cX12_findParts 119 = .ok (.istore 5, 2) := by decide +kernel
theorem dX12_findParts_121 : decode cX12_findParts 121 = .ok (.iinc 6 1, 3) := by decide +kernel
theorem dX12_findParts_124 : decode cX12_findParts 124 = .ok (.goto (-49), 3) := by decide +kernel
theorem dX12_findParts_127 : decode cX12_findParts 127 = .ok (.iload 5, 2) := by decide +kernel
theorem dX12_findParts_129 : decode cX12_findParts 129 = .ok (.aload_n 0, 1) := by decide +kernel
theorem dX12_findParts_130 : decode cX12_findParts 130 = .ok (.getfield 366, 3) := by decide +kernel
theorem dX12_findParts_133 : decode cX12_findParts 133 = .ok (.iload 5, 2) := by decide +kernel
theorem dX12_findParts_135 : decode cX12_findParts 135 = .ok (.isub, 1) := by decide +kernel
theorem dX12_findParts_136 : decode cX12_findParts 136 = .ok (.if_icmp .le 8, 3) := by decide +kernel
theorem dX12_findParts_139 : decode cX12_findParts 139 = .ok (.iload 5, 2) := by decide +kernel
theorem dX12_findParts_141 : decode cX12_findParts 141 = .ok (.goto 10, 3) := by decide +kernel
theorem dX12_findParts_144 : decode cX12_findParts 144 = .ok (.aload_n 0, 1) := by decide +kernel
theorem dX12_findParts_145 : decode cX12_findParts 145 = .ok (.getfield 366, 3) := by decide +kernel
theorem dX12_findParts_148 : decode cX12_findParts 148 = .ok (.iload 5, 2) := by decide +kernel
theorem dX12_findParts_150 : decode cX12_findParts 150 = .ok (.isub, 1) := by decide +kernel
theorem dX12_findParts_151 : decode cX12_findParts 151 = .ok (.istore 6, 2) := by decide +kernel
theorem dX12_findParts_153 : decode cX12_findParts 153 = .ok (.aload_n 0, 1) := by decide +kernel
theorem dX12_findParts_154 : decode cX12_findParts 154 = .ok (.getfield 429, 3) := by decide +kernel
theorem dX12_findParts_157 : decode cX12_findParts 157 = .ok (.lconst 0, 1) := by decide +kernel
theorem dX12_findParts_158 : decode cX12_findParts 158 = .ok (.lcmp, 1) := by decide +kernel
theorem dX12_findParts_159 : decode cX12_findParts 159 = .ok (.ifCond .lt 36, 3) := by decide +kernel
theorem dX12_findParts_162 : decode cX12_findParts 162 = .ok (.iload 6, 2) := by decide +kernel
theorem dX12_findParts_164 : decode cX12_findParts 164 = .ok (.aload_n 0, 1) := by decide +kernel
theorem dX12_findParts_165 : decode cX12_findParts 165 = .ok (.getfield 433, 3) := by decide +kernel
theorem dX12_findParts_168 : decode cX12_findParts 168 = .ok (.if_icmp .lt 27, 3) := by decide +kernel
theorem dX12_findParts_171 : decode cX12_findParts 171 = .ok (.iload 6, 2) := by decide +kernel
theorem dX12_findParts_173 : decode cX12_findParts 173 = .ok (.aload_n 0, 1) := by decide +kernel
theorem dX12_findParts_174 : decode cX12_findParts 174 = .ok (.getfield 433, 3) := by decide +kernel
theorem dX12_findParts_177 : decode cX12_findParts 177 = .ok (.if_icmp .ne 22, 3) := by decide +kernel
theorem dX12_findParts_180 : decode cX12_findParts 180 = .ok (.lload_n 2, 1) := by decide +kernel
theorem dX12_findParts_181 : decode cX12_findParts 181 = .ok (.invokestatic 443, 3) := by decide +kernel
theorem dX12_findParts_184 : decode cX12_findParts 184 = .ok (.aload_n 0, 1) := by decide +kernel
theorem dX12_findParts_185 : decode cX12_findParts 185 = .ok (.getfield 429, 3) := by decide +kernel
theorem dX12_findParts_188 : decode cX12_findParts 188 = .ok (.invokestatic 443, 3) := by decide +kernel
theorem dX12_findParts_191 : decode cX12_findParts 191 = .ok (.lcmp, 1) := by decide +kernel
theorem dX12_findParts_192 : decode cX12_findParts 192 = .ok (.ifCond .ge 7, 3) := by decide +kernel
theorem dX12_findParts_195 : decode cX12_findParts 195 = .ok (.iconst 1, 1) := by decide +kernel
theorem dX12_findParts_196 : decode cX12_findParts 196 = .ok (.goto 4, 3) := by decide +kernel
theorem dX12_findParts_199 : decode cX12_findParts 199 = .ok (.iconst 0, 1) := by decide +kernel
theorem dX12_findParts_200 : decode cX12_findParts 200 = .ok (.istore 7, 2) := by decide +kernel
theorem dX12_findParts_202 : decode cX12_findParts 202 = .ok (.iload 5, 2) := by decide +kernel
theorem dX12_findParts_204 : decode cX12_findParts 204 = .ok (.ifCond .le 19, 3) := by decide +kernel
theorem dX12_findParts_207 : decode cX12_findParts 207 = .ok (.iload 7, 2) := by decide +kernel
theorem dX12_findParts_209 : decode cX12_findParts 209 = .ok (.ifCond .eq 14, 3) := by decide +kernel
theorem dX12_findParts_212 : decode cX12_findParts 212 = .ok (.aload_n 0, 1) := by decide +kernel
theorem dX12_findParts_213 : decode cX12_findParts 213 = .ok (.lload_n 2, 1) := by decide +kernel
theorem dX12_findParts_214 : decode cX12_findParts 214 = .ok (.putfield 429, 3) := by decide +kernel
theorem dX12_findParts_217 : decode cX12_findParts 217 = .ok (.aload_n 0, 1) := by decide +kernel
theorem dX12_findParts_218 : decode cX12_findParts 218 = .ok (.iload 6, 2) := by decide +kernel
theorem dX12_findParts_220 : decode cX12_findParts 220 = .ok (.putfield 433, 3) := by decide +kernel
theorem dX12_findParts_223 : decode cX12_findParts 223 = .ok (.iinc 1 1, 3) := by decide +kernel
theorem dX12_findParts_226 : decode cX12_findParts 226 = .ok (.goto (-212), 3) := by decide +kernel
theorem dX12_findParts_229 : decode cX12_findParts 229 = .ok (.return_, 1) := by decide +kernel
theorem dX12_parts_0 : decode cX12_parts 0 = .ok (.aload_n 0, 1) := by decide +kernel
theorem dX12_parts_1 : decode cX12_parts 1 = .ok (.iconst 0, 1) := by decide +kernel
theorem dX12_parts_2 : decode cX12_parts 2 = .ok (.putfield 1, 3) := by decide +kernel
theorem dX12_parts_5 : decode cX12_parts 5 = .ok (.iload_n 1, 1) := by decide +kernel
theorem dX12_parts_6 : decode cX12_parts 6 = .ok (.iconst 0, 1) := by decide +kernel
theorem dX12_parts_7 : decode cX12_parts 7 = .ok (.iconst 1, 1) := by decide +kernel
theorem dX12_parts_8 : decode cX12_parts 8 = .ok (.invokestatic 277, 3) := by decide +kernel
theorem dX12_parts_11 : decode cX12_parts 11 = .ok (.ifCond .ne 7, 3) := by decide +kernel
theorem dX12_parts_14 : decode cX12_parts 14 = .ok (.ldc2_w 245, 3) := by decide +kernel
theorem dX12_parts_17 : decode cX12_parts 17 = .ok (.lreturn, 1) := by decide +kernel
theorem dX12_parts_18 : decode cX12_parts 18 = .ok (.aload_n 0, 1) := by decide +kernel
theorem dX12_parts_19 : decode cX12_parts 19 = .ok (.invokevirtual 271, 3) := by decide +kernel
theorem dX12_parts_22 : decode cX12_parts 22 = .ok (.aload_n 0, 1) := by decide +kernel
theorem dX12_parts_23 : decode cX12_parts 23 = .ok (.invokevirtual 447, 3) := by decide +kernel
theorem dX12_parts_26 : decode cX12_parts 26 = .ok (.aload_n 0, 1) := by decide +kernel
theorem dX12_parts_27 : decode cX12_parts 27 = .ok (.getfield 429, 3) := by decide +kernel
theorem dX12_parts_30 : decode cX12_parts 30 = .ok (.lconst 0, 1) := by decide +kernel
theorem dX12_parts_31 : decode cX12_parts 31 = .ok (.lcmp, 1) := by decide +kernel
theorem dX12_parts_32 : decode cX12_parts 32 = .ok (.ifCond .ge 9, 3) := by decide +kernel
theorem dX12_parts_35 : decode cX12_parts 35 = .ok (.ldc2_w 245, 3) := by decide +kernel
theorem dX12_parts_38 : decode cX12_parts 38 = .ok (.goto 19, 3) := by decide +kernel
theorem dX12_parts_41 : decode cX12_parts 41 = .ok (.iload_n 1, 1) := by decide +kernel
theorem dX12_parts_42 : decode cX12_parts 42 = .ok (.ifCond .ne 10, 3) := by decide +kernel
theorem dX12_parts_45 : decode cX12_parts 45 = .ok (.aload_n 0, 1) := by decide +kernel
theorem dX12_parts_46 : decode cX12_parts 46 = .ok (.getfield 429, 3) := by decide +kernel
theorem dX12_parts_49 : decode cX12_parts 49 = .ok (.goto 8, 3) := by decide +kernel
theorem dX12_parts_52 : decode cX12_parts 52 = .ok (.aload_n 0, 1) := by decide +kernel
theorem dX12_parts_53 : decode cX12_parts 53 = .ok (.getfield 433, 3) := by decide +kernel
theorem dX12_parts_56 : decode cX12_parts 56 = .ok (.i2l, 1) := by decide +kernel
theorem dX12_parts_57 : decode cX12_parts 57 = .ok (.lreturn, 1) := by decide +kernel
theorem dX12_near_0 : decode cX12_near 0 = .ok (.aload_n 0, 1) := by decide +kernel
theorem dX12_near_1 : decode cX12_near 1 = .ok (.iconst 0, 1) := by decide +kernel
theorem dX12_near_2 : decode cX12_near 2 = .ok (.putfield 1, 3) := by decide +kernel
theorem dX12_near_5 : decode cX12_near 5 = .ok (.iload_n 1, 1) := by decide +kernel
theorem dX12_near_6 : decode cX12_near 6 = .ok (.iconst 0, 1) := by decide +kernel
theorem dX12_near_7 : decode cX12_near 7 = .ok (.aload_n 0, 1) := by decide +kernel
theorem dX12_near_8 : decode cX12_near 8 = .ok (.getfield 226, 3) := by decide +kernel
theorem dX12_near_11 : decode cX12_near 11 = .ok (.iconst 1, 1) := by decide +kernel
theorem dX12_near_12 : decode cX12_near 12 = .ok (.isub, 1) := by decide +kernel
theorem dX12_near_13 : decode cX12_near 13 = .ok (.invokestatic 277, 3) := by decide +kernel
theorem dX12_near_16 : decode cX12_near 16 = .ok (.ifCond .eq 16, 3) := by decide +kernel
theorem dX12_near_19 : decode cX12_near 19 = .ok (.aload_n 0, 1) := by decide +kernel
theorem dX12_near_20 : decode cX12_near 20 = .ok (.getfield 74, 3) := by decide +kernel
theorem dX12_near_23 : decode cX12_near 23 = .ok (.iload_n 1, 1) := by decide +kernel
theorem dX12_near_24 : decode cX12_near 24 = .ok (.iaload, 1) := by decide +kernel
theorem dX12_near_25 : decode cX12_near 25 = .ok (.ifCond .ne 7, 3) := by decide +kernel
theorem dX12_near_28 : decode cX12_near 28 = .ok (.iload_n 2, 1) := by decide +kernel
theorem dX12_near_29 : decode cX12_near 29 = .ok (.ifCond .ge 7, 3) := by decide +kernel
theorem dX12_near_32 : decode cX12_near 32 = .ok (.ldc2_w 245, 3) := by decide +kernel
theorem dX12_near_35 : decode cX12_near 35 = .ok (.lreturn, 1) := by decide +kernel
theorem dX12_near_36 : decode cX12_near 36 = .ok (.iconst 0, 1) := by decide +kernel
theorem dX12_near_37 : decode cX12_near 37 = .ok (.istore_n 3, 1) := by decide +kernel
theorem dX12_near_38 : decode cX12_near 38 = .ok (.iload_n 3, 1) := by decide +kernel
theorem dX12_near_39 : decode cX12_near 39 = .ok (.iconst 4, 1) := by decide +kernel
theorem dX12_near_40 : decode cX12_near 40 = .ok (.aload_n 0, 1) := by decide +kernel
theorem dX12_near_41 : decode cX12_near 41 = .ok (.getfield 223, 3) := by decide +kernel
theorem dX12_near_44 : decode cX12_near 44 = .ok (.imul, 1) := by decide +kernel
theorem dX12_near_45 : decode cX12_near 45 = .ok (.if_icmp .ge 118, 3) := by decide +kernel
theorem dX12_near_48 : decode cX12_near 48 = .ok (.aload_n 0, 1) := by decide +kernel
theorem dX12_near_49 : decode cX12_near 49 = .ok (.iload_n 3, 1) := by decide +kernel
theorem dX12_near_50 : decode cX12_near 50 = .ok (.iload_n 1, 1) := by decide +kernel
theorem dX12_near_51 : decode cX12_near 51 = .ok (.invokevirtual 450, 3) := by decide +kernel
theorem dX12_near_54 : decode cX12_near 54 = .ok (.ifCond .eq 103, 3) := by decide +kernel
theorem dX12_near_57 : decode cX12_near 57 = .ok (.iconst 0, 1) := by decide +kernel
theorem dX12_near_58 : decode cX12_near 58 = .ok (.istore 4, 2) := by decide +kernel
theorem dX12_near_60 : decode cX12_near 60 = .ok (.iconst 0, 1) := by decide +kernel
theorem dX12_near_61 : decode cX12_near 61 = .ok (.istore 5, 2) := by decide +kernel
theorem dX12_near_63 : decode cX12_near 63 = .ok (.iload 5, 2) := by decide +kernel
theorem dX12_near_65 : decode cX12_near 65 = .ok (.iconst 4, 1) := by decide +kernel
theorem dX12_near_66 : decode cX12_near 66 = .ok (.aload_n 0, 1) := by decide +kernel
theorem dX12_near_67 : decode cX12_near 67 = .ok (.getfield 223, 3) := by decide +kernel
theorem dX12_near_70 : decode cX12_near 70 = .ok (.imul, 1) := by decide +kernel
theorem dX12_near_71 : decode cX12_near 71 = .ok (.if_icmp .ge 73, 3) := by decide +kernel
theorem dX12_near_74 : decode cX12_near 74 = .ok (.aload_n 0, 1) := by decide +kernel
theorem dX12_near_75 : decode cX12_near 75 = .ok (.iload 5, 2) := by decide +kernel
theorem dX12_near_77 : decode cX12_near 77 = .ok (.iload_n 1, 1) := by decide +kernel
theorem dX12_near_78 : decode cX12_near 78 = .ok (.invokevirtual 450, 3) := by decide +kernel
theorem dX12_near_81 : decode cX12_near 81 = .ok (.ifCond .eq 30, 3) := by decide +kernel
theorem dX12_near_84 : decode cX12_near 84 = .ok (.aload_n 0, 1) := by decide +kernel
theorem dX12_near_85 : decode cX12_near 85 = .ok (.getfield 71, 3) := by decide +kernel
theorem dX12_near_88 : decode cX12_near 88 = .ok (.iload 5, 2) := by decide +kernel
theorem dX12_near_90 : decode cX12_near 90 = .ok (.laload, 1) := by decide +kernel
theorem dX12_near_91 : decode cX12_near 91 = .ok (.invokestatic 443, 3) := by decide +kernel
theorem dX12_near_94 : decode cX12_near 94 = .ok (.aload_n 0, 1) := by decide +kernel
theorem dX12_near_95 : decode cX12_near 95 = .ok (.getfield 71, 3) := by decide +kernel
theorem dX12_near_98 : decode cX12_near 98 = .ok (.iload_n 3, 1) := by decide +kernel
theorem dX12_near_99 : decode cX12_near 99 = .ok (.laload, 1) := by decide +kernel
theorem dX12_near_100 : decode cX12_near 100 = .ok (.invokestatic 443, 3) := by decide +kernel
theorem dX12_near_103 : decode cX12_near 103 = .ok (.lcmp, 1) := by decide +kernel
theorem dX12_near_104 : decode cX12_near 104 = .ok (.ifCond .ge 7, 3) := by decide +kernel
theorem dX12_near_107 : decode cX12_near 107 = .ok (.iconst 1, 1) := by decide +kernel
theorem dX12_near_108 : decode cX12_near 108 = .ok (.goto 4, 3) := by decide +kernel
theorem dX12_near_111 : decode cX12_near 111 = .ok (.iconst 0, 1) := by decide +kernel
theorem dX12_near_112 : decode cX12_near 112 = .ok (.istore 6, 2) := by decide +kernel
theorem dX12_near_114 : decode cX12_near 114 = .ok (.iload 4, 2) := by decide +kernel
theorem dX12_near_116 : decode cX12_near 116 = .ok (.iload 6, 2) := by decide +kernel
theorem dX12_near_118 : decode cX12_near 118 = .ok (.ifCond .eq 16, 3) := by decide +kernel
theorem dX12_near_121 : decode cX12_near 121 = .ok (.aload_n 0, 1) := by decide +kernel
theorem dX12_near_122 : decode cX12_near 122 = .ok (.iload 5, 2) := by decide +kernel
theorem dX12_near_124 : decode cX12_near 124 = .ok (.invokevirtual 453, 3) := by decide +kernel
theorem dX12_near_127 : decode cX12_near 127 = .ok (.ifCond .eq 7, 3) := by decide +kernel
theorem dX12_near_130 : decode cX12_near 130 = .ok (.iconst 1, 1) := by decide +kernel
theorem dX12_near_131 : decode cX12_near 131 = .ok (.goto 4, 3) := by decide +kernel
theorem dX12_near_134 : decode cX12_near 134 = .ok (.iconst 0, 1) := by decide +kernel
theorem dX12_near_135 : decode cX12_near 135 = .ok (.iadd, 1) := by decide +kernel
theorem dX12_near_136 : decode cX12_near 136 = .ok (.istore 4, 2) := by decide +kernel
theorem dX12_near_138 : decode cX12_near 138 = .ok (.iinc 5 1, 3) := by decide +kernel
theorem dX12_near_141 : decode cX12_near 141 = .ok (.goto (-78), 3) := by decide +kernel
theorem dX12_near_144 : decode cX12_near 144 = .ok (.iload 4, 2) := by decide +kernel
theorem dX12_near_146 : decode cX12_near 146 = .ok (.iload_n 2, 1) := by decide +kernel
theorem dX12_near_147 : decode cX12_near 147 = .ok (.if_icmp .ne 10, 3) := by decide +kernel
theorem dX12_near_150 : decode cX12_near 150 = .ok (.aload_n 0, 1) := by decide +kernel
theorem dX12_near_151 : decode cX12_near 151 = .ok (.getfield 71, 3) := by decide +kernel
theorem dX12_near_154 : decode cX12_near 154 = .ok (.iload_n 3, 1) := by decide +kernel
theorem dX12_near_155 : decode cX12_near 155 = .ok (.laload, 1) := by decide +kernel
theorem dX12_near_156 : decode cX12_near 156 = .ok (.lreturn, 1) := by decide +kernel
theorem dX12_near_157 : decode cX12_near 157 = .ok (.iinc 3 1, 3) := by decide +kernel
theorem dX12_near_160 : decode cX12_near 160 = .ok (.goto (-122), 3) := by decide +kernel
theorem dX12_near_163 : decode cX12_near 163 = .ok (.ldc2_w 245, 3) := by decide +kernel
theorem dX12_near_166 : decode cX12_near 166 = .ok (.lreturn, 1) := by decide +kernel
theorem dX12_isNearCell_0 : decode cX12_isNearCell 0 = .ok (.aload_n 0, 1) := by decide +kernel
theorem dX12_isNearCell_1 : decode cX12_isNearCell 1 = .ok (.iload_n 1, 1) := by decide +kernel
theorem dX12_isNearCell_2 : decode cX12_isNearCell 2 = .ok (.iconst 4, 1) := by decide +kernel
theorem dX12_isNearCell_3 : decode cX12_isNearCell 3 = .ok (.idiv, 1) := by decide +kernel
theorem dX12_isNearCell_4 : decode cX12_isNearCell 4 = .ok (.invokevirtual 287, 3) := by decide +kernel
theorem dX12_isNearCell_7 : decode cX12_isNearCell 7 = .ok (.ifCond .eq 38, 3) := by decide +kernel
theorem dX12_isNearCell_10 : decode cX12_isNearCell 10 = .ok (.aload_n 0, 1) := by decide +kernel
theorem dX12_isNearCell_11 : decode cX12_isNearCell 11 = .ok (.iload_n 1, 1) := by decide +kernel
theorem dX12_isNearCell_12 : decode cX12_isNearCell 12 = .ok (.iconst 4, 1) := by decide +kernel
theorem dX12_isNearCell_13 : decode cX12_isNearCell 13 = .ok (.idiv, 1) := by decide +kernel
theorem dX12_isNearCell_14 : decode cX12_isNearCell 14 = .ok (.iload_n 1, 1) := by decide +kernel
theorem dX12_isNearCell_15 : decode cX12_isNearCell 15 = .ok (.iconst 4, 1) := by decide +kernel
theorem dX12_isNearCell_16 : decode cX12_isNearCell 16 = .ok (.irem, 1) := by decide +kernel
theorem dX12_isNearCell_17 : decode cX12_isNearCell 17 = .ok (.invokevirtual 426, 3) := by decide +kernel
theorem dX12_isNearCell_20 : decode cX12_isNearCell 20 = .ok (.ifCond .eq 25, 3) := by decide +kernel
theorem dX12_isNearCell_23 : decode cX12_isNearCell 23 = .ok (.aload_n 0, 1) := by decide +kernel
theorem dX12_isNearCell_24 : decode cX12_isNearCell 24 = .ok (.getfield 71, 3) := by decide +kernel
theorem dX12_isNearCell_27 : decode cX12_isNearCell 27 = .ok (.iload_n 1, 1) := by decide +kernel
theorem dX12_isNearCell_28 : decode cX12_isNearCell 28 = .ok (.laload, 1) := by decide +kernel
theorem dX12_isNearCell_29 : decode cX12_isNearCell 29 = .ok (.aload_n 0, 1) := by decide +kernel
theorem dX12_isNearCell_30 : decode cX12_isNearCell 30 = .ok (.getfield 77, 3) := by decide +kernel
theorem dX12_isNearCell_33 : decode cX12_isNearCell 33 = .ok (.iload_n 2, 1) := by decide +kernel
theorem dX12_isNearCell_34 : decode cX12_isNearCell 34 = .ok (.laload, 1) := by decide +kernel
theorem dX12_isNearCell_35 : decode cX12_isNearCell 35 = .ok (.invokestatic 310, 3) := by decide +kernel
theorem dX12_isNearCell_38 : decode cX12_isNearCell 38 = .ok (.ifCond .eq 7, 3) := by decide +kernel
theorem dX12_isNearCell_41 : decode cX12_isNearCell 41 = .ok (.iconst 1, 1) := by decide +kernel
theorem dX12_isNearCell_42 : decode cX12_isNearCell 42 = .ok (.goto 4, 3) := by decide +kernel
theorem dX12_isNearCell_45 : decode cX12_isNearCell 45 = .ok (.iconst 0, 1) := by decide +kernel
theorem dX12_isNearCell_46 : decode cX12_isNearCell 46 = .ok (.ireturn, 1) := by decide +kernel
theorem dX12_isFirstCell_0 : decode cX12_isFirstCell 0 = .ok (.iconst 1, 1) := by decide +kernel
theorem dX12_isFirstCell_1 : decode cX12_isFirstCell 1 = .ok (.istore_n 2, 1) := by decide +kernel
theorem dX12_isFirstCell_2 : decode cX12_isFirstCell 2 = .ok (.iconst 0, 1) := by decide +kernel
theorem dX12_isFirstCell_3 : decode cX12_isFirstCell 3 = .ok (.istore_n 3, 1) := by decide +kernel
theorem dX12_isFirstCell_4 : decode cX12_isFirstCell 4 = .ok (.iload_n 3, 1) := by decide +kernel
theorem dX12_isFirstCell_5 : decode cX12_isFirstCell 5 = .ok (.iload_n 1, 1) := by decide +kernel
theorem dX12_isFirstCell_6 : decode cX12_isFirstCell 6 = .ok (.if_icmp .ge 58, 3) := by decide +kernel
theorem dX12_isFirstCell_9 : decode cX12_isFirstCell 9 = .ok (.iload_n 2, 1) := by decide +kernel
theorem dX12_isFirstCell_10 : decode cX12_isFirstCell 10 = .ok (.ifCond .eq 46, 3) := by decide +kernel
theorem dX12_isFirstCell_13 : decode cX12_isFirstCell 13 = .ok (.aload_n 0, 1) := by decide +kernel
theorem dX12_isFirstCell_14 : decode cX12_isFirstCell 14 = .ok (.iload_n 3, 1) := by decide +kernel
theorem dX12_isFirstCell_15 : decode cX12_isFirstCell 15 = .ok (.iconst 4, 1) := by decide +kernel
theorem dX12_isFirstCell_16 : decode cX12_isFirstCell 16 = .ok (.idiv, 1) := by decide +kernel
theorem dX12_isFirstCell_17 : decode cX12_isFirstCell 17 = .ok (.invokevirtual 287, 3) := by decide +kernel
theorem dX12_isFirstCell_20 : decode cX12_isFirstCell 20 = .ok (.ifCond .eq 32, 3) := by decide +kernel
theorem dX12_isFirstCell_23 : decode cX12_isFirstCell 23 = .ok (.aload_n 0, 1) := by decide +kernel
theorem dX12_isFirstCell_24 : decode cX12_isFirstCell 24 = .ok (.iload_n 3, 1) := by decide +kernel
theorem dX12_isFirstCell_25 : decode cX12_isFirstCell 25 = .ok (.iconst 4, 1) := by decide +kernel
theorem dX12_isFirstCell_26 : decode cX12_isFirstCell 26 = .ok (.idiv, 1) := by decide +kernel
theorem dX12_isFirstCell_27 : decode cX12_isFirstCell 27 = .ok (.iload_n 3, 1) := by decide +kernel
theorem dX12_isFirstCell_28 : decode cX12_isFirstCell 28 = .ok (.iconst 4, 1) := by decide +kernel
theorem dX12_isFirstCell_29 : decode cX12_isFirstCell 29 = .ok (.irem, 1) := by decide +kernel
theorem dX12_isFirstCell_30 : decode cX12_isFirstCell 30 = .ok (.invokevirtual 426, 3) := by decide +kernel
theorem dX12_isFirstCell_33 : decode cX12_isFirstCell 33 = .ok (.ifCond .eq 19, 3) := by decide +kernel
theorem dX12_isFirstCell_36 : decode cX12_isFirstCell 36 = .ok (.aload_n 0, 1) := by decide +kernel
theorem dX12_isFirstCell_37 : decode cX12_isFirstCell 37 = .ok (.getfield 71, 3) := by decide +kernel
theorem dX12_isFirstCell_40 : decode cX12_isFirstCell 40 = .ok (.iload_n 3, 1) := by decide +kernel
theorem dX12_isFirstCell_41 : decode cX12_isFirstCell 41 = .ok (.laload, 1) := by decide +kernel
theorem dX12_isFirstCell_42 : decode cX12_isFirstCell 42 = .ok (.aload_n 0, 1) := by decide +kernel
theorem dX12_isFirstCell_43 : decode cX12_isFirstCell 43 = .ok (.getfield 71, 3) := by decide +kernel
theorem dX12_isFirstCell_46 : decode cX12_isFirstCell 46 = .ok (.iload_n 1, 1) := by decide +kernel
theorem dX12_isFirstCell_47 : decode cX12_isFirstCell 47 = .ok (.laload, 1) := by decide +kernel
theorem dX12_isFirstCell_48 : decode cX12_isFirstCell 48 = .ok (.lcmp, 1) := by decide +kernel
theorem dX12_isFirstCell_49 : decode cX12_isFirstCell 49 = .ok (.ifCond .eq 7, 3) := by decide +kernel
theorem dX12_isFirstCell_52 : decode cX12_isFirstCell 52 = .ok (.iconst 1, 1) := by decide +kernel
theorem dX12_isFirstCell_53 : decode cX12_isFirstCell 53 = .ok (.goto 4, 3) := by decide +kernel
theorem dX12_isFirstCell_56 : decode cX12_isFirstCell 56 = .ok (.iconst 0, 1) := by decide +kernel
theorem dX12_isFirstCell_57 : decode cX12_isFirstCell 57 = .ok (.istore_n 2, 1) := by decide +kernel
theorem dX12_isFirstCell_58 : decode cX12_isFirstCell 58 = .ok (.iinc 3 1, 3) := by decide +kernel
theorem dX12_isFirstCell_61 : decode cX12_isFirstCell 61 = .ok (.goto (-57), 3) := by decide +kernel
theorem dX12_isFirstCell_64 : decode cX12_isFirstCell 64 = .ok (.iload_n 2, 1) := by decide +kernel
theorem dX12_isFirstCell_65 : decode cX12_isFirstCell 65 = .ok (.ireturn, 1) := by decide +kernel
theorem dX12_bits_0 : decode cX12_bits 0 = .ok (.iconst 0, 1) := by decide +kernel
theorem dX12_bits_1 : decode cX12_bits 1 = .ok (.istore_n 1, 1) := by decide +kernel
theorem dX12_bits_2 : decode cX12_bits 2 = .ok (.iconst 0, 1) := by decide +kernel
theorem dX12_bits_3 : decode cX12_bits 3 = .ok (.istore_n 2, 1) := by decide +kernel
theorem dX12_bits_4 : decode cX12_bits 4 = .ok (.iload_n 2, 1) := by decide +kernel
theorem dX12_bits_5 : decode cX12_bits 5 = .ok (.bipush 30, 2) := by decide +kernel
theorem dX12_bits_7 : decode cX12_bits 7 = .ok (.if_icmp .ge 17, 3) := by decide +kernel
theorem dX12_bits_10 : decode cX12_bits 10 = .ok (.iload_n 1, 1) := by decide +kernel
theorem dX12_bits_11 : decode cX12_bits 11 = .ok (.iload_n 0, 1) := by decide +kernel
theorem dX12_bits_12 : decode cX12_bits 12 = .ok (.iload_n 2, 1) := by decide +kernel
theorem dX12_bits_13 : decode cX12_bits 13 = .ok (.ishr, 1) := by decide +kernel
theorem dX12_bits_14 : decode cX12_bits 14 = .ok (.iconst 1, 1) := by decide +kernel
theorem dX12_bits_15 : decode cX12_bits 15 = .ok (.iand, 1) := by decide +kernel
theorem dX12_bits_16 : decode cX12_bits 16 = .ok (.iadd, 1) := by decide +kernel
theorem dX12_bits_17 : decode cX12_bits 17 = .ok (.istore_n 1, 1) := by decide +kernel
theorem dX12_bits_18 : decode cX12_bits 18 = .ok (.iinc 2 1, 3) := by decide +kernel
theorem dX12_bits_21 : decode cX12_bits 21 = .ok (.goto (-17), 3) := by decide +kernel
theorem dX12_bits_24 : decode cX12_bits 24 = .ok (.iload_n 1, 1) := by decide +kernel
theorem dX12_bits_25 : decode cX12_bits 25 = .ok (.ireturn, 1) := by decide +kernel
theorem dX12_isHeld_0 : decode cX12_isHeld 0 = .ok (.iconst 1, 1) := by decide +kernel
theorem dX12_isHeld_1 : decode cX12_isHeld 1 = .ok (.istore_n 2, 1) := by decide +kernel
theorem dX12_isHeld_2 : decode cX12_isHeld 2 = .ok (.iload_n 2, 1) := by decide +kernel
theorem dX12_isHeld_3 : decode cX12_isHeld 3 = .ok (.aload_n 0, 1) := by decide +kernel
theorem dX12_isHeld_4 : decode cX12_isHeld 4 = .ok (.getfield 149, 3) := by decide +kernel
theorem dX12_isHeld_7 : decode cX12_isHeld 7 = .ok (.if_icmp .gt 74, 3) := by decide +kernel
theorem dX12_isHeld_10 : decode cX12_isHeld 10 = .ok (.iload_n 2, 1) := by decide +kernel
theorem dX12_isHeld_11 : decode cX12_isHeld 11 = .ok (.aload_n 0, 1) := by decide +kernel
theorem dX12_isHeld_12 : decode cX12_isHeld 12 = .ok (.getfield 223, 3) := by decide +kernel
theorem dX12_isHeld_15 : decode cX12_isHeld 15 = .ok (.if_icmp .gt 66, 3) := by decide +kernel
theorem dX12_isHeld_18 : decode cX12_isHeld 18 = .ok (.iconst 1, 1) := by decide +kernel
theorem dX12_isHeld_19 : decode cX12_isHeld 19 = .ok (.iload_n 2, 1) := by decide +kernel
theorem dX12_isHeld_20 : decode cX12_isHeld 20 = .ok (.ishl, 1) := by decide +kernel
theorem dX12_isHeld_21 : decode cX12_isHeld 21 = .ok (.iconst 1, 1) := by decide +kernel
theorem dX12_isHeld_22 : decode cX12_isHeld 22 = .ok (.isub, 1) := by decide +kernel
theorem dX12_isHeld_23 : decode cX12_isHeld 23 = .ok (.istore_n 3, 1) := by decide +kernel
theorem dX12_isHeld_24 : decode cX12_isHeld 24 = .ok (.iload_n 3, 1) := by decide +kernel
theorem dX12_isHeld_25 : decode cX12_isHeld 25 = .ok (.iconst 1, 1) := by decide +kernel
theorem dX12_isHeld_26 : decode cX12_isHeld 26 = .ok (.aload_n 0, 1) := by decide +kernel
theorem dX12_isHeld_27 : decode cX12_isHeld 27 = .ok (.getfield 223, 3) := by decide +kernel
theorem dX12_isHeld_30 : decode cX12_isHeld 30 = .ok (.ishl, 1) := by decide +kernel
theorem dX12_isHeld_31 : decode cX12_isHeld 31 = .ok (.if_icmp .ge 44, 3) := by decide +kernel
theorem dX12_isHeld_34 : decode cX12_isHeld 34 = .ok (.iload_n 3, 1) := by decide +kernel
theorem dX12_isHeld_35 : decode cX12_isHeld 35 = .ok (.aload_n 0, 1) := by decide +kernel
theorem dX12_isHeld_36 : decode cX12_isHeld 36 = .ok (.getfield 337, 3) := by decide +kernel
theorem dX12_isHeld_39 : decode cX12_isHeld 39 = .ok (.iconst (-1), 1) := by decide +kernel
theorem dX12_isHeld_40 : decode cX12_isHeld 40 = .ok (.ixor, 1) := by decide +kernel
theorem dX12_isHeld_41 : decode cX12_isHeld 41 = .ok (.iand, 1) := by decide +kernel
theorem dX12_isHeld_42 : decode cX12_isHeld 42 = .ok (.ifCond .ne 25, 3) := by decide +kernel
theorem dX12_isHeld_45 : decode cX12_isHeld 45 = .ok (.iload_n 1, 1) := by decide +kernel
theorem dX12_isHeld_46 : decode cX12_isHeld 46 = .ok (.aload_n 0, 1) := by decide +kernel
theorem dX12_isHeld_47 : decode cX12_isHeld 47 = .ok (.iload_n 3, 1) := by decide +kernel
theorem dX12_isHeld_48 : decode cX12_isHeld 48 = .ok (.invokevirtual 354, 3) := by decide +kernel
theorem dX12_isHeld_51 : decode cX12_isHeld 51 = .ok (.iconst (-1), 1) := by decide +kernel
theorem dX12_isHeld_52 : decode cX12_isHeld 52 = .ok (.ixor, 1) := by decide +kernel
theorem dX12_isHeld_53 : decode cX12_isHeld 53 = .ok (.iand, 1) := by decide +kernel
theorem dX12_isHeld_54 : decode cX12_isHeld 54 = .ok (.ifCond .ne 13, 3) := by decide +kernel
theorem dX12_isHeld_57 : decode cX12_isHeld 57 = .ok (.aload_n 0, 1) := by decide +kernel
theorem dX12_isHeld_58 : decode cX12_isHeld 58 = .ok (.iload_n 3, 1) := by decide +kernel
theorem dX12_isHeld_59 : decode cX12_isHeld 59 = .ok (.invokevirtual 357, 3) := by decide +kernel
theorem dX12_isHeld_62 : decode cX12_isHeld 62 = .ok (.ifCond .eq 5, 3) := by decide +kernel
theorem dX12_isHeld_65 : decode cX12_isHeld 65 = .ok (.iconst 1, 1) := by decide +kernel
theorem dX12_isHeld_66 : decode cX12_isHeld 66 = .ok (.ireturn, 1) := by decide +kernel
theorem dX12_isHeld_67 : decode cX12_isHeld 67 = .ok (.iload_n 3, 1) := by decide +kernel
theorem dX12_isHeld_68 : decode cX12_isHeld 68 = .ok (.invokestatic 378, 3) := by decide +kernel
theorem dX12_isHeld_71 : decode cX12_isHeld 71 = .ok (.istore_n 3, 1) := by decide +kernel
theorem dX12_isHeld_72 : decode cX12_isHeld 72 = .ok (.goto (-48), 3) := by decide +kernel
theorem dX12_isHeld_75 : decode cX12_isHeld 75 = .ok (.iinc 2 1, 3) := by decide +kernel
theorem dX12_isHeld_78 : decode cX12_isHeld 78 = .ok (.goto (-76), 3) := by decide +kernel
theorem dX12_isHeld_81 : decode cX12_isHeld 81 = .ok (.iconst 0, 1) := by decide +kernel
theorem dX12_isHeld_82 : decode cX12_isHeld 82 = .ok (.ireturn, 1) := by decide +kernel
theorem dX12_left_0 : decode cX12_left 0 = .ok (.aload_n 0, 1) := by decide +kernel
theorem dX12_left_1 : decode cX12_left 1 = .ok (.iconst 0, 1) := by decide +kernel
theorem dX12_left_2 : decode cX12_left 2 = .ok (.putfield 1, 3) := by decide +kernel
theorem dX12_left_5 : decode cX12_left 5 = .ok (.aload_n 0, 1) := by decide +kernel
theorem dX12_left_6 : decode cX12_left 6 = .ok (.invokevirtual 271, 3) := by decide +kernel
theorem dX12_left_9 : decode cX12_left 9 = .ok (.aload_n 0, 1) := by decide +kernel
theorem dX12_left_10 : decode cX12_left 10 = .ok (.getfield 226, 3) := by decide +kernel
theorem dX12_left_13 : decode cX12_left 13 = .ok (.ifCond .eq 10, 3) := by decide +kernel
theorem dX12_left_16 : decode cX12_left 16 = .ok (.aload_n 0, 1) := by decide +kernel
theorem dX12_left_17 : decode cX12_left 17 = .ok (.getfield 366, 3) := by decide +kernel
theorem dX12_left_20 : decode cX12_left 20 = .ok (.ifCond .le 5, 3) := by decide +kernel
theorem dX12_left_23 : decode cX12_left 23 = .ok (.iconst (-1), 1) := by decide +kernel
theorem dX12_left_24 : decode cX12_left 24 = .ok (.ireturn, 1) := by decide +kernel
theorem dX12_left_25 : decode cX12_left 25 = .ok (.iconst 1, 1) := by decide +kernel
theorem dX12_left_26 : decode cX12_left 26 = .ok (.aload_n 0, 1) := by decide +kernel
theorem dX12_left_27 : decode cX12_left 27 = .ok (.getfield 226, 3) := by decide +kernel
theorem dX12_left_30 : decode cX12_left 30 = .ok (.ishl, 1) := by decide +kernel
theorem dX12_left_31 : decode cX12_left 31 = .ok (.iconst 1, 1) := by decide +kernel
theorem dX12_left_32 : decode cX12_left 32 = .ok (.isub, 1) := by decide +kernel
theorem dX12_left_33 : decode cX12_left 33 = .ok (.istore_n 1, 1) := by decide +kernel
theorem dX12_left_34 : decode cX12_left 34 = .ok (.iconst (-1), 1) := by decide +kernel
theorem dX12_left_35 : decode cX12_left 35 = .ok (.istore_n 2, 1) := by decide +kernel
theorem dX12_left_36 : decode cX12_left 36 = .ok (.iconst 1, 1) := by decide +kernel
theorem dX12_left_37 : decode cX12_left 37 = .ok (.istore_n 3, 1) := by decide +kernel
theorem dX12_left_38 : decode cX12_left 38 = .ok (.iload_n 3, 1) := by decide +kernel
theorem dX12_left_39 : decode cX12_left 39 = .ok (.iload_n 1, 1) := by decide +kernel
theorem dX12_left_40 : decode cX12_left 40 = .ok (.if_icmp .ge 38, 3) := by decide +kernel
theorem dX12_left_43 : decode cX12_left 43 = .ok (.iload_n 2, 1) := by decide +kernel
theorem dX12_left_44 : decode cX12_left 44 = .ok (.ifCond .lt 14, 3) := by decide +kernel
theorem dX12_left_47 : decode cX12_left 47 = .ok (.iload_n 3, 1) := by decide +kernel
theorem dX12_left_48 : decode cX12_left 48 = .ok (.invokestatic 456, 3) := by decide +kernel
theorem dX12_left_51 : decode cX12_left 51 = .ok (.iload_n 2, 1) := by decide +kernel
theorem dX12_left_52 : decode cX12_left 52 = .ok (.invokestatic 456, 3) := by decide +kernel
theorem dX12_left_55 : decode cX12_left 55 = .ok (.if_icmp .ge 17, 3) := by decide +kernel
theorem dX12_left_58 : decode cX12_left 58 = .ok (.aload_n 0, 1) := by decide +kernel
theorem dX12_left_59 : decode cX12_left 59 = .ok (.iload_n 1, 1) := by decide +kernel
theorem dX12_left_60 : decode cX12_left 60 = .ok (.iload_n 3, 1) := by decide +kernel
theorem dX12_left_61 : decode cX12_left 61 = .ok (.iconst (-1), 1) := by decide +kernel
theorem dX12_left_62 : decode cX12_left 62 = .ok (.ixor, 1) := by decide +kernel
theorem dX12_left_63 : decode cX12_left 63 = .ok (.iand, 1) := by decide +kernel
theorem dX12_left_64 : decode cX12_left 64 = .ok (.invokevirtual 459, 3) := by decide +kernel
theorem dX12_left_67 : decode cX12_left 67 = .ok (.ifCond .eq 5, 3) := by decide +kernel
theorem dX12_left_70 : decode cX12_left 70 = .ok (.iload_n 3, 1) := by decide +kernel
theorem dX12_left_71 : decode cX12_left 71 = .ok (.istore_n 2, 1) := by decide +kernel
theorem dX12_left_72 : decode cX12_left 72 = .ok (.iinc 3 1, 3) := by decide +kernel
theorem dX12_left_75 : decode cX12_left 75 = .ok (.goto (-37), 3) := by decide +kernel
theorem dX12_left_78 : decode cX12_left 78 = .ok (.iload_n 2, 1) := by decide +kernel
theorem dX12_left_79 : decode cX12_left 79 = .ok (.ireturn, 1) := by decide +kernel
theorem dX12_meant_0 : decode cX12_meant 0 = .ok (.aload_n 0, 1) := by decide +kernel
theorem dX12_meant_1 : decode cX12_meant 1 = .ok (.iconst 0, 1) := by decide +kernel
theorem dX12_meant_2 : decode cX12_meant 2 = .ok (.putfield 1, 3) := by decide +kernel
theorem dX12_meant_5 : decode cX12_meant 5 = .ok (.aload_n 0, 1) := by decide +kernel
theorem dX12_meant_6 : decode cX12_meant 6 = .ok (.getfield 226, 3) := by decide +kernel
theorem dX12_meant_9 : decode cX12_meant 9 = .ok (.ifCond .eq 26, 3) := by decide +kernel
theorem dX12_meant_12 : decode cX12_meant 12 = .ok (.aload_n 0, 1) := by decide +kernel
theorem dX12_meant_13 : decode cX12_meant 13 = .ok (.getfield 232, 3) := by decide +kernel
theorem dX12_meant_16 : decode cX12_meant 16 = .ok (.bipush 40, 2) := by decide +kernel
theorem dX12_meant_18 : decode cX12_meant 18 = .ok (.if_icmp .eq 17, 3) := by decide +kernel
theorem dX12_meant_21 : decode cX12_meant 21 = .ok (.iload_n 1, 1) := by decide +kernel
theorem dX12_meant_22 : decode cX12_meant 22 = .ok (.ifCond .le 13, 3) := by decide +kernel
theorem dX12_meant_25 : decode cX12_meant 25 = .ok (.iload_n 1, 1) := by decide +kernel
theorem dX12_meant_26 : decode cX12_meant 26 = .ok (.iconst 1, 1) := by decide +kernel
theorem dX12_meant_27 : decode cX12_meant 27 = .ok (.aload_n 0, 1) := by decide +kernel
theorem dX12_meant_28 : decode cX12_meant 28 = .ok (.getfield 223, 3) := by decide +kernel
theorem dX12_meant_31 : decode cX12_meant 31 = .ok (.ishl, 1) := by decide +kernel
theorem dX12_meant_32 : decode cX12_meant 32 = .ok (.if_icmp .lt 5, 3) := by decide +kernel
theorem dX12_meant_35 : decode cX12_meant 35 = .ok (.iconst (-1), 1) := by decide +kernel
theorem dX12_meant_36 : decode cX12_meant 36 = .ok (.ireturn, 1) := by decide +kernel
theorem dX12_meant_37 : decode cX12_meant 37 = .ok (.aload_n 0, 1) := by decide +kernel
theorem dX12_meant_38 : decode cX12_meant 38 = .ok (.invokevirtual 271, 3) := by decide +kernel
theorem dX12_meant_41 : decode cX12_meant 41 = .ok (.aload_n 0, 1) := by decide +kernel
theorem dX12_meant_42 : decode cX12_meant 42 = .ok (.getfield 143, 3) := by decide +kernel
theorem dX12_meant_45 : decode cX12_meant 45 = .ok (.aload_n 0, 1) := by decide +kernel
theorem dX12_meant_46 : decode cX12_meant 46 = .ok (.getfield 232, 3) := by decide +kernel
theorem dX12_meant_49 : decode cX12_meant 49 = .ok (.iconst 0, 1) := by decide +kernel
theorem dX12_meant_50 : decode cX12_meant 50 = .ok (.bastore, 1) := by decide +kernel
theorem dX12_meant_51 : decode cX12_meant 51 = .ok (.aload_n 0, 1) := by decide +kernel
theorem dX12_meant_52 : decode cX12_meant 52 = .ok (.getfield 146, 3) := by decide +kernel
theorem dX12_meant_55 : decode cX12_meant 55 = .ok (.aload_n 0, 1) := by decide +kernel
theorem dX12_meant_56 : decode cX12_meant 56 = .ok (.getfield 232, 3) := by decide +kernel
theorem dX12_meant_59 : decode cX12_meant 59 = .ok (.iconst 0, 1) := by decide +kernel
theorem dX12_meant_60 : decode cX12_meant 60 = .ok (.bastore, 1) := by decide +kernel
theorem dX12_meant_61 : decode cX12_meant 61 = .ok (.iconst 0, 1) := by decide +kernel
theorem dX12_meant_62 : decode cX12_meant 62 = .ok (.istore_n 2, 1) := by decide +kernel
theorem dX12_meant_63 : decode cX12_meant 63 = .ok (.iload_n 2, 1) := by decide +kernel
theorem dX12_meant_64 : decode cX12_meant 64 = .ok (.aload_n 0, 1) := by decide +kernel
theorem dX12_meant_65 : decode cX12_meant 65 = .ok (.getfield 366, 3) := by decide +kernel
theorem dX12_meant_68 : decode cX12_meant 68 = .ok (.if_icmp .ge 95, 3) := by decide +kernel
theorem dX12_meant_71 : decode cX12_meant 71 = .ok (.aload_n 0, 1) := by decide +kernel
theorem dX12_meant_72 : decode cX12_meant 72 = .ok (.getfield 109, 3) := by decide +kernel
theorem dX12_meant_75 : decode cX12_meant 75 = .ok (.aload_n 0, 1) := by decide +kernel
theorem dX12_meant_76 : decode cX12_meant 76 = .ok (.getfield 115, 3) := by decide +kernel
theorem dX12_meant_79 : decode cX12_meant 79 = .ok (.iload_n 2, 1) := by decide +kernel
theorem dX12_meant_80 : decode cX12_meant 80 = .ok (.iaload, 1) := by decide +kernel
theorem dX12_meant_81 : decode cX12_meant 81 = .ok (.iaload, 1) := by decide +kernel
theorem dX12_meant_82 : decode cX12_meant 82 = .ok (.iload_n 1, 1) := by decide +kernel
theorem dX12_meant_83 : decode cX12_meant 83 = .ok (.if_icmp .ne 7, 3) := by decide +kernel
theorem dX12_meant_86 : decode cX12_meant 86 = .ok (.iconst 1, 1) := by decide +kernel
theorem dX12_meant_87 : decode cX12_meant 87 = .ok (.goto 4, 3) := by decide +kernel
theorem dX12_meant_90 : decode cX12_meant 90 = .ok (.iconst 0, 1) := by decide +kernel
theorem dX12_meant_91 : decode cX12_meant 91 = .ok (.istore_n 3, 1) := by decide +kernel
theorem dX12_meant_92 : decode cX12_meant 92 = .ok (.aload_n 0, 1) := by decide +kernel
theorem dX12_meant_93 : decode cX12_meant 93 = .ok (.getfield 146, 3) := by decide +kernel
theorem dX12_meant_96 : decode cX12_meant 96 = .ok (.aload_n 0, 1) := by decide +kernel
theorem dX12_meant_97 : decode cX12_meant 97 = .ok (.getfield 232, 3) := by decide +kernel
theorem dX12_meant_100 : decode cX12_meant 100 = .ok (.aload_n 0, 1) := by decide +kernel
theorem dX12_meant_101 : decode cX12_meant 101 = .ok (.getfield 146, 3) := by decide +kernel
theorem dX12_meant_104 : decode cX12_meant 104 = .ok (.aload_n 0, 1) := by decide +kernel
theorem dX12_meant_105 : decode cX12_meant 105 = .ok (.getfield 232, 3) := by decide +kernel
theorem dX12_meant_108 : decode cX12_meant 108 = .ok (.baload, 1) := by decide +kernel
theorem dX12_meant_109 : decode cX12_meant 109 = .ok (.ifCond .ne 7, 3) := by decide +kernel
theorem dX12_meant_112 : decode cX12_meant 112 = .ok (.iload_n 3, 1) := by decide +kernel
theorem dX12_meant_113 : decode cX12_meant 113 = .ok (.ifCond .eq 7, 3) := by decide +kernel
theorem dX12_meant_116 : decode cX12_meant 116 = .ok (.iconst 1, 1) := by decide +kernel
theorem dX12_meant_117 : decode cX12_meant 117 = .ok (.goto 4, 3) := by decide +kernel
theorem dX12_meant_120 : decode cX12_meant 120 = .ok (.iconst 0, 1) := by decide +kernel
theorem dX12_meant_121 : decode cX12_meant 121 = .ok (.bastore, 1) := by decide +kernel
theorem dX12_meant_122 : decode cX12_meant 122 = .ok (.aload_n 0, 1) := by decide +kernel
theorem dX12_meant_123 : decode cX12_meant 123 = .ok (.getfield 143, 3) := by decide +kernel
theorem dX12_meant_126 : decode cX12_meant 126 = .ok (.aload_n 0, 1) := by decide +kernel
theorem dX12_meant_127 : decode cX12_meant 127 = .ok (.getfield 232, 3) := by decide +kernel
theorem dX12_meant_130 : decode cX12_meant 130 = .ok (.aload_n 0, 1) := by decide +kernel
theorem dX12_meant_131 : decode cX12_meant 131 = .ok (.getfield 143, 3) := by decide +kernel
theorem dX12_meant_134 : decode cX12_meant 134 = .ok (.aload_n 0, 1) := by decide +kernel
theorem dX12_meant_135 : decode cX12_meant 135 = .ok (.getfield 232, 3) := by decide +kernel
theorem dX12_meant_138 : decode cX12_meant 138 = .ok (.baload, 1) := by decide +kernel
theorem dX12_meant_139 : decode cX12_meant 139 = .ok (.ifCond .ne 12, 3) := by decide +kernel
theorem dX12_meant_142 : decode cX12_meant 142 = .ok (.iload_n 3, 1) := by decide +kernel
theorem dX12_meant_143 : decode cX12_meant 143 = .ok (.ifCond .eq 12, 3) := by decide +kernel
theorem dX12_meant_146 : decode cX12_meant 146 = .ok (.iload_n 2, 1) := by decide +kernel
theorem dX12_meant_147 : decode cX12_meant 147 = .ok (.iconst 3, 1) := by decide +kernel
theorem dX12_meant_148 : decode cX12_meant 148 = .ok (.if_icmp .ge 7, 3) := by decide +kernel
theorem dX12_meant_151 : decode cX12_meant 151 = .ok (.iconst 1, 1) := by decide +kernel
theorem dX12_meant_152 : decode cX12_meant 152 = .ok (.goto 4, 3) := by decide +kernel
theorem dX12_meant_155 : decode cX12_meant 155 = .ok (.iconst 0, 1) := by decide +kernel
theorem dX12_meant_156 : decode cX12_meant 156 = .ok (.bastore, 1) := by decide +kernel
theorem dX12_meant_157 : decode cX12_meant 157 = .ok (.iinc 2 1, 3) := by decide +kernel
theorem dX12_meant_160 : decode cX12_meant 160 = .ok (.goto (-97), 3) := by decide +kernel
theorem dX12_meant_163 : decode cX12_meant 163 = .ok (.aload_n 0, 1) := by decide +kernel
theorem dX12_meant_164 : decode cX12_meant 164 = .ok (.dup, 1) := by decide +kernel
theorem dX12_meant_165 : decode cX12_meant 165 = .ok (.getfield 232, 3) := by decide +kernel
theorem dX12_meant_168 : decode cX12_meant 168 = .ok (.iconst 1, 1) := by decide +kernel
theorem dX12_meant_169 : decode cX12_meant 169 = .ok (.iadd, 1) := by decide +kernel
theorem dX12_meant_170 : decode cX12_meant 170 = .ok (.putfield 232, 3) := by decide +kernel
theorem dX12_meant_173 : decode cX12_meant 173 = .ok (.aload_n 0, 1) := by decide +kernel
theorem dX12_meant_174 : decode cX12_meant 174 = .ok (.getfield 232, 3) := by decide +kernel
theorem dX12_meant_177 : decode cX12_meant 177 = .ok (.iconst 1, 1) := by decide +kernel
theorem dX12_meant_178 : decode cX12_meant 178 = .ok (.isub, 1) := by decide +kernel
theorem dX12_meant_179 : decode cX12_meant 179 = .ok (.ireturn, 1) := by decide +kernel
theorem dX12_judged_0 : decode cX12_judged 0 = .ok (.aload_n 0, 1) := by decide +kernel
theorem dX12_judged_1 : decode cX12_judged 1 = .ok (.iconst 0, 1) := by decide +kernel
theorem dX12_judged_2 : decode cX12_judged 2 = .ok (.putfield 1, 3) := by decide +kernel
theorem dX12_judged_5 : decode cX12_judged 5 = .ok (.iload_n 1, 1) := by decide +kernel
theorem dX12_judged_6 : decode cX12_judged 6 = .ok (.iconst 0, 1) := by decide +kernel
theorem dX12_judged_7 : decode cX12_judged 7 = .ok (.iconst 2, 1) := by decide +kernel
theorem dX12_judged_8 : decode cX12_judged 8 = .ok (.invokestatic 277, 3) := by decide +kernel
theorem dX12_judged_11 : decode cX12_judged 11 = .ok (.ifCond .ne 5, 3) := by decide +kernel
theorem dX12_judged_14 : decode cX12_judged 14 = .ok (.iconst (-1), 1) := by decide +kernel
theorem dX12_judged_15 : decode cX12_judged 15 = .ok (.ireturn, 1) := by decide +kernel
theorem dX12_judged_16 : decode cX12_judged 16 = .ok (.iconst 0, 1) := by decide +kernel
theorem dX12_judged_17 : decode cX12_judged 17 = .ok (.istore_n 2, 1) := by decide +kernel
theorem dX12_judged_18 : decode cX12_judged 18 = .ok (.iconst 0, 1) := by decide +kernel
theorem dX12_judged_19 : decode cX12_judged 19 = .ok (.istore_n 3, 1) := by decide +kernel
theorem dX12_judged_20 : decode cX12_judged 20 = .ok (.iload_n 3, 1) := by decide +kernel
theorem dX12_judged_21 : decode cX12_judged 21 = .ok (.aload_n 0, 1) := by decide +kernel
theorem dX12_judged_22 : decode cX12_judged 22 = .ok (.getfield 232, 3) := by decide +kernel
theorem dX12_judged_25 : decode cX12_judged 25 = .ok (.if_icmp .ge 47, 3) := by decide +kernel
theorem dX12_judged_28 : decode cX12_judged 28 = .ok (.iload_n 2, 1) := by decide +kernel
theorem dX12_judged_29 : decode cX12_judged 29 = .ok (.iload_n 1, 1) := by decide +kernel
theorem dX12_judged_30 : decode cX12_judged 30 = .ok (.ifCond .eq 29, 3) := by decide +kernel
theorem dX12_judged_33 : decode cX12_judged 33 = .ok (.iload_n 1, 1) := by decide +kernel
theorem dX12_judged_34 : decode cX12_judged 34 = .ok (.iconst 1, 1) := by decide +kernel
theorem dX12_judged_35 : decode cX12_judged 35 = .ok (.if_icmp .ne 15, 3) := by decide +kernel
theorem dX12_judged_38 : decode cX12_judged 38 = .ok (.aload_n 0, 1) := by decide +kernel
theorem dX12_judged_39 : decode cX12_judged 39 = .ok (.getfield 143, 3) := by decide +kernel
theorem dX12_judged_42 : decode cX12_judged 42 = .ok (.iload_n 3, 1) := by decide +kernel
theorem dX12_judged_43 : decode cX12_judged 43 = .ok (.baload, 1) := by decide +kernel
theorem dX12_judged_44 : decode cX12_judged 44 = .ok (.ifCond .eq 19, 3) := by decide +kernel
theorem dX12_judged_47 : decode cX12_judged 47 = .ok (.goto 12, 3) := by decide +kernel
theorem dX12_judged_50 : decode cX12_judged 50 = .ok (.aload_n 0, 1) := by decide +kernel
theorem dX12_judged_51 : decode cX12_judged 51 = .ok (.getfield 146, 3) := by decide +kernel
theorem dX12_judged_54 : decode cX12_judged 54 = .ok (.iload_n 3, 1) := by decide +kernel
theorem dX12_judged_55 : decode cX12_judged 55 = .ok (.baload, 1) := by decide +kernel
theorem dX12_judged_56 : decode cX12_judged 56 = .ok (.ifCond .eq 7, 3) := by decide +kernel
theorem dX12_judged_59 : decode cX12_judged 59 = .ok (.iconst 1, 1) := by decide +kernel
theorem dX12_judged_60 : decode cX12_judged 60 = .ok (.goto 4, 3) := by decide +kernel
theorem dX12_judged_63 : decode cX12_judged 63 = .ok (.iconst 0, 1) := by decide +kernel
theorem dX12_judged_64 : decode cX12_judged 64 = .ok (.iadd, 1) := by decide +kernel
theorem dX12_judged_65 : decode cX12_judged 65 = .ok (.istore_n 2, 1) := by decide +kernel
theorem dX12_judged_66 : decode cX12_judged 66 = .ok (.iinc 3 1, 3) := by decide +kernel
theorem dX12_judged_69 : decode cX12_judged 69 = .ok (.goto (-49), 3) := by decide +kernel
theorem dX12_judged_72 : decode cX12_judged 72 = .ok (.iload_n 2, 1) := by decide +kernel
theorem dX12_judged_73 : decode cX12_judged 73 = .ok (.ireturn, 1) := by decide +kernel
theorem dX12_pairs_0 : decode cX12_pairs 0 = .ok (.iconst 0, 1) := by decide +kernel
theorem dX12_pairs_1 : decode cX12_pairs 1 = .ok (.istore_n 1, 1) := by decide +kernel
theorem dX12_pairs_2 : decode cX12_pairs 2 = .ok (.iconst 0, 1) := by decide +kernel
theorem dX12_pairs_3 : decode cX12_pairs 3 = .ok (.istore_n 2, 1) := by decide +kernel
theorem dX12_pairs_4 : decode cX12_pairs 4 = .ok (.iload_n 2, 1) := by decide +kernel
theorem dX12_pairs_5 : decode cX12_pairs 5 = .ok (.aload_n 0, 1) := by decide +kernel
theorem dX12_pairs_6 : decode cX12_pairs 6 = .ok (.getfield 223, 3) := by decide +kernel
theorem dX12_pairs_9 : decode cX12_pairs 9 = .ok (.if_icmp .ge 21, 3) := by decide +kernel
theorem dX12_pairs_12 : decode cX12_pairs 12 = .ok (.iload_n 1, 1) := by decide +kernel
theorem dX12_pairs_13 : decode cX12_pairs 13 = .ok (.aload_n 0, 1) := by decide +kernel
theorem dX12_pairs_14 : decode cX12_pairs 14 = .ok (.getfield 99, 3) := by decide +kernel
theorem dX12_pairs_17 : decode cX12_pairs 17 = .ok (.iload_n 2, 1) := by decide +kernel
theorem dX12_pairs_18 : decode cX12_pairs 18 = .ok (.iaload, 1) := by decide +kernel
theorem dX12_pairs_19 : decode cX12_pairs 19 = .ok (.invokestatic 456, 3) := by decide +kernel
theorem dX12_pairs_22 : decode cX12_pairs 22 = .ok (.iadd, 1) := by decide +kernel
theorem dX12_pairs_23 : decode cX12_pairs 23 = .ok (.istore_n 1, 1) := by decide +kernel
theorem dX12_pairs_24 : decode cX12_pairs 24 = .ok (.iinc 2 1, 3) := by decide +kernel
theorem dX12_pairs_27 : decode cX12_pairs 27 = .ok (.goto (-23), 3) := by decide +kernel
theorem dX12_pairs_30 : decode cX12_pairs 30 = .ok (.iload_n 1, 1) := by decide +kernel
theorem dX12_pairs_31 : decode cX12_pairs 31 = .ok (.iconst 2, 1) := by decide +kernel
theorem dX12_pairs_32 : decode cX12_pairs 32 = .ok (.idiv, 1) := by decide +kernel
theorem dX12_pairs_33 : decode cX12_pairs 33 = .ok (.ireturn, 1) := by decide +kernel
theorem dX12_count_0 : decode cX12_count 0 = .ok (.aload_n 0, 1) := by decide +kernel
theorem dX12_count_1 : decode cX12_count 1 = .ok (.iconst 0, 1) := by decide +kernel
theorem dX12_count_2 : decode cX12_count 2 = .ok (.putfield 1, 3) := by decide +kernel
theorem dX12_count_5 : decode cX12_count 5 = .ok (.iload_n 1, 1) := by decide +kernel
theorem dX12_count_6 : decode cX12_count 6 = .ok (.iconst 0, 1) := by decide +kernel
theorem dX12_count_7 : decode cX12_count 7 = .ok (.bipush 9, 2) := by decide +kernel
theorem dX12_count_9 : decode cX12_count 9 = .ok (.invokestatic 277, 3) := by decide +kernel
theorem dX12_count_12 : decode cX12_count 12 = .ok (.ifCond .ne 5, 3) := by decide +kernel
theorem dX12_count_15 : decode cX12_count 15 = .ok (.iconst (-1), 1) := by decide +kernel
theorem dX12_count_16 : decode cX12_count 16 = .ok (.ireturn, 1) := by decide +kernel
theorem dX12_count_17 : decode cX12_count 17 = .ok (.aload_n 0, 1) := by decide +kernel
theorem dX12_count_18 : decode cX12_count 18 = .ok (.invokevirtual 271, 3) := by decide +kernel
theorem dX12_count_21 : decode cX12_count 21 = .ok (.iload_n 1, 1) := by decide +kernel
theorem dX12_count_22 : decode cX12_count 22 = .ok (.tableswitch 104 0 8 #[50, 57, 62, 70, 75, 80, 85, 90, 99], 50) := by decide +kernel
theorem dX12_count_72 : decode cX12_count 72 = .ok (.aload_n 0, 1) := by decide +kernel
theorem dX12_count_73 : decode cX12_count 73 = .ok (.getfield 53, 3) := by decide +kernel
theorem dX12_count_76 : decode cX12_count 76 = .ok (.iconst 0, 1) := by decide +kernel
theorem dX12_count_77 : decode cX12_count 77 = .ok (.iaload, 1) := by decide +kernel
theorem dX12_count_78 : decode cX12_count 78 = .ok (.ireturn, 1) := by decide +kernel
theorem dX12_count_79 : decode cX12_count 79 = .ok (.aload_n 0, 1) := by decide +kernel
theorem dX12_count_80 : decode cX12_count 80 = .ok (.getfield 223, 3) := by decide +kernel
theorem dX12_count_83 : decode cX12_count 83 = .ok (.ireturn, 1) := by decide +kernel
theorem dX12_count_84 : decode cX12_count 84 = .ok (.aload_n 0, 1) := by decide +kernel
theorem dX12_count_85 : decode cX12_count 85 = .ok (.getfield 337, 3) := by decide +kernel
theorem dX12_count_88 : decode cX12_count 88 = .ok (.invokestatic 456, 3) := by decide +kernel
theorem dX12_count_91 : decode cX12_count 91 = .ok (.ireturn, 1) := by decide +kernel
theorem dX12_count_92 : decode cX12_count 92 = .ok (.aload_n 0, 1) := by decide +kernel
theorem dX12_count_93 : decode cX12_count 93 = .ok (.getfield 226, 3) := by decide +kernel
theorem dX12_count_96 : decode cX12_count 96 = .ok (.ireturn, 1) := by decide +kernel
theorem dX12_count_97 : decode cX12_count 97 = .ok (.aload_n 0, 1) := by decide +kernel
theorem dX12_count_98 : decode cX12_count 98 = .ok (.getfield 366, 3) := by decide +kernel
theorem dX12_count_101 : decode cX12_count 101 = .ok (.ireturn, 1) := by decide +kernel
theorem dX12_count_102 : decode cX12_count 102 = .ok (.aload_n 0, 1) := by decide +kernel
theorem dX12_count_103 : decode cX12_count 103 = .ok (.getfield 397, 3) := by decide +kernel
theorem dX12_count_106 : decode cX12_count 106 = .ok (.ireturn, 1) := by decide +kernel
theorem dX12_count_107 : decode cX12_count 107 = .ok (.aload_n 0, 1) := by decide +kernel
theorem dX12_count_108 : decode cX12_count 108 = .ok (.getfield 11, 3) := by decide +kernel
theorem dX12_count_111 : decode cX12_count 111 = .ok (.ireturn, 1) := by decide +kernel
theorem dX12_count_112 : decode cX12_count 112 = .ok (.aload_n 0, 1) := by decide +kernel
theorem dX12_count_113 : decode cX12_count 113 = .ok (.invokevirtual 334, 3) := by decide +kernel
theorem dX12_count_116 : decode cX12_count 116 = .ok (.aload_n 0, 1) := by decide +kernel
theorem dX12_count_117 : decode cX12_count 117 = .ok (.getfield 320, 3) := by decide +kernel
theorem dX12_count_120 : decode cX12_count 120 = .ok (.ireturn, 1) := by decide +kernel
theorem dX12_count_121 : decode cX12_count 121 = .ok (.aload_n 0, 1) := by decide +kernel
theorem dX12_count_122 : decode cX12_count 122 = .ok (.getfield 229, 3) := by decide +kernel
theorem dX12_count_125 : decode cX12_count 125 = .ok (.ireturn, 1) := by decide +kernel
theorem dX12_count_126 : decode cX12_count 126 = .ok (.aload_n 0, 1) := by decide +kernel
theorem dX12_count_127 : decode cX12_count 127 = .ok (.invokevirtual 462, 3) := by decide +kernel
theorem dX12_count_130 : decode cX12_count 130 = .ok (.ireturn, 1) := by decide +kernel
