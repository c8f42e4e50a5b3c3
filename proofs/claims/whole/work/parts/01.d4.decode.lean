theorem dX8_cost_32 : decode cX8_cost 32 = .ok (.iconst (-1), 1) := by decide +kernel
theorem dX8_cost_33 : decode cX8_cost 33 = .ok (.ireturn, 1) := by decide +kernel
theorem dX8_cost_34 : decode cX8_cost 34 = .ok (.iload_n 2, 1) := by decide +kernel
theorem dX8_cost_35 : decode cX8_cost 35 = .ok (.istore_n 3, 1) := by decide +kernel
theorem dX8_cost_36 : decode cX8_cost 36 = .ok (.iconst 1, 1) := by decide +kernel
theorem dX8_cost_37 : decode cX8_cost 37 = .ok (.istore 4, 2) := by decide +kernel
theorem dX8_cost_39 : decode cX8_cost 39 = .ok (.iconst 0, 1) := by decide +kernel
theorem dX8_cost_40 : decode cX8_cost 40 = .ok (.istore 5, 2) := by decide +kernel
theorem dX8_cost_42 : decode cX8_cost 42 = .ok (.iload 5, 2) := by decide +kernel
theorem dX8_cost_44 : decode cX8_cost 44 = .ok (.aload_n 0, 1) := by decide +kernel
theorem dX8_cost_45 : decode cX8_cost 45 = .ok (.getfield 255, 3) := by decide +kernel
theorem dX8_cost_48 : decode cX8_cost 48 = .ok (.if_icmp .ge 49, 3) := by decide +kernel
theorem dX8_cost_51 : decode cX8_cost 51 = .ok (.aload_n 0, 1) := by decide +kernel
theorem dX8_cost_52 : decode cX8_cost 52 = .ok (.getfield 100, 3) := by decide +kernel
theorem dX8_cost_55 : decode cX8_cost 55 = .ok (.iload 5, 2) := by decide +kernel
theorem dX8_cost_57 : decode cX8_cost 57 = .ok (.iload_n 3, 1) := by decide +kernel
theorem dX8_cost_58 : decode cX8_cost 58 = .ok (.bipush 10, 2) := by decide +kernel
theorem dX8_cost_60 : decode cX8_cost 60 = .ok (.irem, 1) := by decide +kernel
theorem dX8_cost_61 : decode cX8_cost 61 = .ok (.iastore, 1) := by decide +kernel
theorem dX8_cost_62 : decode cX8_cost 62 = .ok (.iload 4, 2) := by decide +kernel
theorem dX8_cost_64 : decode cX8_cost 64 = .ok (.ifCond .eq 19, 3) := by decide +kernel
theorem dX8_cost_67 : decode cX8_cost 67 = .ok (.aload_n 0, 1) := by decide +kernel
theorem dX8_cost_68 : decode cX8_cost 68 = .ok (.getfield 100, 3) := by decide +kernel
theorem dX8_cost_71 : decode cX8_cost 71 = .ok (.iload 5, 2) := by decide +kernel
theorem dX8_cost_73 : decode cX8_cost 73 = .ok (.iaload, 1) := by decide +kernel
theorem dX8_cost_74 : decode cX8_cost 74 = .ok (.bipush 6, 2) := by decide +kernel
theorem dX8_cost_76 : decode cX8_cost 76 = .ok (.if_icmp .ge 7, 3) := by decide +kernel
theorem dX8_cost_79 : decode cX8_cost 79 = .ok (.iconst 1, 1) := by decide +kernel
theorem dX8_cost_80 : decode cX8_cost 80 = .ok (.goto 4, 3) := by decide +kernel
theorem dX8_cost_83 : decode cX8_cost 83 = .ok (.iconst 0, 1) := by decide +kernel
theorem dX8_cost_84 : decode cX8_cost 84 = .ok (.istore 4, 2) := by decide +kernel
theorem dX8_cost_86 : decode cX8_cost 86 = .ok (.iload_n 3, 1) := by decide +kernel
theorem dX8_cost_87 : decode cX8_cost 87 = .ok (.bipush 10, 2) := by decide +kernel
theorem dX8_cost_89 : decode cX8_cost 89 = .ok (.idiv, 1) := by decide +kernel
theorem dX8_cost_90 : decode cX8_cost 90 = .ok (.istore_n 3, 1) := by decide +kernel
theorem dX8_cost_91 : decode cX8_cost 91 = .ok (.iinc 5 1, 3) := by decide +kernel
theorem dX8_cost_94 : decode cX8_cost 94 = .ok (.goto (-52), 3) := by decide +kernel
theorem dX8_cost_97 : decode cX8_cost 97 = .ok (.iload 4, 2) := by decide +kernel
theorem dX8_cost_99 : decode cX8_cost 99 = .ok (.ifCond .eq 11, 3) := by decide +kernel
theorem dX8_cost_102 : decode cX8_cost 102 = .ok (.aload_n 0, 1) := by decide +kernel
theorem dX8_cost_103 : decode cX8_cost 103 = .ok (.iload_n 1, 1) := by decide +kernel
theorem dX8_cost_104 : decode cX8_cost 104 = .ok (.invokevirtual 263, 3) := by decide +kernel
theorem dX8_cost_107 : decode cX8_cost 107 = .ok (.goto 4, 3) := by decide +kernel
theorem dX8_cost_110 : decode cX8_cost 110 = .ok (.iconst (-1), 1) := by decide +kernel
theorem dX8_cost_111 : decode cX8_cost 111 = .ok (.ireturn, 1) := by decide +kernel
theorem dX8_takeSlots_0 : decode cX8_takeSlots 0 = .ok (.iload_n 1, 1) := by decide +kernel
theorem dX8_takeSlots_1 : decode cX8_takeSlots 1 = .ok (.istore_n 2, 1) := by decide +kernel
theorem dX8_takeSlots_2 : decode cX8_takeSlots 2 = .ok (.aload_n 0, 1) := by decide +kernel
theorem dX8_takeSlots_3 : decode cX8_takeSlots 3 = .ok (.getfield 255, 3) := by decide +kernel
theorem dX8_takeSlots_6 : decode cX8_takeSlots 6 = .ok (.iconst 1, 1) := by decide +kernel
theorem dX8_takeSlots_7 : decode cX8_takeSlots 7 = .ok (.isub, 1) := by decide +kernel
theorem dX8_takeSlots_8 : decode cX8_takeSlots 8 = .ok (.istore_n 3, 1) := by decide +kernel
theorem dX8_takeSlots_9 : decode cX8_takeSlots 9 = .ok (.iload_n 3, 1) := by decide +kernel
theorem dX8_takeSlots_10 : decode cX8_takeSlots 10 = .ok (.ifCond .lt 24, 3) := by decide +kernel
theorem dX8_takeSlots_13 : decode cX8_takeSlots 13 = .ok (.aload_n 0, 1) := by decide +kernel
theorem dX8_takeSlots_14 : decode cX8_takeSlots 14 = .ok (.getfield 100, 3) := by decide +kernel
theorem dX8_takeSlots_17 : decode cX8_takeSlots 17 = .ok (.iload_n 3, 1) := by decide +kernel
theorem dX8_takeSlots_18 : decode cX8_takeSlots 18 = .ok (.iload_n 2, 1) := by decide +kernel
theorem dX8_takeSlots_19 : decode cX8_takeSlots 19 = .ok (.bipush 6, 2) := by decide +kernel
theorem dX8_takeSlots_21 : decode cX8_takeSlots 21 = .ok (.irem, 1) := by decide +kernel
theorem dX8_takeSlots_22 : decode cX8_takeSlots 22 = .ok (.iastore, 1) := by decide +kernel
theorem dX8_takeSlots_23 : decode cX8_takeSlots 23 = .ok (.iload_n 2, 1) := by decide +kernel
theorem dX8_takeSlots_24 : decode cX8_takeSlots 24 = .ok (.bipush 6, 2) := by decide +kernel
theorem dX8_takeSlots_26 : decode cX8_takeSlots 26 = .ok (.idiv, 1) := by decide +kernel
theorem dX8_takeSlots_27 : decode cX8_takeSlots 27 = .ok (.istore_n 2, 1) := by decide +kernel
theorem dX8_takeSlots_28 : decode cX8_takeSlots 28 = .ok (.iinc 3 (-1), 3) := by decide +kernel
theorem dX8_takeSlots_31 : decode cX8_takeSlots 31 = .ok (.goto (-22), 3) := by decide +kernel
theorem dX8_takeSlots_34 : decode cX8_takeSlots 34 = .ok (.return_, 1) := by decide +kernel
theorem dX8_isRest_0 : decode cX8_isRest 0 = .ok (.iconst 1, 1) := by decide +kernel
theorem dX8_isRest_1 : decode cX8_isRest 1 = .ok (.istore_n 1, 1) := by decide +kernel
theorem dX8_isRest_2 : decode cX8_isRest 2 = .ok (.iconst 0, 1) := by decide +kernel
theorem dX8_isRest_3 : decode cX8_isRest 3 = .ok (.istore_n 2, 1) := by decide +kernel
theorem dX8_isRest_4 : decode cX8_isRest 4 = .ok (.iload_n 2, 1) := by decide +kernel
theorem dX8_isRest_5 : decode cX8_isRest 5 = .ok (.aload_n 0, 1) := by decide +kernel
theorem dX8_isRest_6 : decode cX8_isRest 6 = .ok (.getfield 255, 3) := by decide +kernel
theorem dX8_isRest_9 : decode cX8_isRest 9 = .ok (.if_icmp .ge 74, 3) := by decide +kernel
theorem dX8_isRest_12 : decode cX8_isRest 12 = .ok (.aload_n 0, 1) := by decide +kernel
theorem dX8_isRest_13 : decode cX8_isRest 13 = .ok (.getfield 100, 3) := by decide +kernel
theorem dX8_isRest_16 : decode cX8_isRest 16 = .ok (.iload_n 2, 1) := by decide +kernel
theorem dX8_isRest_17 : decode cX8_isRest 17 = .ok (.iaload, 1) := by decide +kernel
theorem dX8_isRest_18 : decode cX8_isRest 18 = .ok (.istore_n 3, 1) := by decide +kernel
theorem dX8_isRest_19 : decode cX8_isRest 19 = .ok (.aload_n 0, 1) := by decide +kernel
theorem dX8_isRest_20 : decode cX8_isRest 20 = .ok (.iload_n 2, 1) := by decide +kernel
theorem dX8_isRest_21 : decode cX8_isRest 21 = .ok (.invokevirtual 263, 3) := by decide +kernel
theorem dX8_isRest_24 : decode cX8_isRest 24 = .ok (.istore 4, 2) := by decide +kernel
theorem dX8_isRest_26 : decode cX8_isRest 26 = .ok (.iconst 0, 1) := by decide +kernel
theorem dX8_isRest_27 : decode cX8_isRest 27 = .ok (.istore 5, 2) := by decide +kernel
theorem dX8_isRest_29 : decode cX8_isRest 29 = .ok (.iload 5, 2) := by decide +kernel
theorem dX8_isRest_31 : decode cX8_isRest 31 = .ok (.bipush 6, 2) := by decide +kernel
theorem dX8_isRest_33 : decode cX8_isRest 33 = .ok (.if_icmp .ge 37, 3) := by decide +kernel
theorem dX8_isRest_36 : decode cX8_isRest 36 = .ok (.aload_n 0, 1) := by decide +kernel
theorem dX8_isRest_37 : decode cX8_isRest 37 = .ok (.getfield 100, 3) := by decide +kernel
theorem dX8_isRest_40 : decode cX8_isRest 40 = .ok (.iload_n 2, 1) := by decide +kernel
theorem dX8_isRest_41 : decode cX8_isRest 41 = .ok (.iload 5, 2) := by decide +kernel
theorem dX8_isRest_43 : decode cX8_isRest 43 = .ok (.iastore, 1) := by decide +kernel
theorem dX8_isRest_44 : decode cX8_isRest 44 = .ok (.iload_n 1, 1) := by decide +kernel
theorem dX8_isRest_45 : decode cX8_isRest 45 = .ok (.ifCond .eq 17, 3) := by decide +kernel
theorem dX8_isRest_48 : decode cX8_isRest 48 = .ok (.aload_n 0, 1) := by decide +kernel
theorem dX8_isRest_49 : decode cX8_isRest 49 = .ok (.iload_n 2, 1) := by decide +kernel
theorem dX8_isRest_50 : decode cX8_isRest 50 = .ok (.invokevirtual 263, 3) := by decide +kernel
theorem dX8_isRest_53 : decode cX8_isRest 53 = .ok (.iload 4, 2) := by decide +kernel
theorem dX8_isRest_55 : decode cX8_isRest 55 = .ok (.if_icmp .lt 7, 3) := by decide +kernel
theorem dX8_isRest_58 : decode cX8_isRest 58 = .ok (.iconst 1, 1) := by decide +kernel
theorem dX8_isRest_59 : decode cX8_isRest 59 = .ok (.goto 4, 3) := by decide +kernel
theorem dX8_isRest_62 : decode cX8_isRest 62 = .ok (.iconst 0, 1) := by decide +kernel
theorem dX8_isRest_63 : decode cX8_isRest 63 = .ok (.istore_n 1, 1) := by decide +kernel
theorem dX8_isRest_64 : decode cX8_isRest 64 = .ok (.iinc 5 1, 3) := by decide +kernel
theorem dX8_isRest_67 : decode cX8_isRest 67 = .ok (.goto (-38), 3) := by decide +kernel
theorem dX8_isRest_70 : decode cX8_isRest 70 = .ok (.aload_n 0, 1) := by decide +kernel
theorem dX8_isRest_71 : decode cX8_isRest 71 = .ok (.getfield 100, 3) := by decide +kernel
theorem dX8_isRest_74 : decode cX8_isRest 74 = .ok (.iload_n 2, 1) := by decide +kernel
theorem dX8_isRest_75 : decode cX8_isRest 75 = .ok (.iload_n 3, 1) := by decide +kernel
theorem dX8_isRest_76 : decode cX8_isRest 76 = .ok (.iastore, 1) := by decide +kernel
theorem dX8_isRest_77 : decode cX8_isRest 77 = .ok (.iinc 2 1, 3) := by decide +kernel
theorem dX8_isRest_80 : decode cX8_isRest 80 = .ok (.goto (-76), 3) := by decide +kernel
theorem dX8_isRest_83 : decode cX8_isRest 83 = .ok (.iload_n 1, 1) := by decide +kernel
theorem dX8_isRest_84 : decode cX8_isRest 84 = .ok (.ireturn, 1) := by decide +kernel
theorem dX8_sumOfCosts_0 : decode cX8_sumOfCosts 0 = .ok (.iconst 0, 1) := by decide +kernel
theorem dX8_sumOfCosts_1 : decode cX8_sumOfCosts 1 = .ok (.istore_n 1, 1) := by decide +kernel
theorem dX8_sumOfCosts_2 : decode cX8_sumOfCosts 2 = .ok (.iconst 0, 1) := by decide +kernel
theorem dX8_sumOfCosts_3 : decode cX8_sumOfCosts 3 = .ok (.istore_n 2, 1) := by decide +kernel
theorem dX8_sumOfCosts_4 : decode cX8_sumOfCosts 4 = .ok (.iload_n 2, 1) := by decide +kernel
theorem dX8_sumOfCosts_5 : decode cX8_sumOfCosts 5 = .ok (.aload_n 0, 1) := by decide +kernel
theorem dX8_sumOfCosts_6 : decode cX8_sumOfCosts 6 = .ok (.getfield 255, 3) := by decide +kernel
theorem dX8_sumOfCosts_9 : decode cX8_sumOfCosts 9 = .ok (.if_icmp .ge 17, 3) := by decide +kernel
theorem dX8_sumOfCosts_12 : decode cX8_sumOfCosts 12 = .ok (.iload_n 1, 1) := by decide +kernel
theorem dX8_sumOfCosts_13 : decode cX8_sumOfCosts 13 = .ok (.aload_n 0, 1) := by decide +kernel
theorem dX8_sumOfCosts_14 : decode cX8_sumOfCosts 14 = .ok (.iload_n 2, 1) := by decide +kernel
theorem dX8_sumOfCosts_15 : decode cX8_sumOfCosts 15 = .ok (.invokevirtual 263, 3) := by decide +kernel
theorem dX8_sumOfCosts_18 : decode cX8_sumOfCosts 18 = .ok (.iadd, 1) := by decide +kernel
theorem dX8_sumOfCosts_19 : decode cX8_sumOfCosts 19 = .ok (.istore_n 1, 1) := by decide +kernel
theorem dX8_sumOfCosts_20 : decode cX8_sumOfCosts 20 = .ok (.iinc 2 1, 3) := by decide +kernel
theorem dX8_sumOfCosts_23 : decode cX8_sumOfCosts 23 = .ok (.goto (-19), 3) := by decide +kernel
theorem dX8_sumOfCosts_26 : decode cX8_sumOfCosts 26 = .ok (.iload_n 1, 1) := by decide +kernel
theorem dX8_sumOfCosts_27 : decode cX8_sumOfCosts 27 = .ok (.ireturn, 1) := by decide +kernel
theorem dX8_codesOf_0 : decode cX8_codesOf 0 = .ok (.iconst 1, 1) := by decide +kernel
theorem dX8_codesOf_1 : decode cX8_codesOf 1 = .ok (.istore_n 1, 1) := by decide +kernel
theorem dX8_codesOf_2 : decode cX8_codesOf 2 = .ok (.iconst 0, 1) := by decide +kernel
theorem dX8_codesOf_3 : decode cX8_codesOf 3 = .ok (.istore_n 2, 1) := by decide +kernel
theorem dX8_codesOf_4 : decode cX8_codesOf 4 = .ok (.iload_n 2, 1) := by decide +kernel
theorem dX8_codesOf_5 : decode cX8_codesOf 5 = .ok (.aload_n 0, 1) := by decide +kernel
theorem dX8_codesOf_6 : decode cX8_codesOf 6 = .ok (.getfield 255, 3) := by decide +kernel
theorem dX8_codesOf_9 : decode cX8_codesOf 9 = .ok (.if_icmp .ge 14, 3) := by decide +kernel
theorem dX8_codesOf_12 : decode cX8_codesOf 12 = .ok (.iload_n 1, 1) := by decide +kernel
theorem dX8_codesOf_13 : decode cX8_codesOf 13 = .ok (.bipush 6, 2) := by decide +kernel
theorem dX8_codesOf_15 : decode cX8_codesOf 15 = .ok (.imul, 1) := by decide +kernel
theorem dX8_codesOf_16 : decode cX8_codesOf 16 = .ok (.istore_n 1, 1) := by decide +kernel
theorem dX8_codesOf_17 : decode cX8_codesOf 17 = .ok (.iinc 2 1, 3) := by decide +kernel
theorem dX8_codesOf_20 : decode cX8_codesOf 20 = .ok (.goto (-16), 3) := by decide +kernel
theorem dX8_codesOf_23 : decode cX8_codesOf 23 = .ok (.iload_n 1, 1) := by decide +kernel
theorem dX8_codesOf_24 : decode cX8_codesOf 24 = .ok (.ireturn, 1) := by decide +kernel
theorem dX8_rests_0 : decode cX8_rests 0 = .ok (.aload_n 0, 1) := by decide +kernel
theorem dX8_rests_1 : decode cX8_rests 1 = .ok (.invokevirtual 258, 3) := by decide +kernel
theorem dX8_rests_4 : decode cX8_rests 4 = .ok (.iload_n 1, 1) := by decide +kernel
theorem dX8_rests_5 : decode cX8_rests 5 = .ok (.i2l, 1) := by decide +kernel
theorem dX8_rests_6 : decode cX8_rests 6 = .ok (.ldc2_w 250, 3) := by decide +kernel
theorem dX8_rests_9 : decode cX8_rests 9 = .ok (.aload_n 0, 1) := by decide +kernel
theorem dX8_rests_10 : decode cX8_rests 10 = .ok (.getfield 255, 3) := by decide +kernel
theorem dX8_rests_13 : decode cX8_rests 13 = .ok (.iconst 1, 1) := by decide +kernel
theorem dX8_rests_14 : decode cX8_rests 14 = .ok (.isub, 1) := by decide +kernel
theorem dX8_rests_15 : decode cX8_rests 15 = .ok (.i2l, 1) := by decide +kernel
theorem dX8_rests_16 : decode cX8_rests 16 = .ok (.invokestatic 109, 3) := by decide +kernel
theorem dX8_rests_19 : decode cX8_rests 19 = .ok (.ifCond .ne 5, 3) := by decide +kernel
theorem dX8_rests_22 : decode cX8_rests 22 = .ok (.iconst (-1), 1) := by decide +kernel
theorem dX8_rests_23 : decode cX8_rests 23 = .ok (.ireturn, 1) := by decide +kernel
theorem dX8_rests_24 : decode cX8_rests 24 = .ok (.iconst 0, 1) := by decide +kernel
theorem dX8_rests_25 : decode cX8_rests 25 = .ok (.istore_n 2, 1) := by decide +kernel
theorem dX8_rests_26 : decode cX8_rests 26 = .ok (.iconst 0, 1) := by decide +kernel
theorem dX8_rests_27 : decode cX8_rests 27 = .ok (.istore_n 3, 1) := by decide +kernel
theorem dX8_rests_28 : decode cX8_rests 28 = .ok (.iload_n 3, 1) := by decide +kernel
theorem dX8_rests_29 : decode cX8_rests 29 = .ok (.aload_n 0, 1) := by decide +kernel
theorem dX8_rests_30 : decode cX8_rests 30 = .ok (.invokevirtual 266, 3) := by decide +kernel
theorem dX8_rests_33 : decode cX8_rests 33 = .ok (.if_icmp .ge 35, 3) := by decide +kernel
theorem dX8_rests_36 : decode cX8_rests 36 = .ok (.aload_n 0, 1) := by decide +kernel
theorem dX8_rests_37 : decode cX8_rests 37 = .ok (.iload_n 3, 1) := by decide +kernel
theorem dX8_rests_38 : decode cX8_rests 38 = .ok (.invokevirtual 269, 3) := by decide +kernel
theorem dX8_rests_41 : decode cX8_rests 41 = .ok (.aload_n 0, 1) := by decide +kernel
theorem dX8_rests_42 : decode cX8_rests 42 = .ok (.invokevirtual 272, 3) := by decide +kernel
theorem dX8_rests_45 : decode cX8_rests 45 = .ok (.ifCond .eq 17, 3) := by decide +kernel
theorem dX8_rests_48 : decode cX8_rests 48 = .ok (.iload_n 1, 1) := by decide +kernel
theorem dX8_rests_49 : decode cX8_rests 49 = .ok (.ifCond .lt 10, 3) := by decide +kernel
theorem dX8_rests_52 : decode cX8_rests 52 = .ok (.aload_n 0, 1) := by decide +kernel
theorem dX8_rests_53 : decode cX8_rests 53 = .ok (.getfield 100, 3) := by decide +kernel
theorem dX8_rests_56 : decode cX8_rests 56 = .ok (.iload_n 1, 1) := by decide +kernel
theorem dX8_rests_57 : decode cX8_rests 57 = .ok (.iaload, 1) := by decide +kernel
theorem dX8_rests_58 : decode cX8_rests 58 = .ok (.ireturn, 1) := by decide +kernel
theorem dX8_rests_59 : decode cX8_rests 59 = .ok (.iinc 2 1, 3) := by decide +kernel
theorem dX8_rests_62 : decode cX8_rests 62 = .ok (.iinc 3 1, 3) := by decide +kernel
theorem dX8_rests_65 : decode cX8_rests 65 = .ok (.goto (-37), 3) := by decide +kernel
theorem dX8_rests_68 : decode cX8_rests 68 = .ok (.iload_n 1, 1) := by decide +kernel
theorem dX8_rests_69 : decode cX8_rests 69 = .ok (.ifCond .ge 7, 3) := by decide +kernel
theorem dX8_rests_72 : decode cX8_rests 72 = .ok (.iload_n 2, 1) := by decide +kernel
theorem dX8_rests_73 : decode cX8_rests 73 = .ok (.goto 5, 3) := by decide +kernel
theorem dX8_rests_76 : decode cX8_rests 76 = .ok (.bipush (-4), 2) := by decide +kernel
theorem dX8_rests_78 : decode cX8_rests 78 = .ok (.ireturn, 1) := by decide +kernel
theorem dX8_price_0 : decode cX8_price 0 = .ok (.aload_n 0, 1) := by decide +kernel
theorem dX8_price_1 : decode cX8_price 1 = .ok (.invokevirtual 258, 3) := by decide +kernel
theorem dX8_price_4 : decode cX8_price 4 = .ok (.bipush (-4), 2) := by decide +kernel
theorem dX8_price_6 : decode cX8_price 6 = .ok (.istore_n 1, 1) := by decide +kernel
theorem dX8_price_7 : decode cX8_price 7 = .ok (.bipush (-4), 2) := by decide +kernel
theorem dX8_price_9 : decode cX8_price 9 = .ok (.istore_n 2, 1) := by decide +kernel
theorem dX8_price_10 : decode cX8_price 10 = .ok (.iconst 0, 1) := by decide +kernel
theorem dX8_price_11 : decode cX8_price 11 = .ok (.istore_n 3, 1) := by decide +kernel
theorem dX8_price_12 : decode cX8_price 12 = .ok (.iload_n 3, 1) := by decide +kernel
theorem dX8_price_13 : decode cX8_price 13 = .ok (.aload_n 0, 1) := by decide +kernel
theorem dX8_price_14 : decode cX8_price 14 = .ok (.invokevirtual 266, 3) := by decide +kernel
theorem dX8_price_17 : decode cX8_price 17 = .ok (.if_icmp .ge 61, 3) := by decide +kernel
theorem dX8_price_20 : decode cX8_price 20 = .ok (.aload_n 0, 1) := by decide +kernel
theorem dX8_price_21 : decode cX8_price 21 = .ok (.iload_n 3, 1) := by decide +kernel
theorem dX8_price_22 : decode cX8_price 22 = .ok (.invokevirtual 269, 3) := by decide +kernel
theorem dX8_price_25 : decode cX8_price 25 = .ok (.aload_n 0, 1) := by decide +kernel
theorem dX8_price_26 : decode cX8_price 26 = .ok (.invokevirtual 275, 3) := by decide +kernel
theorem dX8_price_29 : decode cX8_price 29 = .ok (.istore 4, 2) := by decide +kernel
theorem dX8_price_31 : decode cX8_price 31 = .ok (.iload_n 2, 1) := by decide +kernel
theorem dX8_price_32 : decode cX8_price 32 = .ok (.ifCond .lt 9, 3) := by decide +kernel
theorem dX8_price_35 : decode cX8_price 35 = .ok (.iload 4, 2) := by decide +kernel
theorem dX8_price_37 : decode cX8_price 37 = .ok (.iload_n 2, 1) := by decide +kernel
theorem dX8_price_38 : decode cX8_price 38 = .ok (.if_icmp .ge 8, 3) := by decide +kernel
theorem dX8_price_41 : decode cX8_price 41 = .ok (.iload 4, 2) := by decide +kernel
theorem dX8_price_43 : decode cX8_price 43 = .ok (.goto 4, 3) := by decide +kernel
theorem dX8_price_46 : decode cX8_price 46 = .ok (.iload_n 2, 1) := by decide +kernel
theorem dX8_price_47 : decode cX8_price 47 = .ok (.istore_n 2, 1) := by decide +kernel
theorem dX8_price_48 : decode cX8_price 48 = .ok (.aload_n 0, 1) := by decide +kernel
theorem dX8_price_49 : decode cX8_price 49 = .ok (.invokevirtual 272, 3) := by decide +kernel
theorem dX8_price_52 : decode cX8_price 52 = .ok (.ifCond .eq 18, 3) := by decide +kernel
theorem dX8_price_55 : decode cX8_price 55 = .ok (.iload_n 1, 1) := by decide +kernel
theorem dX8_price_56 : decode cX8_price 56 = .ok (.ifCond .lt 9, 3) := by decide +kernel
theorem dX8_price_59 : decode cX8_price 59 = .ok (.iload 4, 2) := by decide +kernel
theorem dX8_price_61 : decode cX8_price 61 = .ok (.iload_n 1, 1) := by decide +kernel
theorem dX8_price_62 : decode cX8_price 62 = .ok (.if_icmp .ge 8, 3) := by decide +kernel
theorem dX8_price_65 : decode cX8_price 65 = .ok (.iload 4, 2) := by decide +kernel
theorem dX8_price_67 : decode cX8_price 67 = .ok (.goto 4, 3) := by decide +kernel
theorem dX8_price_70 : decode cX8_price 70 = .ok (.iload_n 1, 1) := by decide +kernel
theorem dX8_price_71 : decode cX8_price 71 = .ok (.istore_n 1, 1) := by decide +kernel
theorem dX8_price_72 : decode cX8_price 72 = .ok (.iinc 3 1, 3) := by decide +kernel
theorem dX8_price_75 : decode cX8_price 75 = .ok (.goto (-63), 3) := by decide +kernel
theorem dX8_price_78 : decode cX8_price 78 = .ok (.iload_n 1, 1) := by decide +kernel
theorem dX8_price_79 : decode cX8_price 79 = .ok (.ifCond .ge 8, 3) := by decide +kernel
theorem dX8_price_82 : decode cX8_price 82 = .ok (.bipush (-4), 2) := by decide +kernel
theorem dX8_price_84 : decode cX8_price 84 = .ok (.goto 6, 3) := by decide +kernel
theorem dX8_price_87 : decode cX8_price 87 = .ok (.iload_n 1, 1) := by decide +kernel
theorem dX8_price_88 : decode cX8_price 88 = .ok (.iload_n 2, 1) := by decide +kernel
theorem dX8_price_89 : decode cX8_price 89 = .ok (.isub, 1) := by decide +kernel
theorem dX8_price_90 : decode cX8_price 90 = .ok (.ireturn, 1) := by decide +kernel
theorem dX8_lowest_0 : decode cX8_lowest 0 = .ok (.lload_n 0, 1) := by decide +kernel
theorem dX8_lowest_1 : decode cX8_lowest 1 = .ok (.lstore 5, 2) := by decide +kernel
theorem dX8_lowest_3 : decode cX8_lowest 3 = .ok (.lload_n 2, 1) := by decide +kernel
theorem dX8_lowest_4 : decode cX8_lowest 4 = .ok (.lstore 7, 2) := by decide +kernel
theorem dX8_lowest_6 : decode cX8_lowest 6 = .ok (.lload 7, 2) := by decide +kernel
theorem dX8_lowest_8 : decode cX8_lowest 8 = .ok (.lconst 0, 1) := by decide +kernel
theorem dX8_lowest_9 : decode cX8_lowest 9 = .ok (.lcmp, 1) := by decide +kernel
theorem dX8_lowest_10 : decode cX8_lowest 10 = .ok (.ifCond .eq 21, 3) := by decide +kernel
theorem dX8_lowest_13 : decode cX8_lowest 13 = .ok (.lload 5, 2) := by decide +kernel
theorem dX8_lowest_15 : decode cX8_lowest 15 = .ok (.lload 7, 2) := by decide +kernel
theorem dX8_lowest_17 : decode cX8_lowest 17 = .ok (.lrem, 1) := by decide +kernel
theorem dX8_lowest_18 : decode cX8_lowest 18 = .ok (.lstore 9, 2) := by decide +kernel
theorem dX8_lowest_20 : decode cX8_lowest 20 = .ok (.lload 7, 2) := by decide +kernel
theorem dX8_lowest_22 : decode cX8_lowest 22 = .ok (.lstore 5, 2) := by decide +kernel
theorem dX8_lowest_24 : decode cX8_lowest 24 = .ok (.lload 9, 2) := by decide +kernel
theorem dX8_lowest_26 : decode cX8_lowest 26 = .ok (.lstore 7, 2) := by decide +kernel
theorem dX8_lowest_28 : decode cX8_lowest 28 = .ok (.goto (-22), 3) := by decide +kernel
theorem dX8_lowest_31 : decode cX8_lowest 31 = .ok (.iload 4, 2) := by decide +kernel
theorem dX8_lowest_33 : decode cX8_lowest 33 = .ok (.ifCond .ne 10, 3) := by decide +kernel
theorem dX8_lowest_36 : decode cX8_lowest 36 = .ok (.lload_n 0, 1) := by decide +kernel
theorem dX8_lowest_37 : decode cX8_lowest 37 = .ok (.lload 5, 2) := by decide +kernel
theorem dX8_lowest_39 : decode cX8_lowest 39 = .ok (.ldiv, 1) := by decide +kernel
theorem dX8_lowest_40 : decode cX8_lowest 40 = .ok (.goto 7, 3) := by decide +kernel
theorem dX8_lowest_43 : decode cX8_lowest 43 = .ok (.lload_n 2, 1) := by decide +kernel
theorem dX8_lowest_44 : decode cX8_lowest 44 = .ok (.lload 5, 2) := by decide +kernel
theorem dX8_lowest_46 : decode cX8_lowest 46 = .ok (.ldiv, 1) := by decide +kernel
theorem dX8_lowest_47 : decode cX8_lowest 47 = .ok (.lreturn, 1) := by decide +kernel
theorem dX8_meant_0 : decode cX8_meant 0 = .ok (.iload_n 1, 1) := by decide +kernel
theorem dX8_meant_1 : decode cX8_meant 1 = .ok (.i2l, 1) := by decide +kernel
theorem dX8_meant_2 : decode cX8_meant 2 = .ok (.lconst 1, 1) := by decide +kernel
theorem dX8_meant_3 : decode cX8_meant 3 = .ok (.ldc2_w 130, 3) := by decide +kernel
theorem dX8_meant_6 : decode cX8_meant 6 = .ok (.invokestatic 109, 3) := by decide +kernel
theorem dX8_meant_9 : decode cX8_meant 9 = .ok (.ifCond .eq 13, 3) := by decide +kernel
theorem dX8_meant_12 : decode cX8_meant 12 = .ok (.iload_n 2, 1) := by decide +kernel
theorem dX8_meant_13 : decode cX8_meant 13 = .ok (.i2l, 1) := by decide +kernel
theorem dX8_meant_14 : decode cX8_meant 14 = .ok (.lconst 0, 1) := by decide +kernel
theorem dX8_meant_15 : decode cX8_meant 15 = .ok (.lconst 1, 1) := by decide +kernel
theorem dX8_meant_16 : decode cX8_meant 16 = .ok (.invokestatic 109, 3) := by decide +kernel
theorem dX8_meant_19 : decode cX8_meant 19 = .ok (.ifCond .ne 5, 3) := by decide +kernel
theorem dX8_meant_22 : decode cX8_meant 22 = .ok (.iconst (-1), 1) := by decide +kernel
theorem dX8_meant_23 : decode cX8_meant 23 = .ok (.ireturn, 1) := by decide +kernel
theorem dX8_meant_24 : decode cX8_meant 24 = .ok (.aload_n 0, 1) := by decide +kernel
theorem dX8_meant_25 : decode cX8_meant 25 = .ok (.getfield 46, 3) := by decide +kernel
theorem dX8_meant_28 : decode cX8_meant 28 = .ok (.iload_n 1, 1) := by decide +kernel
theorem dX8_meant_29 : decode cX8_meant 29 = .ok (.iconst 1, 1) := by decide +kernel
theorem dX8_meant_30 : decode cX8_meant 30 = .ok (.isub, 1) := by decide +kernel
theorem dX8_meant_31 : decode cX8_meant 31 = .ok (.iaload, 1) := by decide +kernel
theorem dX8_meant_32 : decode cX8_meant 32 = .ok (.aload_n 0, 1) := by decide +kernel
theorem dX8_meant_33 : decode cX8_meant 33 = .ok (.getfield 49, 3) := by decide +kernel
theorem dX8_meant_36 : decode cX8_meant 36 = .ok (.iload_n 1, 1) := by decide +kernel
theorem dX8_meant_37 : decode cX8_meant 37 = .ok (.iconst 1, 1) := by decide +kernel
theorem dX8_meant_38 : decode cX8_meant 38 = .ok (.isub, 1) := by decide +kernel
theorem dX8_meant_39 : decode cX8_meant 39 = .ok (.iaload, 1) := by decide +kernel
theorem dX8_meant_40 : decode cX8_meant 40 = .ok (.iadd, 1) := by decide +kernel
theorem dX8_meant_41 : decode cX8_meant 41 = .ok (.istore_n 3, 1) := by decide +kernel
theorem dX8_meant_42 : decode cX8_meant 42 = .ok (.iload_n 3, 1) := by decide +kernel
theorem dX8_meant_43 : decode cX8_meant 43 = .ok (.ifCond .ne 8, 3) := by decide +kernel
theorem dX8_meant_46 : decode cX8_meant 46 = .ok (.bipush (-4), 2) := by decide +kernel
theorem dX8_meant_48 : decode cX8_meant 48 = .ok (.goto 19, 3) := by decide +kernel
theorem dX8_meant_51 : decode cX8_meant 51 = .ok (.aload_n 0, 1) := by decide +kernel
theorem dX8_meant_52 : decode cX8_meant 52 = .ok (.getfield 46, 3) := by decide +kernel
theorem dX8_meant_55 : decode cX8_meant 55 = .ok (.iload_n 1, 1) := by decide +kernel
theorem dX8_meant_56 : decode cX8_meant 56 = .ok (.iconst 1, 1) := by decide +kernel
theorem dX8_meant_57 : decode cX8_meant 57 = .ok (.isub, 1) := by decide +kernel
theorem dX8_meant_58 : decode cX8_meant 58 = .ok (.iaload, 1) := by decide +kernel
theorem dX8_meant_59 : decode cX8_meant 59 = .ok (.i2l, 1) := by decide +kernel
theorem dX8_meant_60 : decode cX8_meant 60 = .ok (.iload_n 3, 1) := by decide +kernel
theorem dX8_meant_61 : decode cX8_meant 61 = .ok (.i2l, 1) := by decide +kernel
theorem dX8_meant_62 : decode cX8_meant 62 = .ok (.iload_n 2, 1) := by decide +kernel
theorem dX8_meant_63 : decode cX8_meant 63 = .ok (.invokestatic 278, 3) := by decide +kernel
theorem dX8_meant_66 : decode cX8_meant 66 = .ok (.l2i, 1) := by decide +kernel
theorem dX8_meant_67 : decode cX8_meant 67 = .ok (.ireturn, 1) := by decide +kernel
theorem dX8_sinceOf_0 : decode cX8_sinceOf 0 = .ok (.lconst 1, 1) := by decide +kernel
theorem dX8_sinceOf_1 : decode cX8_sinceOf 1 = .ok (.lstore_n 3, 1) := by decide +kernel
theorem dX8_sinceOf_2 : decode cX8_sinceOf 2 = .ok (.iconst 0, 1) := by decide +kernel
theorem dX8_sinceOf_3 : decode cX8_sinceOf 3 = .ok (.istore 5, 2) := by decide +kernel
theorem dX8_sinceOf_5 : decode cX8_sinceOf 5 = .ok (.iload 5, 2) := by decide +kernel
theorem dX8_sinceOf_7 : decode cX8_sinceOf 7 = .ok (.aload_n 0, 1) := by decide +kernel
theorem dX8_sinceOf_8 : decode cX8_sinceOf 8 = .ok (.getfield 52, 3) := by decide +kernel
theorem dX8_sinceOf_11 : decode cX8_sinceOf 11 = .ok (.iconst 0, 1) := by decide +kernel
theorem dX8_sinceOf_12 : decode cX8_sinceOf 12 = .ok (.iaload, 1) := by decide +kernel
theorem dX8_sinceOf_13 : decode cX8_sinceOf 13 = .ok (.if_icmp .ge 90, 3) := by decide +kernel
theorem dX8_sinceOf_16 : decode cX8_sinceOf 16 = .ok (.aload_n 0, 1) := by decide +kernel
theorem dX8_sinceOf_17 : decode cX8_sinceOf 17 = .ok (.getfield 55, 3) := by decide +kernel
theorem dX8_sinceOf_20 : decode cX8_sinceOf 20 = .ok (.iload 5, 2) := by decide +kernel
theorem dX8_sinceOf_22 : decode cX8_sinceOf 22 = .ok (.iaload, 1) := by decide +kernel
theorem dX8_sinceOf_23 : decode cX8_sinceOf 23 = .ok (.iload_n 1, 1) := by decide +kernel
theorem dX8_sinceOf_24 : decode cX8_sinceOf 24 = .ok (.if_icmp .ne 73, 3) := by decide +kernel
theorem dX8_sinceOf_27 : decode cX8_sinceOf 27 = .ok (.aload_n 0, 1) := by decide +kernel
theorem dX8_sinceOf_28 : decode cX8_sinceOf 28 = .ok (.getfield 58, 3) := by decide +kernel
theorem dX8_sinceOf_31 : decode cX8_sinceOf 31 = .ok (.iload 5, 2) := by decide +kernel
theorem dX8_sinceOf_33 : decode cX8_sinceOf 33 = .ok (.iaload, 1) := by decide +kernel
theorem dX8_sinceOf_34 : decode cX8_sinceOf 34 = .ok (.bipush 30, 2) := by decide +kernel
theorem dX8_sinceOf_36 : decode cX8_sinceOf 36 = .ok (.iload_n 2, 1) := by decide +kernel
theorem dX8_sinceOf_37 : decode cX8_sinceOf 37 = .ok (.imul, 1) := by decide +kernel
theorem dX8_sinceOf_38 : decode cX8_sinceOf 38 = .ok (.if_icmp .ge 7, 3) := by decide +kernel
theorem dX8_sinceOf_41 : decode cX8_sinceOf 41 = .ok (.iconst 1, 1) := by decide +kernel
theorem dX8_sinceOf_42 : decode cX8_sinceOf 42 = .ok (.goto 4, 3) := by decide +kernel
theorem dX8_sinceOf_45 : decode cX8_sinceOf 45 = .ok (.iconst 0, 1) := by decide +kernel
theorem dX8_sinceOf_46 : decode cX8_sinceOf 46 = .ok (.istore 6, 2) := by decide +kernel
theorem dX8_sinceOf_48 : decode cX8_sinceOf 48 = .ok (.lload_n 3, 1) := by decide +kernel
theorem dX8_sinceOf_49 : decode cX8_sinceOf 49 = .ok (.iload 6, 2) := by decide +kernel
theorem dX8_sinceOf_51 : decode cX8_sinceOf 51 = .ok (.ifCond .eq 24, 3) := by decide +kernel
theorem dX8_sinceOf_54 : decode cX8_sinceOf 54 = .ok (.aload_n 0, 1) := by decide +kernel
theorem dX8_sinceOf_55 : decode cX8_sinceOf 55 = .ok (.getfield 61, 3) := by decide +kernel
theorem dX8_sinceOf_58 : decode cX8_sinceOf 58 = .ok (.iload 5, 2) := by decide +kernel
theorem dX8_sinceOf_60 : decode cX8_sinceOf 60 = .ok (.iaload, 1) := by decide +kernel
theorem dX8_sinceOf_61 : decode cX8_sinceOf 61 = .ok (.iconst 1, 1) := by decide +kernel
theorem dX8_sinceOf_62 : decode cX8_sinceOf 62 = .ok (.if_icmp .ne 7, 3) := by decide +kernel
theorem dX8_sinceOf_65 : decode cX8_sinceOf 65 = .ok (.lconst 0, 1) := by decide +kernel
theorem dX8_sinceOf_66 : decode cX8_sinceOf 66 = .ok (.goto 29, 3) := by decide +kernel
theorem dX8_sinceOf_69 : decode cX8_sinceOf 69 = .ok (.ldc2_w 190, 3) := by decide +kernel
theorem dX8_sinceOf_72 : decode cX8_sinceOf 72 = .ok (.goto 23, 3) := by decide +kernel
theorem dX8_sinceOf_75 : decode cX8_sinceOf 75 = .ok (.aload_n 0, 1) := by decide +kernel
theorem dX8_sinceOf_76 : decode cX8_sinceOf 76 = .ok (.getfield 61, 3) := by decide +kernel
theorem dX8_sinceOf_79 : decode cX8_sinceOf 79 = .ok (.iload 5, 2) := by decide +kernel
theorem dX8_sinceOf_81 : decode cX8_sinceOf 81 = .ok (.iaload, 1) := by decide +kernel
theorem dX8_sinceOf_82 : decode cX8_sinceOf 82 = .ok (.iconst 1, 1) := by decide +kernel
theorem dX8_sinceOf_83 : decode cX8_sinceOf 83 = .ok (.if_icmp .ne 9, 3) := by decide +kernel
theorem dX8_sinceOf_86 : decode cX8_sinceOf 86 = .ok (.ldc2_w 130, 3) := by decide +kernel
theorem dX8_sinceOf_89 : decode cX8_sinceOf 89 = .ok (.goto 6, 3) := by decide +kernel
theorem dX8_sinceOf_92 : decode cX8_sinceOf 92 = .ok (.ldc2_w 282, 3) := by decide +kernel
theorem dX8_sinceOf_95 : decode cX8_sinceOf 95 = .ok (.lmul, 1) := by decide +kernel
theorem dX8_sinceOf_96 : decode cX8_sinceOf 96 = .ok (.lstore_n 3, 1) := by decide +kernel
theorem dX8_sinceOf_97 : decode cX8_sinceOf 97 = .ok (.iinc 5 1, 3) := by decide +kernel
theorem dX8_sinceOf_100 : decode cX8_sinceOf 100 = .ok (.goto (-95), 3) := by decide +kernel
theorem dX8_sinceOf_103 : decode cX8_sinceOf 103 = .ok (.lload_n 3, 1) := by decide +kernel
theorem dX8_sinceOf_104 : decode cX8_sinceOf 104 = .ok (.lreturn, 1) := by decide +kernel
theorem dX8_since_0 : decode cX8_since 0 = .ok (.aload_n 0, 1) := by decide +kernel
theorem dX8_since_1 : decode cX8_since 1 = .ok (.iload_n 1, 1) := by decide +kernel
theorem dX8_since_2 : decode cX8_since 2 = .ok (.invokevirtual 167, 3) := by decide +kernel
theorem dX8_since_5 : decode cX8_since 5 = .ok (.ifCond .eq 25, 3) := by decide +kernel
theorem dX8_since_8 : decode cX8_since 8 = .ok (.iload_n 2, 1) := by decide +kernel
theorem dX8_since_9 : decode cX8_since 9 = .ok (.i2l, 1) := by decide +kernel
theorem dX8_since_10 : decode cX8_since 10 = .ok (.lconst 0, 1) := by decide +kernel
theorem dX8_since_11 : decode cX8_since 11 = .ok (.ldc2_w 284, 3) := by decide +kernel
theorem dX8_since_14 : decode cX8_since 14 = .ok (.invokestatic 109, 3) := by decide +kernel
theorem dX8_since_17 : decode cX8_since 17 = .ok (.ifCond .eq 13, 3) := by decide +kernel
theorem dX8_since_20 : decode cX8_since 20 = .ok (.iload_n 3, 1) := by decide +kernel
theorem dX8_since_21 : decode cX8_since 21 = .ok (.i2l, 1) := by decide +kernel
theorem dX8_since_22 : decode cX8_since 22 = .ok (.lconst 0, 1) := by decide +kernel
theorem dX8_since_23 : decode cX8_since 23 = .ok (.lconst 1, 1) := by decide +kernel
theorem dX8_since_24 : decode cX8_since 24 = .ok (.invokestatic 109, 3) := by decide +kernel
theorem dX8_since_27 : decode cX8_since 27 = .ok (.ifCond .ne 5, 3) := by decide +kernel
theorem dX8_since_30 : decode cX8_since 30 = .ok (.iconst (-1), 1) := by decide +kernel
theorem dX8_since_31 : decode cX8_since 31 = .ok (.ireturn, 1) := by decide +kernel
theorem dX8_since_32 : decode cX8_since 32 = .ok (.lconst 0, 1) := by decide +kernel
theorem dX8_since_33 : decode cX8_since 33 = .ok (.lstore 4, 2) := by decide +kernel
theorem dX8_since_35 : decode cX8_since 35 = .ok (.iconst 0, 1) := by decide +kernel
theorem dX8_since_36 : decode cX8_since 36 = .ok (.istore 6, 2) := by decide +kernel
theorem dX8_since_38 : decode cX8_since 38 = .ok (.iload 6, 2) := by decide +kernel
theorem dX8_since_40 : decode cX8_since 40 = .ok (.bipush 12, 2) := by decide +kernel
theorem dX8_since_42 : decode cX8_since 42 = .ok (.if_icmp .ge 21, 3) := by decide +kernel
theorem dX8_since_45 : decode cX8_since 45 = .ok (.lload 4, 2) := by decide +kernel
theorem dX8_since_47 : decode cX8_since 47 = .ok (.aload_n 0, 1) := by decide +kernel
theorem dX8_since_48 : decode cX8_since 48 = .ok (.iload_n 1, 1) := by decide +kernel
theorem dX8_since_49 : decode cX8_since 49 = .ok (.iload 6, 2) := by decide +kernel
theorem dX8_since_51 : decode cX8_since 51 = .ok (.invokevirtual 286, 3) := by decide +kernel
theorem dX8_since_54 : decode cX8_since 54 = .ok (.ladd, 1) := by decide +kernel
theorem dX8_since_55 : decode cX8_since 55 = .ok (.lstore 4, 2) := by decide +kernel
theorem dX8_since_57 : decode cX8_since 57 = .ok (.iinc 6 1, 3) := by decide +kernel
theorem dX8_since_60 : decode cX8_since 60 = .ok (.goto (-22), 3) := by decide +kernel
theorem dX8_since_63 : decode cX8_since 63 = .ok (.lload 4, 2) := by decide +kernel
theorem dX8_since_65 : decode cX8_since 65 = .ok (.lconst 0, 1) := by decide +kernel
theorem dX8_since_66 : decode cX8_since 66 = .ok (.lcmp, 1) := by decide +kernel
theorem dX8_since_67 : decode cX8_since 67 = .ok (.ifCond .ne 8, 3) := by decide +kernel
theorem dX8_since_70 : decode cX8_since 70 = .ok (.bipush (-4), 2) := by decide +kernel
theorem dX8_since_72 : decode cX8_since 72 = .ok (.goto 16, 3) := by decide +kernel
theorem dX8_since_75 : decode cX8_since 75 = .ok (.aload_n 0, 1) := by decide +kernel
theorem dX8_since_76 : decode cX8_since 76 = .ok (.iload_n 1, 1) := by decide +kernel
theorem dX8_since_77 : decode cX8_since 77 = .ok (.iload_n 2, 1) := by decide +kernel
theorem dX8_since_78 : decode cX8_since 78 = .ok (.invokevirtual 286, 3) := by decide +kernel
theorem dX8_since_81 : decode cX8_since 81 = .ok (.lload 4, 2) := by decide +kernel
theorem dX8_since_83 : decode cX8_since 83 = .ok (.iload_n 3, 1) := by decide +kernel
theorem dX8_since_84 : decode cX8_since 84 = .ok (.invokestatic 278, 3) := by decide +kernel
theorem dX8_since_87 : decode cX8_since 87 = .ok (.l2i, 1) := by decide +kernel
theorem dX8_since_88 : decode cX8_since 88 = .ok (.ireturn, 1) := by decide +kernel
theorem dX8_around_0 : decode cX8_around 0 = .ok (.iload_n 0, 1) := by decide +kernel
theorem dX8_around_1 : decode cX8_around 1 = .ok (.iload_n 1, 1) := by decide +kernel
theorem dX8_around_2 : decode cX8_around 2 = .ok (.irem, 1) := by decide +kernel
theorem dX8_around_3 : decode cX8_around 3 = .ok (.iload_n 1, 1) := by decide +kernel
theorem dX8_around_4 : decode cX8_around 4 = .ok (.iadd, 1) := by decide +kernel
theorem dX8_around_5 : decode cX8_around 5 = .ok (.iload_n 1, 1) := by decide +kernel
theorem dX8_around_6 : decode cX8_around 6 = .ok (.irem, 1) := by decide +kernel
theorem dX8_around_7 : decode cX8_around 7 = .ok (.ireturn, 1) := by decide +kernel
theorem dX8_leave_0 : decode cX8_leave 0 = .ok (.iload_n 1, 1) := by decide +kernel
theorem dX8_leave_1 : decode cX8_leave 1 = .ok (.i2l, 1) := by decide +kernel
theorem dX8_leave_2 : decode cX8_leave 2 = .ok (.ldc2_w 290, 3) := by decide +kernel
theorem dX8_leave_5 : decode cX8_leave 5 = .ok (.ldc2_w 292, 3) := by decide +kernel
theorem dX8_leave_8 : decode cX8_leave 8 = .ok (.invokestatic 109, 3) := by decide +kernel
theorem dX8_leave_11 : decode cX8_leave 11 = .ok (.ifCond .eq 43, 3) := by decide +kernel
theorem dX8_leave_14 : decode cX8_leave 14 = .ok (.iload_n 2, 1) := by decide +kernel
theorem dX8_leave_15 : decode cX8_leave 15 = .ok (.i2l, 1) := by decide +kernel
theorem dX8_leave_16 : decode cX8_leave 16 = .ok (.lconst 0, 1) := by decide +kernel
theorem dX8_leave_17 : decode cX8_leave 17 = .ok (.iload_n 1, 1) := by decide +kernel
theorem dX8_leave_18 : decode cX8_leave 18 = .ok (.iconst 2, 1) := by decide +kernel
theorem dX8_leave_19 : decode cX8_leave 19 = .ok (.irem, 1) := by decide +kernel
theorem dX8_leave_20 : decode cX8_leave 20 = .ok (.iconst 1, 1) := by decide +kernel
theorem dX8_leave_21 : decode cX8_leave 21 = .ok (.if_icmp .ne 10, 3) := by decide +kernel
theorem dX8_leave_24 : decode cX8_leave 24 = .ok (.iload_n 1, 1) := by decide +kernel
theorem dX8_leave_25 : decode cX8_leave 25 = .ok (.iconst 1, 1) := by decide +kernel
theorem dX8_leave_26 : decode cX8_leave 26 = .ok (.isub, 1) := by decide +kernel
theorem dX8_leave_27 : decode cX8_leave 27 = .ok (.i2l, 1) := by decide +kernel
theorem dX8_leave_28 : decode cX8_leave 28 = .ok (.goto 7, 3) := by decide +kernel
theorem dX8_leave_31 : decode cX8_leave 31 = .ok (.iload_n 1, 1) := by decide +kernel
theorem dX8_leave_32 : decode cX8_leave 32 = .ok (.iconst 2, 1) := by decide +kernel
theorem dX8_leave_33 : decode cX8_leave 33 = .ok (.isub, 1) := by decide +kernel
theorem dX8_leave_34 : decode cX8_leave 34 = .ok (.i2l, 1) := by decide +kernel
theorem dX8_leave_35 : decode cX8_leave 35 = .ok (.invokestatic 109, 3) := by decide +kernel
theorem dX8_leave_38 : decode cX8_leave 38 = .ok (.ifCond .eq 16, 3) := by decide +kernel
theorem dX8_leave_41 : decode cX8_leave 41 = .ok (.iload_n 3, 1) := by decide +kernel
theorem dX8_leave_42 : decode cX8_leave 42 = .ok (.i2l, 1) := by decide +kernel
theorem dX8_leave_43 : decode cX8_leave 43 = .ok (.lconst 0, 1) := by decide +kernel
theorem dX8_leave_44 : decode cX8_leave 44 = .ok (.iload_n 1, 1) := by decide +kernel
theorem dX8_leave_45 : decode cX8_leave 45 = .ok (.iconst 1, 1) := by decide +kernel
theorem dX8_leave_46 : decode cX8_leave 46 = .ok (.isub, 1) := by decide +kernel
theorem dX8_leave_47 : decode cX8_leave 47 = .ok (.i2l, 1) := by decide +kernel
theorem dX8_leave_48 : decode cX8_leave 48 = .ok (.invokestatic 109, 3) := by decide +kernel
theorem dX8_leave_51 : decode cX8_leave 51 = .ok (.ifCond .ne 5, 3) := by decide +kernel
theorem dX8_leave_54 : decode cX8_leave 54 = .ok (.iconst (-1), 1) := by decide +kernel
theorem dX8_leave_55 : decode cX8_leave 55 = .ok (.ireturn, 1) := by decide +kernel
theorem dX8_leave_56 : decode cX8_leave 56 = .ok (.iload_n 1, 1) := by decide +kernel
theorem dX8_leave_57 : decode cX8_leave 57 = .ok (.iconst 2, 1) := by decide +kernel
theorem dX8_leave_58 : decode cX8_leave 58 = .ok (.irem, 1) := by decide +kernel
theorem dX8_leave_59 : decode cX8_leave 59 = .ok (.iconst 1, 1) := by decide +kernel
theorem dX8_leave_60 : decode cX8_leave 60 = .ok (.if_icmp .ne 26, 3) := by decide +kernel
theorem dX8_leave_63 : decode cX8_leave 63 = .ok (.iload_n 2, 1) := by decide +kernel
theorem dX8_leave_64 : decode cX8_leave 64 = .ok (.iload_n 3, 1) := by decide +kernel
theorem dX8_leave_65 : decode cX8_leave 65 = .ok (.isub, 1) := by decide +kernel
theorem dX8_leave_66 : decode cX8_leave 66 = .ok (.iload_n 1, 1) := by decide +kernel
theorem dX8_leave_67 : decode cX8_leave 67 = .ok (.invokestatic 294, 3) := by decide +kernel
theorem dX8_leave_70 : decode cX8_leave 70 = .ok (.istore 4, 2) := by decide +kernel
theorem dX8_leave_72 : decode cX8_leave 72 = .ok (.iload 4, 2) := by decide +kernel
theorem dX8_leave_74 : decode cX8_leave 74 = .ok (.iload_n 3, 1) := by decide +kernel
theorem dX8_leave_75 : decode cX8_leave 75 = .ok (.if_icmp .ne 8, 3) := by decide +kernel
theorem dX8_leave_78 : decode cX8_leave 78 = .ok (.bipush (-4), 2) := by decide +kernel
theorem dX8_leave_80 : decode cX8_leave 80 = .ok (.goto 5, 3) := by decide +kernel
theorem dX8_leave_83 : decode cX8_leave 83 = .ok (.iload 4, 2) := by decide +kernel
theorem dX8_leave_85 : decode cX8_leave 85 = .ok (.ireturn, 1) := by decide +kernel
theorem dX8_leave_86 : decode cX8_leave 86 = .ok (.iload_n 3, 1) := by decide +kernel
theorem dX8_leave_87 : decode cX8_leave 87 = .ok (.iload_n 1, 1) := by decide +kernel
theorem dX8_leave_88 : decode cX8_leave 88 = .ok (.iconst 1, 1) := by decide +kernel
theorem dX8_leave_89 : decode cX8_leave 89 = .ok (.isub, 1) := by decide +kernel
theorem dX8_leave_90 : decode cX8_leave 90 = .ok (.if_icmp .ge 29, 3) := by decide +kernel
theorem dX8_leave_93 : decode cX8_leave 93 = .ok (.iload_n 2, 1) := by decide +kernel
theorem dX8_leave_94 : decode cX8_leave 94 = .ok (.iload_n 3, 1) := by decide +kernel
theorem dX8_leave_95 : decode cX8_leave 95 = .ok (.isub, 1) := by decide +kernel
theorem dX8_leave_96 : decode cX8_leave 96 = .ok (.iload_n 1, 1) := by decide +kernel
theorem dX8_leave_97 : decode cX8_leave 97 = .ok (.iconst 1, 1) := by decide +kernel
theorem dX8_leave_98 : decode cX8_leave 98 = .ok (.isub, 1) := by decide +kernel
theorem dX8_leave_99 : decode cX8_leave 99 = .ok (.invokestatic 294, 3) := by decide +kernel
theorem dX8_leave_102 : decode cX8_leave 102 = .ok (.istore 4, 2) := by decide +kernel
theorem dX8_leave_104 : decode cX8_leave 104 = .ok (.iload 4, 2) := by decide +kernel
theorem dX8_leave_106 : decode cX8_leave 106 = .ok (.iload_n 3, 1) := by decide +kernel
theorem dX8_leave_107 : decode cX8_leave 107 = .ok (.if_icmp .ne 9, 3) := by decide +kernel
theorem dX8_leave_110 : decode cX8_leave 110 = .ok (.iload_n 1, 1) := by decide +kernel
theorem dX8_leave_111 : decode cX8_leave 111 = .ok (.iconst 1, 1) := by decide +kernel
theorem dX8_leave_112 : decode cX8_leave 112 = .ok (.isub, 1) := by decide +kernel
theorem dX8_leave_113 : decode cX8_leave 113 = .ok (.goto 5, 3) := by decide +kernel
theorem dX8_leave_116 : decode cX8_leave 116 = .ok (.iload 4, 2) := by decide +kernel
theorem dX8_leave_118 : decode cX8_leave 118 = .ok (.ireturn, 1) := by decide +kernel
theorem dX8_leave_119 : decode cX8_leave 119 = .ok (.iconst 0, 1) := by decide +kernel
theorem dX8_leave_120 : decode cX8_leave 120 = .ok (.istore 4, 2) := by decide +kernel
theorem dX8_leave_122 : decode cX8_leave 122 = .ok (.iload_n 2, 1) := by decide +kernel
theorem dX8_leave_123 : decode cX8_leave 123 = .ok (.iload 4, 2) := by decide +kernel
theorem dX8_leave_125 : decode cX8_leave 125 = .ok (.isub, 1) := by decide +kernel
theorem dX8_leave_126 : decode cX8_leave 126 = .ok (.iload_n 1, 1) := by decide +kernel
theorem dX8_leave_127 : decode cX8_leave 127 = .ok (.iconst 1, 1) := by decide +kernel
theorem dX8_leave_128 : decode cX8_leave 128 = .ok (.isub, 1) := by decide +kernel
theorem dX8_leave_129 : decode cX8_leave 129 = .ok (.invokestatic 294, 3) := by decide +kernel
theorem dX8_leave_132 : decode cX8_leave 132 = .ok (.iload 4, 2) := by decide +kernel
theorem dX8_leave_134 : decode cX8_leave 134 = .ok (.if_icmp .eq 9, 3) := by decide +kernel
theorem dX8_leave_137 : decode cX8_leave 137 = .ok (.iinc 4 1, 3) := by decide +kernel
theorem dX8_leave_140 : decode cX8_leave 140 = .ok (.goto (-18), 3) := by decide +kernel
theorem dX8_leave_143 : decode cX8_leave 143 = .ok (.iload 4, 2) := by decide +kernel
theorem dX8_leave_145 : decode cX8_leave 145 = .ok (.ireturn, 1) := by decide +kernel
theorem dX8_drawn_0 : decode cX8_drawn 0 = .ok (.iload_n 1, 1) := by decide +kernel
theorem dX8_drawn_1 : decode cX8_drawn 1 = .ok (.i2l, 1) := by decide +kernel
theorem dX8_drawn_2 : decode cX8_drawn 2 = .ok (.lconst 0, 1) := by decide +kernel
theorem dX8_drawn_3 : decode cX8_drawn 3 = .ok (.ldc2_w 297, 3) := by decide +kernel
theorem dX8_drawn_6 : decode cX8_drawn 6 = .ok (.invokestatic 109, 3) := by decide +kernel
theorem dX8_drawn_9 : decode cX8_drawn 9 = .ok (.ifCond .eq 13, 3) := by decide +kernel
theorem dX8_drawn_12 : decode cX8_drawn 12 = .ok (.iload_n 2, 1) := by decide +kernel
theorem dX8_drawn_13 : decode cX8_drawn 13 = .ok (.i2l, 1) := by decide +kernel
theorem dX8_drawn_14 : decode cX8_drawn 14 = .ok (.lconst 0, 1) := by decide +kernel
theorem dX8_drawn_15 : decode cX8_drawn 15 = .ok (.lconst 1, 1) := by decide +kernel
theorem dX8_drawn_16 : decode cX8_drawn 16 = .ok (.invokestatic 109, 3) := by decide +kernel
theorem dX8_drawn_19 : decode cX8_drawn 19 = .ok (.ifCond .ne 5, 3) := by decide +kernel
theorem dX8_drawn_22 : decode cX8_drawn 22 = .ok (.iconst (-1), 1) := by decide +kernel
theorem dX8_drawn_23 : decode cX8_drawn 23 = .ok (.ireturn, 1) := by decide +kernel
theorem dX8_drawn_24 : decode cX8_drawn 24 = .ok (.aload_n 0, 1) := by decide +kernel
theorem dX8_drawn_25 : decode cX8_drawn 25 = .ok (.invokevirtual 224, 3) := by decide +kernel
theorem dX8_drawn_28 : decode cX8_drawn 28 = .ok (.aload_n 0, 1) := by decide +kernel
theorem dX8_drawn_29 : decode cX8_drawn 29 = .ok (.iload_n 1, 1) := by decide +kernel
theorem dX8_drawn_30 : decode cX8_drawn 30 = .ok (.putfield 179, 3) := by decide +kernel
theorem dX8_drawn_33 : decode cX8_drawn 33 = .ok (.aload_n 0, 1) := by decide +kernel
theorem dX8_drawn_34 : decode cX8_drawn 34 = .ok (.invokevirtual 227, 3) := by decide +kernel
theorem dX8_drawn_37 : decode cX8_drawn 37 = .ok (.iload_n 2, 1) := by decide +kernel
theorem dX8_drawn_38 : decode cX8_drawn 38 = .ok (.ifCond .ne 10, 3) := by decide +kernel
theorem dX8_drawn_41 : decode cX8_drawn 41 = .ok (.aload_n 0, 1) := by decide +kernel
theorem dX8_drawn_42 : decode cX8_drawn 42 = .ok (.invokevirtual 218, 3) := by decide +kernel
theorem dX8_drawn_45 : decode cX8_drawn 45 = .ok (.goto 7, 3) := by decide +kernel
theorem dX8_drawn_48 : decode cX8_drawn 48 = .ok (.aload_n 0, 1) := by decide +kernel
theorem dX8_drawn_49 : decode cX8_drawn 49 = .ok (.invokevirtual 240, 3) := by decide +kernel
theorem dX8_drawn_52 : decode cX8_drawn 52 = .ok (.ireturn, 1) := by decide +kernel
theorem dX8_note_0 : decode cX8_note 0 = .ok (.aload_n 0, 1) := by decide +kernel
theorem dX8_note_1 : decode cX8_note 1 = .ok (.getfield 164, 3) := by decide +kernel
theorem dX8_note_4 : decode cX8_note 4 = .ok (.bipush 8, 2) := by decide +kernel
theorem dX8_note_6 : decode cX8_note 6 = .ok (.if_icmp .ne 41, 3) := by decide +kernel
theorem dX8_note_9 : decode cX8_note 9 = .ok (.iconst 1, 1) := by decide +kernel
theorem dX8_note_10 : decode cX8_note 10 = .ok (.istore_n 2, 1) := by decide +kernel
theorem dX8_note_11 : decode cX8_note 11 = .ok (.iload_n 2, 1) := by decide +kernel
theorem dX8_note_12 : decode cX8_note 12 = .ok (.bipush 8, 2) := by decide +kernel
theorem dX8_note_14 : decode cX8_note 14 = .ok (.if_icmp .ge 23, 3) := by decide +kernel
theorem dX8_note_17 : decode cX8_note 17 = .ok (.aload_n 0, 1) := by decide +kernel
theorem dX8_note_18 : decode cX8_note 18 = .ok (.getfield 79, 3) := by decide +kernel
theorem dX8_note_21 : decode cX8_note 21 = .ok (.iload_n 2, 1) := by decide +kernel
theorem dX8_note_22 : decode cX8_note 22 = .ok (.iconst 1, 1) := by decide +kernel
theorem dX8_note_23 : decode cX8_note 23 = .ok (.isub, 1) := by decide +kernel
theorem dX8_note_24 : decode cX8_note 24 = .ok (.aload_n 0, 1) := by decide +kernel
theorem dX8_note_25 : decode cX8_note 25 = .ok (.getfield 79, 3) := by decide +kernel
theorem dX8_note_28 : decode cX8_note 28 = .ok (.iload_n 2, 1) := by decide +kernel
theorem dX8_note_29 : decode cX8_note 29 = .ok (.iaload, 1) := by decide +kernel
theorem dX8_note_30 : decode cX8_note 30 = .ok (.iastore, 1) := by decide +kernel
theorem dX8_note_31 : decode cX8_note 31 = .ok (.iinc 2 1, 3) := by decide +kernel
theorem dX8_note_34 : decode cX8_note 34 = .ok (.goto (-23), 3) := by decide +kernel
theorem dX8_note_37 : decode cX8_note 37 = .ok (.aload_n 0, 1) := by decide +kernel
theorem dX8_note_38 : decode cX8_note 38 = .ok (.dup, 1) := by decide +kernel
theorem dX8_note_39 : decode cX8_note 39 = .ok (.getfield 164, 3) := by decide +kernel
theorem dX8_note_42 : decode cX8_note 42 = .ok (.iconst 1, 1) := by decide +kernel
theorem dX8_note_43 : decode cX8_note 43 = .ok (.isub, 1) := by decide +kernel
theorem dX8_note_44 : decode cX8_note 44 = .ok (.putfield 164, 3) := by decide +kernel
theorem dX8_note_47 : decode cX8_note 47 = .ok (.aload_n 0, 1) := by decide +kernel
theorem dX8_note_48 : decode cX8_note 48 = .ok (.getfield 79, 3) := by decide +kernel
theorem dX8_note_51 : decode cX8_note 51 = .ok (.aload_n 0, 1) := by decide +kernel
theorem dX8_note_52 : decode cX8_note 52 = .ok (.getfield 164, 3) := by decide +kernel
theorem dX8_note_55 : decode cX8_note 55 = .ok (.iload_n 1, 1) := by decide +kernel
theorem dX8_note_56 : decode cX8_note 56 = .ok (.iastore, 1) := by decide +kernel
theorem dX8_note_57 : decode cX8_note 57 = .ok (.aload_n 0, 1) := by decide +kernel
theorem dX8_note_58 : decode cX8_note 58 = .ok (.dup, 1) := by decide +kernel
theorem dX8_note_59 : decode cX8_note 59 = .ok (.getfield 164, 3) := by decide +kernel
theorem dX8_note_62 : decode cX8_note 62 = .ok (.iconst 1, 1) := by decide +kernel
theorem dX8_note_63 : decode cX8_note 63 = .ok (.iadd, 1) := by decide +kernel
theorem dX8_note_64 : decode cX8_note 64 = .ok (.putfield 164, 3) := by decide +kernel
theorem dX8_note_67 : decode cX8_note 67 = .ok (.return_, 1) := by decide +kernel
theorem dX8_sign_0 : decode cX8_sign 0 = .ok (.iload_n 1, 1) := by decide +kernel
theorem dX8_sign_1 : decode cX8_sign 1 = .ok (.invokestatic 138, 3) := by decide +kernel
theorem dX8_sign_4 : decode cX8_sign 4 = .ok (.ifCond .eq 15, 3) := by decide +kernel
theorem dX8_sign_7 : decode cX8_sign 7 = .ok (.iload_n 2, 1) := by decide +kernel
theorem dX8_sign_8 : decode cX8_sign 8 = .ok (.i2l, 1) := by decide +kernel
theorem dX8_sign_9 : decode cX8_sign 9 = .ok (.lconst 1, 1) := by decide +kernel
theorem dX8_sign_10 : decode cX8_sign 10 = .ok (.ldc2_w 148, 3) := by decide +kernel
theorem dX8_sign_13 : decode cX8_sign 13 = .ok (.invokestatic 109, 3) := by decide +kernel
theorem dX8_sign_16 : decode cX8_sign 16 = .ok (.ifCond .ne 5, 3) := by decide +kernel
theorem dX8_sign_19 : decode cX8_sign 19 = .ok (.iconst (-1), 1) := by decide +kernel
theorem dX8_sign_20 : decode cX8_sign 20 = .ok (.ireturn, 1) := by decide +kernel
theorem dX8_sign_21 : decode cX8_sign 21 = .ok (.aload_n 0, 1) := by decide +kernel
theorem dX8_sign_22 : decode cX8_sign 22 = .ok (.getfield 64, 3) := by decide +kernel
theorem dX8_sign_25 : decode cX8_sign 25 = .ok (.iconst 0, 1) := by decide +kernel
theorem dX8_sign_26 : decode cX8_sign 26 = .ok (.iaload, 1) := by decide +kernel
theorem dX8_sign_27 : decode cX8_sign 27 = .ok (.bipush 6, 2) := by decide +kernel
theorem dX8_sign_29 : decode cX8_sign 29 = .ok (.if_icmp .ne 6, 3) := by decide +kernel
theorem dX8_sign_32 : decode cX8_sign 32 = .ok (.bipush (-3), 2) := by decide +kernel
theorem dX8_sign_34 : decode cX8_sign 34 = .ok (.ireturn, 1) := by decide +kernel
theorem dX8_sign_35 : decode cX8_sign 35 = .ok (.aload_n 0, 1) := by decide +kernel
theorem dX8_sign_36 : decode cX8_sign 36 = .ok (.getfield 67, 3) := by decide +kernel
theorem dX8_sign_39 : decode cX8_sign 39 = .ok (.aload_n 0, 1) := by decide +kernel
theorem dX8_sign_40 : decode cX8_sign 40 = .ok (.getfield 64, 3) := by decide +kernel
theorem dX8_sign_43 : decode cX8_sign 43 = .ok (.iconst 0, 1) := by decide +kernel
theorem dX8_sign_44 : decode cX8_sign 44 = .ok (.iaload, 1) := by decide +kernel
theorem dX8_sign_45 : decode cX8_sign 45 = .ok (.iload_n 1, 1) := by decide +kernel
theorem dX8_sign_46 : decode cX8_sign 46 = .ok (.iastore, 1) := by decide +kernel
theorem dX8_sign_47 : decode cX8_sign 47 = .ok (.aload_n 0, 1) := by decide +kernel
theorem dX8_sign_48 : decode cX8_sign 48 = .ok (.getfield 70, 3) := by decide +kernel
theorem dX8_sign_51 : decode cX8_sign 51 = .ok (.aload_n 0, 1) := by decide +kernel
theorem dX8_sign_52 : decode cX8_sign 52 = .ok (.getfield 64, 3) := by decide +kernel
theorem dX8_sign_55 : decode cX8_sign 55 = .ok (.iconst 0, 1) := by decide +kernel
theorem dX8_sign_56 : decode cX8_sign 56 = .ok (.iaload, 1) := by decide +kernel
theorem dX8_sign_57 : decode cX8_sign 57 = .ok (.iload_n 2, 1) := by decide +kernel
theorem dX8_sign_58 : decode cX8_sign 58 = .ok (.iastore, 1) := by decide +kernel
theorem dX8_sign_59 : decode cX8_sign 59 = .ok (.aload_n 0, 1) := by decide +kernel
theorem dX8_sign_60 : decode cX8_sign 60 = .ok (.getfield 64, 3) := by decide +kernel
theorem dX8_sign_63 : decode cX8_sign 63 = .ok (.iconst 0, 1) := by decide +kernel
theorem dX8_sign_64 : decode cX8_sign 64 = .ok (.dup2, 1) := by decide +kernel
theorem dX8_sign_65 : decode cX8_sign 65 = .ok (.iaload, 1) := by decide +kernel
theorem dX8_sign_66 : decode cX8_sign 66 = .ok (.iconst 1, 1) := by decide +kernel
theorem dX8_sign_67 : decode cX8_sign 67 = .ok (.iadd, 1) := by decide +kernel
theorem dX8_sign_68 : decode cX8_sign 68 = .ok (.iastore, 1) := by decide +kernel
theorem dX8_sign_69 : decode cX8_sign 69 = .ok (.aload_n 0, 1) := by decide +kernel
theorem dX8_sign_70 : decode cX8_sign 70 = .ok (.iconst 0, 1) := by decide +kernel
theorem dX8_sign_71 : decode cX8_sign 71 = .ok (.invokevirtual 299, 3) := by decide +kernel
theorem dX8_sign_74 : decode cX8_sign 74 = .ok (.aload_n 0, 1) := by decide +kernel
theorem dX8_sign_75 : decode cX8_sign 75 = .ok (.getfield 64, 3) := by decide +kernel
theorem dX8_sign_78 : decode cX8_sign 78 = .ok (.iconst 0, 1) := by decide +kernel
theorem dX8_sign_79 : decode cX8_sign 79 = .ok (.iaload, 1) := by decide +kernel
theorem dX8_sign_80 : decode cX8_sign 80 = .ok (.ireturn, 1) := by decide +kernel
theorem dX8_say_0 : decode cX8_say 0 = .ok (.iload_n 1, 1) := by decide +kernel
theorem dX8_say_1 : decode cX8_say 1 = .ok (.invokestatic 138, 3) := by decide +kernel
theorem dX8_say_4 : decode cX8_say 4 = .ok (.ifCond .ne 5, 3) := by decide +kernel
theorem dX8_say_7 : decode cX8_say 7 = .ok (.iconst (-1), 1) := by decide +kernel
theorem dX8_say_8 : decode cX8_say 8 = .ok (.ireturn, 1) := by decide +kernel
theorem dX8_say_9 : decode cX8_say 9 = .ok (.aload_n 0, 1) := by decide +kernel
theorem dX8_say_10 : decode cX8_say 10 = .ok (.getfield 73, 3) := by decide +kernel
theorem dX8_say_13 : decode cX8_say 13 = .ok (.iconst 0, 1) := by decide +kernel
theorem dX8_say_14 : decode cX8_say 14 = .ok (.iaload, 1) := by decide +kernel
theorem dX8_say_15 : decode cX8_say 15 = .ok (.iconst 4, 1) := by decide +kernel
theorem dX8_say_16 : decode cX8_say 16 = .ok (.if_icmp .ne 6, 3) := by decide +kernel
theorem dX8_say_19 : decode cX8_say 19 = .ok (.bipush (-3), 2) := by decide +kernel
theorem dX8_say_21 : decode cX8_say 21 = .ok (.ireturn, 1) := by decide +kernel
theorem dX8_say_22 : decode cX8_say 22 = .ok (.aload_n 0, 1) := by decide +kernel
theorem dX8_say_23 : decode cX8_say 23 = .ok (.getfield 76, 3) := by decide +kernel
theorem dX8_say_26 : decode cX8_say 26 = .ok (.aload_n 0, 1) := by decide +kernel
theorem dX8_say_27 : decode cX8_say 27 = .ok (.getfield 73, 3) := by decide +kernel
theorem dX8_say_30 : decode cX8_say 30 = .ok (.iconst 0, 1) := by decide +kernel
theorem dX8_say_31 : decode cX8_say 31 = .ok (.iaload, 1) := by decide +kernel
theorem dX8_say_32 : decode cX8_say 32 = .ok (.iload_n 1, 1) := by decide +kernel
theorem dX8_say_33 : decode cX8_say 33 = .ok (.iastore, 1) := by decide +kernel
theorem dX8_say_34 : decode cX8_say 34 = .ok (.aload_n 0, 1) := by decide +kernel
theorem dX8_say_35 : decode cX8_say 35 = .ok (.getfield 73, 3) := by decide +kernel
theorem dX8_say_38 : decode cX8_say 38 = .ok (.iconst 0, 1) := by decide +kernel
theorem dX8_say_39 : decode cX8_say 39 = .ok (.dup2, 1) := by decide +kernel
theorem dX8_say_40 : decode cX8_say 40 = .ok (.iaload, 1) := by decide +kernel
theorem dX8_say_41 : decode cX8_say 41 = .ok (.iconst 1, 1) := by decide +kernel
theorem dX8_say_42 : decode cX8_say 42 = .ok (.iadd, 1) := by decide +kernel
theorem dX8_say_43 : decode cX8_say 43 = .ok (.iastore, 1) := by decide +kernel
theorem dX8_say_44 : decode cX8_say 44 = .ok (.aload_n 0, 1) := by decide +kernel
theorem dX8_say_45 : decode cX8_say 45 = .ok (.iconst 1, 1) := by decide +kernel
theorem dX8_say_46 : decode cX8_say 46 = .ok (.invokevirtual 299, 3) := by decide +kernel
theorem dX8_say_49 : decode cX8_say 49 = .ok (.aload_n 0, 1) := by decide +kernel
theorem dX8_say_50 : decode cX8_say 50 = .ok (.getfield 73, 3) := by decide +kernel
theorem dX8_say_53 : decode cX8_say 53 = .ok (.iconst 0, 1) := by decide +kernel
theorem dX8_say_54 : decode cX8_say 54 = .ok (.iaload, 1) := by decide +kernel
theorem dX8_say_55 : decode cX8_say 55 = .ok (.ireturn, 1) := by decide +kernel
theorem dX8_takeBack_0 : decode cX8_takeBack 0 = .ok (.aload_n 0, 1) := by decide +kernel
theorem dX8_takeBack_1 : decode cX8_takeBack 1 = .ok (.getfield 164, 3) := by decide +kernel
theorem dX8_takeBack_4 : decode cX8_takeBack 4 = .ok (.ifCond .ne 6, 3) := by decide +kernel
theorem dX8_takeBack_7 : decode cX8_takeBack 7 = .ok (.bipush (-2), 2) := by decide +kernel
theorem dX8_takeBack_9 : decode cX8_takeBack 9 = .ok (.ireturn, 1) := by decide +kernel
theorem dX8_takeBack_10 : decode cX8_takeBack 10 = .ok (.aload_n 0, 1) := by decide +kernel
theorem dX8_takeBack_11 : decode cX8_takeBack 11 = .ok (.dup, 1) := by decide +kernel
theorem dX8_takeBack_12 : decode cX8_takeBack 12 = .ok (.getfield 164, 3) := by decide +kernel
theorem dX8_takeBack_15 : decode cX8_takeBack 15 = .ok (.iconst 1, 1) := by decide +kernel
theorem dX8_takeBack_16 : decode cX8_takeBack 16 = .ok (.isub, 1) := by decide +kernel
theorem dX8_takeBack_17 : decode cX8_takeBack 17 = .ok (.putfield 164, 3) := by decide +kernel
theorem dX8_takeBack_20 : decode cX8_takeBack 20 = .ok (.aload_n 0, 1) := by decide +kernel
theorem dX8_takeBack_21 : decode cX8_takeBack 21 = .ok (.getfield 79, 3) := by decide +kernel
theorem dX8_takeBack_24 : decode cX8_takeBack 24 = .ok (.aload_n 0, 1) := by decide +kernel
theorem dX8_takeBack_25 : decode cX8_takeBack 25 = .ok (.getfield 164, 3) := by decide +kernel
theorem dX8_takeBack_28 : decode cX8_takeBack 28 = .ok (.iaload, 1) := by decide +kernel
theorem dX8_takeBack_29 : decode cX8_takeBack 29 = .ok (.ifCond .ne 16, 3) := by decide +kernel
theorem dX8_takeBack_32 : decode cX8_takeBack 32 = .ok (.aload_n 0, 1) := by decide +kernel
theorem dX8_takeBack_33 : decode cX8_takeBack 33 = .ok (.getfield 64, 3) := by decide +kernel
theorem dX8_takeBack_36 : decode cX8_takeBack 36 = .ok (.iconst 0, 1) := by decide +kernel
theorem dX8_takeBack_37 : decode cX8_takeBack 37 = .ok (.dup2, 1) := by decide +kernel
theorem dX8_takeBack_38 : decode cX8_takeBack 38 = .ok (.iaload, 1) := by decide +kernel
theorem dX8_takeBack_39 : decode cX8_takeBack 39 = .ok (.iconst 1, 1) := by decide +kernel
theorem dX8_takeBack_40 : decode cX8_takeBack 40 = .ok (.isub, 1) := by decide +kernel
theorem dX8_takeBack_41 : decode cX8_takeBack 41 = .ok (.iastore, 1) := by decide +kernel
theorem dX8_takeBack_42 : decode cX8_takeBack 42 = .ok (.goto 13, 3) := by decide +kernel
theorem dX8_takeBack_45 : decode cX8_takeBack 45 = .ok (.aload_n 0, 1) := by decide +kernel
theorem dX8_takeBack_46 : decode cX8_takeBack 46 = .ok (.getfield 73, 3) := by decide +kernel
theorem dX8_takeBack_49 : decode cX8_takeBack 49 = .ok (.iconst 0, 1) := by decide +kernel
theorem dX8_takeBack_50 : decode cX8_takeBack 50 = .ok (.dup2, 1) := by decide +kernel
theorem dX8_takeBack_51 : decode cX8_takeBack 51 = .ok (.iaload, 1) := by decide +kernel
theorem dX8_takeBack_52 : decode cX8_takeBack 52 = .ok (.iconst 1, 1) := by decide +kernel
theorem dX8_takeBack_53 : decode cX8_takeBack 53 = .ok (.isub, 1) := by decide +kernel
theorem dX8_takeBack_54 : decode cX8_takeBack 54 = .ok (.iastore, 1) := by decide +kernel
theorem dX8_takeBack_55 : decode cX8_takeBack 55 = .ok (.aload_n 0, 1) := by decide +kernel
theorem dX8_takeBack_56 : decode cX8_takeBack 56 = .ok (.getfield 164, 3) := by decide +kernel
theorem dX8_takeBack_59 : decode cX8_takeBack 59 = .ok (.ireturn, 1) := by decide +kernel
theorem dX8_keep_0 : decode cX8_keep 0 = .ok (.aload_n 0, 1) := by decide +kernel
theorem dX8_keep_1 : decode cX8_keep 1 = .ok (.getfield 161, 3) := by decide +kernel
theorem dX8_keep_4 : decode cX8_keep 4 = .ok (.iconst 2, 1) := by decide +kernel
theorem dX8_keep_5 : decode cX8_keep 5 = .ok (.if_icmp .ne 6, 3) := by decide +kernel
theorem dX8_keep_8 : decode cX8_keep 8 = .ok (.bipush (-3), 2) := by decide +kernel
theorem dX8_keep_10 : decode cX8_keep 10 = .ok (.ireturn, 1) := by decide +kernel
theorem dX8_keep_11 : decode cX8_keep 11 = .ok (.aload_n 0, 1) := by decide +kernel
theorem dX8_keep_12 : decode cX8_keep 12 = .ok (.dup, 1) := by decide +kernel
theorem dX8_keep_13 : decode cX8_keep 13 = .ok (.getfield 161, 3) := by decide +kernel
theorem dX8_keep_16 : decode cX8_keep 16 = .ok (.iconst 1, 1) := by decide +kernel
theorem dX8_keep_17 : decode cX8_keep 17 = .ok (.iadd, 1) := by decide +kernel
theorem dX8_keep_18 : decode cX8_keep 18 = .ok (.putfield 161, 3) := by decide +kernel
theorem dX8_keep_21 : decode cX8_keep 21 = .ok (.aload_n 0, 1) := by decide +kernel
theorem dX8_keep_22 : decode cX8_keep 22 = .ok (.iconst 0, 1) := by decide +kernel
theorem dX8_keep_23 : decode cX8_keep 23 = .ok (.iconst 1, 1) := by decide +kernel
theorem dX8_keep_24 : decode cX8_keep 24 = .ok (.aload_n 0, 1) := by decide +kernel
theorem dX8_keep_25 : decode cX8_keep 25 = .ok (.getfield 161, 3) := by decide +kernel
theorem dX8_keep_28 : decode cX8_keep 28 = .ok (.iadd, 1) := by decide +kernel
theorem dX8_keep_29 : decode cX8_keep 29 = .ok (.invokevirtual 157, 3) := by decide +kernel
theorem dX8_keep_32 : decode cX8_keep 32 = .ok (.aload_n 0, 1) := by decide +kernel
theorem dX8_keep_33 : decode cX8_keep 33 = .ok (.getfield 161, 3) := by decide +kernel
theorem dX8_keep_36 : decode cX8_keep 36 = .ok (.ireturn, 1) := by decide +kernel
theorem dX8_back_0 : decode cX8_back 0 = .ok (.aload_n 0, 1) := by decide +kernel
theorem dX8_back_1 : decode cX8_back 1 = .ok (.getfield 161, 3) := by decide +kernel
theorem dX8_back_4 : decode cX8_back 4 = .ok (.ifCond .ne 6, 3) := by decide +kernel
theorem dX8_back_7 : decode cX8_back 7 = .ok (.bipush (-2), 2) := by decide +kernel
theorem dX8_back_9 : decode cX8_back 9 = .ok (.ireturn, 1) := by decide +kernel
theorem dX8_back_10 : decode cX8_back 10 = .ok (.aload_n 0, 1) := by decide +kernel
theorem dX8_back_11 : decode cX8_back 11 = .ok (.iconst 1, 1) := by decide +kernel
theorem dX8_back_12 : decode cX8_back 12 = .ok (.aload_n 0, 1) := by decide +kernel
theorem dX8_back_13 : decode cX8_back 13 = .ok (.getfield 161, 3) := by decide +kernel
theorem dX8_back_16 : decode cX8_back 16 = .ok (.iadd, 1) := by decide +kernel
theorem dX8_back_17 : decode cX8_back 17 = .ok (.iconst 0, 1) := by decide +kernel
theorem dX8_back_18 : decode cX8_back 18 = .ok (.invokevirtual 157, 3) := by decide +kernel
theorem dX8_back_21 : decode cX8_back 21 = .ok (.aload_n 0, 1) := by decide +kernel
theorem dX8_back_22 : decode cX8_back 22 = .ok (.dup, 1) := by decide +kernel
theorem dX8_back_23 : decode cX8_back 23 = .ok (.getfield 161, 3) := by decide +kernel
theorem dX8_back_26 : decode cX8_back 26 = .ok (.iconst 1, 1) := by decide +kernel
theorem dX8_back_27 : decode cX8_back 27 = .ok (.isub, 1) := by decide +kernel
theorem dX8_back_28 : decode cX8_back 28 = .ok (.putfield 161, 3) := by decide +kernel
theorem dX8_back_31 : decode cX8_back 31 = .ok (.aload_n 0, 1) := by decide +kernel
theorem dX8_back_32 : decode cX8_back 32 = .ok (.iconst 0, 1) := by decide +kernel
theorem dX8_back_33 : decode cX8_back 33 = .ok (.putfield 164, 3) := by decide +kernel
theorem dX8_back_36 : decode cX8_back 36 = .ok (.aload_n 0, 1) := by decide +kernel
theorem dX8_back_37 : decode cX8_back 37 = .ok (.getfield 161, 3) := by decide +kernel
theorem dX8_back_40 : decode cX8_back 40 = .ok (.ireturn, 1) := by decide +kernel
theorem dX8_pairMany_0 : decode cX8_pairMany 0 = .ok (.iconst 0, 1) := by decide +kernel
theorem dX8_pairMany_1 : decode cX8_pairMany 1 = .ok (.istore_n 1, 1) := by decide +kernel
theorem dX8_pairMany_2 : decode cX8_pairMany 2 = .ok (.iconst 0, 1) := by decide +kernel
theorem dX8_pairMany_3 : decode cX8_pairMany 3 = .ok (.istore_n 2, 1) := by decide +kernel
theorem dX8_pairMany_4 : decode cX8_pairMany 4 = .ok (.iconst 0, 1) := by decide +kernel
theorem dX8_pairMany_5 : decode cX8_pairMany 5 = .ok (.istore_n 3, 1) := by decide +kernel
theorem dX8_pairMany_6 : decode cX8_pairMany 6 = .ok (.iload_n 3, 1) := by decide +kernel
theorem dX8_pairMany_7 : decode cX8_pairMany 7 = .ok (.aload_n 0, 1) := by decide +kernel
theorem dX8_pairMany_8 : decode cX8_pairMany 8 = .ok (.getfield 13, 3) := by decide +kernel
theorem dX8_pairMany_11 : decode cX8_pairMany 11 = .ok (.iconst 0, 1) := by decide +kernel
theorem dX8_pairMany_12 : decode cX8_pairMany 12 = .ok (.iaload, 1) := by decide +kernel
theorem dX8_pairMany_13 : decode cX8_pairMany 13 = .ok (.if_icmp .ge 41, 3) := by decide +kernel
theorem dX8_pairMany_16 : decode cX8_pairMany 16 = .ok (.iload_n 2, 1) := by decide +kernel
theorem dX8_pairMany_17 : decode cX8_pairMany 17 = .ok (.iload_n 1, 1) := by decide +kernel
theorem dX8_pairMany_18 : decode cX8_pairMany 18 = .ok (.aload_n 0, 1) := by decide +kernel
theorem dX8_pairMany_19 : decode cX8_pairMany 19 = .ok (.getfield 16, 3) := by decide +kernel
theorem dX8_pairMany_22 : decode cX8_pairMany 22 = .ok (.iload_n 3, 1) := by decide +kernel
theorem dX8_pairMany_23 : decode cX8_pairMany 23 = .ok (.iaload, 1) := by decide +kernel
theorem dX8_pairMany_24 : decode cX8_pairMany 24 = .ok (.invokestatic 215, 3) := by decide +kernel
theorem dX8_pairMany_27 : decode cX8_pairMany 27 = .ok (.ifCond .eq 7, 3) := by decide +kernel
theorem dX8_pairMany_30 : decode cX8_pairMany 30 = .ok (.iconst 0, 1) := by decide +kernel
theorem dX8_pairMany_31 : decode cX8_pairMany 31 = .ok (.goto 4, 3) := by decide +kernel
theorem dX8_pairMany_34 : decode cX8_pairMany 34 = .ok (.iconst 1, 1) := by decide +kernel
theorem dX8_pairMany_35 : decode cX8_pairMany 35 = .ok (.iadd, 1) := by decide +kernel
theorem dX8_pairMany_36 : decode cX8_pairMany 36 = .ok (.istore_n 2, 1) := by decide +kernel
theorem dX8_pairMany_37 : decode cX8_pairMany 37 = .ok (.iload_n 1, 1) := by decide +kernel
theorem dX8_pairMany_38 : decode cX8_pairMany 38 = .ok (.iconst 1, 1) := by decide +kernel
theorem dX8_pairMany_39 : decode cX8_pairMany 39 = .ok (.aload_n 0, 1) := by decide +kernel
theorem dX8_pairMany_40 : decode cX8_pairMany 40 = .ok (.getfield 16, 3) := by decide +kernel
theorem dX8_pairMany_43 : decode cX8_pairMany 43 = .ok (.iload_n 3, 1) := by decide +kernel
theorem dX8_pairMany_44 : decode cX8_pairMany 44 = .ok (.iaload, 1) := by decide +kernel
theorem dX8_pairMany_45 : decode cX8_pairMany 45 = .ok (.ishl, 1) := by decide +kernel
theorem dX8_pairMany_46 : decode cX8_pairMany 46 = .ok (.ior, 1) := by decide +kernel
theorem dX8_pairMany_47 : decode cX8_pairMany 47 = .ok (.istore_n 1, 1) := by decide +kernel
theorem dX8_pairMany_48 : decode cX8_pairMany 48 = .ok (.iinc 3 1, 3) := by decide +kernel
theorem dX8_pairMany_51 : decode cX8_pairMany 51 = .ok (.goto (-45), 3) := by decide +kernel
theorem dX8_pairMany_54 : decode cX8_pairMany 54 = .ok (.iload_n 2, 1) := by decide +kernel
theorem dX8_pairMany_55 : decode cX8_pairMany 55 = .ok (.ireturn, 1) := by decide +kernel
theorem dX8_count_0 : decode cX8_count 0 = .ok (.iload_n 1, 1) := by decide +kernel
theorem dX8_count_1 : decode cX8_count 1 = .ok (.tableswitch 106 0 8 #[51, 58, 63, 70, 77, 84, 91, 96, 101], 51) := by decide +kernel
theorem dX8_count_52 : decode cX8_count 52 = .ok (.aload_n 0, 1) := by decide +kernel
theorem dX8_count_53 : decode cX8_count 53 = .ok (.getfield 13, 3) := by decide +kernel
theorem dX8_count_56 : decode cX8_count 56 = .ok (.iconst 0, 1) := by decide +kernel
theorem dX8_count_57 : decode cX8_count 57 = .ok (.iaload, 1) := by decide +kernel
theorem dX8_count_58 : decode cX8_count 58 = .ok (.ireturn, 1) := by decide +kernel
theorem dX8_count_59 : decode cX8_count 59 = .ok (.aload_n 0, 1) := by decide +kernel
theorem dX8_count_60 : decode cX8_count 60 = .ok (.invokevirtual 302, 3) := by decide +kernel
theorem dX8_count_63 : decode cX8_count 63 = .ok (.ireturn, 1) := by decide +kernel
theorem dX8_count_64 : decode cX8_count 64 = .ok (.aload_n 0, 1) := by decide +kernel
theorem dX8_count_65 : decode cX8_count 65 = .ok (.getfield 64, 3) := by decide +kernel
theorem dX8_count_68 : decode cX8_count 68 = .ok (.iconst 0, 1) := by decide +kernel
theorem dX8_count_69 : decode cX8_count 69 = .ok (.iaload, 1) := by decide +kernel
theorem dX8_count_70 : decode cX8_count 70 = .ok (.ireturn, 1) := by decide +kernel
theorem dX8_count_71 : decode cX8_count 71 = .ok (.aload_n 0, 1) := by decide +kernel
theorem dX8_count_72 : decode cX8_count 72 = .ok (.getfield 73, 3) := by decide +kernel
theorem dX8_count_75 : decode cX8_count 75 = .ok (.iconst 0, 1) := by decide +kernel
theorem dX8_count_76 : decode cX8_count 76 = .ok (.iaload, 1) := by decide +kernel
theorem dX8_count_77 : decode cX8_count 77 = .ok (.ireturn, 1) := by decide +kernel
theorem dX8_count_78 : decode cX8_count 78 = .ok (.aload_n 0, 1) := by decide +kernel
theorem dX8_count_79 : decode cX8_count 79 = .ok (.getfield 28, 3) := by decide +kernel
theorem dX8_count_82 : decode cX8_count 82 = .ok (.iconst 0, 1) := by decide +kernel
theorem dX8_count_83 : decode cX8_count 83 = .ok (.iaload, 1) := by decide +kernel
theorem dX8_count_84 : decode cX8_count 84 = .ok (.ireturn, 1) := by decide +kernel
theorem dX8_count_85 : decode cX8_count 85 = .ok (.aload_n 0, 1) := by decide +kernel
theorem dX8_count_86 : decode cX8_count 86 = .ok (.getfield 52, 3) := by decide +kernel
theorem dX8_count_89 : decode cX8_count 89 = .ok (.iconst 0, 1) := by decide +kernel
theorem dX8_count_90 : decode cX8_count 90 = .ok (.iaload, 1) := by decide +kernel
theorem dX8_count_91 : decode cX8_count 91 = .ok (.ireturn, 1) := by decide +kernel
theorem dX8_count_92 : decode cX8_count 92 = .ok (.aload_n 0, 1) := by decide +kernel
theorem dX8_count_93 : decode cX8_count 93 = .ok (.getfield 164, 3) := by decide +kernel
theorem dX8_count_96 : decode cX8_count 96 = .ok (.ireturn, 1) := by decide +kernel
theorem dX8_count_97 : decode cX8_count 97 = .ok (.aload_n 0, 1) := by decide +kernel
theorem dX8_count_98 : decode cX8_count 98 = .ok (.getfield 161, 3) := by decide +kernel
theorem dX8_count_101 : decode cX8_count 101 = .ok (.ireturn, 1) := by decide +kernel
theorem dX8_count_102 : decode cX8_count 102 = .ok (.aload_n 0, 1) := by decide +kernel
theorem dX8_count_103 : decode cX8_count 103 = .ok (.getfield 113, 3) := by decide +kernel
theorem dX8_count_106 : decode cX8_count 106 = .ok (.ireturn, 1) := by decide +kernel
theorem dX8_count_107 : decode cX8_count 107 = .ok (.iconst (-1), 1) := by decide +kernel
theorem dX8_count_108 : decode cX8_count 108 = .ok (.ireturn, 1) := by decide +kernel
theorem dJ9_floorMod_7cf53_0 : decode cJ9_floorMod_7cf53 0 = .ok (.iload_n 0, 1) := by decide +kernel
theorem dJ9_floorMod_7cf53_1 : decode cJ9_floorMod_7cf53 1 = .ok (.iload_n 1, 1) := by decide +kernel
theorem dJ9_floorMod_7cf53_2 : decode cJ9_floorMod_7cf53 2 = .ok (.irem, 1) := by decide +kernel
theorem dJ9_floorMod_7cf53_3 : decode cJ9_floorMod_7cf53 3 = .ok (.istore_n 2, 1) := by decide +kernel
theorem dJ9_floorMod_7cf53_4 : decode cJ9_floorMod_7cf53 4 = .ok (.iload_n 0, 1) := by decide +kernel
theorem dJ9_floorMod_7cf53_5 : decode cJ9_floorMod_7cf53 5 = .ok (.iload_n 1, 1) := by decide +kernel
theorem dJ9_floorMod_7cf53_6 : decode cJ9_floorMod_7cf53 6 = .ok (.ixor, 1) := by decide +kernel
theorem dJ9_floorMod_7cf53_7 : decode cJ9_floorMod_7cf53 7 = .ok (.ifCond .ge 11, 3) := by decide +kernel
theorem dJ9_floorMod_7cf53_10 : decode cJ9_floorMod_7cf53 10 = .ok (.iload_n 2, 1) := by decide +kernel
theorem dJ9_floorMod_7cf53_11 : decode cJ9_floorMod_7cf53 11 = .ok (.ifCond .eq 7, 3) := by decide +kernel
theorem dJ9_floorMod_7cf53_14 : decode cJ9_floorMod_7cf53 14 = .ok (.iload_n 2, 1) := by decide +kernel
theorem dJ9_floorMod_7cf53_15 : decode cJ9_floorMod_7cf53 15 = .ok (.iload_n 1, 1) := by decide +kernel
theorem dJ9_floorMod_7cf53_16 : decode cJ9_floorMod_7cf53 16 = .ok (.iadd, 1) := by decide +kernel
theorem dJ9_floorMod_7cf53_17 : decode cJ9_floorMod_7cf53 17 = .ok (.ireturn, 1) := by decide +kernel
theorem dJ9_floorMod_7cf53_18 : decode cJ9_floorMod_7cf53 18 = .ok (.iload_n 2, 1) := by decide +kernel
theorem dJ9_floorMod_7cf53_19 : decode cJ9_floorMod_7cf53 19 = .ok (.ireturn, 1) := by decide +kernel
theorem dJ0_length_8abf5_0 : decode cJ0_length_8abf5 0 = .ok (.aload_n 0, 1) := by decide +kernel
theorem dJ0_length_8abf5_1 : decode cJ0_length_8abf5 1 = .ok (.getfield 9, 3) := by decide +kernel
theorem dJ0_length_8abf5_4 : decode cJ0_length_8abf5 4 = .ok (.arraylength, 1) := by decide +kernel
theorem dJ0_length_8abf5_5 : decode cJ0_length_8abf5 5 = .ok (.aload_n 0, 1) := by decide +kernel
theorem dJ0_length_8abf5_6 : decode cJ0_length_8abf5 6 = .ok (.invokevirtual 335, 3) := by decide +kernel
theorem dJ0_length_8abf5_9 : decode cJ0_length_8abf5 9 = .ok (.ishr, 1) := by decide +kernel
theorem dJ0_length_8abf5_10 : decode cJ0_length_8abf5 10 = .ok (.ireturn, 1) := by decide +kernel
theorem dJ0_indexOf_0f7a4_0 : decode cJ0_indexOf_0f7a4 0 = .ok (.aload_n 0, 1) := by decide +kernel
theorem dJ0_indexOf_0f7a4_1 : decode cJ0_indexOf_0f7a4 1 = .ok (.iload_n 1, 1) := by decide +kernel
theorem dJ0_indexOf_0f7a4_2 : decode cJ0_indexOf_0f7a4 2 = .ok (.iconst 0, 1) := by decide +kernel
theorem dJ0_indexOf_0f7a4_3 : decode cJ0_indexOf_0f7a4 3 = .ok (.invokevirtual 633, 3) := by decide +kernel
theorem dJ0_indexOf_0f7a4_6 : decode cJ0_indexOf_0f7a4 6 = .ok (.ireturn, 1) := by decide +kernel
theorem dJ0_indexOf_7cf53_0 : decode cJ0_indexOf_7cf53 0 = .ok (.aload_n 0, 1) := by decide +kernel
theorem dJ0_indexOf_7cf53_1 : decode cJ0_indexOf_7cf53 1 = .ok (.invokevirtual 492, 3) := by decide +kernel
theorem dJ0_indexOf_7cf53_4 : decode cJ0_indexOf_7cf53 4 = .ok (.ifCond .eq 19, 3) := by decide +kernel
theorem dJ0_indexOf_7cf53_7 : decode cJ0_indexOf_7cf53 7 = .ok (.aload_n 0, 1) := by decide +kernel
theorem dJ0_indexOf_7cf53_8 : decode cJ0_indexOf_7cf53 8 = .ok (.getfield 9, 3) := by decide +kernel
theorem dJ0_indexOf_7cf53_11 : decode cJ0_indexOf_7cf53 11 = .ok (.iload_n 1, 1) := by decide +kernel
theorem dJ0_indexOf_7cf53_12 : decode cJ0_indexOf_7cf53 12 = .ok (.iload_n 2, 1) := by decide +kernel
theorem dJ0_indexOf_7cf53_13 : decode cJ0_indexOf_7cf53 13 = .ok (.aload_n 0, 1) := by decide +kernel
theorem dJ0_indexOf_7cf53_14 : decode cJ0_indexOf_7cf53 14 = .ok (.invokevirtual 505, 3) := by decide +kernel
theorem dJ0_indexOf_7cf53_17 : decode cJ0_indexOf_7cf53 17 = .ok (.invokestatic 637, 3) := by decide +kernel
theorem dJ0_indexOf_7cf53_20 : decode cJ0_indexOf_7cf53 20 = .ok (.goto 16, 3) := by decide +kernel
theorem dJ0_indexOf_7cf53_23 : decode cJ0_indexOf_7cf53 23 = .ok (.aload_n 0, 1) := by decide +kernel
theorem dJ0_indexOf_7cf53_24 : decode cJ0_indexOf_7cf53 24 = .ok (.getfield 9, 3) := by decide +kernel
theorem dJ0_indexOf_7cf53_27 : decode cJ0_indexOf_7cf53 27 = .ok (.iload_n 1, 1) := by decide +kernel
theorem dJ0_indexOf_7cf53_28 : decode cJ0_indexOf_7cf53 28 = .ok (.iload_n 2, 1) := by decide +kernel
theorem dJ0_indexOf_7cf53_29 : decode cJ0_indexOf_7cf53 29 = .ok (.aload_n 0, 1) := by decide +kernel
theorem dJ0_indexOf_7cf53_30 : decode cJ0_indexOf_7cf53 30 = .ok (.invokevirtual 505, 3) := by decide +kernel
theorem dJ0_indexOf_7cf53_33 : decode cJ0_indexOf_7cf53 33 = .ok (.invokestatic 640, 3) := by decide +kernel
theorem dJ0_indexOf_7cf53_36 : decode cJ0_indexOf_7cf53 36 = .ok (.ireturn, 1) := by decide +kernel
theorem dJ0_coder_7d493_0 : decode cJ0_coder_7d493 0 = .ok (.getstatic 38, 3) := by decide +kernel
theorem dJ0_coder_7d493_3 : decode cJ0_coder_7d493 3 = .ok (.ifCond .eq 10, 3) := by decide +kernel
theorem dJ0_coder_7d493_6 : decode cJ0_coder_7d493 6 = .ok (.aload_n 0, 1) := by decide +kernel
theorem dJ0_coder_7d493_7 : decode cJ0_coder_7d493 7 = .ok (.getfield 15, 3) := by decide +kernel
theorem dJ0_coder_7d493_10 : decode cJ0_coder_7d493 10 = .ok (.goto 4, 3) := by decide +kernel
theorem dJ0_coder_7d493_13 : decode cJ0_coder_7d493 13 = .ok (.iconst 1, 1) := by decide +kernel
theorem dJ0_coder_7d493_14 : decode cJ0_coder_7d493 14 = .ok (.ireturn, 1) := by decide +kernel
theorem dJ0_isLatin1_aae02_0 : decode cJ0_isLatin1_aae02 0 = .ok (.getstatic 38, 3) := by decide +kernel
theorem dJ0_isLatin1_aae02_3 : decode cJ0_isLatin1_aae02 3 = .ok (.ifCond .eq 14, 3) := by decide +kernel
theorem dJ0_isLatin1_aae02_6 : decode cJ0_isLatin1_aae02 6 = .ok (.aload_n 0, 1) := by decide +kernel
theorem dJ0_isLatin1_aae02_7 : decode cJ0_isLatin1_aae02 7 = .ok (.getfield 15, 3) := by decide +kernel
theorem dJ0_isLatin1_aae02_10 : decode cJ0_isLatin1_aae02 10 = .ok (.ifCond .ne 7, 3) := by decide +kernel
theorem dJ0_isLatin1_aae02_13 : decode cJ0_isLatin1_aae02 13 = .ok (.iconst 1, 1) := by decide +kernel
theorem dJ0_isLatin1_aae02_14 : decode cJ0_isLatin1_aae02 14 = .ok (.goto 4, 3) := by decide +kernel
theorem dJ0_isLatin1_aae02_17 : decode cJ0_isLatin1_aae02 17 = .ok (.iconst 0, 1) := by decide +kernel
theorem dJ0_isLatin1_aae02_18 : decode cJ0_isLatin1_aae02 18 = .ok (.ireturn, 1) := by decide +kernel
theorem dJ0_checkBoundsBeginEnd_23922_0 : decode cJ0_checkBoundsBeginEnd_23922 0 = .ok (.iload_n 0, 1) := by decide +kernel
theorem dJ0_checkBoundsBeginEnd_23922_1 : decode cJ0_checkBoundsBeginEnd_23922 1 = .ok (.iload_n 1, 1) := by decide +kernel
theorem dJ0_checkBoundsBeginEnd_23922_2 : decode cJ0_checkBoundsBeginEnd_23922 2 = .ok (.iload_n 2, 1) := by decide +kernel
theorem dJ0_checkBoundsBeginEnd_23922_3 : decode cJ0_checkBoundsBeginEnd_23922 3 = .ok (.getstatic 1053, 3) := by decide +kernel
theorem dJ0_checkBoundsBeginEnd_23922_6 : decode cJ0_checkBoundsBeginEnd_23922 6 = .ok (.invokestatic 1062, 3) := by decide +kernel
theorem dJ0_checkBoundsBeginEnd_23922_9 : decode cJ0_checkBoundsBeginEnd_23922 9 = .ok (.pop, 1) := by decide +kernel
theorem dJ0_checkBoundsBeginEnd_23922_10 : decode cJ0_checkBoundsBeginEnd_23922 10 = .ok (.return_, 1) := by decide +kernel
theorem dJ1_canEncode_9a6ad_0 : decode cJ1_canEncode_9a6ad 0 = .ok (.iload_n 0, 1) := by decide +kernel
theorem dJ1_canEncode_9a6ad_1 : decode cJ1_canEncode_9a6ad 1 = .ok (.ifCond .lt 14, 3) := by decide +kernel
theorem dJ1_canEncode_9a6ad_4 : decode cJ1_canEncode_9a6ad 4 = .ok (.iload_n 0, 1) := by decide +kernel
theorem dJ1_canEncode_9a6ad_5 : decode cJ1_canEncode_9a6ad 5 = .ok (.sipush 255, 3) := by decide +kernel
theorem dJ1_canEncode_9a6ad_8 : decode cJ1_canEncode_9a6ad 8 = .ok (.if_icmp .gt 7, 3) := by decide +kernel
theorem dJ1_canEncode_9a6ad_11 : decode cJ1_canEncode_9a6ad 11 = .ok (.iconst 1, 1) := by decide +kernel
theorem dJ1_canEncode_9a6ad_12 : decode cJ1_canEncode_9a6ad 12 = .ok (.goto 4, 3) := by decide +kernel
theorem dJ1_canEncode_9a6ad_15 : decode cJ1_canEncode_9a6ad 15 = .ok (.iconst 0, 1) := by decide +kernel
theorem dJ1_canEncode_9a6ad_16 : decode cJ1_canEncode_9a6ad 16 = .ok (.ireturn, 1) := by decide +kernel
theorem dJ1_indexOf_4cfef_0 : decode cJ1_indexOf_4cfef 0 = .ok (.iload_n 1, 1) := by decide +kernel
theorem dJ1_indexOf_4cfef_1 : decode cJ1_indexOf_4cfef 1 = .ok (.invokestatic 88, 3) := by decide +kernel
theorem dJ1_indexOf_4cfef_4 : decode cJ1_indexOf_4cfef 4 = .ok (.ifCond .ne 5, 3) := by decide +kernel
theorem dJ1_indexOf_4cfef_7 : decode cJ1_indexOf_4cfef 7 = .ok (.iconst (-1), 1) := by decide +kernel
theorem dJ1_indexOf_4cfef_8 : decode cJ1_indexOf_4cfef 8 = .ok (.ireturn, 1) := by decide +kernel
theorem dJ1_indexOf_4cfef_9 : decode cJ1_indexOf_4cfef 9 = .ok (.iload_n 2, 1) := by decide +kernel
theorem dJ1_indexOf_4cfef_10 : decode cJ1_indexOf_4cfef 10 = .ok (.iconst 0, 1) := by decide +kernel
theorem dJ1_indexOf_4cfef_11 : decode cJ1_indexOf_4cfef 11 = .ok (.invokestatic 92, 3) := by decide +kernel
theorem dJ1_indexOf_4cfef_14 : decode cJ1_indexOf_4cfef 14 = .ok (.istore_n 2, 1) := by decide +kernel
theorem dJ1_indexOf_4cfef_15 : decode cJ1_indexOf_4cfef 15 = .ok (.iload_n 3, 1) := by decide +kernel
theorem dJ1_indexOf_4cfef_16 : decode cJ1_indexOf_4cfef 16 = .ok (.aload_n 0, 1) := by decide +kernel
theorem dJ1_indexOf_4cfef_17 : decode cJ1_indexOf_4cfef 17 = .ok (.arraylength, 1) := by decide +kernel
theorem dJ1_indexOf_4cfef_18 : decode cJ1_indexOf_4cfef 18 = .ok (.invokestatic 38, 3) := by decide +kernel
theorem dJ1_indexOf_4cfef_21 : decode cJ1_indexOf_4cfef 21 = .ok (.istore_n 3, 1) := by decide +kernel
theorem dJ1_indexOf_4cfef_22 : decode cJ1_indexOf_4cfef 22 = .ok (.iload_n 2, 1) := by decide +kernel
theorem dJ1_indexOf_4cfef_23 : decode cJ1_indexOf_4cfef 23 = .ok (.iload_n 3, 1) := by decide +kernel
theorem dJ1_indexOf_4cfef_24 : decode cJ1_indexOf_4cfef 24 = .ok (.if_icmp .lt 5, 3) := by decide +kernel
theorem dJ1_indexOf_4cfef_27 : decode cJ1_indexOf_4cfef 27 = .ok (.iconst (-1), 1) := by decide +kernel
theorem dJ1_indexOf_4cfef_28 : decode cJ1_indexOf_4cfef 28 = .ok (.ireturn, 1) := by decide +kernel
theorem dJ1_indexOf_4cfef_29 : decode cJ1_indexOf_4cfef 29 = .ok (.aload_n 0, 1) := by decide +kernel
theorem dJ1_indexOf_4cfef_30 : decode cJ1_indexOf_4cfef 30 = .ok (.iload_n 1, 1) := by decide +kernel
theorem dJ1_indexOf_4cfef_31 : decode cJ1_indexOf_4cfef 31 = .ok (.iload_n 2, 1) := by decide +kernel
theorem dJ1_indexOf_4cfef_32 : decode cJ1_indexOf_4cfef 32 = .ok (.iload_n 3, 1) := by decide +kernel
theorem dJ1_indexOf_4cfef_33 : decode cJ1_indexOf_4cfef 33 = .ok (.invokestatic 95, 3) := by decide +kernel
theorem dJ1_indexOf_4cfef_36 : decode cJ1_indexOf_4cfef 36 = .ok (.ireturn, 1) := by decide +kernel
theorem dJ1_indexOfChar_4cfef_0 : decode cJ1_indexOfChar_4cfef 0 = .ok (.iload_n 1, 1) := by decide +kernel
theorem dJ1_indexOfChar_4cfef_1 : decode cJ1_indexOfChar_4cfef 1 = .ok (.i2b, 1) := by decide +kernel
theorem dJ1_indexOfChar_4cfef_2 : decode cJ1_indexOfChar_4cfef 2 = .ok (.istore 4, 2) := by decide +kernel
theorem dJ1_indexOfChar_4cfef_4 : decode cJ1_indexOfChar_4cfef 4 = .ok (.iload_n 2, 1) := by decide +kernel
theorem dJ1_indexOfChar_4cfef_5 : decode cJ1_indexOfChar_4cfef 5 = .ok (.istore 5, 2) := by decide +kernel
theorem dJ1_indexOfChar_4cfef_7 : decode cJ1_indexOfChar_4cfef 7 = .ok (.iload 5, 2) := by decide +kernel
theorem dJ1_indexOfChar_4cfef_9 : decode cJ1_indexOfChar_4cfef 9 = .ok (.iload_n 3, 1) := by decide +kernel
theorem dJ1_indexOfChar_4cfef_10 : decode cJ1_indexOfChar_4cfef 10 = .ok (.if_icmp .ge 21, 3) := by decide +kernel
theorem dJ1_indexOfChar_4cfef_13 : decode cJ1_indexOfChar_4cfef 13 = .ok (.aload_n 0, 1) := by decide +kernel
theorem dJ1_indexOfChar_4cfef_14 : decode cJ1_indexOfChar_4cfef 14 = .ok (.iload 5, 2) := by decide +kernel
theorem dJ1_indexOfChar_4cfef_16 : decode cJ1_indexOfChar_4cfef 16 = .ok (.baload, 1) := by decide +kernel
theorem dJ1_indexOfChar_4cfef_17 : decode cJ1_indexOfChar_4cfef 17 = .ok (.iload 4, 2) := by decide +kernel
theorem dJ1_indexOfChar_4cfef_19 : decode cJ1_indexOfChar_4cfef 19 = .ok (.if_icmp .ne 6, 3) := by decide +kernel
theorem dJ1_indexOfChar_4cfef_22 : decode cJ1_indexOfChar_4cfef 22 = .ok (.iload 5, 2) := by decide +kernel
theorem dJ1_indexOfChar_4cfef_24 : decode cJ1_indexOfChar_4cfef 24 = .ok (.ireturn, 1) := by decide +kernel
theorem dJ1_indexOfChar_4cfef_25 : decode cJ1_indexOfChar_4cfef 25 = .ok (.iinc 5 1, 3) := by decide +kernel
theorem dJ1_indexOfChar_4cfef_28 : decode cJ1_indexOfChar_4cfef 28 = .ok (.goto (-21), 3) := by decide +kernel
theorem dJ1_indexOfChar_4cfef_31 : decode cJ1_indexOfChar_4cfef 31 = .ok (.iconst (-1), 1) := by decide +kernel
theorem dJ1_indexOfChar_4cfef_32 : decode cJ1_indexOfChar_4cfef 32 = .ok (.ireturn, 1) := by decide +kernel
theorem dJ7_fill_53178_0 : decode cJ7_fill_53178 0 = .ok (.iconst 0, 1) := by decide +kernel
theorem dJ7_fill_53178_1 : decode cJ7_fill_53178 1 = .ok (.istore_n 2, 1) := by decide +kernel
theorem dJ7_fill_53178_2 : decode cJ7_fill_53178 2 = .ok (.aload_n 0, 1) := by decide +kernel
theorem dJ7_fill_53178_3 : decode cJ7_fill_53178 3 = .ok (.arraylength, 1) := by decide +kernel
theorem dJ7_fill_53178_4 : decode cJ7_fill_53178 4 = .ok (.istore_n 3, 1) := by decide +kernel
theorem dJ7_fill_53178_5 : decode cJ7_fill_53178 5 = .ok (.iload_n 2, 1) := by decide +kernel
theorem dJ7_fill_53178_6 : decode cJ7_fill_53178 6 = .ok (.iload_n 3, 1) := by decide +kernel
theorem dJ7_fill_53178_7 : decode cJ7_fill_53178 7 = .ok (.if_icmp .ge 13, 3) := by decide +kernel
theorem dJ7_fill_53178_10 : decode cJ7_fill_53178 10 = .ok (.aload_n 0, 1) := by decide +kernel
theorem dJ7_fill_53178_11 : decode cJ7_fill_53178 11 = .ok (.iload_n 2, 1) := by decide +kernel
theorem dJ7_fill_53178_12 : decode cJ7_fill_53178 12 = .ok (.iload_n 1, 1) := by decide +kernel
theorem dJ7_fill_53178_13 : decode cJ7_fill_53178 13 = .ok (.iastore, 1) := by decide +kernel
theorem dJ7_fill_53178_14 : decode cJ7_fill_53178 14 = .ok (.iinc 2 1, 3) := by decide +kernel
theorem dJ7_fill_53178_17 : decode cJ7_fill_53178 17 = .ok (.goto (-12), 3) := by decide +kernel
theorem dJ7_fill_53178_20 : decode cJ7_fill_53178 20 = .ok (.return_, 1) := by decide +kernel
theorem dL_law_0 : decode cL_law 0 = .ok (.new 7, 3) := by decide +kernel
theorem dL_law_3 : decode cL_law 3 = .ok (.dup, 1) := by decide +kernel
theorem dL_law_4 : decode cL_law 4 = .ok (.invokespecial 9, 3) := by decide +kernel
theorem dL_law_7 : decode cL_law 7 = .ok (.astore_n 1, 1) := by decide +kernel
theorem dL_law_8 : decode cL_law 8 = .ok (.new 10, 3) := by decide +kernel
theorem dL_law_11 : decode cL_law 11 = .ok (.dup, 1) := by decide +kernel
theorem dL_law_12 : decode cL_law 12 = .ok (.invokespecial 12, 3) := by decide +kernel
theorem dL_law_15 : decode cL_law 15 = .ok (.astore_n 2, 1) := by decide +kernel
theorem dL_law_16 : decode cL_law 16 = .ok (.iconst 0, 1) := by decide +kernel
theorem dL_law_17 : decode cL_law 17 = .ok (.istore_n 3, 1) := by decide +kernel
theorem dL_law_18 : decode cL_law 18 = .ok (.iload_n 3, 1) := by decide +kernel
theorem dL_law_19 : decode cL_law 19 = .ok (.aload_n 0, 1) := by decide +kernel
theorem dL_law_20 : decode cL_law 20 = .ok (.arraylength, 1) := by decide +kernel
theorem dL_law_21 : decode cL_law 21 = .ok (.iconst 4, 1) := by decide +kernel
theorem dL_law_22 : decode cL_law 22 = .ok (.isub, 1) := by decide +kernel
theorem dL_law_23 : decode cL_law 23 = .ok (.if_icmp .gt 907, 3) := by decide +kernel
theorem dL_law_26 : decode cL_law 26 = .ok (.aload_n 0, 1) := by decide +kernel
theorem dL_law_27 : decode cL_law 27 = .ok (.iload_n 3, 1) := by decide +kernel
theorem dL_law_28 : decode cL_law 28 = .ok (.iaload, 1) := by decide +kernel
theorem dL_law_29 : decode cL_law 29 = .ok (.bipush 31, 2) := by decide +kernel
theorem dL_law_31 : decode cL_law 31 = .ok (.iand, 1) := by decide +kernel
theorem dL_law_32 : decode cL_law 32 = .ok (.tableswitch 892 0 27 #[128, 191, 204, 217, 230, 263, 296, 329, 362, 395, 418, 451, 484, 507, 530, 553, 586, 609, 622, 655, 698, 741, 774, 807, 830, 843, 856, 869], 128) := by decide +kernel
theorem dL_law_160 : decode cL_law 160 = .ok (.aload_n 1, 1) := by decide +kernel
theorem dL_law_161 : decode cL_law 161 = .ok (.aload_n 0, 1) := by decide +kernel
theorem dL_law_162 : decode cL_law 162 = .ok (.iload_n 3, 1) := by decide +kernel
theorem dL_law_163 : decode cL_law 163 = .ok (.iconst 1, 1) := by decide +kernel
theorem dL_law_164 : decode cL_law 164 = .ok (.iadd, 1) := by decide +kernel
theorem dL_law_165 : decode cL_law 165 = .ok (.iaload, 1) := by decide +kernel
theorem dL_law_166 : decode cL_law 166 = .ok (.aload_n 0, 1) := by decide +kernel
theorem dL_law_167 : decode cL_law 167 = .ok (.iload_n 3, 1) := by decide +kernel
theorem dL_law_168 : decode cL_law 168 = .ok (.iconst 2, 1) := by decide +kernel
theorem dL_law_169 : decode cL_law 169 = .ok (.iadd, 1) := by decide +kernel
theorem dL_law_170 : decode cL_law 170 = .ok (.iaload, 1) := by decide +kernel
theorem dL_law_171 : decode cL_law 171 = .ok (.i2l, 1) := by decide +kernel
theorem dL_law_172 : decode cL_law 172 = .ok (.bipush 32, 2) := by decide +kernel
theorem dL_law_174 : decode cL_law 174 = .ok (.lshl, 1) := by decide +kernel
theorem dL_law_175 : decode cL_law 175 = .ok (.aload_n 0, 1) := by decide +kernel
theorem dL_law_176 : decode cL_law 176 = .ok (.iload_n 3, 1) := by decide +kernel
theorem dL_law_177 : decode cL_law 177 = .ok (.iconst 3, 1) := by decide +kernel
theorem dL_law_178 : decode cL_law 178 = .ok (.iadd, 1) := by decide +kernel
theorem dL_law_179 : decode cL_law 179 = .ok (.iaload, 1) := by decide +kernel
theorem dL_law_180 : decode cL_law 180 = .ok (.i2l, 1) := by decide +kernel
theorem dL_law_181 : decode cL_law 181 = .ok (.ldc2_w 13, 3) := by decide +kernel
theorem dL_law_184 : decode cL_law 184 = .ok (.land, 1) := by decide +kernel
theorem dL_law_185 : decode cL_law 185 = .ok (.lor, 1) := by decide +kernel
theorem dL_law_186 : decode cL_law 186 = .ok (.invokevirtual 15, 3) := by decide +kernel
theorem dL_law_189 : decode cL_law 189 = .ok (.aload_n 2, 1) := by decide +kernel
theorem dL_law_190 : decode cL_law 190 = .ok (.aload_n 0, 1) := by decide +kernel
theorem dL_law_191 : decode cL_law 191 = .ok (.iload_n 3, 1) := by decide +kernel
theorem dL_law_192 : decode cL_law 192 = .ok (.iconst 1, 1) := by decide +kernel
theorem dL_law_193 : decode cL_law 193 = .ok (.iadd, 1) := by decide +kernel
theorem dL_law_194 : decode cL_law 194 = .ok (.iaload, 1) := by decide +kernel
theorem dL_law_195 : decode cL_law 195 = .ok (.aload_n 0, 1) := by decide +kernel
theorem dL_law_196 : decode cL_law 196 = .ok (.iload_n 3, 1) := by decide +kernel
theorem dL_law_197 : decode cL_law 197 = .ok (.iconst 2, 1) := by decide +kernel
theorem dL_law_198 : decode cL_law 198 = .ok (.iadd, 1) := by decide +kernel
theorem dL_law_199 : decode cL_law 199 = .ok (.iaload, 1) := by decide +kernel
theorem dL_law_200 : decode cL_law 200 = .ok (.i2l, 1) := by decide +kernel
theorem dL_law_201 : decode cL_law 201 = .ok (.bipush 32, 2) := by decide +kernel
theorem dL_law_203 : decode cL_law 203 = .ok (.lshl, 1) := by decide +kernel
theorem dL_law_204 : decode cL_law 204 = .ok (.aload_n 0, 1) := by decide +kernel
theorem dL_law_205 : decode cL_law 205 = .ok (.iload_n 3, 1) := by decide +kernel
theorem dL_law_206 : decode cL_law 206 = .ok (.iconst 3, 1) := by decide +kernel
theorem dL_law_207 : decode cL_law 207 = .ok (.iadd, 1) := by decide +kernel
theorem dL_law_208 : decode cL_law 208 = .ok (.iaload, 1) := by decide +kernel
theorem dL_law_209 : decode cL_law 209 = .ok (.i2l, 1) := by decide +kernel
theorem dL_law_210 : decode cL_law 210 = .ok (.ldc2_w 13, 3) := by decide +kernel
theorem dL_law_213 : decode cL_law 213 = .ok (.land, 1) := by decide +kernel
theorem dL_law_214 : decode cL_law 214 = .ok (.lor, 1) := by decide +kernel
theorem dL_law_215 : decode cL_law 215 = .ok (.invokevirtual 19, 3) := by decide +kernel
theorem dL_law_218 : decode cL_law 218 = .ok (.if_icmp .eq 706, 3) := by decide +kernel
theorem dL_law_221 : decode cL_law 221 = .ok (.iconst 0, 1) := by decide +kernel
theorem dL_law_222 : decode cL_law 222 = .ok (.ireturn, 1) := by decide +kernel
theorem dL_law_223 : decode cL_law 223 = .ok (.aload_n 1, 1) := by decide +kernel
theorem dL_law_224 : decode cL_law 224 = .ok (.invokevirtual 20, 3) := by decide +kernel
theorem dL_law_227 : decode cL_law 227 = .ok (.aload_n 2, 1) := by decide +kernel
theorem dL_law_228 : decode cL_law 228 = .ok (.invokevirtual 24, 3) := by decide +kernel
theorem dL_law_231 : decode cL_law 231 = .ok (.if_icmp .eq 693, 3) := by decide +kernel
theorem dL_law_234 : decode cL_law 234 = .ok (.iconst 0, 1) := by decide +kernel
theorem dL_law_235 : decode cL_law 235 = .ok (.ireturn, 1) := by decide +kernel
theorem dL_law_236 : decode cL_law 236 = .ok (.aload_n 1, 1) := by decide +kernel
theorem dL_law_237 : decode cL_law 237 = .ok (.invokevirtual 25, 3) := by decide +kernel
theorem dL_law_240 : decode cL_law 240 = .ok (.aload_n 2, 1) := by decide +kernel
theorem dL_law_241 : decode cL_law 241 = .ok (.invokevirtual 28, 3) := by decide +kernel
theorem dL_law_244 : decode cL_law 244 = .ok (.if_icmp .eq 680, 3) := by decide +kernel
theorem dL_law_247 : decode cL_law 247 = .ok (.iconst 0, 1) := by decide +kernel
theorem dL_law_248 : decode cL_law 248 = .ok (.ireturn, 1) := by decide +kernel
theorem dL_law_249 : decode cL_law 249 = .ok (.aload_n 1, 1) := by decide +kernel
theorem dL_law_250 : decode cL_law 250 = .ok (.invokevirtual 29, 3) := by decide +kernel
theorem dL_law_253 : decode cL_law 253 = .ok (.aload_n 2, 1) := by decide +kernel
theorem dL_law_254 : decode cL_law 254 = .ok (.invokevirtual 32, 3) := by decide +kernel
theorem dL_law_257 : decode cL_law 257 = .ok (.if_icmp .eq 667, 3) := by decide +kernel
theorem dL_law_260 : decode cL_law 260 = .ok (.iconst 0, 1) := by decide +kernel
theorem dL_law_261 : decode cL_law 261 = .ok (.ireturn, 1) := by decide +kernel
theorem dL_law_262 : decode cL_law 262 = .ok (.aload_n 1, 1) := by decide +kernel
theorem dL_law_263 : decode cL_law 263 = .ok (.aload_n 0, 1) := by decide +kernel
theorem dL_law_264 : decode cL_law 264 = .ok (.iload_n 3, 1) := by decide +kernel
theorem dL_law_265 : decode cL_law 265 = .ok (.iconst 1, 1) := by decide +kernel
theorem dL_law_266 : decode cL_law 266 = .ok (.iadd, 1) := by decide +kernel
theorem dL_law_267 : decode cL_law 267 = .ok (.iaload, 1) := by decide +kernel
theorem dL_law_268 : decode cL_law 268 = .ok (.aload_n 0, 1) := by decide +kernel
theorem dL_law_269 : decode cL_law 269 = .ok (.iload_n 3, 1) := by decide +kernel
theorem dL_law_270 : decode cL_law 270 = .ok (.iconst 2, 1) := by decide +kernel
theorem dL_law_271 : decode cL_law 271 = .ok (.iadd, 1) := by decide +kernel
theorem dL_law_272 : decode cL_law 272 = .ok (.iaload, 1) := by decide +kernel
theorem dL_law_273 : decode cL_law 273 = .ok (.invokevirtual 33, 3) := by decide +kernel
theorem dL_law_276 : decode cL_law 276 = .ok (.aload_n 2, 1) := by decide +kernel
theorem dL_law_277 : decode cL_law 277 = .ok (.aload_n 0, 1) := by decide +kernel
theorem dL_law_278 : decode cL_law 278 = .ok (.iload_n 3, 1) := by decide +kernel
theorem dL_law_279 : decode cL_law 279 = .ok (.iconst 1, 1) := by decide +kernel
theorem dL_law_280 : decode cL_law 280 = .ok (.iadd, 1) := by decide +kernel
theorem dL_law_281 : decode cL_law 281 = .ok (.iaload, 1) := by decide +kernel
theorem dL_law_282 : decode cL_law 282 = .ok (.aload_n 0, 1) := by decide +kernel
theorem dL_law_283 : decode cL_law 283 = .ok (.iload_n 3, 1) := by decide +kernel
theorem dL_law_284 : decode cL_law 284 = .ok (.iconst 2, 1) := by decide +kernel
theorem dL_law_285 : decode cL_law 285 = .ok (.iadd, 1) := by decide +kernel
theorem dL_law_286 : decode cL_law 286 = .ok (.iaload, 1) := by decide +kernel
theorem dL_law_287 : decode cL_law 287 = .ok (.invokevirtual 37, 3) := by decide +kernel
theorem dL_law_290 : decode cL_law 290 = .ok (.if_icmp .eq 634, 3) := by decide +kernel
theorem dL_law_293 : decode cL_law 293 = .ok (.iconst 0, 1) := by decide +kernel
theorem dL_law_294 : decode cL_law 294 = .ok (.ireturn, 1) := by decide +kernel
theorem dL_law_295 : decode cL_law 295 = .ok (.aload_n 1, 1) := by decide +kernel
theorem dL_law_296 : decode cL_law 296 = .ok (.aload_n 0, 1) := by decide +kernel
theorem dL_law_297 : decode cL_law 297 = .ok (.iload_n 3, 1) := by decide +kernel
theorem dL_law_298 : decode cL_law 298 = .ok (.iconst 1, 1) := by decide +kernel
theorem dL_law_299 : decode cL_law 299 = .ok (.iadd, 1) := by decide +kernel
theorem dL_law_300 : decode cL_law 300 = .ok (.iaload, 1) := by decide +kernel
theorem dL_law_301 : decode cL_law 301 = .ok (.aload_n 0, 1) := by decide +kernel
theorem dL_law_302 : decode cL_law 302 = .ok (.iload_n 3, 1) := by decide +kernel
theorem dL_law_303 : decode cL_law 303 = .ok (.iconst 2, 1) := by decide +kernel
theorem dL_law_304 : decode cL_law 304 = .ok (.iadd, 1) := by decide +kernel
theorem dL_law_305 : decode cL_law 305 = .ok (.iaload, 1) := by decide +kernel
theorem dL_law_306 : decode cL_law 306 = .ok (.invokevirtual 38, 3) := by decide +kernel
theorem dL_law_309 : decode cL_law 309 = .ok (.aload_n 2, 1) := by decide +kernel
theorem dL_law_310 : decode cL_law 310 = .ok (.aload_n 0, 1) := by decide +kernel
theorem dL_law_311 : decode cL_law 311 = .ok (.iload_n 3, 1) := by decide +kernel
theorem dL_law_312 : decode cL_law 312 = .ok (.iconst 1, 1) := by decide +kernel
theorem dL_law_313 : decode cL_law 313 = .ok (.iadd, 1) := by decide +kernel
theorem dL_law_314 : decode cL_law 314 = .ok (.iaload, 1) := by decide +kernel
theorem dL_law_315 : decode cL_law 315 = .ok (.aload_n 0, 1) := by decide +kernel
theorem dL_law_316 : decode cL_law 316 = .ok (.iload_n 3, 1) := by decide +kernel
theorem dL_law_317 : decode cL_law 317 = .ok (.iconst 2, 1) := by decide +kernel
theorem dL_law_318 : decode cL_law 318 = .ok (.iadd, 1) := by decide +kernel
theorem dL_law_319 : decode cL_law 319 = .ok (.iaload, 1) := by decide +kernel
theorem dL_law_320 : decode cL_law 320 = .ok (.invokevirtual 41, 3) := by decide +kernel
theorem dL_law_323 : decode cL_law 323 = .ok (.if_icmp .eq 601, 3) := by decide +kernel
theorem dL_law_326 : decode cL_law 326 = .ok (.iconst 0, 1) := by decide +kernel
theorem dL_law_327 : decode cL_law 327 = .ok (.ireturn, 1) := by decide +kernel
theorem dL_law_328 : decode cL_law 328 = .ok (.aload_n 1, 1) := by decide +kernel
theorem dL_law_329 : decode cL_law 329 = .ok (.aload_n 0, 1) := by decide +kernel
theorem dL_law_330 : decode cL_law 330 = .ok (.iload_n 3, 1) := by decide +kernel
theorem dL_law_331 : decode cL_law 331 = .ok (.iconst 1, 1) := by decide +kernel
theorem dL_law_332 : decode cL_law 332 = .ok (.iadd, 1) := by decide +kernel
theorem dL_law_333 : decode cL_law 333 = .ok (.iaload, 1) := by decide +kernel
theorem dL_law_334 : decode cL_law 334 = .ok (.aload_n 0, 1) := by decide +kernel
theorem dL_law_335 : decode cL_law 335 = .ok (.iload_n 3, 1) := by decide +kernel
theorem dL_law_336 : decode cL_law 336 = .ok (.iconst 2, 1) := by decide +kernel
theorem dL_law_337 : decode cL_law 337 = .ok (.iadd, 1) := by decide +kernel
theorem dL_law_338 : decode cL_law 338 = .ok (.iaload, 1) := by decide +kernel
theorem dL_law_339 : decode cL_law 339 = .ok (.invokevirtual 42, 3) := by decide +kernel
theorem dL_law_342 : decode cL_law 342 = .ok (.aload_n 2, 1) := by decide +kernel
theorem dL_law_343 : decode cL_law 343 = .ok (.aload_n 0, 1) := by decide +kernel
theorem dL_law_344 : decode cL_law 344 = .ok (.iload_n 3, 1) := by decide +kernel
theorem dL_law_345 : decode cL_law 345 = .ok (.iconst 1, 1) := by decide +kernel
theorem dL_law_346 : decode cL_law 346 = .ok (.iadd, 1) := by decide +kernel
theorem dL_law_347 : decode cL_law 347 = .ok (.iaload, 1) := by decide +kernel
theorem dL_law_348 : decode cL_law 348 = .ok (.aload_n 0, 1) := by decide +kernel
theorem dL_law_349 : decode cL_law 349 = .ok (.iload_n 3, 1) := by decide +kernel
theorem dL_law_350 : decode cL_law 350 = .ok (.iconst 2, 1) := by decide +kernel
theorem dL_law_351 : decode cL_law 351 = .ok (.iadd, 1) := by decide +kernel
theorem dL_law_352 : decode cL_law 352 = .ok (.iaload, 1) := by decide +kernel
theorem dL_law_353 : decode cL_law 353 = .ok (.invokevirtual 45, 3) := by decide +kernel
theorem dL_law_356 : decode cL_law 356 = .ok (.if_icmp .eq 568, 3) := by decide +kernel
theorem dL_law_359 : decode cL_law 359 = .ok (.iconst 0, 1) := by decide +kernel
theorem dL_law_360 : decode cL_law 360 = .ok (.ireturn, 1) := by decide +kernel
theorem dL_law_361 : decode cL_law 361 = .ok (.aload_n 1, 1) := by decide +kernel
theorem dL_law_362 : decode cL_law 362 = .ok (.aload_n 0, 1) := by decide +kernel
theorem dL_law_363 : decode cL_law 363 = .ok (.iload_n 3, 1) := by decide +kernel
theorem dL_law_364 : decode cL_law 364 = .ok (.iconst 1, 1) := by decide +kernel
theorem dL_law_365 : decode cL_law 365 = .ok (.iadd, 1) := by decide +kernel
theorem dL_law_366 : decode cL_law 366 = .ok (.iaload, 1) := by decide +kernel
theorem dL_law_367 : decode cL_law 367 = .ok (.aload_n 0, 1) := by decide +kernel
theorem dL_law_368 : decode cL_law 368 = .ok (.iload_n 3, 1) := by decide +kernel
theorem dL_law_369 : decode cL_law 369 = .ok (.iconst 2, 1) := by decide +kernel
theorem dL_law_370 : decode cL_law 370 = .ok (.iadd, 1) := by decide +kernel
theorem dL_law_371 : decode cL_law 371 = .ok (.iaload, 1) := by decide +kernel
theorem dL_law_372 : decode cL_law 372 = .ok (.invokevirtual 46, 3) := by decide +kernel
theorem dL_law_375 : decode cL_law 375 = .ok (.aload_n 2, 1) := by decide +kernel
theorem dL_law_376 : decode cL_law 376 = .ok (.aload_n 0, 1) := by decide +kernel
theorem dL_law_377 : decode cL_law 377 = .ok (.iload_n 3, 1) := by decide +kernel
theorem dL_law_378 : decode cL_law 378 = .ok (.iconst 1, 1) := by decide +kernel
theorem dL_law_379 : decode cL_law 379 = .ok (.iadd, 1) := by decide +kernel
theorem dL_law_380 : decode cL_law 380 = .ok (.iaload, 1) := by decide +kernel
theorem dL_law_381 : decode cL_law 381 = .ok (.aload_n 0, 1) := by decide +kernel
theorem dL_law_382 : decode cL_law 382 = .ok (.iload_n 3, 1) := by decide +kernel
theorem dL_law_383 : decode cL_law 383 = .ok (.iconst 2, 1) := by decide +kernel
theorem dL_law_384 : decode cL_law 384 = .ok (.iadd, 1) := by decide +kernel
theorem dL_law_385 : decode cL_law 385 = .ok (.iaload, 1) := by decide +kernel
theorem dL_law_386 : decode cL_law 386 = .ok (.invokevirtual 49, 3) := by decide +kernel
theorem dL_law_389 : decode cL_law 389 = .ok (.if_icmp .eq 535, 3) := by decide +kernel
theorem dL_law_392 : decode cL_law 392 = .ok (.iconst 0, 1) := by decide +kernel
theorem dL_law_393 : decode cL_law 393 = .ok (.ireturn, 1) := by decide +kernel
theorem dL_law_394 : decode cL_law 394 = .ok (.aload_n 1, 1) := by decide +kernel
theorem dL_law_395 : decode cL_law 395 = .ok (.aload_n 0, 1) := by decide +kernel
theorem dL_law_396 : decode cL_law 396 = .ok (.iload_n 3, 1) := by decide +kernel
theorem dL_law_397 : decode cL_law 397 = .ok (.iconst 1, 1) := by decide +kernel
theorem dL_law_398 : decode cL_law 398 = .ok (.iadd, 1) := by decide +kernel
theorem dL_law_399 : decode cL_law 399 = .ok (.iaload, 1) := by decide +kernel
theorem dL_law_400 : decode cL_law 400 = .ok (.aload_n 0, 1) := by decide +kernel
theorem dL_law_401 : decode cL_law 401 = .ok (.iload_n 3, 1) := by decide +kernel
theorem dL_law_402 : decode cL_law 402 = .ok (.iconst 2, 1) := by decide +kernel
theorem dL_law_403 : decode cL_law 403 = .ok (.iadd, 1) := by decide +kernel
theorem dL_law_404 : decode cL_law 404 = .ok (.iaload, 1) := by decide +kernel
theorem dL_law_405 : decode cL_law 405 = .ok (.invokevirtual 50, 3) := by decide +kernel
theorem dL_law_408 : decode cL_law 408 = .ok (.aload_n 2, 1) := by decide +kernel
theorem dL_law_409 : decode cL_law 409 = .ok (.aload_n 0, 1) := by decide +kernel
theorem dL_law_410 : decode cL_law 410 = .ok (.iload_n 3, 1) := by decide +kernel
theorem dL_law_411 : decode cL_law 411 = .ok (.iconst 1, 1) := by decide +kernel
theorem dL_law_412 : decode cL_law 412 = .ok (.iadd, 1) := by decide +kernel
theorem dL_law_413 : decode cL_law 413 = .ok (.iaload, 1) := by decide +kernel
theorem dL_law_414 : decode cL_law 414 = .ok (.aload_n 0, 1) := by decide +kernel
theorem dL_law_415 : decode cL_law 415 = .ok (.iload_n 3, 1) := by decide +kernel
theorem dL_law_416 : decode cL_law 416 = .ok (.iconst 2, 1) := by decide +kernel
theorem dL_law_417 : decode cL_law 417 = .ok (.iadd, 1) := by decide +kernel
theorem dL_law_418 : decode cL_law 418 = .ok (.iaload, 1) := by decide +kernel
theorem dL_law_419 : decode cL_law 419 = .ok (.invokevirtual 53, 3) := by decide +kernel
theorem dL_law_422 : decode cL_law 422 = .ok (.if_icmp .eq 502, 3) := by decide +kernel
theorem dL_law_425 : decode cL_law 425 = .ok (.iconst 0, 1) := by decide +kernel
theorem dL_law_426 : decode cL_law 426 = .ok (.ireturn, 1) := by decide +kernel
theorem dL_law_427 : decode cL_law 427 = .ok (.aload_n 1, 1) := by decide +kernel
theorem dL_law_428 : decode cL_law 428 = .ok (.aload_n 0, 1) := by decide +kernel
theorem dL_law_429 : decode cL_law 429 = .ok (.iload_n 3, 1) := by decide +kernel
theorem dL_law_430 : decode cL_law 430 = .ok (.iconst 1, 1) := by decide +kernel
theorem dL_law_431 : decode cL_law 431 = .ok (.iadd, 1) := by decide +kernel
theorem dL_law_432 : decode cL_law 432 = .ok (.iaload, 1) := by decide +kernel
theorem dL_law_433 : decode cL_law 433 = .ok (.invokevirtual 54, 3) := by decide +kernel
theorem dL_law_436 : decode cL_law 436 = .ok (.aload_n 2, 1) := by decide +kernel
theorem dL_law_437 : decode cL_law 437 = .ok (.aload_n 0, 1) := by decide +kernel
theorem dL_law_438 : decode cL_law 438 = .ok (.iload_n 3, 1) := by decide +kernel
theorem dL_law_439 : decode cL_law 439 = .ok (.iconst 1, 1) := by decide +kernel
theorem dL_law_440 : decode cL_law 440 = .ok (.iadd, 1) := by decide +kernel
theorem dL_law_441 : decode cL_law 441 = .ok (.iaload, 1) := by decide +kernel
theorem dL_law_442 : decode cL_law 442 = .ok (.invokevirtual 58, 3) := by decide +kernel
theorem dL_law_445 : decode cL_law 445 = .ok (.if_icmp .eq 479, 3) := by decide +kernel
theorem dL_law_448 : decode cL_law 448 = .ok (.iconst 0, 1) := by decide +kernel
theorem dL_law_449 : decode cL_law 449 = .ok (.ireturn, 1) := by decide +kernel
theorem dL_law_450 : decode cL_law 450 = .ok (.aload_n 1, 1) := by decide +kernel
theorem dL_law_451 : decode cL_law 451 = .ok (.aload_n 0, 1) := by decide +kernel
theorem dL_law_452 : decode cL_law 452 = .ok (.iload_n 3, 1) := by decide +kernel
theorem dL_law_453 : decode cL_law 453 = .ok (.iconst 1, 1) := by decide +kernel
theorem dL_law_454 : decode cL_law 454 = .ok (.iadd, 1) := by decide +kernel
theorem dL_law_455 : decode cL_law 455 = .ok (.iaload, 1) := by decide +kernel
theorem dL_law_456 : decode cL_law 456 = .ok (.aload_n 0, 1) := by decide +kernel
theorem dL_law_457 : decode cL_law 457 = .ok (.iload_n 3, 1) := by decide +kernel
theorem dL_law_458 : decode cL_law 458 = .ok (.iconst 2, 1) := by decide +kernel
theorem dL_law_459 : decode cL_law 459 = .ok (.iadd, 1) := by decide +kernel
theorem dL_law_460 : decode cL_law 460 = .ok (.iaload, 1) := by decide +kernel
theorem dL_law_461 : decode cL_law 461 = .ok (.invokevirtual 59, 3) := by decide +kernel
theorem dL_law_464 : decode cL_law 464 = .ok (.aload_n 2, 1) := by decide +kernel
theorem dL_law_465 : decode cL_law 465 = .ok (.aload_n 0, 1) := by decide +kernel
theorem dL_law_466 : decode cL_law 466 = .ok (.iload_n 3, 1) := by decide +kernel
theorem dL_law_467 : decode cL_law 467 = .ok (.iconst 1, 1) := by decide +kernel
theorem dL_law_468 : decode cL_law 468 = .ok (.iadd, 1) := by decide +kernel
theorem dL_law_469 : decode cL_law 469 = .ok (.iaload, 1) := by decide +kernel
theorem dL_law_470 : decode cL_law 470 = .ok (.aload_n 0, 1) := by decide +kernel
theorem dL_law_471 : decode cL_law 471 = .ok (.iload_n 3, 1) := by decide +kernel
theorem dL_law_472 : decode cL_law 472 = .ok (.iconst 2, 1) := by decide +kernel
theorem dL_law_473 : decode cL_law 473 = .ok (.iadd, 1) := by decide +kernel
theorem dL_law_474 : decode cL_law 474 = .ok (.iaload, 1) := by decide +kernel
theorem dL_law_475 : decode cL_law 475 = .ok (.invokevirtual 62, 3) := by decide +kernel
theorem dL_law_478 : decode cL_law 478 = .ok (.if_icmp .eq 446, 3) := by decide +kernel
theorem dL_law_481 : decode cL_law 481 = .ok (.iconst 0, 1) := by decide +kernel
theorem dL_law_482 : decode cL_law 482 = .ok (.ireturn, 1) := by decide +kernel
theorem dL_law_483 : decode cL_law 483 = .ok (.aload_n 1, 1) := by decide +kernel
theorem dL_law_484 : decode cL_law 484 = .ok (.aload_n 0, 1) := by decide +kernel
theorem dL_law_485 : decode cL_law 485 = .ok (.iload_n 3, 1) := by decide +kernel
theorem dL_law_486 : decode cL_law 486 = .ok (.iconst 1, 1) := by decide +kernel
theorem dL_law_487 : decode cL_law 487 = .ok (.iadd, 1) := by decide +kernel
theorem dL_law_488 : decode cL_law 488 = .ok (.iaload, 1) := by decide +kernel
theorem dL_law_489 : decode cL_law 489 = .ok (.aload_n 0, 1) := by decide +kernel
theorem dL_law_490 : decode cL_law 490 = .ok (.iload_n 3, 1) := by decide +kernel
theorem dL_law_491 : decode cL_law 491 = .ok (.iconst 2, 1) := by decide +kernel
theorem dL_law_492 : decode cL_law 492 = .ok (.iadd, 1) := by decide +kernel
theorem dL_law_493 : decode cL_law 493 = .ok (.iaload, 1) := by decide +kernel
theorem dL_law_494 : decode cL_law 494 = .ok (.invokevirtual 63, 3) := by decide +kernel
theorem dL_law_497 : decode cL_law 497 = .ok (.aload_n 2, 1) := by decide +kernel
theorem dL_law_498 : decode cL_law 498 = .ok (.aload_n 0, 1) := by decide +kernel
theorem dL_law_499 : decode cL_law 499 = .ok (.iload_n 3, 1) := by decide +kernel
theorem dL_law_500 : decode cL_law 500 = .ok (.iconst 1, 1) := by decide +kernel
theorem dL_law_501 : decode cL_law 501 = .ok (.iadd, 1) := by decide +kernel
theorem dL_law_502 : decode cL_law 502 = .ok (.iaload, 1) := by decide +kernel
theorem dL_law_503 : decode cL_law 503 = .ok (.aload_n 0, 1) := by decide +kernel
theorem dL_law_504 : decode cL_law 504 = .ok (.iload_n 3, 1) := by decide +kernel
theorem dL_law_505 : decode cL_law 505 = .ok (.iconst 2, 1) := by decide +kernel
theorem dL_law_506 : decode cL_law 506 = .ok (.iadd, 1) := by decide +kernel
theorem dL_law_507 : decode cL_law 507 = .ok (.iaload, 1) := by decide +kernel
theorem dL_law_508 : decode cL_law 508 = .ok (.invokevirtual 66, 3) := by decide +kernel
theorem dL_law_511 : decode cL_law 511 = .ok (.if_icmp .eq 413, 3) := by decide +kernel
theorem dL_law_514 : decode cL_law 514 = .ok (.iconst 0, 1) := by decide +kernel
theorem dL_law_515 : decode cL_law 515 = .ok (.ireturn, 1) := by decide +kernel
theorem dL_law_516 : decode cL_law 516 = .ok (.aload_n 1, 1) := by decide +kernel
theorem dL_law_517 : decode cL_law 517 = .ok (.aload_n 0, 1) := by decide +kernel
theorem dL_law_518 : decode cL_law 518 = .ok (.iload_n 3, 1) := by decide +kernel
theorem dL_law_519 : decode cL_law 519 = .ok (.iconst 1, 1) := by decide +kernel
theorem dL_law_520 : decode cL_law 520 = .ok (.iadd, 1) := by decide +kernel
theorem dL_law_521 : decode cL_law 521 = .ok (.iaload, 1) := by decide +kernel
theorem dL_law_522 : decode cL_law 522 = .ok (.invokevirtual 67, 3) := by decide +kernel
theorem dL_law_525 : decode cL_law 525 = .ok (.aload_n 2, 1) := by decide +kernel
theorem dL_law_526 : decode cL_law 526 = .ok (.aload_n 0, 1) := by decide +kernel
theorem dL_law_527 : decode cL_law 527 = .ok (.iload_n 3, 1) := by decide +kernel
theorem dL_law_528 : decode cL_law 528 = .ok (.iconst 1, 1) := by decide +kernel
theorem dL_law_529 : decode cL_law 529 = .ok (.iadd, 1) := by decide +kernel
theorem dL_law_530 : decode cL_law 530 = .ok (.iaload, 1) := by decide +kernel
theorem dL_law_531 : decode cL_law 531 = .ok (.invokevirtual 70, 3) := by decide +kernel
theorem dL_law_534 : decode cL_law 534 = .ok (.if_icmp .eq 390, 3) := by decide +kernel
theorem dL_law_537 : decode cL_law 537 = .ok (.iconst 0, 1) := by decide +kernel
theorem dL_law_538 : decode cL_law 538 = .ok (.ireturn, 1) := by decide +kernel
theorem dL_law_539 : decode cL_law 539 = .ok (.aload_n 1, 1) := by decide +kernel
theorem dL_law_540 : decode cL_law 540 = .ok (.aload_n 0, 1) := by decide +kernel
theorem dL_law_541 : decode cL_law 541 = .ok (.iload_n 3, 1) := by decide +kernel
theorem dL_law_542 : decode cL_law 542 = .ok (.iconst 1, 1) := by decide +kernel
theorem dL_law_543 : decode cL_law 543 = .ok (.iadd, 1) := by decide +kernel
theorem dL_law_544 : decode cL_law 544 = .ok (.iaload, 1) := by decide +kernel
theorem dL_law_545 : decode cL_law 545 = .ok (.invokevirtual 71, 3) := by decide +kernel
theorem dL_law_548 : decode cL_law 548 = .ok (.aload_n 2, 1) := by decide +kernel
theorem dL_law_549 : decode cL_law 549 = .ok (.aload_n 0, 1) := by decide +kernel
theorem dL_law_550 : decode cL_law 550 = .ok (.iload_n 3, 1) := by decide +kernel
theorem dL_law_551 : decode cL_law 551 = .ok (.iconst 1, 1) := by decide +kernel
theorem dL_law_552 : decode cL_law 552 = .ok (.iadd, 1) := by decide +kernel
theorem dL_law_553 : decode cL_law 553 = .ok (.iaload, 1) := by decide +kernel
theorem dL_law_554 : decode cL_law 554 = .ok (.invokevirtual 74, 3) := by decide +kernel
theorem dL_law_557 : decode cL_law 557 = .ok (.if_icmp .eq 367, 3) := by decide +kernel
theorem dL_law_560 : decode cL_law 560 = .ok (.iconst 0, 1) := by decide +kernel
theorem dL_law_561 : decode cL_law 561 = .ok (.ireturn, 1) := by decide +kernel
theorem dL_law_562 : decode cL_law 562 = .ok (.aload_n 1, 1) := by decide +kernel
theorem dL_law_563 : decode cL_law 563 = .ok (.aload_n 0, 1) := by decide +kernel
theorem dL_law_564 : decode cL_law 564 = .ok (.iload_n 3, 1) := by decide +kernel
theorem dL_law_565 : decode cL_law 565 = .ok (.iconst 1, 1) := by decide +kernel
theorem dL_law_566 : decode cL_law 566 = .ok (.iadd, 1) := by decide +kernel
theorem dL_law_567 : decode cL_law 567 = .ok (.iaload, 1) := by decide +kernel
theorem dL_law_568 : decode cL_law 568 = .ok (.invokevirtual 75, 3) := by decide +kernel
theorem dL_law_571 : decode cL_law 571 = .ok (.aload_n 2, 1) := by decide +kernel
theorem dL_law_572 : decode cL_law 572 = .ok (.aload_n 0, 1) := by decide +kernel
theorem dL_law_573 : decode cL_law 573 = .ok (.iload_n 3, 1) := by decide +kernel
theorem dL_law_574 : decode cL_law 574 = .ok (.iconst 1, 1) := by decide +kernel
theorem dL_law_575 : decode cL_law 575 = .ok (.iadd, 1) := by decide +kernel
theorem dL_law_576 : decode cL_law 576 = .ok (.iaload, 1) := by decide +kernel
theorem dL_law_577 : decode cL_law 577 = .ok (.invokevirtual 78, 3) := by decide +kernel
theorem dL_law_580 : decode cL_law 580 = .ok (.if_icmp .eq 344, 3) := by decide +kernel
theorem dL_law_583 : decode cL_law 583 = .ok (.iconst 0, 1) := by decide +kernel
theorem dL_law_584 : decode cL_law 584 = .ok (.ireturn, 1) := by decide +kernel
theorem dL_law_585 : decode cL_law 585 = .ok (.aload_n 1, 1) := by decide +kernel
theorem dL_law_586 : decode cL_law 586 = .ok (.aload_n 0, 1) := by decide +kernel
theorem dL_law_587 : decode cL_law 587 = .ok (.iload_n 3, 1) := by decide +kernel
theorem dL_law_588 : decode cL_law 588 = .ok (.iconst 1, 1) := by decide +kernel
theorem dL_law_589 : decode cL_law 589 = .ok (.iadd, 1) := by decide +kernel
theorem dL_law_590 : decode cL_law 590 = .ok (.iaload, 1) := by decide +kernel
theorem dL_law_591 : decode cL_law 591 = .ok (.aload_n 0, 1) := by decide +kernel
theorem dL_law_592 : decode cL_law 592 = .ok (.iload_n 3, 1) := by decide +kernel
theorem dL_law_593 : decode cL_law 593 = .ok (.iconst 2, 1) := by decide +kernel
theorem dL_law_594 : decode cL_law 594 = .ok (.iadd, 1) := by decide +kernel
theorem dL_law_595 : decode cL_law 595 = .ok (.iaload, 1) := by decide +kernel
theorem dL_law_596 : decode cL_law 596 = .ok (.invokevirtual 79, 3) := by decide +kernel
theorem dL_law_599 : decode cL_law 599 = .ok (.aload_n 2, 1) := by decide +kernel
theorem dL_law_600 : decode cL_law 600 = .ok (.aload_n 0, 1) := by decide +kernel
theorem dL_law_601 : decode cL_law 601 = .ok (.iload_n 3, 1) := by decide +kernel
theorem dL_law_602 : decode cL_law 602 = .ok (.iconst 1, 1) := by decide +kernel
theorem dL_law_603 : decode cL_law 603 = .ok (.iadd, 1) := by decide +kernel
theorem dL_law_604 : decode cL_law 604 = .ok (.iaload, 1) := by decide +kernel
theorem dL_law_605 : decode cL_law 605 = .ok (.aload_n 0, 1) := by decide +kernel
theorem dL_law_606 : decode cL_law 606 = .ok (.iload_n 3, 1) := by decide +kernel
theorem dL_law_607 : decode cL_law 607 = .ok (.iconst 2, 1) := by decide +kernel
theorem dL_law_608 : decode cL_law 608 = .ok (.iadd, 1) := by decide +kernel
theorem dL_law_609 : decode cL_law 609 = .ok (.iaload, 1) := by decide +kernel
theorem dL_law_610 : decode cL_law 610 = .ok (.invokevirtual 82, 3) := by decide +kernel
theorem dL_law_613 : decode cL_law 613 = .ok (.if_icmp .eq 311, 3) := by decide +kernel
theorem dL_law_616 : decode cL_law 616 = .ok (.iconst 0, 1) := by decide +kernel
theorem dL_law_617 : decode cL_law 617 = .ok (.ireturn, 1) := by decide +kernel
theorem dL_law_618 : decode cL_law 618 = .ok (.aload_n 1, 1) := by decide +kernel
theorem dL_law_619 : decode cL_law 619 = .ok (.aload_n 0, 1) := by decide +kernel
theorem dL_law_620 : decode cL_law 620 = .ok (.iload_n 3, 1) := by decide +kernel
theorem dL_law_621 : decode cL_law 621 = .ok (.iconst 1, 1) := by decide +kernel
theorem dL_law_622 : decode cL_law 622 = .ok (.iadd, 1) := by decide +kernel
theorem dL_law_623 : decode cL_law 623 = .ok (.iaload, 1) := by decide +kernel
theorem dL_law_624 : decode cL_law 624 = .ok (.invokevirtual 83, 3) := by decide +kernel
theorem dL_law_627 : decode cL_law 627 = .ok (.aload_n 2, 1) := by decide +kernel
theorem dL_law_628 : decode cL_law 628 = .ok (.aload_n 0, 1) := by decide +kernel
theorem dL_law_629 : decode cL_law 629 = .ok (.iload_n 3, 1) := by decide +kernel
theorem dL_law_630 : decode cL_law 630 = .ok (.iconst 1, 1) := by decide +kernel
theorem dL_law_631 : decode cL_law 631 = .ok (.iadd, 1) := by decide +kernel
theorem dL_law_632 : decode cL_law 632 = .ok (.iaload, 1) := by decide +kernel
theorem dL_law_633 : decode cL_law 633 = .ok (.invokevirtual 86, 3) := by decide +kernel
theorem dL_law_636 : decode cL_law 636 = .ok (.if_icmp .eq 288, 3) := by decide +kernel
theorem dL_law_639 : decode cL_law 639 = .ok (.iconst 0, 1) := by decide +kernel
theorem dL_law_640 : decode cL_law 640 = .ok (.ireturn, 1) := by decide +kernel
theorem dL_law_641 : decode cL_law 641 = .ok (.aload_n 1, 1) := by decide +kernel
theorem dL_law_642 : decode cL_law 642 = .ok (.invokevirtual 87, 3) := by decide +kernel
theorem dL_law_645 : decode cL_law 645 = .ok (.aload_n 2, 1) := by decide +kernel
theorem dL_law_646 : decode cL_law 646 = .ok (.invokevirtual 90, 3) := by decide +kernel
theorem dL_law_649 : decode cL_law 649 = .ok (.if_icmp .eq 275, 3) := by decide +kernel
theorem dL_law_652 : decode cL_law 652 = .ok (.iconst 0, 1) := by decide +kernel
theorem dL_law_653 : decode cL_law 653 = .ok (.ireturn, 1) := by decide +kernel
theorem dL_law_654 : decode cL_law 654 = .ok (.aload_n 1, 1) := by decide +kernel
theorem dL_law_655 : decode cL_law 655 = .ok (.aload_n 0, 1) := by decide +kernel
theorem dL_law_656 : decode cL_law 656 = .ok (.iload_n 3, 1) := by decide +kernel
theorem dL_law_657 : decode cL_law 657 = .ok (.iconst 1, 1) := by decide +kernel
theorem dL_law_658 : decode cL_law 658 = .ok (.iadd, 1) := by decide +kernel
theorem dL_law_659 : decode cL_law 659 = .ok (.iaload, 1) := by decide +kernel
theorem dL_law_660 : decode cL_law 660 = .ok (.aload_n 0, 1) := by decide +kernel
theorem dL_law_661 : decode cL_law 661 = .ok (.iload_n 3, 1) := by decide +kernel
theorem dL_law_662 : decode cL_law 662 = .ok (.iconst 2, 1) := by decide +kernel
theorem dL_law_663 : decode cL_law 663 = .ok (.iadd, 1) := by decide +kernel
theorem dL_law_664 : decode cL_law 664 = .ok (.iaload, 1) := by decide +kernel
theorem dL_law_665 : decode cL_law 665 = .ok (.invokevirtual 91, 3) := by decide +kernel
theorem dL_law_668 : decode cL_law 668 = .ok (.aload_n 2, 1) := by decide +kernel
theorem dL_law_669 : decode cL_law 669 = .ok (.aload_n 0, 1) := by decide +kernel
theorem dL_law_670 : decode cL_law 670 = .ok (.iload_n 3, 1) := by decide +kernel
theorem dL_law_671 : decode cL_law 671 = .ok (.iconst 1, 1) := by decide +kernel
theorem dL_law_672 : decode cL_law 672 = .ok (.iadd, 1) := by decide +kernel
theorem dL_law_673 : decode cL_law 673 = .ok (.iaload, 1) := by decide +kernel
theorem dL_law_674 : decode cL_law 674 = .ok (.aload_n 0, 1) := by decide +kernel
theorem dL_law_675 : decode cL_law 675 = .ok (.iload_n 3, 1) := by decide +kernel
theorem dL_law_676 : decode cL_law 676 = .ok (.iconst 2, 1) := by decide +kernel
