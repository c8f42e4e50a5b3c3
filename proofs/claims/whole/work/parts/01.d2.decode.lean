theorem dX7_since_74 : decode cX7_since 74 = .ok (.imul, 1) := by decide +kernel
theorem dX7_since_75 : decode cX7_since 75 = .ok (.invokevirtual 190, 3) := by decide +kernel
theorem dX7_since_78 : decode cX7_since 78 = .ok (.iload 4, 2) := by decide +kernel
theorem dX7_since_80 : decode cX7_since 80 = .ok (.iload_n 3, 1) := by decide +kernel
theorem dX7_since_81 : decode cX7_since 81 = .ok (.invokestatic 186, 3) := by decide +kernel
theorem dX7_since_84 : decode cX7_since 84 = .ok (.ireturn, 1) := by decide +kernel
theorem dX7_leave_0 : decode cX7_leave 0 = .ok (.iload_n 1, 1) := by decide +kernel
theorem dX7_leave_1 : decode cX7_leave 1 = .ok (.iconst 2, 1) := by decide +kernel
theorem dX7_leave_2 : decode cX7_leave 2 = .ok (.bipush 20, 2) := by decide +kernel
theorem dX7_leave_4 : decode cX7_leave 4 = .ok (.invokestatic 70, 3) := by decide +kernel
theorem dX7_leave_7 : decode cX7_leave 7 = .ok (.ifCond .ne 5, 3) := by decide +kernel
theorem dX7_leave_10 : decode cX7_leave 10 = .ok (.iconst (-1), 1) := by decide +kernel
theorem dX7_leave_11 : decode cX7_leave 11 = .ok (.ireturn, 1) := by decide +kernel
theorem dX7_leave_12 : decode cX7_leave 12 = .ok (.iload_n 1, 1) := by decide +kernel
theorem dX7_leave_13 : decode cX7_leave 13 = .ok (.iconst 2, 1) := by decide +kernel
theorem dX7_leave_14 : decode cX7_leave 14 = .ok (.irem, 1) := by decide +kernel
theorem dX7_leave_15 : decode cX7_leave 15 = .ok (.ifCond .ne 9, 3) := by decide +kernel
theorem dX7_leave_18 : decode cX7_leave 18 = .ok (.iload_n 1, 1) := by decide +kernel
theorem dX7_leave_19 : decode cX7_leave 19 = .ok (.iconst 1, 1) := by decide +kernel
theorem dX7_leave_20 : decode cX7_leave 20 = .ok (.isub, 1) := by decide +kernel
theorem dX7_leave_21 : decode cX7_leave 21 = .ok (.goto 4, 3) := by decide +kernel
theorem dX7_leave_24 : decode cX7_leave 24 = .ok (.iload_n 1, 1) := by decide +kernel
theorem dX7_leave_25 : decode cX7_leave 25 = .ok (.istore 4, 2) := by decide +kernel
theorem dX7_leave_27 : decode cX7_leave 27 = .ok (.iload_n 2, 1) := by decide +kernel
theorem dX7_leave_28 : decode cX7_leave 28 = .ok (.iconst 0, 1) := by decide +kernel
theorem dX7_leave_29 : decode cX7_leave 29 = .ok (.iload 4, 2) := by decide +kernel
theorem dX7_leave_31 : decode cX7_leave 31 = .ok (.iconst 1, 1) := by decide +kernel
theorem dX7_leave_32 : decode cX7_leave 32 = .ok (.isub, 1) := by decide +kernel
theorem dX7_leave_33 : decode cX7_leave 33 = .ok (.invokestatic 70, 3) := by decide +kernel
theorem dX7_leave_36 : decode cX7_leave 36 = .ok (.ifCond .eq 14, 3) := by decide +kernel
theorem dX7_leave_39 : decode cX7_leave 39 = .ok (.iload_n 3, 1) := by decide +kernel
theorem dX7_leave_40 : decode cX7_leave 40 = .ok (.iconst 0, 1) := by decide +kernel
theorem dX7_leave_41 : decode cX7_leave 41 = .ok (.iload_n 1, 1) := by decide +kernel
theorem dX7_leave_42 : decode cX7_leave 42 = .ok (.iconst 1, 1) := by decide +kernel
theorem dX7_leave_43 : decode cX7_leave 43 = .ok (.isub, 1) := by decide +kernel
theorem dX7_leave_44 : decode cX7_leave 44 = .ok (.invokestatic 70, 3) := by decide +kernel
theorem dX7_leave_47 : decode cX7_leave 47 = .ok (.ifCond .ne 5, 3) := by decide +kernel
theorem dX7_leave_50 : decode cX7_leave 50 = .ok (.iconst (-1), 1) := by decide +kernel
theorem dX7_leave_51 : decode cX7_leave 51 = .ok (.ireturn, 1) := by decide +kernel
theorem dX7_leave_52 : decode cX7_leave 52 = .ok (.iload_n 3, 1) := by decide +kernel
theorem dX7_leave_53 : decode cX7_leave 53 = .ok (.iload 4, 2) := by decide +kernel
theorem dX7_leave_55 : decode cX7_leave 55 = .ok (.if_icmp .ne 10, 3) := by decide +kernel
theorem dX7_leave_58 : decode cX7_leave 58 = .ok (.iload 4, 2) := by decide +kernel
theorem dX7_leave_60 : decode cX7_leave 60 = .ok (.iload_n 2, 1) := by decide +kernel
theorem dX7_leave_61 : decode cX7_leave 61 = .ok (.invokestatic 193, 3) := by decide +kernel
theorem dX7_leave_64 : decode cX7_leave 64 = .ok (.ireturn, 1) := by decide +kernel
theorem dX7_leave_65 : decode cX7_leave 65 = .ok (.iload_n 2, 1) := by decide +kernel
theorem dX7_leave_66 : decode cX7_leave 66 = .ok (.iload_n 3, 1) := by decide +kernel
theorem dX7_leave_67 : decode cX7_leave 67 = .ok (.isub, 1) := by decide +kernel
theorem dX7_leave_68 : decode cX7_leave 68 = .ok (.iload 4, 2) := by decide +kernel
theorem dX7_leave_70 : decode cX7_leave 70 = .ok (.invokestatic 196, 3) := by decide +kernel
theorem dX7_leave_73 : decode cX7_leave 73 = .ok (.istore 5, 2) := by decide +kernel
theorem dX7_leave_75 : decode cX7_leave 75 = .ok (.iload 5, 2) := by decide +kernel
theorem dX7_leave_77 : decode cX7_leave 77 = .ok (.iload_n 3, 1) := by decide +kernel
theorem dX7_leave_78 : decode cX7_leave 78 = .ok (.if_icmp .eq 6, 3) := by decide +kernel
theorem dX7_leave_81 : decode cX7_leave 81 = .ok (.iload 5, 2) := by decide +kernel
theorem dX7_leave_83 : decode cX7_leave 83 = .ok (.ireturn, 1) := by decide +kernel
theorem dX7_leave_84 : decode cX7_leave 84 = .ok (.iload_n 1, 1) := by decide +kernel
theorem dX7_leave_85 : decode cX7_leave 85 = .ok (.iload 4, 2) := by decide +kernel
theorem dX7_leave_87 : decode cX7_leave 87 = .ok (.if_icmp .ne 8, 3) := by decide +kernel
theorem dX7_leave_90 : decode cX7_leave 90 = .ok (.bipush (-4), 2) := by decide +kernel
theorem dX7_leave_92 : decode cX7_leave 92 = .ok (.goto 6, 3) := by decide +kernel
theorem dX7_leave_95 : decode cX7_leave 95 = .ok (.iload_n 1, 1) := by decide +kernel
theorem dX7_leave_96 : decode cX7_leave 96 = .ok (.iconst 1, 1) := by decide +kernel
theorem dX7_leave_97 : decode cX7_leave 97 = .ok (.isub, 1) := by decide +kernel
theorem dX7_leave_98 : decode cX7_leave 98 = .ok (.ireturn, 1) := by decide +kernel
theorem dX7_drawn_0 : decode cX7_drawn 0 = .ok (.iload_n 1, 1) := by decide +kernel
theorem dX7_drawn_1 : decode cX7_drawn 1 = .ok (.iconst 0, 1) := by decide +kernel
theorem dX7_drawn_2 : decode cX7_drawn 2 = .ok (.sipush 9999, 3) := by decide +kernel
theorem dX7_drawn_5 : decode cX7_drawn 5 = .ok (.invokestatic 70, 3) := by decide +kernel
theorem dX7_drawn_8 : decode cX7_drawn 8 = .ok (.ifCond .eq 12, 3) := by decide +kernel
theorem dX7_drawn_11 : decode cX7_drawn 11 = .ok (.iload_n 2, 1) := by decide +kernel
theorem dX7_drawn_12 : decode cX7_drawn 12 = .ok (.iconst 0, 1) := by decide +kernel
theorem dX7_drawn_13 : decode cX7_drawn 13 = .ok (.iconst 1, 1) := by decide +kernel
theorem dX7_drawn_14 : decode cX7_drawn 14 = .ok (.invokestatic 70, 3) := by decide +kernel
theorem dX7_drawn_17 : decode cX7_drawn 17 = .ok (.ifCond .ne 5, 3) := by decide +kernel
theorem dX7_drawn_20 : decode cX7_drawn 20 = .ok (.iconst (-1), 1) := by decide +kernel
theorem dX7_drawn_21 : decode cX7_drawn 21 = .ok (.ireturn, 1) := by decide +kernel
theorem dX7_drawn_22 : decode cX7_drawn 22 = .ok (.aload_n 0, 1) := by decide +kernel
theorem dX7_drawn_23 : decode cX7_drawn 23 = .ok (.getfield 37, 3) := by decide +kernel
theorem dX7_drawn_26 : decode cX7_drawn 26 = .ok (.aload_n 0, 1) := by decide +kernel
theorem dX7_drawn_27 : decode cX7_drawn 27 = .ok (.getfield 27, 3) := by decide +kernel
theorem dX7_drawn_30 : decode cX7_drawn 30 = .ok (.invokevirtual 201, 3) := by decide +kernel
theorem dX7_drawn_33 : decode cX7_drawn 33 = .ok (.aload_n 0, 1) := by decide +kernel
theorem dX7_drawn_34 : decode cX7_drawn 34 = .ok (.getfield 37, 3) := by decide +kernel
theorem dX7_drawn_37 : decode cX7_drawn 37 = .ok (.iload_n 1, 1) := by decide +kernel
theorem dX7_drawn_38 : decode cX7_drawn 38 = .ok (.invokevirtual 204, 3) := by decide +kernel
theorem dX7_drawn_41 : decode cX7_drawn 41 = .ok (.aload_n 0, 1) := by decide +kernel
theorem dX7_drawn_42 : decode cX7_drawn 42 = .ok (.getfield 37, 3) := by decide +kernel
theorem dX7_drawn_45 : decode cX7_drawn 45 = .ok (.invokevirtual 207, 3) := by decide +kernel
theorem dX7_drawn_48 : decode cX7_drawn 48 = .ok (.iload_n 2, 1) := by decide +kernel
theorem dX7_drawn_49 : decode cX7_drawn 49 = .ok (.ifCond .ne 13, 3) := by decide +kernel
theorem dX7_drawn_52 : decode cX7_drawn 52 = .ok (.aload_n 0, 1) := by decide +kernel
theorem dX7_drawn_53 : decode cX7_drawn 53 = .ok (.getfield 37, 3) := by decide +kernel
theorem dX7_drawn_56 : decode cX7_drawn 56 = .ok (.invokevirtual 210, 3) := by decide +kernel
theorem dX7_drawn_59 : decode cX7_drawn 59 = .ok (.goto 10, 3) := by decide +kernel
theorem dX7_drawn_62 : decode cX7_drawn 62 = .ok (.aload_n 0, 1) := by decide +kernel
theorem dX7_drawn_63 : decode cX7_drawn 63 = .ok (.getfield 37, 3) := by decide +kernel
theorem dX7_drawn_66 : decode cX7_drawn 66 = .ok (.invokevirtual 126, 3) := by decide +kernel
theorem dX7_drawn_69 : decode cX7_drawn 69 = .ok (.ireturn, 1) := by decide +kernel
theorem dX7_sign_0 : decode cX7_sign 0 = .ok (.iload_n 1, 1) := by decide +kernel
theorem dX7_sign_1 : decode cX7_sign 1 = .ok (.iconst 0, 1) := by decide +kernel
theorem dX7_sign_2 : decode cX7_sign 2 = .ok (.sipush 359, 3) := by decide +kernel
theorem dX7_sign_5 : decode cX7_sign 5 = .ok (.invokestatic 70, 3) := by decide +kernel
theorem dX7_sign_8 : decode cX7_sign 8 = .ok (.ifCond .eq 13, 3) := by decide +kernel
theorem dX7_sign_11 : decode cX7_sign 11 = .ok (.iload_n 2, 1) := by decide +kernel
theorem dX7_sign_12 : decode cX7_sign 12 = .ok (.iconst 1, 1) := by decide +kernel
theorem dX7_sign_13 : decode cX7_sign 13 = .ok (.bipush 99, 2) := by decide +kernel
theorem dX7_sign_15 : decode cX7_sign 15 = .ok (.invokestatic 70, 3) := by decide +kernel
theorem dX7_sign_18 : decode cX7_sign 18 = .ok (.ifCond .ne 5, 3) := by decide +kernel
theorem dX7_sign_21 : decode cX7_sign 21 = .ok (.iconst (-1), 1) := by decide +kernel
theorem dX7_sign_22 : decode cX7_sign 22 = .ok (.ireturn, 1) := by decide +kernel
theorem dX7_sign_23 : decode cX7_sign 23 = .ok (.aload_n 0, 1) := by decide +kernel
theorem dX7_sign_24 : decode cX7_sign 24 = .ok (.getfield 27, 3) := by decide +kernel
theorem dX7_sign_27 : decode cX7_sign 27 = .ok (.getfield 213, 3) := by decide +kernel
theorem dX7_sign_30 : decode cX7_sign 30 = .ok (.iload_n 1, 1) := by decide +kernel
theorem dX7_sign_31 : decode cX7_sign 31 = .ok (.iload_n 2, 1) := by decide +kernel
theorem dX7_sign_32 : decode cX7_sign 32 = .ok (.invokevirtual 217, 3) := by decide +kernel
theorem dX7_sign_35 : decode cX7_sign 35 = .ok (.ifCond .ne 6, 3) := by decide +kernel
theorem dX7_sign_38 : decode cX7_sign 38 = .ok (.bipush (-3), 2) := by decide +kernel
theorem dX7_sign_40 : decode cX7_sign 40 = .ok (.ireturn, 1) := by decide +kernel
theorem dX7_sign_41 : decode cX7_sign 41 = .ok (.aload_n 0, 1) := by decide +kernel
theorem dX7_sign_42 : decode cX7_sign 42 = .ok (.getfield 58, 3) := by decide +kernel
theorem dX7_sign_45 : decode cX7_sign 45 = .ok (.iconst 1, 1) := by decide +kernel
theorem dX7_sign_46 : decode cX7_sign 46 = .ok (.invokevirtual 223, 3) := by decide +kernel
theorem dX7_sign_49 : decode cX7_sign 49 = .ok (.aload_n 0, 1) := by decide +kernel
theorem dX7_sign_50 : decode cX7_sign 50 = .ok (.getfield 44, 3) := by decide +kernel
theorem dX7_sign_53 : decode cX7_sign 53 = .ok (.iconst 0, 1) := by decide +kernel
theorem dX7_sign_54 : decode cX7_sign 54 = .ok (.putfield 84, 3) := by decide +kernel
theorem dX7_sign_57 : decode cX7_sign 57 = .ok (.aload_n 0, 1) := by decide +kernel
theorem dX7_sign_58 : decode cX7_sign 58 = .ok (.getfield 27, 3) := by decide +kernel
theorem dX7_sign_61 : decode cX7_sign 61 = .ok (.getfield 213, 3) := by decide +kernel
theorem dX7_sign_64 : decode cX7_sign 64 = .ok (.getfield 227, 3) := by decide +kernel
theorem dX7_sign_67 : decode cX7_sign 67 = .ok (.ireturn, 1) := by decide +kernel
theorem dX7_say_0 : decode cX7_say 0 = .ok (.iload_n 1, 1) := by decide +kernel
theorem dX7_say_1 : decode cX7_say 1 = .ok (.iconst 0, 1) := by decide +kernel
theorem dX7_say_2 : decode cX7_say 2 = .ok (.sipush 359, 3) := by decide +kernel
theorem dX7_say_5 : decode cX7_say 5 = .ok (.invokestatic 70, 3) := by decide +kernel
theorem dX7_say_8 : decode cX7_say 8 = .ok (.ifCond .ne 5, 3) := by decide +kernel
theorem dX7_say_11 : decode cX7_say 11 = .ok (.iconst (-1), 1) := by decide +kernel
theorem dX7_say_12 : decode cX7_say 12 = .ok (.ireturn, 1) := by decide +kernel
theorem dX7_say_13 : decode cX7_say 13 = .ok (.aload_n 0, 1) := by decide +kernel
theorem dX7_say_14 : decode cX7_say 14 = .ok (.getfield 27, 3) := by decide +kernel
theorem dX7_say_17 : decode cX7_say 17 = .ok (.getfield 213, 3) := by decide +kernel
theorem dX7_say_20 : decode cX7_say 20 = .ok (.iload_n 1, 1) := by decide +kernel
theorem dX7_say_21 : decode cX7_say 21 = .ok (.invokevirtual 230, 3) := by decide +kernel
theorem dX7_say_24 : decode cX7_say 24 = .ok (.ifCond .ne 6, 3) := by decide +kernel
theorem dX7_say_27 : decode cX7_say 27 = .ok (.bipush (-3), 2) := by decide +kernel
theorem dX7_say_29 : decode cX7_say 29 = .ok (.ireturn, 1) := by decide +kernel
theorem dX7_say_30 : decode cX7_say 30 = .ok (.aload_n 0, 1) := by decide +kernel
theorem dX7_say_31 : decode cX7_say 31 = .ok (.getfield 58, 3) := by decide +kernel
theorem dX7_say_34 : decode cX7_say 34 = .ok (.iconst 0, 1) := by decide +kernel
theorem dX7_say_35 : decode cX7_say 35 = .ok (.invokevirtual 223, 3) := by decide +kernel
theorem dX7_say_38 : decode cX7_say 38 = .ok (.aload_n 0, 1) := by decide +kernel
theorem dX7_say_39 : decode cX7_say 39 = .ok (.getfield 44, 3) := by decide +kernel
theorem dX7_say_42 : decode cX7_say 42 = .ok (.iconst 0, 1) := by decide +kernel
theorem dX7_say_43 : decode cX7_say 43 = .ok (.putfield 84, 3) := by decide +kernel
theorem dX7_say_46 : decode cX7_say 46 = .ok (.aload_n 0, 1) := by decide +kernel
theorem dX7_say_47 : decode cX7_say 47 = .ok (.getfield 27, 3) := by decide +kernel
theorem dX7_say_50 : decode cX7_say 50 = .ok (.getfield 213, 3) := by decide +kernel
theorem dX7_say_53 : decode cX7_say 53 = .ok (.getfield 233, 3) := by decide +kernel
theorem dX7_say_56 : decode cX7_say 56 = .ok (.ireturn, 1) := by decide +kernel
theorem dX7_takeBack_0 : decode cX7_takeBack 0 = .ok (.aload_n 0, 1) := by decide +kernel
theorem dX7_takeBack_1 : decode cX7_takeBack 1 = .ok (.getfield 58, 3) := by decide +kernel
theorem dX7_takeBack_4 : decode cX7_takeBack 4 = .ok (.getfield 236, 3) := by decide +kernel
theorem dX7_takeBack_7 : decode cX7_takeBack 7 = .ok (.ifCond .ne 6, 3) := by decide +kernel
theorem dX7_takeBack_10 : decode cX7_takeBack 10 = .ok (.bipush (-2), 2) := by decide +kernel
theorem dX7_takeBack_12 : decode cX7_takeBack 12 = .ok (.ireturn, 1) := by decide +kernel
theorem dX7_takeBack_13 : decode cX7_takeBack 13 = .ok (.aload_n 0, 1) := by decide +kernel
theorem dX7_takeBack_14 : decode cX7_takeBack 14 = .ok (.getfield 58, 3) := by decide +kernel
theorem dX7_takeBack_17 : decode cX7_takeBack 17 = .ok (.aload_n 0, 1) := by decide +kernel
theorem dX7_takeBack_18 : decode cX7_takeBack 18 = .ok (.getfield 27, 3) := by decide +kernel
theorem dX7_takeBack_21 : decode cX7_takeBack 21 = .ok (.getfield 213, 3) := by decide +kernel
theorem dX7_takeBack_24 : decode cX7_takeBack 24 = .ok (.invokevirtual 239, 3) := by decide +kernel
theorem dX7_takeBack_27 : decode cX7_takeBack 27 = .ok (.aload_n 0, 1) := by decide +kernel
theorem dX7_takeBack_28 : decode cX7_takeBack 28 = .ok (.getfield 44, 3) := by decide +kernel
theorem dX7_takeBack_31 : decode cX7_takeBack 31 = .ok (.iconst 0, 1) := by decide +kernel
theorem dX7_takeBack_32 : decode cX7_takeBack 32 = .ok (.putfield 84, 3) := by decide +kernel
theorem dX7_takeBack_35 : decode cX7_takeBack 35 = .ok (.aload_n 0, 1) := by decide +kernel
theorem dX7_takeBack_36 : decode cX7_takeBack 36 = .ok (.getfield 58, 3) := by decide +kernel
theorem dX7_takeBack_39 : decode cX7_takeBack 39 = .ok (.getfield 236, 3) := by decide +kernel
theorem dX7_takeBack_42 : decode cX7_takeBack 42 = .ok (.ireturn, 1) := by decide +kernel
theorem dX7_keep_0 : decode cX7_keep 0 = .ok (.aload_n 0, 1) := by decide +kernel
theorem dX7_keep_1 : decode cX7_keep 1 = .ok (.getfield 58, 3) := by decide +kernel
theorem dX7_keep_4 : decode cX7_keep 4 = .ok (.aload_n 0, 1) := by decide +kernel
theorem dX7_keep_5 : decode cX7_keep 5 = .ok (.getfield 27, 3) := by decide +kernel
theorem dX7_keep_8 : decode cX7_keep 8 = .ok (.getfield 213, 3) := by decide +kernel
theorem dX7_keep_11 : decode cX7_keep 11 = .ok (.invokevirtual 243, 3) := by decide +kernel
theorem dX7_keep_14 : decode cX7_keep 14 = .ok (.ifCond .eq 13, 3) := by decide +kernel
theorem dX7_keep_17 : decode cX7_keep 17 = .ok (.aload_n 0, 1) := by decide +kernel
theorem dX7_keep_18 : decode cX7_keep 18 = .ok (.getfield 58, 3) := by decide +kernel
theorem dX7_keep_21 : decode cX7_keep 21 = .ok (.getfield 247, 3) := by decide +kernel
theorem dX7_keep_24 : decode cX7_keep 24 = .ok (.goto 5, 3) := by decide +kernel
theorem dX7_keep_27 : decode cX7_keep 27 = .ok (.bipush (-3), 2) := by decide +kernel
theorem dX7_keep_29 : decode cX7_keep 29 = .ok (.ireturn, 1) := by decide +kernel
theorem dX7_back_0 : decode cX7_back 0 = .ok (.aload_n 0, 1) := by decide +kernel
theorem dX7_back_1 : decode cX7_back 1 = .ok (.getfield 58, 3) := by decide +kernel
theorem dX7_back_4 : decode cX7_back 4 = .ok (.aload_n 0, 1) := by decide +kernel
theorem dX7_back_5 : decode cX7_back 5 = .ok (.getfield 27, 3) := by decide +kernel
theorem dX7_back_8 : decode cX7_back 8 = .ok (.getfield 213, 3) := by decide +kernel
theorem dX7_back_11 : decode cX7_back 11 = .ok (.invokevirtual 250, 3) := by decide +kernel
theorem dX7_back_14 : decode cX7_back 14 = .ok (.ifCond .ne 6, 3) := by decide +kernel
theorem dX7_back_17 : decode cX7_back 17 = .ok (.bipush (-2), 2) := by decide +kernel
theorem dX7_back_19 : decode cX7_back 19 = .ok (.ireturn, 1) := by decide +kernel
theorem dX7_back_20 : decode cX7_back 20 = .ok (.aload_n 0, 1) := by decide +kernel
theorem dX7_back_21 : decode cX7_back 21 = .ok (.getfield 44, 3) := by decide +kernel
theorem dX7_back_24 : decode cX7_back 24 = .ok (.iconst 0, 1) := by decide +kernel
theorem dX7_back_25 : decode cX7_back 25 = .ok (.putfield 84, 3) := by decide +kernel
theorem dX7_back_28 : decode cX7_back 28 = .ok (.aload_n 0, 1) := by decide +kernel
theorem dX7_back_29 : decode cX7_back 29 = .ok (.getfield 58, 3) := by decide +kernel
theorem dX7_back_32 : decode cX7_back 32 = .ok (.getfield 247, 3) := by decide +kernel
theorem dX7_back_35 : decode cX7_back 35 = .ok (.ireturn, 1) := by decide +kernel
theorem dX7_count_0 : decode cX7_count 0 = .ok (.iload_n 1, 1) := by decide +kernel
theorem dX7_count_1 : decode cX7_count 1 = .ok (.tableswitch 126 0 8 #[51, 59, 67, 78, 89, 97, 105, 113, 121], 51) := by decide +kernel
theorem dX7_count_52 : decode cX7_count 52 = .ok (.aload_n 0, 1) := by decide +kernel
theorem dX7_count_53 : decode cX7_count 53 = .ok (.getfield 27, 3) := by decide +kernel
theorem dX7_count_56 : decode cX7_count 56 = .ok (.getfield 78, 3) := by decide +kernel
theorem dX7_count_59 : decode cX7_count 59 = .ok (.ireturn, 1) := by decide +kernel
theorem dX7_count_60 : decode cX7_count 60 = .ok (.aload_n 0, 1) := by decide +kernel
theorem dX7_count_61 : decode cX7_count 61 = .ok (.getfield 51, 3) := by decide +kernel
theorem dX7_count_64 : decode cX7_count 64 = .ok (.getfield 156, 3) := by decide +kernel
theorem dX7_count_67 : decode cX7_count 67 = .ok (.ireturn, 1) := by decide +kernel
theorem dX7_count_68 : decode cX7_count 68 = .ok (.aload_n 0, 1) := by decide +kernel
theorem dX7_count_69 : decode cX7_count 69 = .ok (.getfield 27, 3) := by decide +kernel
theorem dX7_count_72 : decode cX7_count 72 = .ok (.getfield 213, 3) := by decide +kernel
theorem dX7_count_75 : decode cX7_count 75 = .ok (.getfield 227, 3) := by decide +kernel
theorem dX7_count_78 : decode cX7_count 78 = .ok (.ireturn, 1) := by decide +kernel
theorem dX7_count_79 : decode cX7_count 79 = .ok (.aload_n 0, 1) := by decide +kernel
theorem dX7_count_80 : decode cX7_count 80 = .ok (.getfield 27, 3) := by decide +kernel
theorem dX7_count_83 : decode cX7_count 83 = .ok (.getfield 213, 3) := by decide +kernel
theorem dX7_count_86 : decode cX7_count 86 = .ok (.getfield 233, 3) := by decide +kernel
theorem dX7_count_89 : decode cX7_count 89 = .ok (.ireturn, 1) := by decide +kernel
theorem dX7_count_90 : decode cX7_count 90 = .ok (.aload_n 0, 1) := by decide +kernel
theorem dX7_count_91 : decode cX7_count 91 = .ok (.getfield 27, 3) := by decide +kernel
theorem dX7_count_94 : decode cX7_count 94 = .ok (.getfield 143, 3) := by decide +kernel
theorem dX7_count_97 : decode cX7_count 97 = .ok (.ireturn, 1) := by decide +kernel
theorem dX7_count_98 : decode cX7_count 98 = .ok (.aload_n 0, 1) := by decide +kernel
theorem dX7_count_99 : decode cX7_count 99 = .ok (.getfield 27, 3) := by decide +kernel
theorem dX7_count_102 : decode cX7_count 102 = .ok (.getfield 253, 3) := by decide +kernel
theorem dX7_count_105 : decode cX7_count 105 = .ok (.ireturn, 1) := by decide +kernel
theorem dX7_count_106 : decode cX7_count 106 = .ok (.aload_n 0, 1) := by decide +kernel
theorem dX7_count_107 : decode cX7_count 107 = .ok (.getfield 58, 3) := by decide +kernel
theorem dX7_count_110 : decode cX7_count 110 = .ok (.getfield 236, 3) := by decide +kernel
theorem dX7_count_113 : decode cX7_count 113 = .ok (.ireturn, 1) := by decide +kernel
theorem dX7_count_114 : decode cX7_count 114 = .ok (.aload_n 0, 1) := by decide +kernel
theorem dX7_count_115 : decode cX7_count 115 = .ok (.getfield 58, 3) := by decide +kernel
theorem dX7_count_118 : decode cX7_count 118 = .ok (.getfield 247, 3) := by decide +kernel
theorem dX7_count_121 : decode cX7_count 121 = .ok (.ireturn, 1) := by decide +kernel
theorem dX7_count_122 : decode cX7_count 122 = .ok (.aload_n 0, 1) := by decide +kernel
theorem dX7_count_123 : decode cX7_count 123 = .ok (.getfield 13, 3) := by decide +kernel
theorem dX7_count_126 : decode cX7_count 126 = .ok (.ireturn, 1) := by decide +kernel
theorem dX7_count_127 : decode cX7_count 127 = .ok (.iconst (-1), 1) := by decide +kernel
theorem dX7_count_128 : decode cX7_count 128 = .ok (.ireturn, 1) := by decide +kernel
theorem dX7_within_0 : decode cX7_within 0 = .ok (.iload_n 0, 1) := by decide +kernel
theorem dX7_within_1 : decode cX7_within 1 = .ok (.iload_n 1, 1) := by decide +kernel
theorem dX7_within_2 : decode cX7_within 2 = .ok (.if_icmp .lt 12, 3) := by decide +kernel
theorem dX7_within_5 : decode cX7_within 5 = .ok (.iload_n 0, 1) := by decide +kernel
theorem dX7_within_6 : decode cX7_within 6 = .ok (.iload_n 2, 1) := by decide +kernel
theorem dX7_within_7 : decode cX7_within 7 = .ok (.if_icmp .gt 7, 3) := by decide +kernel
theorem dX7_within_10 : decode cX7_within 10 = .ok (.iconst 1, 1) := by decide +kernel
theorem dX7_within_11 : decode cX7_within 11 = .ok (.goto 4, 3) := by decide +kernel
theorem dX7_within_14 : decode cX7_within 14 = .ok (.iconst 0, 1) := by decide +kernel
theorem dX7_within_15 : decode cX7_within 15 = .ok (.ireturn, 1) := by decide +kernel
theorem dX7_isGuest_0 : decode cX7_isGuest 0 = .ok (.iload_n 1, 1) := by decide +kernel
theorem dX7_isGuest_1 : decode cX7_isGuest 1 = .ok (.iconst 0, 1) := by decide +kernel
theorem dX7_isGuest_2 : decode cX7_isGuest 2 = .ok (.aload_n 0, 1) := by decide +kernel
theorem dX7_isGuest_3 : decode cX7_isGuest 3 = .ok (.getfield 27, 3) := by decide +kernel
theorem dX7_isGuest_6 : decode cX7_isGuest 6 = .ok (.getfield 78, 3) := by decide +kernel
theorem dX7_isGuest_9 : decode cX7_isGuest 9 = .ok (.iconst 1, 1) := by decide +kernel
theorem dX7_isGuest_10 : decode cX7_isGuest 10 = .ok (.isub, 1) := by decide +kernel
theorem dX7_isGuest_11 : decode cX7_isGuest 11 = .ok (.invokestatic 70, 3) := by decide +kernel
theorem dX7_isGuest_14 : decode cX7_isGuest 14 = .ok (.ireturn, 1) := by decide +kernel
theorem dX7_passAsItIs_0 : decode cX7_passAsItIs 0 = .ok (.aload_n 0, 1) := by decide +kernel
theorem dX7_passAsItIs_1 : decode cX7_passAsItIs 1 = .ok (.getfield 37, 3) := by decide +kernel
theorem dX7_passAsItIs_4 : decode cX7_passAsItIs 4 = .ok (.aload_n 0, 1) := by decide +kernel
theorem dX7_passAsItIs_5 : decode cX7_passAsItIs 5 = .ok (.getfield 27, 3) := by decide +kernel
theorem dX7_passAsItIs_8 : decode cX7_passAsItIs 8 = .ok (.invokevirtual 201, 3) := by decide +kernel
theorem dX7_passAsItIs_11 : decode cX7_passAsItIs 11 = .ok (.aload_n 0, 1) := by decide +kernel
theorem dX7_passAsItIs_12 : decode cX7_passAsItIs 12 = .ok (.getfield 37, 3) := by decide +kernel
theorem dX7_passAsItIs_15 : decode cX7_passAsItIs 15 = .ok (.invokevirtual 207, 3) := by decide +kernel
theorem dX7_passAsItIs_18 : decode cX7_passAsItIs 18 = .ok (.return_, 1) := by decide +kernel
theorem dX7_allWithBus_0 : decode cX7_allWithBus 0 = .ok (.aload_n 0, 1) := by decide +kernel
theorem dX7_allWithBus_1 : decode cX7_allWithBus 1 = .ok (.getfield 37, 3) := by decide +kernel
theorem dX7_allWithBus_4 : decode cX7_allWithBus 4 = .ok (.aload_n 0, 1) := by decide +kernel
theorem dX7_allWithBus_5 : decode cX7_allWithBus 5 = .ok (.getfield 27, 3) := by decide +kernel
theorem dX7_allWithBus_8 : decode cX7_allWithBus 8 = .ok (.invokevirtual 201, 3) := by decide +kernel
theorem dX7_allWithBus_11 : decode cX7_allWithBus 11 = .ok (.aload_n 0, 1) := by decide +kernel
theorem dX7_allWithBus_12 : decode cX7_allWithBus 12 = .ok (.getfield 37, 3) := by decide +kernel
theorem dX7_allWithBus_15 : decode cX7_allWithBus 15 = .ok (.iload_n 1, 1) := by decide +kernel
theorem dX7_allWithBus_16 : decode cX7_allWithBus 16 = .ok (.iload_n 2, 1) := by decide +kernel
theorem dX7_allWithBus_17 : decode cX7_allWithBus 17 = .ok (.invokevirtual 256, 3) := by decide +kernel
theorem dX7_allWithBus_20 : decode cX7_allWithBus 20 = .ok (.aload_n 0, 1) := by decide +kernel
theorem dX7_allWithBus_21 : decode cX7_allWithBus 21 = .ok (.getfield 37, 3) := by decide +kernel
theorem dX7_allWithBus_24 : decode cX7_allWithBus 24 = .ok (.invokevirtual 207, 3) := by decide +kernel
theorem dX7_allWithBus_27 : decode cX7_allWithBus 27 = .ok (.aload_n 0, 1) := by decide +kernel
theorem dX7_allWithBus_28 : decode cX7_allWithBus 28 = .ok (.getfield 37, 3) := by decide +kernel
theorem dX7_allWithBus_31 : decode cX7_allWithBus 31 = .ok (.invokevirtual 126, 3) := by decide +kernel
theorem dX7_allWithBus_34 : decode cX7_allWithBus 34 = .ok (.ireturn, 1) := by decide +kernel
theorem dX7_allWithBell_0 : decode cX7_allWithBell 0 = .ok (.aload_n 0, 1) := by decide +kernel
theorem dX7_allWithBell_1 : decode cX7_allWithBell 1 = .ok (.getfield 37, 3) := by decide +kernel
theorem dX7_allWithBell_4 : decode cX7_allWithBell 4 = .ok (.aload_n 0, 1) := by decide +kernel
theorem dX7_allWithBell_5 : decode cX7_allWithBell 5 = .ok (.getfield 27, 3) := by decide +kernel
theorem dX7_allWithBell_8 : decode cX7_allWithBell 8 = .ok (.invokevirtual 201, 3) := by decide +kernel
theorem dX7_allWithBell_11 : decode cX7_allWithBell 11 = .ok (.aload_n 0, 1) := by decide +kernel
theorem dX7_allWithBell_12 : decode cX7_allWithBell 12 = .ok (.getfield 37, 3) := by decide +kernel
theorem dX7_allWithBell_15 : decode cX7_allWithBell 15 = .ok (.iload_n 1, 1) := by decide +kernel
theorem dX7_allWithBell_16 : decode cX7_allWithBell 16 = .ok (.invokevirtual 260, 3) := by decide +kernel
theorem dX7_allWithBell_19 : decode cX7_allWithBell 19 = .ok (.aload_n 0, 1) := by decide +kernel
theorem dX7_allWithBell_20 : decode cX7_allWithBell 20 = .ok (.getfield 37, 3) := by decide +kernel
theorem dX7_allWithBell_23 : decode cX7_allWithBell 23 = .ok (.invokevirtual 207, 3) := by decide +kernel
theorem dX7_allWithBell_26 : decode cX7_allWithBell 26 = .ok (.aload_n 0, 1) := by decide +kernel
theorem dX7_allWithBell_27 : decode cX7_allWithBell 27 = .ok (.getfield 37, 3) := by decide +kernel
theorem dX7_allWithBell_30 : decode cX7_allWithBell 30 = .ok (.invokevirtual 126, 3) := by decide +kernel
theorem dX7_allWithBell_33 : decode cX7_allWithBell 33 = .ok (.ireturn, 1) := by decide +kernel
theorem dX7_leftAlone_0 : decode cX7_leftAlone 0 = .ok (.iconst 0, 1) := by decide +kernel
theorem dX7_leftAlone_1 : decode cX7_leftAlone 1 = .ok (.istore_n 2, 1) := by decide +kernel
theorem dX7_leftAlone_2 : decode cX7_leftAlone 2 = .ok (.iload_n 2, 1) := by decide +kernel
theorem dX7_leftAlone_3 : decode cX7_leftAlone 3 = .ok (.iload_n 0, 1) := by decide +kernel
theorem dX7_leftAlone_4 : decode cX7_leftAlone 4 = .ok (.if_icmp .ge 22, 3) := by decide +kernel
theorem dX7_leftAlone_7 : decode cX7_leftAlone 7 = .ok (.iload_n 1, 1) := by decide +kernel
theorem dX7_leftAlone_8 : decode cX7_leftAlone 8 = .ok (.iload_n 2, 1) := by decide +kernel
theorem dX7_leftAlone_9 : decode cX7_leftAlone 9 = .ok (.isub, 1) := by decide +kernel
theorem dX7_leftAlone_10 : decode cX7_leftAlone 10 = .ok (.iload_n 0, 1) := by decide +kernel
theorem dX7_leftAlone_11 : decode cX7_leftAlone 11 = .ok (.invokestatic 196, 3) := by decide +kernel
theorem dX7_leftAlone_14 : decode cX7_leftAlone 14 = .ok (.iload_n 2, 1) := by decide +kernel
theorem dX7_leftAlone_15 : decode cX7_leftAlone 15 = .ok (.if_icmp .ne 5, 3) := by decide +kernel
theorem dX7_leftAlone_18 : decode cX7_leftAlone 18 = .ok (.iload_n 2, 1) := by decide +kernel
theorem dX7_leftAlone_19 : decode cX7_leftAlone 19 = .ok (.ireturn, 1) := by decide +kernel
theorem dX7_leftAlone_20 : decode cX7_leftAlone 20 = .ok (.iinc 2 1, 3) := by decide +kernel
theorem dX7_leftAlone_23 : decode cX7_leftAlone 23 = .ok (.goto (-21), 3) := by decide +kernel
theorem dX7_leftAlone_26 : decode cX7_leftAlone 26 = .ok (.bipush (-4), 2) := by decide +kernel
theorem dX7_leftAlone_28 : decode cX7_leftAlone 28 = .ok (.ireturn, 1) := by decide +kernel
theorem dX7_inLowestTerms_0 : decode cX7_inLowestTerms 0 = .ok (.iload_n 1, 1) := by decide +kernel
theorem dX7_inLowestTerms_1 : decode cX7_inLowestTerms 1 = .ok (.ifCond .gt 6, 3) := by decide +kernel
theorem dX7_inLowestTerms_4 : decode cX7_inLowestTerms 4 = .ok (.bipush (-4), 2) := by decide +kernel
theorem dX7_inLowestTerms_6 : decode cX7_inLowestTerms 6 = .ok (.ireturn, 1) := by decide +kernel
theorem dX7_inLowestTerms_7 : decode cX7_inLowestTerms 7 = .ok (.iload_n 1, 1) := by decide +kernel
theorem dX7_inLowestTerms_8 : decode cX7_inLowestTerms 8 = .ok (.iload_n 0, 1) := by decide +kernel
theorem dX7_inLowestTerms_9 : decode cX7_inLowestTerms 9 = .ok (.invokestatic 263, 3) := by decide +kernel
theorem dX7_inLowestTerms_12 : decode cX7_inLowestTerms 12 = .ok (.istore_n 3, 1) := by decide +kernel
theorem dX7_inLowestTerms_13 : decode cX7_inLowestTerms 13 = .ok (.iload_n 2, 1) := by decide +kernel
theorem dX7_inLowestTerms_14 : decode cX7_inLowestTerms 14 = .ok (.ifCond .ne 7, 3) := by decide +kernel
theorem dX7_inLowestTerms_17 : decode cX7_inLowestTerms 17 = .ok (.iload_n 0, 1) := by decide +kernel
theorem dX7_inLowestTerms_18 : decode cX7_inLowestTerms 18 = .ok (.goto 4, 3) := by decide +kernel
theorem dX7_inLowestTerms_21 : decode cX7_inLowestTerms 21 = .ok (.iload_n 1, 1) := by decide +kernel
theorem dX7_inLowestTerms_22 : decode cX7_inLowestTerms 22 = .ok (.iload_n 3, 1) := by decide +kernel
theorem dX7_inLowestTerms_23 : decode cX7_inLowestTerms 23 = .ok (.idiv, 1) := by decide +kernel
theorem dX7_inLowestTerms_24 : decode cX7_inLowestTerms 24 = .ok (.ireturn, 1) := by decide +kernel
theorem dX7_greatestDivisor_0 : decode cX7_greatestDivisor 0 = .ok (.iload_n 0, 1) := by decide +kernel
theorem dX7_greatestDivisor_1 : decode cX7_greatestDivisor 1 = .ok (.istore_n 2, 1) := by decide +kernel
theorem dX7_greatestDivisor_2 : decode cX7_greatestDivisor 2 = .ok (.iload_n 1, 1) := by decide +kernel
theorem dX7_greatestDivisor_3 : decode cX7_greatestDivisor 3 = .ok (.istore_n 3, 1) := by decide +kernel
theorem dX7_greatestDivisor_4 : decode cX7_greatestDivisor 4 = .ok (.iconst 0, 1) := by decide +kernel
theorem dX7_greatestDivisor_5 : decode cX7_greatestDivisor 5 = .ok (.istore 4, 2) := by decide +kernel
theorem dX7_greatestDivisor_7 : decode cX7_greatestDivisor 7 = .ok (.iload 4, 2) := by decide +kernel
theorem dX7_greatestDivisor_9 : decode cX7_greatestDivisor 9 = .ok (.bipush 100, 2) := by decide +kernel
theorem dX7_greatestDivisor_11 : decode cX7_greatestDivisor 11 = .ok (.if_icmp .ge 23, 3) := by decide +kernel
theorem dX7_greatestDivisor_14 : decode cX7_greatestDivisor 14 = .ok (.iload_n 3, 1) := by decide +kernel
theorem dX7_greatestDivisor_15 : decode cX7_greatestDivisor 15 = .ok (.ifCond .le 19, 3) := by decide +kernel
theorem dX7_greatestDivisor_18 : decode cX7_greatestDivisor 18 = .ok (.iload_n 2, 1) := by decide +kernel
theorem dX7_greatestDivisor_19 : decode cX7_greatestDivisor 19 = .ok (.iload_n 3, 1) := by decide +kernel
theorem dX7_greatestDivisor_20 : decode cX7_greatestDivisor 20 = .ok (.irem, 1) := by decide +kernel
theorem dX7_greatestDivisor_21 : decode cX7_greatestDivisor 21 = .ok (.istore 5, 2) := by decide +kernel
theorem dX7_greatestDivisor_23 : decode cX7_greatestDivisor 23 = .ok (.iload_n 3, 1) := by decide +kernel
theorem dX7_greatestDivisor_24 : decode cX7_greatestDivisor 24 = .ok (.istore_n 2, 1) := by decide +kernel
theorem dX7_greatestDivisor_25 : decode cX7_greatestDivisor 25 = .ok (.iload 5, 2) := by decide +kernel
theorem dX7_greatestDivisor_27 : decode cX7_greatestDivisor 27 = .ok (.istore_n 3, 1) := by decide +kernel
theorem dX7_greatestDivisor_28 : decode cX7_greatestDivisor 28 = .ok (.iinc 4 1, 3) := by decide +kernel
theorem dX7_greatestDivisor_31 : decode cX7_greatestDivisor 31 = .ok (.goto (-24), 3) := by decide +kernel
theorem dX7_greatestDivisor_34 : decode cX7_greatestDivisor 34 = .ok (.iload_n 2, 1) := by decide +kernel
theorem dX7_greatestDivisor_35 : decode cX7_greatestDivisor 35 = .ok (.iconst 1, 1) := by decide +kernel
theorem dX7_greatestDivisor_36 : decode cX7_greatestDivisor 36 = .ok (.invokestatic 266, 3) := by decide +kernel
theorem dX7_greatestDivisor_39 : decode cX7_greatestDivisor 39 = .ok (.ireturn, 1) := by decide +kernel
theorem dX8_init_0 : decode cX8_init 0 = .ok (.aload_n 0, 1) := by decide +kernel
theorem dX8_init_1 : decode cX8_init 1 = .ok (.invokespecial 1, 3) := by decide +kernel
theorem dX8_init_4 : decode cX8_init 4 = .ok (.aload_n 0, 1) := by decide +kernel
theorem dX8_init_5 : decode cX8_init 5 = .ok (.sipush 400, 3) := by decide +kernel
theorem dX8_init_8 : decode cX8_init 8 = .ok (.newarray .int, 2) := by decide +kernel
theorem dX8_init_10 : decode cX8_init 10 = .ok (.putfield 7, 3) := by decide +kernel
theorem dX8_init_13 : decode cX8_init 13 = .ok (.aload_n 0, 1) := by decide +kernel
theorem dX8_init_14 : decode cX8_init 14 = .ok (.iconst 2, 1) := by decide +kernel
theorem dX8_init_15 : decode cX8_init 15 = .ok (.newarray .int, 2) := by decide +kernel
theorem dX8_init_17 : decode cX8_init 17 = .ok (.putfield 13, 3) := by decide +kernel
theorem dX8_init_20 : decode cX8_init 20 = .ok (.aload_n 0, 1) := by decide +kernel
theorem dX8_init_21 : decode cX8_init 21 = .ok (.bipush 16, 2) := by decide +kernel
theorem dX8_init_23 : decode cX8_init 23 = .ok (.newarray .int, 2) := by decide +kernel
theorem dX8_init_25 : decode cX8_init 25 = .ok (.putfield 16, 3) := by decide +kernel
theorem dX8_init_28 : decode cX8_init 28 = .ok (.aload_n 0, 1) := by decide +kernel
theorem dX8_init_29 : decode cX8_init 29 = .ok (.bipush 16, 2) := by decide +kernel
theorem dX8_init_31 : decode cX8_init 31 = .ok (.newarray .int, 2) := by decide +kernel
theorem dX8_init_33 : decode cX8_init 33 = .ok (.putfield 19, 3) := by decide +kernel
theorem dX8_init_36 : decode cX8_init 36 = .ok (.aload_n 0, 1) := by decide +kernel
theorem dX8_init_37 : decode cX8_init 37 = .ok (.bipush 16, 2) := by decide +kernel
theorem dX8_init_39 : decode cX8_init 39 = .ok (.newarray .int, 2) := by decide +kernel
theorem dX8_init_41 : decode cX8_init 41 = .ok (.putfield 22, 3) := by decide +kernel
theorem dX8_init_44 : decode cX8_init 44 = .ok (.aload_n 0, 1) := by decide +kernel
theorem dX8_init_45 : decode cX8_init 45 = .ok (.bipush 16, 2) := by decide +kernel
theorem dX8_init_47 : decode cX8_init 47 = .ok (.newarray .int, 2) := by decide +kernel
theorem dX8_init_49 : decode cX8_init 49 = .ok (.putfield 25, 3) := by decide +kernel
theorem dX8_init_52 : decode cX8_init 52 = .ok (.aload_n 0, 1) := by decide +kernel
theorem dX8_init_53 : decode cX8_init 53 = .ok (.iconst 2, 1) := by decide +kernel
theorem dX8_init_54 : decode cX8_init 54 = .ok (.newarray .int, 2) := by decide +kernel
theorem dX8_init_56 : decode cX8_init 56 = .ok (.putfield 28, 3) := by decide +kernel
theorem dX8_init_59 : decode cX8_init 59 = .ok (.aload_n 0, 1) := by decide +kernel
theorem dX8_init_60 : decode cX8_init 60 = .ok (.bipush 6, 2) := by decide +kernel
theorem dX8_init_62 : decode cX8_init 62 = .ok (.newarray .int, 2) := by decide +kernel
theorem dX8_init_64 : decode cX8_init 64 = .ok (.putfield 31, 3) := by decide +kernel
theorem dX8_init_67 : decode cX8_init 67 = .ok (.aload_n 0, 1) := by decide +kernel
theorem dX8_init_68 : decode cX8_init 68 = .ok (.bipush 6, 2) := by decide +kernel
theorem dX8_init_70 : decode cX8_init 70 = .ok (.newarray .int, 2) := by decide +kernel
theorem dX8_init_72 : decode cX8_init 72 = .ok (.putfield 34, 3) := by decide +kernel
theorem dX8_init_75 : decode cX8_init 75 = .ok (.aload_n 0, 1) := by decide +kernel
theorem dX8_init_76 : decode cX8_init 76 = .ok (.iconst 2, 1) := by decide +kernel
theorem dX8_init_77 : decode cX8_init 77 = .ok (.newarray .int, 2) := by decide +kernel
theorem dX8_init_79 : decode cX8_init 79 = .ok (.putfield 37, 3) := by decide +kernel
theorem dX8_init_82 : decode cX8_init 82 = .ok (.aload_n 0, 1) := by decide +kernel
theorem dX8_init_83 : decode cX8_init 83 = .ok (.iconst 2, 1) := by decide +kernel
theorem dX8_init_84 : decode cX8_init 84 = .ok (.newarray .int, 2) := by decide +kernel
theorem dX8_init_86 : decode cX8_init 86 = .ok (.putfield 40, 3) := by decide +kernel
theorem dX8_init_89 : decode cX8_init 89 = .ok (.aload_n 0, 1) := by decide +kernel
theorem dX8_init_90 : decode cX8_init 90 = .ok (.iconst 2, 1) := by decide +kernel
theorem dX8_init_91 : decode cX8_init 91 = .ok (.newarray .int, 2) := by decide +kernel
theorem dX8_init_93 : decode cX8_init 93 = .ok (.putfield 43, 3) := by decide +kernel
theorem dX8_init_96 : decode cX8_init 96 = .ok (.aload_n 0, 1) := by decide +kernel
theorem dX8_init_97 : decode cX8_init 97 = .ok (.bipush 6, 2) := by decide +kernel
theorem dX8_init_99 : decode cX8_init 99 = .ok (.newarray .int, 2) := by decide +kernel
theorem dX8_init_101 : decode cX8_init 101 = .ok (.putfield 46, 3) := by decide +kernel
theorem dX8_init_104 : decode cX8_init 104 = .ok (.aload_n 0, 1) := by decide +kernel
theorem dX8_init_105 : decode cX8_init 105 = .ok (.bipush 6, 2) := by decide +kernel
theorem dX8_init_107 : decode cX8_init 107 = .ok (.newarray .int, 2) := by decide +kernel
theorem dX8_init_109 : decode cX8_init 109 = .ok (.putfield 49, 3) := by decide +kernel
theorem dX8_init_112 : decode cX8_init 112 = .ok (.aload_n 0, 1) := by decide +kernel
theorem dX8_init_113 : decode cX8_init 113 = .ok (.iconst 2, 1) := by decide +kernel
theorem dX8_init_114 : decode cX8_init 114 = .ok (.newarray .int, 2) := by decide +kernel
theorem dX8_init_116 : decode cX8_init 116 = .ok (.putfield 52, 3) := by decide +kernel
theorem dX8_init_119 : decode cX8_init 119 = .ok (.aload_n 0, 1) := by decide +kernel
theorem dX8_init_120 : decode cX8_init 120 = .ok (.bipush 12, 2) := by decide +kernel
theorem dX8_init_122 : decode cX8_init 122 = .ok (.newarray .int, 2) := by decide +kernel
theorem dX8_init_124 : decode cX8_init 124 = .ok (.putfield 55, 3) := by decide +kernel
theorem dX8_init_127 : decode cX8_init 127 = .ok (.aload_n 0, 1) := by decide +kernel
theorem dX8_init_128 : decode cX8_init 128 = .ok (.bipush 12, 2) := by decide +kernel
theorem dX8_init_130 : decode cX8_init 130 = .ok (.newarray .int, 2) := by decide +kernel
theorem dX8_init_132 : decode cX8_init 132 = .ok (.putfield 58, 3) := by decide +kernel
theorem dX8_init_135 : decode cX8_init 135 = .ok (.aload_n 0, 1) := by decide +kernel
theorem dX8_init_136 : decode cX8_init 136 = .ok (.bipush 12, 2) := by decide +kernel
theorem dX8_init_138 : decode cX8_init 138 = .ok (.newarray .int, 2) := by decide +kernel
theorem dX8_init_140 : decode cX8_init 140 = .ok (.putfield 61, 3) := by decide +kernel
theorem dX8_init_143 : decode cX8_init 143 = .ok (.aload_n 0, 1) := by decide +kernel
theorem dX8_init_144 : decode cX8_init 144 = .ok (.iconst 4, 1) := by decide +kernel
theorem dX8_init_145 : decode cX8_init 145 = .ok (.newarray .int, 2) := by decide +kernel
theorem dX8_init_147 : decode cX8_init 147 = .ok (.putfield 64, 3) := by decide +kernel
theorem dX8_init_150 : decode cX8_init 150 = .ok (.aload_n 0, 1) := by decide +kernel
theorem dX8_init_151 : decode cX8_init 151 = .ok (.bipush 24, 2) := by decide +kernel
theorem dX8_init_153 : decode cX8_init 153 = .ok (.newarray .int, 2) := by decide +kernel
theorem dX8_init_155 : decode cX8_init 155 = .ok (.putfield 67, 3) := by decide +kernel
theorem dX8_init_158 : decode cX8_init 158 = .ok (.aload_n 0, 1) := by decide +kernel
theorem dX8_init_159 : decode cX8_init 159 = .ok (.bipush 24, 2) := by decide +kernel
theorem dX8_init_161 : decode cX8_init 161 = .ok (.newarray .int, 2) := by decide +kernel
theorem dX8_init_163 : decode cX8_init 163 = .ok (.putfield 70, 3) := by decide +kernel
theorem dX8_init_166 : decode cX8_init 166 = .ok (.aload_n 0, 1) := by decide +kernel
theorem dX8_init_167 : decode cX8_init 167 = .ok (.iconst 4, 1) := by decide +kernel
theorem dX8_init_168 : decode cX8_init 168 = .ok (.newarray .int, 2) := by decide +kernel
theorem dX8_init_170 : decode cX8_init 170 = .ok (.putfield 73, 3) := by decide +kernel
theorem dX8_init_173 : decode cX8_init 173 = .ok (.aload_n 0, 1) := by decide +kernel
theorem dX8_init_174 : decode cX8_init 174 = .ok (.bipush 16, 2) := by decide +kernel
theorem dX8_init_176 : decode cX8_init 176 = .ok (.newarray .int, 2) := by decide +kernel
theorem dX8_init_178 : decode cX8_init 178 = .ok (.putfield 76, 3) := by decide +kernel
theorem dX8_init_181 : decode cX8_init 181 = .ok (.aload_n 0, 1) := by decide +kernel
theorem dX8_init_182 : decode cX8_init 182 = .ok (.bipush 8, 2) := by decide +kernel
theorem dX8_init_184 : decode cX8_init 184 = .ok (.newarray .int, 2) := by decide +kernel
theorem dX8_init_186 : decode cX8_init 186 = .ok (.putfield 79, 3) := by decide +kernel
theorem dX8_init_189 : decode cX8_init 189 = .ok (.aload_n 0, 1) := by decide +kernel
theorem dX8_init_190 : decode cX8_init 190 = .ok (.iconst 4, 1) := by decide +kernel
theorem dX8_init_191 : decode cX8_init 191 = .ok (.newarray .int, 2) := by decide +kernel
theorem dX8_init_193 : decode cX8_init 193 = .ok (.putfield 82, 3) := by decide +kernel
theorem dX8_init_196 : decode cX8_init 196 = .ok (.aload_n 0, 1) := by decide +kernel
theorem dX8_init_197 : decode cX8_init 197 = .ok (.iconst 3, 1) := by decide +kernel
theorem dX8_init_198 : decode cX8_init 198 = .ok (.newarray .int, 2) := by decide +kernel
theorem dX8_init_200 : decode cX8_init 200 = .ok (.putfield 85, 3) := by decide +kernel
theorem dX8_init_203 : decode cX8_init 203 = .ok (.aload_n 0, 1) := by decide +kernel
theorem dX8_init_204 : decode cX8_init 204 = .ok (.iconst 4, 1) := by decide +kernel
theorem dX8_init_205 : decode cX8_init 205 = .ok (.newarray .int, 2) := by decide +kernel
theorem dX8_init_207 : decode cX8_init 207 = .ok (.putfield 88, 3) := by decide +kernel
theorem dX8_init_210 : decode cX8_init 210 = .ok (.aload_n 0, 1) := by decide +kernel
theorem dX8_init_211 : decode cX8_init 211 = .ok (.bipush 8, 2) := by decide +kernel
theorem dX8_init_213 : decode cX8_init 213 = .ok (.newarray .int, 2) := by decide +kernel
theorem dX8_init_215 : decode cX8_init 215 = .ok (.putfield 91, 3) := by decide +kernel
theorem dX8_init_218 : decode cX8_init 218 = .ok (.aload_n 0, 1) := by decide +kernel
theorem dX8_init_219 : decode cX8_init 219 = .ok (.iconst 4, 1) := by decide +kernel
theorem dX8_init_220 : decode cX8_init 220 = .ok (.newarray .int, 2) := by decide +kernel
theorem dX8_init_222 : decode cX8_init 222 = .ok (.putfield 94, 3) := by decide +kernel
theorem dX8_init_225 : decode cX8_init 225 = .ok (.aload_n 0, 1) := by decide +kernel
theorem dX8_init_226 : decode cX8_init 226 = .ok (.iconst 4, 1) := by decide +kernel
theorem dX8_init_227 : decode cX8_init 227 = .ok (.newarray .int, 2) := by decide +kernel
theorem dX8_init_229 : decode cX8_init 229 = .ok (.putfield 97, 3) := by decide +kernel
theorem dX8_init_232 : decode cX8_init 232 = .ok (.aload_n 0, 1) := by decide +kernel
theorem dX8_init_233 : decode cX8_init 233 = .ok (.iconst 4, 1) := by decide +kernel
theorem dX8_init_234 : decode cX8_init 234 = .ok (.newarray .int, 2) := by decide +kernel
theorem dX8_init_236 : decode cX8_init 236 = .ok (.putfield 100, 3) := by decide +kernel
theorem dX8_init_239 : decode cX8_init 239 = .ok (.aload_n 0, 1) := by decide +kernel
theorem dX8_init_240 : decode cX8_init 240 = .ok (.iconst 0, 1) := by decide +kernel
theorem dX8_init_241 : decode cX8_init 241 = .ok (.invokevirtual 103, 3) := by decide +kernel
theorem dX8_init_244 : decode cX8_init 244 = .ok (.aload_n 0, 1) := by decide +kernel
theorem dX8_init_245 : decode cX8_init 245 = .ok (.getfield 13, 3) := by decide +kernel
theorem dX8_init_248 : decode cX8_init 248 = .ok (.iconst 0, 1) := by decide +kernel
theorem dX8_init_249 : decode cX8_init 249 = .ok (.iconst 2, 1) := by decide +kernel
theorem dX8_init_250 : decode cX8_init 250 = .ok (.iastore, 1) := by decide +kernel
theorem dX8_init_251 : decode cX8_init 251 = .ok (.aload_n 0, 1) := by decide +kernel
theorem dX8_init_252 : decode cX8_init 252 = .ok (.getfield 19, 3) := by decide +kernel
theorem dX8_init_255 : decode cX8_init 255 = .ok (.iconst 0, 1) := by decide +kernel
theorem dX8_init_256 : decode cX8_init 256 = .ok (.sipush 200, 3) := by decide +kernel
theorem dX8_init_259 : decode cX8_init 259 = .ok (.iastore, 1) := by decide +kernel
theorem dX8_init_260 : decode cX8_init 260 = .ok (.aload_n 0, 1) := by decide +kernel
theorem dX8_init_261 : decode cX8_init 261 = .ok (.getfield 22, 3) := by decide +kernel
theorem dX8_init_264 : decode cX8_init 264 = .ok (.iconst 0, 1) := by decide +kernel
theorem dX8_init_265 : decode cX8_init 265 = .ok (.bipush 30, 2) := by decide +kernel
theorem dX8_init_267 : decode cX8_init 267 = .ok (.iastore, 1) := by decide +kernel
theorem dX8_init_268 : decode cX8_init 268 = .ok (.aload_n 0, 1) := by decide +kernel
theorem dX8_init_269 : decode cX8_init 269 = .ok (.getfield 16, 3) := by decide +kernel
theorem dX8_init_272 : decode cX8_init 272 = .ok (.iconst 1, 1) := by decide +kernel
theorem dX8_init_273 : decode cX8_init 273 = .ok (.iconst 1, 1) := by decide +kernel
theorem dX8_init_274 : decode cX8_init 274 = .ok (.iastore, 1) := by decide +kernel
theorem dX8_init_275 : decode cX8_init 275 = .ok (.aload_n 0, 1) := by decide +kernel
theorem dX8_init_276 : decode cX8_init 276 = .ok (.getfield 19, 3) := by decide +kernel
theorem dX8_init_279 : decode cX8_init 279 = .ok (.iconst 1, 1) := by decide +kernel
theorem dX8_init_280 : decode cX8_init 280 = .ok (.sipush 210, 3) := by decide +kernel
theorem dX8_init_283 : decode cX8_init 283 = .ok (.iastore, 1) := by decide +kernel
theorem dX8_init_284 : decode cX8_init 284 = .ok (.aload_n 0, 1) := by decide +kernel
theorem dX8_init_285 : decode cX8_init 285 = .ok (.getfield 22, 3) := by decide +kernel
theorem dX8_init_288 : decode cX8_init 288 = .ok (.iconst 1, 1) := by decide +kernel
theorem dX8_init_289 : decode cX8_init 289 = .ok (.bipush 40, 2) := by decide +kernel
theorem dX8_init_291 : decode cX8_init 291 = .ok (.iastore, 1) := by decide +kernel
theorem dX8_init_292 : decode cX8_init 292 = .ok (.return_, 1) := by decide +kernel
theorem dX8_in_0 : decode cX8_in 0 = .ok (.lload_n 0, 1) := by decide +kernel
theorem dX8_in_1 : decode cX8_in 1 = .ok (.lload_n 2, 1) := by decide +kernel
theorem dX8_in_2 : decode cX8_in 2 = .ok (.lcmp, 1) := by decide +kernel
theorem dX8_in_3 : decode cX8_in 3 = .ok (.ifCond .lt 14, 3) := by decide +kernel
theorem dX8_in_6 : decode cX8_in 6 = .ok (.lload_n 0, 1) := by decide +kernel
theorem dX8_in_7 : decode cX8_in 7 = .ok (.lload 4, 2) := by decide +kernel
theorem dX8_in_9 : decode cX8_in 9 = .ok (.lcmp, 1) := by decide +kernel
theorem dX8_in_10 : decode cX8_in 10 = .ok (.ifCond .gt 7, 3) := by decide +kernel
theorem dX8_in_13 : decode cX8_in 13 = .ok (.iconst 1, 1) := by decide +kernel
theorem dX8_in_14 : decode cX8_in 14 = .ok (.goto 4, 3) := by decide +kernel
theorem dX8_in_17 : decode cX8_in 17 = .ok (.iconst 0, 1) := by decide +kernel
theorem dX8_in_18 : decode cX8_in 18 = .ok (.ireturn, 1) := by decide +kernel
theorem dX8_has_0 : decode cX8_has 0 = .ok (.iload_n 0, 1) := by decide +kernel
theorem dX8_has_1 : decode cX8_has 1 = .ok (.iload_n 1, 1) := by decide +kernel
theorem dX8_has_2 : decode cX8_has 2 = .ok (.ishr, 1) := by decide +kernel
theorem dX8_has_3 : decode cX8_has 3 = .ok (.iconst 1, 1) := by decide +kernel
theorem dX8_has_4 : decode cX8_has 4 = .ok (.iand, 1) := by decide +kernel
theorem dX8_has_5 : decode cX8_has 5 = .ok (.iconst 1, 1) := by decide +kernel
theorem dX8_has_6 : decode cX8_has 6 = .ok (.if_icmp .ne 7, 3) := by decide +kernel
theorem dX8_has_9 : decode cX8_has 9 = .ok (.iconst 1, 1) := by decide +kernel
theorem dX8_has_10 : decode cX8_has 10 = .ok (.goto 4, 3) := by decide +kernel
theorem dX8_has_13 : decode cX8_has 13 = .ok (.iconst 0, 1) := by decide +kernel
theorem dX8_has_14 : decode cX8_has 14 = .ok (.ireturn, 1) := by decide +kernel
theorem dX8_noEvening_0 : decode cX8_noEvening 0 = .ok (.aload_n 0, 1) := by decide +kernel
theorem dX8_noEvening_1 : decode cX8_noEvening 1 = .ok (.getfield 13, 3) := by decide +kernel
theorem dX8_noEvening_4 : decode cX8_noEvening 4 = .ok (.iload_n 1, 1) := by decide +kernel
theorem dX8_noEvening_5 : decode cX8_noEvening 5 = .ok (.iconst 0, 1) := by decide +kernel
theorem dX8_noEvening_6 : decode cX8_noEvening 6 = .ok (.iastore, 1) := by decide +kernel
theorem dX8_noEvening_7 : decode cX8_noEvening 7 = .ok (.aload_n 0, 1) := by decide +kernel
theorem dX8_noEvening_8 : decode cX8_noEvening 8 = .ok (.getfield 28, 3) := by decide +kernel
theorem dX8_noEvening_11 : decode cX8_noEvening 11 = .ok (.iload_n 1, 1) := by decide +kernel
theorem dX8_noEvening_12 : decode cX8_noEvening 12 = .ok (.iconst 0, 1) := by decide +kernel
theorem dX8_noEvening_13 : decode cX8_noEvening 13 = .ok (.iastore, 1) := by decide +kernel
theorem dX8_noEvening_14 : decode cX8_noEvening 14 = .ok (.aload_n 0, 1) := by decide +kernel
theorem dX8_noEvening_15 : decode cX8_noEvening 15 = .ok (.getfield 37, 3) := by decide +kernel
theorem dX8_noEvening_18 : decode cX8_noEvening 18 = .ok (.iload_n 1, 1) := by decide +kernel
theorem dX8_noEvening_19 : decode cX8_noEvening 19 = .ok (.bipush 15, 2) := by decide +kernel
theorem dX8_noEvening_21 : decode cX8_noEvening 21 = .ok (.iastore, 1) := by decide +kernel
theorem dX8_noEvening_22 : decode cX8_noEvening 22 = .ok (.aload_n 0, 1) := by decide +kernel
theorem dX8_noEvening_23 : decode cX8_noEvening 23 = .ok (.getfield 40, 3) := by decide +kernel
theorem dX8_noEvening_26 : decode cX8_noEvening 26 = .ok (.iload_n 1, 1) := by decide +kernel
theorem dX8_noEvening_27 : decode cX8_noEvening 27 = .ok (.bipush 20, 2) := by decide +kernel
theorem dX8_noEvening_29 : decode cX8_noEvening 29 = .ok (.iastore, 1) := by decide +kernel
theorem dX8_noEvening_30 : decode cX8_noEvening 30 = .ok (.aload_n 0, 1) := by decide +kernel
theorem dX8_noEvening_31 : decode cX8_noEvening 31 = .ok (.getfield 43, 3) := by decide +kernel
theorem dX8_noEvening_34 : decode cX8_noEvening 34 = .ok (.iload_n 1, 1) := by decide +kernel
theorem dX8_noEvening_35 : decode cX8_noEvening 35 = .ok (.sipush 240, 3) := by decide +kernel
theorem dX8_noEvening_38 : decode cX8_noEvening 38 = .ok (.iastore, 1) := by decide +kernel
theorem dX8_noEvening_39 : decode cX8_noEvening 39 = .ok (.aload_n 0, 1) := by decide +kernel
theorem dX8_noEvening_40 : decode cX8_noEvening 40 = .ok (.getfield 52, 3) := by decide +kernel
theorem dX8_noEvening_43 : decode cX8_noEvening 43 = .ok (.iload_n 1, 1) := by decide +kernel
theorem dX8_noEvening_44 : decode cX8_noEvening 44 = .ok (.iconst 0, 1) := by decide +kernel
theorem dX8_noEvening_45 : decode cX8_noEvening 45 = .ok (.iastore, 1) := by decide +kernel
theorem dX8_noEvening_46 : decode cX8_noEvening 46 = .ok (.aload_n 0, 1) := by decide +kernel
theorem dX8_noEvening_47 : decode cX8_noEvening 47 = .ok (.getfield 64, 3) := by decide +kernel
theorem dX8_noEvening_50 : decode cX8_noEvening 50 = .ok (.iload_n 1, 1) := by decide +kernel
theorem dX8_noEvening_51 : decode cX8_noEvening 51 = .ok (.iconst 0, 1) := by decide +kernel
theorem dX8_noEvening_52 : decode cX8_noEvening 52 = .ok (.iastore, 1) := by decide +kernel
theorem dX8_noEvening_53 : decode cX8_noEvening 53 = .ok (.aload_n 0, 1) := by decide +kernel
theorem dX8_noEvening_54 : decode cX8_noEvening 54 = .ok (.getfield 73, 3) := by decide +kernel
theorem dX8_noEvening_57 : decode cX8_noEvening 57 = .ok (.iload_n 1, 1) := by decide +kernel
theorem dX8_noEvening_58 : decode cX8_noEvening 58 = .ok (.iconst 0, 1) := by decide +kernel
theorem dX8_noEvening_59 : decode cX8_noEvening 59 = .ok (.iastore, 1) := by decide +kernel
theorem dX8_noEvening_60 : decode cX8_noEvening 60 = .ok (.iconst 0, 1) := by decide +kernel
theorem dX8_noEvening_61 : decode cX8_noEvening 61 = .ok (.istore_n 2, 1) := by decide +kernel
theorem dX8_noEvening_62 : decode cX8_noEvening 62 = .ok (.iload_n 2, 1) := by decide +kernel
theorem dX8_noEvening_63 : decode cX8_noEvening 63 = .ok (.iconst 3, 1) := by decide +kernel
theorem dX8_noEvening_64 : decode cX8_noEvening 64 = .ok (.if_icmp .ge 31, 3) := by decide +kernel
theorem dX8_noEvening_67 : decode cX8_noEvening 67 = .ok (.aload_n 0, 1) := by decide +kernel
theorem dX8_noEvening_68 : decode cX8_noEvening 68 = .ok (.getfield 46, 3) := by decide +kernel
theorem dX8_noEvening_71 : decode cX8_noEvening 71 = .ok (.iconst 3, 1) := by decide +kernel
theorem dX8_noEvening_72 : decode cX8_noEvening 72 = .ok (.iload_n 1, 1) := by decide +kernel
theorem dX8_noEvening_73 : decode cX8_noEvening 73 = .ok (.imul, 1) := by decide +kernel
theorem dX8_noEvening_74 : decode cX8_noEvening 74 = .ok (.iload_n 2, 1) := by decide +kernel
theorem dX8_noEvening_75 : decode cX8_noEvening 75 = .ok (.iadd, 1) := by decide +kernel
theorem dX8_noEvening_76 : decode cX8_noEvening 76 = .ok (.iconst 0, 1) := by decide +kernel
theorem dX8_noEvening_77 : decode cX8_noEvening 77 = .ok (.iastore, 1) := by decide +kernel
theorem dX8_noEvening_78 : decode cX8_noEvening 78 = .ok (.aload_n 0, 1) := by decide +kernel
theorem dX8_noEvening_79 : decode cX8_noEvening 79 = .ok (.getfield 49, 3) := by decide +kernel
theorem dX8_noEvening_82 : decode cX8_noEvening 82 = .ok (.iconst 3, 1) := by decide +kernel
theorem dX8_noEvening_83 : decode cX8_noEvening 83 = .ok (.iload_n 1, 1) := by decide +kernel
theorem dX8_noEvening_84 : decode cX8_noEvening 84 = .ok (.imul, 1) := by decide +kernel
theorem dX8_noEvening_85 : decode cX8_noEvening 85 = .ok (.iload_n 2, 1) := by decide +kernel
theorem dX8_noEvening_86 : decode cX8_noEvening 86 = .ok (.iadd, 1) := by decide +kernel
theorem dX8_noEvening_87 : decode cX8_noEvening 87 = .ok (.iconst 0, 1) := by decide +kernel
theorem dX8_noEvening_88 : decode cX8_noEvening 88 = .ok (.iastore, 1) := by decide +kernel
theorem dX8_noEvening_89 : decode cX8_noEvening 89 = .ok (.iinc 2 1, 3) := by decide +kernel
theorem dX8_noEvening_92 : decode cX8_noEvening 92 = .ok (.goto (-30), 3) := by decide +kernel
theorem dX8_noEvening_95 : decode cX8_noEvening 95 = .ok (.return_, 1) := by decide +kernel
theorem dX8_write_0 : decode cX8_write 0 = .ok (.iload_n 1, 1) := by decide +kernel
theorem dX8_write_1 : decode cX8_write 1 = .ok (.i2l, 1) := by decide +kernel
theorem dX8_write_2 : decode cX8_write 2 = .ok (.lconst 1, 1) := by decide +kernel
theorem dX8_write_3 : decode cX8_write 3 = .ok (.ldc2_w 107, 3) := by decide +kernel
theorem dX8_write_6 : decode cX8_write 6 = .ok (.invokestatic 109, 3) := by decide +kernel
theorem dX8_write_9 : decode cX8_write 9 = .ok (.ifCond .ne 5, 3) := by decide +kernel
theorem dX8_write_12 : decode cX8_write 12 = .ok (.iconst (-1), 1) := by decide +kernel
theorem dX8_write_13 : decode cX8_write 13 = .ok (.ireturn, 1) := by decide +kernel
theorem dX8_write_14 : decode cX8_write 14 = .ok (.aload_n 0, 1) := by decide +kernel
theorem dX8_write_15 : decode cX8_write 15 = .ok (.getfield 113, 3) := by decide +kernel
theorem dX8_write_18 : decode cX8_write 18 = .ok (.iload_n 1, 1) := by decide +kernel
theorem dX8_write_19 : decode cX8_write 19 = .ok (.iadd, 1) := by decide +kernel
theorem dX8_write_20 : decode cX8_write 20 = .ok (.sipush 400, 3) := by decide +kernel
theorem dX8_write_23 : decode cX8_write 23 = .ok (.if_icmp .le 6, 3) := by decide +kernel
theorem dX8_write_26 : decode cX8_write 26 = .ok (.bipush (-3), 2) := by decide +kernel
theorem dX8_write_28 : decode cX8_write 28 = .ok (.ireturn, 1) := by decide +kernel
theorem dX8_write_29 : decode cX8_write 29 = .ok (.iload_n 1, 1) := by decide +kernel
theorem dX8_write_30 : decode cX8_write 30 = .ok (.iconst 1, 1) := by decide +kernel
theorem dX8_write_31 : decode cX8_write 31 = .ok (.isub, 1) := by decide +kernel
theorem dX8_write_32 : decode cX8_write 32 = .ok (.istore 4, 2) := by decide +kernel
theorem dX8_write_34 : decode cX8_write 34 = .ok (.iload 4, 2) := by decide +kernel
theorem dX8_write_36 : decode cX8_write 36 = .ok (.ifCond .lt 40, 3) := by decide +kernel
theorem dX8_write_39 : decode cX8_write 39 = .ok (.aload_n 0, 1) := by decide +kernel
theorem dX8_write_40 : decode cX8_write 40 = .ok (.getfield 7, 3) := by decide +kernel
theorem dX8_write_43 : decode cX8_write 43 = .ok (.aload_n 0, 1) := by decide +kernel
theorem dX8_write_44 : decode cX8_write 44 = .ok (.getfield 113, 3) := by decide +kernel
theorem dX8_write_47 : decode cX8_write 47 = .ok (.lload_n 2, 1) := by decide +kernel
theorem dX8_write_48 : decode cX8_write 48 = .ok (.bipush 8, 2) := by decide +kernel
theorem dX8_write_50 : decode cX8_write 50 = .ok (.iload 4, 2) := by decide +kernel
theorem dX8_write_52 : decode cX8_write 52 = .ok (.imul, 1) := by decide +kernel
theorem dX8_write_53 : decode cX8_write 53 = .ok (.lshr, 1) := by decide +kernel
theorem dX8_write_54 : decode cX8_write 54 = .ok (.ldc2_w 117, 3) := by decide +kernel
theorem dX8_write_57 : decode cX8_write 57 = .ok (.land, 1) := by decide +kernel
theorem dX8_write_58 : decode cX8_write 58 = .ok (.l2i, 1) := by decide +kernel
theorem dX8_write_59 : decode cX8_write 59 = .ok (.iastore, 1) := by decide +kernel
theorem dX8_write_60 : decode cX8_write 60 = .ok (.aload_n 0, 1) := by decide +kernel
theorem dX8_write_61 : decode cX8_write 61 = .ok (.dup, 1) := by decide +kernel
theorem dX8_write_62 : decode cX8_write 62 = .ok (.getfield 113, 3) := by decide +kernel
theorem dX8_write_65 : decode cX8_write 65 = .ok (.iconst 1, 1) := by decide +kernel
theorem dX8_write_66 : decode cX8_write 66 = .ok (.iadd, 1) := by decide +kernel
theorem dX8_write_67 : decode cX8_write 67 = .ok (.putfield 113, 3) := by decide +kernel
theorem dX8_write_70 : decode cX8_write 70 = .ok (.iinc 4 (-1), 3) := by decide +kernel
theorem dX8_write_73 : decode cX8_write 73 = .ok (.goto (-39), 3) := by decide +kernel
theorem dX8_write_76 : decode cX8_write 76 = .ok (.aload_n 0, 1) := by decide +kernel
theorem dX8_write_77 : decode cX8_write 77 = .ok (.getfield 113, 3) := by decide +kernel
theorem dX8_write_80 : decode cX8_write 80 = .ok (.ireturn, 1) := by decide +kernel
theorem dX8_wipe_0 : decode cX8_wipe 0 = .ok (.aload_n 0, 1) := by decide +kernel
theorem dX8_wipe_1 : decode cX8_wipe 1 = .ok (.getfield 113, 3) := by decide +kernel
theorem dX8_wipe_4 : decode cX8_wipe 4 = .ok (.istore_n 1, 1) := by decide +kernel
theorem dX8_wipe_5 : decode cX8_wipe 5 = .ok (.aload_n 0, 1) := by decide +kernel
theorem dX8_wipe_6 : decode cX8_wipe 6 = .ok (.iconst 0, 1) := by decide +kernel
theorem dX8_wipe_7 : decode cX8_wipe 7 = .ok (.putfield 113, 3) := by decide +kernel
theorem dX8_wipe_10 : decode cX8_wipe 10 = .ok (.iload_n 1, 1) := by decide +kernel
theorem dX8_wipe_11 : decode cX8_wipe 11 = .ok (.ireturn, 1) := by decide +kernel
theorem dX8_byteAt_0 : decode cX8_byteAt 0 = .ok (.iload_n 1, 1) := by decide +kernel
theorem dX8_byteAt_1 : decode cX8_byteAt 1 = .ok (.aload_n 0, 1) := by decide +kernel
theorem dX8_byteAt_2 : decode cX8_byteAt 2 = .ok (.getfield 113, 3) := by decide +kernel
theorem dX8_byteAt_5 : decode cX8_byteAt 5 = .ok (.if_icmp .ge 12, 3) := by decide +kernel
theorem dX8_byteAt_8 : decode cX8_byteAt 8 = .ok (.aload_n 0, 1) := by decide +kernel
theorem dX8_byteAt_9 : decode cX8_byteAt 9 = .ok (.getfield 7, 3) := by decide +kernel
theorem dX8_byteAt_12 : decode cX8_byteAt 12 = .ok (.iload_n 1, 1) := by decide +kernel
theorem dX8_byteAt_13 : decode cX8_byteAt 13 = .ok (.iaload, 1) := by decide +kernel
theorem dX8_byteAt_14 : decode cX8_byteAt 14 = .ok (.goto 4, 3) := by decide +kernel
theorem dX8_byteAt_17 : decode cX8_byteAt 17 = .ok (.iconst 0, 1) := by decide +kernel
theorem dX8_byteAt_18 : decode cX8_byteAt 18 = .ok (.ireturn, 1) := by decide +kernel
theorem dX8_figures_0 : decode cX8_figures 0 = .ok (.iconst 0, 1) := by decide +kernel
theorem dX8_figures_1 : decode cX8_figures 1 = .ok (.istore_n 2, 1) := by decide +kernel
theorem dX8_figures_2 : decode cX8_figures 2 = .ok (.iload_n 2, 1) := by decide +kernel
theorem dX8_figures_3 : decode cX8_figures 3 = .ok (.iload_n 1, 1) := by decide +kernel
theorem dX8_figures_4 : decode cX8_figures 4 = .ok (.if_icmp .ge 132, 3) := by decide +kernel
theorem dX8_figures_7 : decode cX8_figures 7 = .ok (.iconst 0, 1) := by decide +kernel
theorem dX8_figures_8 : decode cX8_figures 8 = .ok (.istore_n 3, 1) := by decide +kernel
theorem dX8_figures_9 : decode cX8_figures 9 = .ok (.iconst 0, 1) := by decide +kernel
theorem dX8_figures_10 : decode cX8_figures 10 = .ok (.istore 4, 2) := by decide +kernel
theorem dX8_figures_12 : decode cX8_figures 12 = .ok (.aload_n 0, 1) := by decide +kernel
theorem dX8_figures_13 : decode cX8_figures 13 = .ok (.aload_n 0, 1) := by decide +kernel
theorem dX8_figures_14 : decode cX8_figures 14 = .ok (.getfield 119, 3) := by decide +kernel
theorem dX8_figures_17 : decode cX8_figures 17 = .ok (.invokevirtual 122, 3) := by decide +kernel
theorem dX8_figures_20 : decode cX8_figures 20 = .ok (.i2l, 1) := by decide +kernel
theorem dX8_figures_21 : decode cX8_figures 21 = .ok (.ldc2_w 126, 3) := by decide +kernel
theorem dX8_figures_24 : decode cX8_figures 24 = .ok (.ldc2_w 128, 3) := by decide +kernel
theorem dX8_figures_27 : decode cX8_figures 27 = .ok (.invokestatic 109, 3) := by decide +kernel
theorem dX8_figures_30 : decode cX8_figures 30 = .ok (.ifCond .eq 43, 3) := by decide +kernel
theorem dX8_figures_33 : decode cX8_figures 33 = .ok (.iload_n 3, 1) := by decide +kernel
theorem dX8_figures_34 : decode cX8_figures 34 = .ok (.iconst 4, 1) := by decide +kernel
theorem dX8_figures_35 : decode cX8_figures 35 = .ok (.if_icmp .ge 38, 3) := by decide +kernel
theorem dX8_figures_38 : decode cX8_figures 38 = .ok (.bipush 10, 2) := by decide +kernel
theorem dX8_figures_40 : decode cX8_figures 40 = .ok (.iload 4, 2) := by decide +kernel
theorem dX8_figures_42 : decode cX8_figures 42 = .ok (.imul, 1) := by decide +kernel
theorem dX8_figures_43 : decode cX8_figures 43 = .ok (.aload_n 0, 1) := by decide +kernel
theorem dX8_figures_44 : decode cX8_figures 44 = .ok (.aload_n 0, 1) := by decide +kernel
theorem dX8_figures_45 : decode cX8_figures 45 = .ok (.getfield 119, 3) := by decide +kernel
theorem dX8_figures_48 : decode cX8_figures 48 = .ok (.invokevirtual 122, 3) := by decide +kernel
theorem dX8_figures_51 : decode cX8_figures 51 = .ok (.iadd, 1) := by decide +kernel
theorem dX8_figures_52 : decode cX8_figures 52 = .ok (.bipush 48, 2) := by decide +kernel
theorem dX8_figures_54 : decode cX8_figures 54 = .ok (.isub, 1) := by decide +kernel
theorem dX8_figures_55 : decode cX8_figures 55 = .ok (.istore 4, 2) := by decide +kernel
theorem dX8_figures_57 : decode cX8_figures 57 = .ok (.iinc 3 1, 3) := by decide +kernel
theorem dX8_figures_60 : decode cX8_figures 60 = .ok (.aload_n 0, 1) := by decide +kernel
theorem dX8_figures_61 : decode cX8_figures 61 = .ok (.dup, 1) := by decide +kernel
theorem dX8_figures_62 : decode cX8_figures 62 = .ok (.getfield 119, 3) := by decide +kernel
theorem dX8_figures_65 : decode cX8_figures 65 = .ok (.iconst 1, 1) := by decide +kernel
theorem dX8_figures_66 : decode cX8_figures 66 = .ok (.iadd, 1) := by decide +kernel
theorem dX8_figures_67 : decode cX8_figures 67 = .ok (.putfield 119, 3) := by decide +kernel
theorem dX8_figures_70 : decode cX8_figures 70 = .ok (.goto (-58), 3) := by decide +kernel
theorem dX8_figures_73 : decode cX8_figures 73 = .ok (.iload_n 3, 1) := by decide +kernel
theorem dX8_figures_74 : decode cX8_figures 74 = .ok (.i2l, 1) := by decide +kernel
theorem dX8_figures_75 : decode cX8_figures 75 = .ok (.lconst 1, 1) := by decide +kernel
theorem dX8_figures_76 : decode cX8_figures 76 = .ok (.ldc2_w 130, 3) := by decide +kernel
theorem dX8_figures_79 : decode cX8_figures 79 = .ok (.invokestatic 109, 3) := by decide +kernel
theorem dX8_figures_82 : decode cX8_figures 82 = .ok (.ifCond .eq 28, 3) := by decide +kernel
theorem dX8_figures_85 : decode cX8_figures 85 = .ok (.aload_n 0, 1) := by decide +kernel
theorem dX8_figures_86 : decode cX8_figures 86 = .ok (.aload_n 0, 1) := by decide +kernel
theorem dX8_figures_87 : decode cX8_figures 87 = .ok (.getfield 119, 3) := by decide +kernel
theorem dX8_figures_90 : decode cX8_figures 90 = .ok (.invokevirtual 122, 3) := by decide +kernel
theorem dX8_figures_93 : decode cX8_figures 93 = .ok (.iload_n 2, 1) := by decide +kernel
theorem dX8_figures_94 : decode cX8_figures 94 = .ok (.iload_n 1, 1) := by decide +kernel
theorem dX8_figures_95 : decode cX8_figures 95 = .ok (.iconst 1, 1) := by decide +kernel
theorem dX8_figures_96 : decode cX8_figures 96 = .ok (.isub, 1) := by decide +kernel
theorem dX8_figures_97 : decode cX8_figures 97 = .ok (.if_icmp .ge 8, 3) := by decide +kernel
theorem dX8_figures_100 : decode cX8_figures 100 = .ok (.bipush 44, 2) := by decide +kernel
theorem dX8_figures_102 : decode cX8_figures 102 = .ok (.goto 5, 3) := by decide +kernel
theorem dX8_figures_105 : decode cX8_figures 105 = .ok (.bipush 59, 2) := by decide +kernel
theorem dX8_figures_107 : decode cX8_figures 107 = .ok (.if_icmp .eq 5, 3) := by decide +kernel
theorem dX8_figures_110 : decode cX8_figures 110 = .ok (.iconst 0, 1) := by decide +kernel
theorem dX8_figures_111 : decode cX8_figures 111 = .ok (.ireturn, 1) := by decide +kernel
theorem dX8_figures_112 : decode cX8_figures 112 = .ok (.aload_n 0, 1) := by decide +kernel
theorem dX8_figures_113 : decode cX8_figures 113 = .ok (.getfield 82, 3) := by decide +kernel
theorem dX8_figures_116 : decode cX8_figures 116 = .ok (.iload_n 2, 1) := by decide +kernel
theorem dX8_figures_117 : decode cX8_figures 117 = .ok (.iload 4, 2) := by decide +kernel
theorem dX8_figures_119 : decode cX8_figures 119 = .ok (.iastore, 1) := by decide +kernel
theorem dX8_figures_120 : decode cX8_figures 120 = .ok (.aload_n 0, 1) := by decide +kernel
theorem dX8_figures_121 : decode cX8_figures 121 = .ok (.dup, 1) := by decide +kernel
theorem dX8_figures_122 : decode cX8_figures 122 = .ok (.getfield 119, 3) := by decide +kernel
theorem dX8_figures_125 : decode cX8_figures 125 = .ok (.iconst 1, 1) := by decide +kernel
theorem dX8_figures_126 : decode cX8_figures 126 = .ok (.iadd, 1) := by decide +kernel
theorem dX8_figures_127 : decode cX8_figures 127 = .ok (.putfield 119, 3) := by decide +kernel
theorem dX8_figures_130 : decode cX8_figures 130 = .ok (.iinc 2 1, 3) := by decide +kernel
theorem dX8_figures_133 : decode cX8_figures 133 = .ok (.goto (-131), 3) := by decide +kernel
theorem dX8_figures_136 : decode cX8_figures 136 = .ok (.iconst 1, 1) := by decide +kernel
theorem dX8_figures_137 : decode cX8_figures 137 = .ok (.ireturn, 1) := by decide +kernel
theorem dX8_isMinute_0 : decode cX8_isMinute 0 = .ok (.iload_n 0, 1) := by decide +kernel
theorem dX8_isMinute_1 : decode cX8_isMinute 1 = .ok (.i2l, 1) := by decide +kernel
theorem dX8_isMinute_2 : decode cX8_isMinute 2 = .ok (.lconst 0, 1) := by decide +kernel
theorem dX8_isMinute_3 : decode cX8_isMinute 3 = .ok (.ldc2_w 132, 3) := by decide +kernel
theorem dX8_isMinute_6 : decode cX8_isMinute 6 = .ok (.invokestatic 109, 3) := by decide +kernel
theorem dX8_isMinute_9 : decode cX8_isMinute 9 = .ok (.ireturn, 1) := by decide +kernel
theorem dX8_guestItem_0 : decode cX8_guestItem 0 = .ok (.bipush 8, 2) := by decide +kernel
theorem dX8_guestItem_2 : decode cX8_guestItem 2 = .ok (.aload_n 0, 1) := by decide +kernel
theorem dX8_guestItem_3 : decode cX8_guestItem 3 = .ok (.getfield 13, 3) := by decide +kernel
theorem dX8_guestItem_6 : decode cX8_guestItem 6 = .ok (.iconst 1, 1) := by decide +kernel
theorem dX8_guestItem_7 : decode cX8_guestItem 7 = .ok (.iaload, 1) := by decide +kernel
theorem dX8_guestItem_8 : decode cX8_guestItem 8 = .ok (.iadd, 1) := by decide +kernel
theorem dX8_guestItem_9 : decode cX8_guestItem 9 = .ok (.istore_n 1, 1) := by decide +kernel
theorem dX8_guestItem_10 : decode cX8_guestItem 10 = .ok (.aload_n 0, 1) := by decide +kernel
theorem dX8_guestItem_11 : decode cX8_guestItem 11 = .ok (.iconst 4, 1) := by decide +kernel
theorem dX8_guestItem_12 : decode cX8_guestItem 12 = .ok (.invokevirtual 134, 3) := by decide +kernel
theorem dX8_guestItem_15 : decode cX8_guestItem 15 = .ok (.ifCond .eq 58, 3) := by decide +kernel
theorem dX8_guestItem_18 : decode cX8_guestItem 18 = .ok (.aload_n 0, 1) := by decide +kernel
theorem dX8_guestItem_19 : decode cX8_guestItem 19 = .ok (.getfield 13, 3) := by decide +kernel
theorem dX8_guestItem_22 : decode cX8_guestItem 22 = .ok (.iconst 1, 1) := by decide +kernel
theorem dX8_guestItem_23 : decode cX8_guestItem 23 = .ok (.iaload, 1) := by decide +kernel
theorem dX8_guestItem_24 : decode cX8_guestItem 24 = .ok (.bipush 8, 2) := by decide +kernel
theorem dX8_guestItem_26 : decode cX8_guestItem 26 = .ok (.if_icmp .eq 47, 3) := by decide +kernel
theorem dX8_guestItem_29 : decode cX8_guestItem 29 = .ok (.aload_n 0, 1) := by decide +kernel
theorem dX8_guestItem_30 : decode cX8_guestItem 30 = .ok (.getfield 82, 3) := by decide +kernel
theorem dX8_guestItem_33 : decode cX8_guestItem 33 = .ok (.iconst 0, 1) := by decide +kernel
theorem dX8_guestItem_34 : decode cX8_guestItem 34 = .ok (.iaload, 1) := by decide +kernel
theorem dX8_guestItem_35 : decode cX8_guestItem 35 = .ok (.iconst 3, 1) := by decide +kernel
theorem dX8_guestItem_36 : decode cX8_guestItem 36 = .ok (.if_icmp .gt 37, 3) := by decide +kernel
theorem dX8_guestItem_39 : decode cX8_guestItem 39 = .ok (.aload_n 0, 1) := by decide +kernel
theorem dX8_guestItem_40 : decode cX8_guestItem 40 = .ok (.getfield 82, 3) := by decide +kernel
theorem dX8_guestItem_43 : decode cX8_guestItem 43 = .ok (.iconst 1, 1) := by decide +kernel
theorem dX8_guestItem_44 : decode cX8_guestItem 44 = .ok (.iaload, 1) := by decide +kernel
theorem dX8_guestItem_45 : decode cX8_guestItem 45 = .ok (.invokestatic 138, 3) := by decide +kernel
theorem dX8_guestItem_48 : decode cX8_guestItem 48 = .ok (.ifCond .eq 25, 3) := by decide +kernel
theorem dX8_guestItem_51 : decode cX8_guestItem 51 = .ok (.aload_n 0, 1) := by decide +kernel
theorem dX8_guestItem_52 : decode cX8_guestItem 52 = .ok (.getfield 82, 3) := by decide +kernel
theorem dX8_guestItem_55 : decode cX8_guestItem 55 = .ok (.iconst 2, 1) := by decide +kernel
theorem dX8_guestItem_56 : decode cX8_guestItem 56 = .ok (.iaload, 1) := by decide +kernel
theorem dX8_guestItem_57 : decode cX8_guestItem 57 = .ok (.sipush 199, 3) := by decide +kernel
theorem dX8_guestItem_60 : decode cX8_guestItem 60 = .ok (.if_icmp .gt 13, 3) := by decide +kernel
theorem dX8_guestItem_63 : decode cX8_guestItem 63 = .ok (.aload_n 0, 1) := by decide +kernel
theorem dX8_guestItem_64 : decode cX8_guestItem 64 = .ok (.getfield 82, 3) := by decide +kernel
theorem dX8_guestItem_67 : decode cX8_guestItem 67 = .ok (.iconst 3, 1) := by decide +kernel
theorem dX8_guestItem_68 : decode cX8_guestItem 68 = .ok (.iaload, 1) := by decide +kernel
theorem dX8_guestItem_69 : decode cX8_guestItem 69 = .ok (.iconst 5, 1) := by decide +kernel
theorem dX8_guestItem_70 : decode cX8_guestItem 70 = .ok (.if_icmp .le 5, 3) := by decide +kernel
theorem dX8_guestItem_73 : decode cX8_guestItem 73 = .ok (.iconst 0, 1) := by decide +kernel
theorem dX8_guestItem_74 : decode cX8_guestItem 74 = .ok (.ireturn, 1) := by decide +kernel
theorem dX8_guestItem_75 : decode cX8_guestItem 75 = .ok (.aload_n 0, 1) := by decide +kernel
theorem dX8_guestItem_76 : decode cX8_guestItem 76 = .ok (.getfield 16, 3) := by decide +kernel
theorem dX8_guestItem_79 : decode cX8_guestItem 79 = .ok (.iload_n 1, 1) := by decide +kernel
theorem dX8_guestItem_80 : decode cX8_guestItem 80 = .ok (.aload_n 0, 1) := by decide +kernel
theorem dX8_guestItem_81 : decode cX8_guestItem 81 = .ok (.getfield 82, 3) := by decide +kernel
theorem dX8_guestItem_84 : decode cX8_guestItem 84 = .ok (.iconst 0, 1) := by decide +kernel
theorem dX8_guestItem_85 : decode cX8_guestItem 85 = .ok (.iaload, 1) := by decide +kernel
theorem dX8_guestItem_86 : decode cX8_guestItem 86 = .ok (.iastore, 1) := by decide +kernel
theorem dX8_guestItem_87 : decode cX8_guestItem 87 = .ok (.aload_n 0, 1) := by decide +kernel
theorem dX8_guestItem_88 : decode cX8_guestItem 88 = .ok (.getfield 19, 3) := by decide +kernel
theorem dX8_guestItem_91 : decode cX8_guestItem 91 = .ok (.iload_n 1, 1) := by decide +kernel
theorem dX8_guestItem_92 : decode cX8_guestItem 92 = .ok (.aload_n 0, 1) := by decide +kernel
theorem dX8_guestItem_93 : decode cX8_guestItem 93 = .ok (.getfield 82, 3) := by decide +kernel
theorem dX8_guestItem_96 : decode cX8_guestItem 96 = .ok (.iconst 1, 1) := by decide +kernel
theorem dX8_guestItem_97 : decode cX8_guestItem 97 = .ok (.iaload, 1) := by decide +kernel
theorem dX8_guestItem_98 : decode cX8_guestItem 98 = .ok (.iastore, 1) := by decide +kernel
theorem dX8_guestItem_99 : decode cX8_guestItem 99 = .ok (.aload_n 0, 1) := by decide +kernel
theorem dX8_guestItem_100 : decode cX8_guestItem 100 = .ok (.getfield 22, 3) := by decide +kernel
theorem dX8_guestItem_103 : decode cX8_guestItem 103 = .ok (.iload_n 1, 1) := by decide +kernel
theorem dX8_guestItem_104 : decode cX8_guestItem 104 = .ok (.aload_n 0, 1) := by decide +kernel
theorem dX8_guestItem_105 : decode cX8_guestItem 105 = .ok (.getfield 82, 3) := by decide +kernel
theorem dX8_guestItem_108 : decode cX8_guestItem 108 = .ok (.iconst 2, 1) := by decide +kernel
theorem dX8_guestItem_109 : decode cX8_guestItem 109 = .ok (.iaload, 1) := by decide +kernel
theorem dX8_guestItem_110 : decode cX8_guestItem 110 = .ok (.iastore, 1) := by decide +kernel
theorem dX8_guestItem_111 : decode cX8_guestItem 111 = .ok (.aload_n 0, 1) := by decide +kernel
theorem dX8_guestItem_112 : decode cX8_guestItem 112 = .ok (.getfield 25, 3) := by decide +kernel
theorem dX8_guestItem_115 : decode cX8_guestItem 115 = .ok (.iload_n 1, 1) := by decide +kernel
theorem dX8_guestItem_116 : decode cX8_guestItem 116 = .ok (.aload_n 0, 1) := by decide +kernel
theorem dX8_guestItem_117 : decode cX8_guestItem 117 = .ok (.getfield 82, 3) := by decide +kernel
theorem dX8_guestItem_120 : decode cX8_guestItem 120 = .ok (.iconst 3, 1) := by decide +kernel
theorem dX8_guestItem_121 : decode cX8_guestItem 121 = .ok (.iaload, 1) := by decide +kernel
theorem dX8_guestItem_122 : decode cX8_guestItem 122 = .ok (.iastore, 1) := by decide +kernel
theorem dX8_guestItem_123 : decode cX8_guestItem 123 = .ok (.aload_n 0, 1) := by decide +kernel
theorem dX8_guestItem_124 : decode cX8_guestItem 124 = .ok (.getfield 13, 3) := by decide +kernel
theorem dX8_guestItem_127 : decode cX8_guestItem 127 = .ok (.iconst 1, 1) := by decide +kernel
theorem dX8_guestItem_128 : decode cX8_guestItem 128 = .ok (.dup2, 1) := by decide +kernel
theorem dX8_guestItem_129 : decode cX8_guestItem 129 = .ok (.iaload, 1) := by decide +kernel
theorem dX8_guestItem_130 : decode cX8_guestItem 130 = .ok (.iconst 1, 1) := by decide +kernel
theorem dX8_guestItem_131 : decode cX8_guestItem 131 = .ok (.iadd, 1) := by decide +kernel
theorem dX8_guestItem_132 : decode cX8_guestItem 132 = .ok (.iastore, 1) := by decide +kernel
theorem dX8_guestItem_133 : decode cX8_guestItem 133 = .ok (.iconst 1, 1) := by decide +kernel
theorem dX8_guestItem_134 : decode cX8_guestItem 134 = .ok (.ireturn, 1) := by decide +kernel
theorem dX8_lookItem_0 : decode cX8_lookItem 0 = .ok (.bipush 6, 2) := by decide +kernel
theorem dX8_lookItem_2 : decode cX8_lookItem 2 = .ok (.aload_n 0, 1) := by decide +kernel
theorem dX8_lookItem_3 : decode cX8_lookItem 3 = .ok (.getfield 52, 3) := by decide +kernel
theorem dX8_lookItem_6 : decode cX8_lookItem 6 = .ok (.iconst 1, 1) := by decide +kernel
theorem dX8_lookItem_7 : decode cX8_lookItem 7 = .ok (.iaload, 1) := by decide +kernel
theorem dX8_lookItem_8 : decode cX8_lookItem 8 = .ok (.iadd, 1) := by decide +kernel
theorem dX8_lookItem_9 : decode cX8_lookItem 9 = .ok (.istore_n 1, 1) := by decide +kernel
theorem dX8_lookItem_10 : decode cX8_lookItem 10 = .ok (.aload_n 0, 1) := by decide +kernel
theorem dX8_lookItem_11 : decode cX8_lookItem 11 = .ok (.iconst 3, 1) := by decide +kernel
theorem dX8_lookItem_12 : decode cX8_lookItem 12 = .ok (.invokevirtual 134, 3) := by decide +kernel
theorem dX8_lookItem_15 : decode cX8_lookItem 15 = .ok (.ifCond .eq 51, 3) := by decide +kernel
theorem dX8_lookItem_18 : decode cX8_lookItem 18 = .ok (.aload_n 0, 1) := by decide +kernel
theorem dX8_lookItem_19 : decode cX8_lookItem 19 = .ok (.getfield 52, 3) := by decide +kernel
theorem dX8_lookItem_22 : decode cX8_lookItem 22 = .ok (.iconst 1, 1) := by decide +kernel
theorem dX8_lookItem_23 : decode cX8_lookItem 23 = .ok (.iaload, 1) := by decide +kernel
theorem dX8_lookItem_24 : decode cX8_lookItem 24 = .ok (.bipush 6, 2) := by decide +kernel
theorem dX8_lookItem_26 : decode cX8_lookItem 26 = .ok (.if_icmp .eq 40, 3) := by decide +kernel
theorem dX8_lookItem_29 : decode cX8_lookItem 29 = .ok (.aload_n 0, 1) := by decide +kernel
theorem dX8_lookItem_30 : decode cX8_lookItem 30 = .ok (.getfield 82, 3) := by decide +kernel
theorem dX8_lookItem_33 : decode cX8_lookItem 33 = .ok (.iconst 0, 1) := by decide +kernel
theorem dX8_lookItem_34 : decode cX8_lookItem 34 = .ok (.iaload, 1) := by decide +kernel
theorem dX8_lookItem_35 : decode cX8_lookItem 35 = .ok (.aload_n 0, 1) := by decide +kernel
theorem dX8_lookItem_36 : decode cX8_lookItem 36 = .ok (.getfield 13, 3) := by decide +kernel
theorem dX8_lookItem_39 : decode cX8_lookItem 39 = .ok (.iconst 1, 1) := by decide +kernel
theorem dX8_lookItem_40 : decode cX8_lookItem 40 = .ok (.iaload, 1) := by decide +kernel
theorem dX8_lookItem_41 : decode cX8_lookItem 41 = .ok (.if_icmp .ge 25, 3) := by decide +kernel
theorem dX8_lookItem_44 : decode cX8_lookItem 44 = .ok (.aload_n 0, 1) := by decide +kernel
theorem dX8_lookItem_45 : decode cX8_lookItem 45 = .ok (.getfield 82, 3) := by decide +kernel
theorem dX8_lookItem_48 : decode cX8_lookItem 48 = .ok (.iconst 1, 1) := by decide +kernel
theorem dX8_lookItem_49 : decode cX8_lookItem 49 = .ok (.iaload, 1) := by decide +kernel
theorem dX8_lookItem_50 : decode cX8_lookItem 50 = .ok (.invokestatic 138, 3) := by decide +kernel
theorem dX8_lookItem_53 : decode cX8_lookItem 53 = .ok (.ifCond .eq 13, 3) := by decide +kernel
theorem dX8_lookItem_56 : decode cX8_lookItem 56 = .ok (.aload_n 0, 1) := by decide +kernel
theorem dX8_lookItem_57 : decode cX8_lookItem 57 = .ok (.getfield 82, 3) := by decide +kernel
theorem dX8_lookItem_60 : decode cX8_lookItem 60 = .ok (.iconst 2, 1) := by decide +kernel
theorem dX8_lookItem_61 : decode cX8_lookItem 61 = .ok (.iaload, 1) := by decide +kernel
theorem dX8_lookItem_62 : decode cX8_lookItem 62 = .ok (.iconst 1, 1) := by decide +kernel
theorem dX8_lookItem_63 : decode cX8_lookItem 63 = .ok (.if_icmp .le 5, 3) := by decide +kernel
theorem dX8_lookItem_66 : decode cX8_lookItem 66 = .ok (.iconst 0, 1) := by decide +kernel
theorem dX8_lookItem_67 : decode cX8_lookItem 67 = .ok (.ireturn, 1) := by decide +kernel
theorem dX8_lookItem_68 : decode cX8_lookItem 68 = .ok (.aload_n 0, 1) := by decide +kernel
theorem dX8_lookItem_69 : decode cX8_lookItem 69 = .ok (.getfield 55, 3) := by decide +kernel
theorem dX8_lookItem_72 : decode cX8_lookItem 72 = .ok (.iload_n 1, 1) := by decide +kernel
theorem dX8_lookItem_73 : decode cX8_lookItem 73 = .ok (.aload_n 0, 1) := by decide +kernel
theorem dX8_lookItem_74 : decode cX8_lookItem 74 = .ok (.getfield 82, 3) := by decide +kernel
theorem dX8_lookItem_77 : decode cX8_lookItem 77 = .ok (.iconst 0, 1) := by decide +kernel
theorem dX8_lookItem_78 : decode cX8_lookItem 78 = .ok (.iaload, 1) := by decide +kernel
theorem dX8_lookItem_79 : decode cX8_lookItem 79 = .ok (.iastore, 1) := by decide +kernel
theorem dX8_lookItem_80 : decode cX8_lookItem 80 = .ok (.aload_n 0, 1) := by decide +kernel
theorem dX8_lookItem_81 : decode cX8_lookItem 81 = .ok (.getfield 58, 3) := by decide +kernel
theorem dX8_lookItem_84 : decode cX8_lookItem 84 = .ok (.iload_n 1, 1) := by decide +kernel
theorem dX8_lookItem_85 : decode cX8_lookItem 85 = .ok (.aload_n 0, 1) := by decide +kernel
theorem dX8_lookItem_86 : decode cX8_lookItem 86 = .ok (.getfield 82, 3) := by decide +kernel
theorem dX8_lookItem_89 : decode cX8_lookItem 89 = .ok (.iconst 1, 1) := by decide +kernel
theorem dX8_lookItem_90 : decode cX8_lookItem 90 = .ok (.iaload, 1) := by decide +kernel
theorem dX8_lookItem_91 : decode cX8_lookItem 91 = .ok (.iastore, 1) := by decide +kernel
theorem dX8_lookItem_92 : decode cX8_lookItem 92 = .ok (.aload_n 0, 1) := by decide +kernel
theorem dX8_lookItem_93 : decode cX8_lookItem 93 = .ok (.getfield 61, 3) := by decide +kernel
theorem dX8_lookItem_96 : decode cX8_lookItem 96 = .ok (.iload_n 1, 1) := by decide +kernel
theorem dX8_lookItem_97 : decode cX8_lookItem 97 = .ok (.aload_n 0, 1) := by decide +kernel
theorem dX8_lookItem_98 : decode cX8_lookItem 98 = .ok (.getfield 82, 3) := by decide +kernel
theorem dX8_lookItem_101 : decode cX8_lookItem 101 = .ok (.iconst 2, 1) := by decide +kernel
theorem dX8_lookItem_102 : decode cX8_lookItem 102 = .ok (.iaload, 1) := by decide +kernel
theorem dX8_lookItem_103 : decode cX8_lookItem 103 = .ok (.iastore, 1) := by decide +kernel
theorem dX8_lookItem_104 : decode cX8_lookItem 104 = .ok (.aload_n 0, 1) := by decide +kernel
theorem dX8_lookItem_105 : decode cX8_lookItem 105 = .ok (.getfield 52, 3) := by decide +kernel
theorem dX8_lookItem_108 : decode cX8_lookItem 108 = .ok (.iconst 1, 1) := by decide +kernel
theorem dX8_lookItem_109 : decode cX8_lookItem 109 = .ok (.dup2, 1) := by decide +kernel
theorem dX8_lookItem_110 : decode cX8_lookItem 110 = .ok (.iaload, 1) := by decide +kernel
theorem dX8_lookItem_111 : decode cX8_lookItem 111 = .ok (.iconst 1, 1) := by decide +kernel
theorem dX8_lookItem_112 : decode cX8_lookItem 112 = .ok (.iadd, 1) := by decide +kernel
theorem dX8_lookItem_113 : decode cX8_lookItem 113 = .ok (.iastore, 1) := by decide +kernel
theorem dX8_lookItem_114 : decode cX8_lookItem 114 = .ok (.iconst 1, 1) := by decide +kernel
theorem dX8_lookItem_115 : decode cX8_lookItem 115 = .ok (.ireturn, 1) := by decide +kernel
theorem dX8_item_0 : decode cX8_item 0 = .ok (.aload_n 0, 1) := by decide +kernel
theorem dX8_item_1 : decode cX8_item 1 = .ok (.aload_n 0, 1) := by decide +kernel
theorem dX8_item_2 : decode cX8_item 2 = .ok (.getfield 119, 3) := by decide +kernel
theorem dX8_item_5 : decode cX8_item 5 = .ok (.invokevirtual 122, 3) := by decide +kernel
theorem dX8_item_8 : decode cX8_item 8 = .ok (.istore_n 1, 1) := by decide +kernel
theorem dX8_item_9 : decode cX8_item 9 = .ok (.aload_n 0, 1) := by decide +kernel
theorem dX8_item_10 : decode cX8_item 10 = .ok (.dup, 1) := by decide +kernel
theorem dX8_item_11 : decode cX8_item 11 = .ok (.getfield 119, 3) := by decide +kernel
theorem dX8_item_14 : decode cX8_item 14 = .ok (.iconst 1, 1) := by decide +kernel
theorem dX8_item_15 : decode cX8_item 15 = .ok (.iadd, 1) := by decide +kernel
theorem dX8_item_16 : decode cX8_item 16 = .ok (.putfield 119, 3) := by decide +kernel
theorem dX8_item_19 : decode cX8_item 19 = .ok (.iload_n 1, 1) := by decide +kernel
theorem dX8_item_20 : decode cX8_item 20 = .ok (.tableswitch 557 98 121 #[345, 381, 557, 557, 557, 112, 557, 557, 557, 557, 287, 557, 557, 557, 557, 557, 557, 122, 557, 468, 557, 224, 557, 117], 112) := by decide +kernel
theorem dX8_item_132 : decode cX8_item 132 = .ok (.aload_n 0, 1) := by decide +kernel
theorem dX8_item_133 : decode cX8_item 133 = .ok (.invokevirtual 141, 3) := by decide +kernel
theorem dX8_item_136 : decode cX8_item 136 = .ok (.ireturn, 1) := by decide +kernel
theorem dX8_item_137 : decode cX8_item 137 = .ok (.aload_n 0, 1) := by decide +kernel
theorem dX8_item_138 : decode cX8_item 138 = .ok (.invokevirtual 145, 3) := by decide +kernel
theorem dX8_item_141 : decode cX8_item 141 = .ok (.ireturn, 1) := by decide +kernel
theorem dX8_item_142 : decode cX8_item 142 = .ok (.aload_n 0, 1) := by decide +kernel
theorem dX8_item_143 : decode cX8_item 143 = .ok (.iconst 2, 1) := by decide +kernel
theorem dX8_item_144 : decode cX8_item 144 = .ok (.invokevirtual 134, 3) := by decide +kernel
theorem dX8_item_147 : decode cX8_item 147 = .ok (.ifCond .eq 43, 3) := by decide +kernel
theorem dX8_item_150 : decode cX8_item 150 = .ok (.aload_n 0, 1) := by decide +kernel
theorem dX8_item_151 : decode cX8_item 151 = .ok (.getfield 64, 3) := by decide +kernel
theorem dX8_item_154 : decode cX8_item 154 = .ok (.iconst 1, 1) := by decide +kernel
theorem dX8_item_155 : decode cX8_item 155 = .ok (.iaload, 1) := by decide +kernel
theorem dX8_item_156 : decode cX8_item 156 = .ok (.bipush 6, 2) := by decide +kernel
theorem dX8_item_158 : decode cX8_item 158 = .ok (.if_icmp .eq 32, 3) := by decide +kernel
theorem dX8_item_161 : decode cX8_item 161 = .ok (.aload_n 0, 1) := by decide +kernel
theorem dX8_item_162 : decode cX8_item 162 = .ok (.getfield 82, 3) := by decide +kernel
theorem dX8_item_165 : decode cX8_item 165 = .ok (.iconst 0, 1) := by decide +kernel
theorem dX8_item_166 : decode cX8_item 166 = .ok (.iaload, 1) := by decide +kernel
theorem dX8_item_167 : decode cX8_item 167 = .ok (.invokestatic 138, 3) := by decide +kernel
theorem dX8_item_170 : decode cX8_item 170 = .ok (.ifCond .eq 20, 3) := by decide +kernel
theorem dX8_item_173 : decode cX8_item 173 = .ok (.aload_n 0, 1) := by decide +kernel
theorem dX8_item_174 : decode cX8_item 174 = .ok (.getfield 82, 3) := by decide +kernel
theorem dX8_item_177 : decode cX8_item 177 = .ok (.iconst 1, 1) := by decide +kernel
theorem dX8_item_178 : decode cX8_item 178 = .ok (.iaload, 1) := by decide +kernel
theorem dX8_item_179 : decode cX8_item 179 = .ok (.i2l, 1) := by decide +kernel
theorem dX8_item_180 : decode cX8_item 180 = .ok (.lconst 1, 1) := by decide +kernel
theorem dX8_item_181 : decode cX8_item 181 = .ok (.ldc2_w 148, 3) := by decide +kernel
theorem dX8_item_184 : decode cX8_item 184 = .ok (.invokestatic 109, 3) := by decide +kernel
theorem dX8_item_187 : decode cX8_item 187 = .ok (.ifCond .ne 5, 3) := by decide +kernel
theorem dX8_item_190 : decode cX8_item 190 = .ok (.iconst 0, 1) := by decide +kernel
theorem dX8_item_191 : decode cX8_item 191 = .ok (.ireturn, 1) := by decide +kernel
theorem dX8_item_192 : decode cX8_item 192 = .ok (.aload_n 0, 1) := by decide +kernel
theorem dX8_item_193 : decode cX8_item 193 = .ok (.getfield 67, 3) := by decide +kernel
theorem dX8_item_196 : decode cX8_item 196 = .ok (.bipush 6, 2) := by decide +kernel
theorem dX8_item_198 : decode cX8_item 198 = .ok (.aload_n 0, 1) := by decide +kernel
theorem dX8_item_199 : decode cX8_item 199 = .ok (.getfield 64, 3) := by decide +kernel
theorem dX8_item_202 : decode cX8_item 202 = .ok (.iconst 1, 1) := by decide +kernel
theorem dX8_item_203 : decode cX8_item 203 = .ok (.iaload, 1) := by decide +kernel
theorem dX8_item_204 : decode cX8_item 204 = .ok (.iadd, 1) := by decide +kernel
theorem dX8_item_205 : decode cX8_item 205 = .ok (.aload_n 0, 1) := by decide +kernel
theorem dX8_item_206 : decode cX8_item 206 = .ok (.getfield 82, 3) := by decide +kernel
theorem dX8_item_209 : decode cX8_item 209 = .ok (.iconst 0, 1) := by decide +kernel
theorem dX8_item_210 : decode cX8_item 210 = .ok (.iaload, 1) := by decide +kernel
theorem dX8_item_211 : decode cX8_item 211 = .ok (.iastore, 1) := by decide +kernel
theorem dX8_item_212 : decode cX8_item 212 = .ok (.aload_n 0, 1) := by decide +kernel
theorem dX8_item_213 : decode cX8_item 213 = .ok (.getfield 70, 3) := by decide +kernel
theorem dX8_item_216 : decode cX8_item 216 = .ok (.bipush 6, 2) := by decide +kernel
theorem dX8_item_218 : decode cX8_item 218 = .ok (.aload_n 0, 1) := by decide +kernel
theorem dX8_item_219 : decode cX8_item 219 = .ok (.getfield 64, 3) := by decide +kernel
theorem dX8_item_222 : decode cX8_item 222 = .ok (.iconst 1, 1) := by decide +kernel
theorem dX8_item_223 : decode cX8_item 223 = .ok (.iaload, 1) := by decide +kernel
theorem dX8_item_224 : decode cX8_item 224 = .ok (.iadd, 1) := by decide +kernel
theorem dX8_item_225 : decode cX8_item 225 = .ok (.aload_n 0, 1) := by decide +kernel
theorem dX8_item_226 : decode cX8_item 226 = .ok (.getfield 82, 3) := by decide +kernel
theorem dX8_item_229 : decode cX8_item 229 = .ok (.iconst 1, 1) := by decide +kernel
theorem dX8_item_230 : decode cX8_item 230 = .ok (.iaload, 1) := by decide +kernel
theorem dX8_item_231 : decode cX8_item 231 = .ok (.iastore, 1) := by decide +kernel
theorem dX8_item_232 : decode cX8_item 232 = .ok (.aload_n 0, 1) := by decide +kernel
theorem dX8_item_233 : decode cX8_item 233 = .ok (.getfield 64, 3) := by decide +kernel
theorem dX8_item_236 : decode cX8_item 236 = .ok (.iconst 1, 1) := by decide +kernel
theorem dX8_item_237 : decode cX8_item 237 = .ok (.dup2, 1) := by decide +kernel
theorem dX8_item_238 : decode cX8_item 238 = .ok (.iaload, 1) := by decide +kernel
theorem dX8_item_239 : decode cX8_item 239 = .ok (.iconst 1, 1) := by decide +kernel
theorem dX8_item_240 : decode cX8_item 240 = .ok (.iadd, 1) := by decide +kernel
theorem dX8_item_241 : decode cX8_item 241 = .ok (.iastore, 1) := by decide +kernel
theorem dX8_item_242 : decode cX8_item 242 = .ok (.iconst 1, 1) := by decide +kernel
theorem dX8_item_243 : decode cX8_item 243 = .ok (.ireturn, 1) := by decide +kernel
theorem dX8_item_244 : decode cX8_item 244 = .ok (.aload_n 0, 1) := by decide +kernel
theorem dX8_item_245 : decode cX8_item 245 = .ok (.iconst 1, 1) := by decide +kernel
theorem dX8_item_246 : decode cX8_item 246 = .ok (.invokevirtual 134, 3) := by decide +kernel
theorem dX8_item_249 : decode cX8_item 249 = .ok (.ifCond .eq 25, 3) := by decide +kernel
theorem dX8_item_252 : decode cX8_item 252 = .ok (.aload_n 0, 1) := by decide +kernel
theorem dX8_item_253 : decode cX8_item 253 = .ok (.getfield 73, 3) := by decide +kernel
theorem dX8_item_256 : decode cX8_item 256 = .ok (.iconst 1, 1) := by decide +kernel
theorem dX8_item_257 : decode cX8_item 257 = .ok (.iaload, 1) := by decide +kernel
theorem dX8_item_258 : decode cX8_item 258 = .ok (.iconst 4, 1) := by decide +kernel
theorem dX8_item_259 : decode cX8_item 259 = .ok (.if_icmp .eq 15, 3) := by decide +kernel
theorem dX8_item_262 : decode cX8_item 262 = .ok (.aload_n 0, 1) := by decide +kernel
theorem dX8_item_263 : decode cX8_item 263 = .ok (.getfield 82, 3) := by decide +kernel
theorem dX8_item_266 : decode cX8_item 266 = .ok (.iconst 0, 1) := by decide +kernel
theorem dX8_item_267 : decode cX8_item 267 = .ok (.iaload, 1) := by decide +kernel
theorem dX8_item_268 : decode cX8_item 268 = .ok (.invokestatic 138, 3) := by decide +kernel
theorem dX8_item_271 : decode cX8_item 271 = .ok (.ifCond .ne 5, 3) := by decide +kernel
theorem dX8_item_274 : decode cX8_item 274 = .ok (.iconst 0, 1) := by decide +kernel
theorem dX8_item_275 : decode cX8_item 275 = .ok (.ireturn, 1) := by decide +kernel
theorem dX8_item_276 : decode cX8_item 276 = .ok (.aload_n 0, 1) := by decide +kernel
theorem dX8_item_277 : decode cX8_item 277 = .ok (.getfield 76, 3) := by decide +kernel
theorem dX8_item_280 : decode cX8_item 280 = .ok (.iconst 4, 1) := by decide +kernel
theorem dX8_item_281 : decode cX8_item 281 = .ok (.aload_n 0, 1) := by decide +kernel
theorem dX8_item_282 : decode cX8_item 282 = .ok (.getfield 73, 3) := by decide +kernel
theorem dX8_item_285 : decode cX8_item 285 = .ok (.iconst 1, 1) := by decide +kernel
theorem dX8_item_286 : decode cX8_item 286 = .ok (.iaload, 1) := by decide +kernel
theorem dX8_item_287 : decode cX8_item 287 = .ok (.iadd, 1) := by decide +kernel
theorem dX8_item_288 : decode cX8_item 288 = .ok (.aload_n 0, 1) := by decide +kernel
theorem dX8_item_289 : decode cX8_item 289 = .ok (.getfield 82, 3) := by decide +kernel
theorem dX8_item_292 : decode cX8_item 292 = .ok (.iconst 0, 1) := by decide +kernel
theorem dX8_item_293 : decode cX8_item 293 = .ok (.iaload, 1) := by decide +kernel
theorem dX8_item_294 : decode cX8_item 294 = .ok (.iastore, 1) := by decide +kernel
theorem dX8_item_295 : decode cX8_item 295 = .ok (.aload_n 0, 1) := by decide +kernel
theorem dX8_item_296 : decode cX8_item 296 = .ok (.getfield 73, 3) := by decide +kernel
theorem dX8_item_299 : decode cX8_item 299 = .ok (.iconst 1, 1) := by decide +kernel
theorem dX8_item_300 : decode cX8_item 300 = .ok (.dup2, 1) := by decide +kernel
theorem dX8_item_301 : decode cX8_item 301 = .ok (.iaload, 1) := by decide +kernel
theorem dX8_item_302 : decode cX8_item 302 = .ok (.iconst 1, 1) := by decide +kernel
theorem dX8_item_303 : decode cX8_item 303 = .ok (.iadd, 1) := by decide +kernel
theorem dX8_item_304 : decode cX8_item 304 = .ok (.iastore, 1) := by decide +kernel
theorem dX8_item_305 : decode cX8_item 305 = .ok (.iconst 1, 1) := by decide +kernel
theorem dX8_item_306 : decode cX8_item 306 = .ok (.ireturn, 1) := by decide +kernel
theorem dX8_item_307 : decode cX8_item 307 = .ok (.aload_n 0, 1) := by decide +kernel
theorem dX8_item_308 : decode cX8_item 308 = .ok (.iconst 2, 1) := by decide +kernel
theorem dX8_item_309 : decode cX8_item 309 = .ok (.invokevirtual 134, 3) := by decide +kernel
theorem dX8_item_312 : decode cX8_item 312 = .ok (.ifCond .eq 25, 3) := by decide +kernel
theorem dX8_item_315 : decode cX8_item 315 = .ok (.aload_n 0, 1) := by decide +kernel
theorem dX8_item_316 : decode cX8_item 316 = .ok (.getfield 82, 3) := by decide +kernel
theorem dX8_item_319 : decode cX8_item 319 = .ok (.iconst 0, 1) := by decide +kernel
theorem dX8_item_320 : decode cX8_item 320 = .ok (.iaload, 1) := by decide +kernel
theorem dX8_item_321 : decode cX8_item 321 = .ok (.bipush 99, 2) := by decide +kernel
theorem dX8_item_323 : decode cX8_item 323 = .ok (.if_icmp .gt 14, 3) := by decide +kernel
theorem dX8_item_326 : decode cX8_item 326 = .ok (.aload_n 0, 1) := by decide +kernel
theorem dX8_item_327 : decode cX8_item 327 = .ok (.getfield 82, 3) := by decide +kernel
theorem dX8_item_330 : decode cX8_item 330 = .ok (.iconst 1, 1) := by decide +kernel
theorem dX8_item_331 : decode cX8_item 331 = .ok (.iaload, 1) := by decide +kernel
theorem dX8_item_332 : decode cX8_item 332 = .ok (.bipush 60, 2) := by decide +kernel
theorem dX8_item_334 : decode cX8_item 334 = .ok (.if_icmp .le 5, 3) := by decide +kernel
theorem dX8_item_337 : decode cX8_item 337 = .ok (.iconst 0, 1) := by decide +kernel
theorem dX8_item_338 : decode cX8_item 338 = .ok (.ireturn, 1) := by decide +kernel
theorem dX8_item_339 : decode cX8_item 339 = .ok (.aload_n 0, 1) := by decide +kernel
theorem dX8_item_340 : decode cX8_item 340 = .ok (.getfield 37, 3) := by decide +kernel
theorem dX8_item_343 : decode cX8_item 343 = .ok (.iconst 1, 1) := by decide +kernel
theorem dX8_item_344 : decode cX8_item 344 = .ok (.aload_n 0, 1) := by decide +kernel
theorem dX8_item_345 : decode cX8_item 345 = .ok (.getfield 82, 3) := by decide +kernel
theorem dX8_item_348 : decode cX8_item 348 = .ok (.iconst 0, 1) := by decide +kernel
theorem dX8_item_349 : decode cX8_item 349 = .ok (.iaload, 1) := by decide +kernel
theorem dX8_item_350 : decode cX8_item 350 = .ok (.iastore, 1) := by decide +kernel
theorem dX8_item_351 : decode cX8_item 351 = .ok (.aload_n 0, 1) := by decide +kernel
theorem dX8_item_352 : decode cX8_item 352 = .ok (.getfield 40, 3) := by decide +kernel
theorem dX8_item_355 : decode cX8_item 355 = .ok (.iconst 1, 1) := by decide +kernel
theorem dX8_item_356 : decode cX8_item 356 = .ok (.aload_n 0, 1) := by decide +kernel
theorem dX8_item_357 : decode cX8_item 357 = .ok (.getfield 82, 3) := by decide +kernel
theorem dX8_item_360 : decode cX8_item 360 = .ok (.iconst 1, 1) := by decide +kernel
theorem dX8_item_361 : decode cX8_item 361 = .ok (.iaload, 1) := by decide +kernel
theorem dX8_item_362 : decode cX8_item 362 = .ok (.iastore, 1) := by decide +kernel
theorem dX8_item_363 : decode cX8_item 363 = .ok (.iconst 1, 1) := by decide +kernel
theorem dX8_item_364 : decode cX8_item 364 = .ok (.ireturn, 1) := by decide +kernel
theorem dX8_item_365 : decode cX8_item 365 = .ok (.aload_n 0, 1) := by decide +kernel
theorem dX8_item_366 : decode cX8_item 366 = .ok (.iconst 1, 1) := by decide +kernel
theorem dX8_item_367 : decode cX8_item 367 = .ok (.invokevirtual 134, 3) := by decide +kernel
theorem dX8_item_370 : decode cX8_item 370 = .ok (.ifCond .eq 15, 3) := by decide +kernel
theorem dX8_item_373 : decode cX8_item 373 = .ok (.aload_n 0, 1) := by decide +kernel
theorem dX8_item_374 : decode cX8_item 374 = .ok (.getfield 82, 3) := by decide +kernel
theorem dX8_item_377 : decode cX8_item 377 = .ok (.iconst 0, 1) := by decide +kernel
theorem dX8_item_378 : decode cX8_item 378 = .ok (.iaload, 1) := by decide +kernel
theorem dX8_item_379 : decode cX8_item 379 = .ok (.invokestatic 138, 3) := by decide +kernel
theorem dX8_item_382 : decode cX8_item 382 = .ok (.ifCond .ne 5, 3) := by decide +kernel
theorem dX8_item_385 : decode cX8_item 385 = .ok (.iconst 0, 1) := by decide +kernel
theorem dX8_item_386 : decode cX8_item 386 = .ok (.ireturn, 1) := by decide +kernel
theorem dX8_item_387 : decode cX8_item 387 = .ok (.aload_n 0, 1) := by decide +kernel
theorem dX8_item_388 : decode cX8_item 388 = .ok (.getfield 43, 3) := by decide +kernel
theorem dX8_item_391 : decode cX8_item 391 = .ok (.iconst 1, 1) := by decide +kernel
theorem dX8_item_392 : decode cX8_item 392 = .ok (.aload_n 0, 1) := by decide +kernel
theorem dX8_item_393 : decode cX8_item 393 = .ok (.getfield 82, 3) := by decide +kernel
theorem dX8_item_396 : decode cX8_item 396 = .ok (.iconst 0, 1) := by decide +kernel
theorem dX8_item_397 : decode cX8_item 397 = .ok (.iaload, 1) := by decide +kernel
theorem dX8_item_398 : decode cX8_item 398 = .ok (.iastore, 1) := by decide +kernel
theorem dX8_item_399 : decode cX8_item 399 = .ok (.iconst 1, 1) := by decide +kernel
theorem dX8_item_400 : decode cX8_item 400 = .ok (.ireturn, 1) := by decide +kernel
theorem dX8_item_401 : decode cX8_item 401 = .ok (.aload_n 0, 1) := by decide +kernel
theorem dX8_item_402 : decode cX8_item 402 = .ok (.iconst 2, 1) := by decide +kernel
theorem dX8_item_403 : decode cX8_item 403 = .ok (.invokevirtual 134, 3) := by decide +kernel
theorem dX8_item_406 : decode cX8_item 406 = .ok (.ifCond .eq 30, 3) := by decide +kernel
theorem dX8_item_409 : decode cX8_item 409 = .ok (.aload_n 0, 1) := by decide +kernel
theorem dX8_item_410 : decode cX8_item 410 = .ok (.getfield 28, 3) := by decide +kernel
theorem dX8_item_413 : decode cX8_item 413 = .ok (.iconst 1, 1) := by decide +kernel
theorem dX8_item_414 : decode cX8_item 414 = .ok (.iaload, 1) := by decide +kernel
theorem dX8_item_415 : decode cX8_item 415 = .ok (.iconst 3, 1) := by decide +kernel
theorem dX8_item_416 : decode cX8_item 416 = .ok (.if_icmp .eq 20, 3) := by decide +kernel
theorem dX8_item_419 : decode cX8_item 419 = .ok (.aload_n 0, 1) := by decide +kernel
theorem dX8_item_420 : decode cX8_item 420 = .ok (.getfield 82, 3) := by decide +kernel
theorem dX8_item_423 : decode cX8_item 423 = .ok (.iconst 0, 1) := by decide +kernel
theorem dX8_item_424 : decode cX8_item 424 = .ok (.iaload, 1) := by decide +kernel
theorem dX8_item_425 : decode cX8_item 425 = .ok (.i2l, 1) := by decide +kernel
theorem dX8_item_426 : decode cX8_item 426 = .ok (.lconst 1, 1) := by decide +kernel
theorem dX8_item_427 : decode cX8_item 427 = .ok (.ldc2_w 148, 3) := by decide +kernel
theorem dX8_item_430 : decode cX8_item 430 = .ok (.invokestatic 109, 3) := by decide +kernel
theorem dX8_item_433 : decode cX8_item 433 = .ok (.ifCond .ne 5, 3) := by decide +kernel
theorem dX8_item_436 : decode cX8_item 436 = .ok (.iconst 0, 1) := by decide +kernel
theorem dX8_item_437 : decode cX8_item 437 = .ok (.ireturn, 1) := by decide +kernel
theorem dX8_item_438 : decode cX8_item 438 = .ok (.aload_n 0, 1) := by decide +kernel
theorem dX8_item_439 : decode cX8_item 439 = .ok (.getfield 31, 3) := by decide +kernel
theorem dX8_item_442 : decode cX8_item 442 = .ok (.iconst 3, 1) := by decide +kernel
theorem dX8_item_443 : decode cX8_item 443 = .ok (.aload_n 0, 1) := by decide +kernel
theorem dX8_item_444 : decode cX8_item 444 = .ok (.getfield 28, 3) := by decide +kernel
theorem dX8_item_447 : decode cX8_item 447 = .ok (.iconst 1, 1) := by decide +kernel
theorem dX8_item_448 : decode cX8_item 448 = .ok (.iaload, 1) := by decide +kernel
theorem dX8_item_449 : decode cX8_item 449 = .ok (.iadd, 1) := by decide +kernel
theorem dX8_item_450 : decode cX8_item 450 = .ok (.aload_n 0, 1) := by decide +kernel
theorem dX8_item_451 : decode cX8_item 451 = .ok (.getfield 82, 3) := by decide +kernel
theorem dX8_item_454 : decode cX8_item 454 = .ok (.iconst 0, 1) := by decide +kernel
theorem dX8_item_455 : decode cX8_item 455 = .ok (.iaload, 1) := by decide +kernel
theorem dX8_item_456 : decode cX8_item 456 = .ok (.iastore, 1) := by decide +kernel
theorem dX8_item_457 : decode cX8_item 457 = .ok (.aload_n 0, 1) := by decide +kernel
theorem dX8_item_458 : decode cX8_item 458 = .ok (.getfield 34, 3) := by decide +kernel
theorem dX8_item_461 : decode cX8_item 461 = .ok (.iconst 3, 1) := by decide +kernel
theorem dX8_item_462 : decode cX8_item 462 = .ok (.aload_n 0, 1) := by decide +kernel
theorem dX8_item_463 : decode cX8_item 463 = .ok (.getfield 28, 3) := by decide +kernel
theorem dX8_item_466 : decode cX8_item 466 = .ok (.iconst 1, 1) := by decide +kernel
theorem dX8_item_467 : decode cX8_item 467 = .ok (.iaload, 1) := by decide +kernel
theorem dX8_item_468 : decode cX8_item 468 = .ok (.iadd, 1) := by decide +kernel
theorem dX8_item_469 : decode cX8_item 469 = .ok (.aload_n 0, 1) := by decide +kernel
theorem dX8_item_470 : decode cX8_item 470 = .ok (.getfield 82, 3) := by decide +kernel
theorem dX8_item_473 : decode cX8_item 473 = .ok (.iconst 1, 1) := by decide +kernel
theorem dX8_item_474 : decode cX8_item 474 = .ok (.iaload, 1) := by decide +kernel
theorem dX8_item_475 : decode cX8_item 475 = .ok (.iastore, 1) := by decide +kernel
theorem dX8_item_476 : decode cX8_item 476 = .ok (.aload_n 0, 1) := by decide +kernel
theorem dX8_item_477 : decode cX8_item 477 = .ok (.getfield 28, 3) := by decide +kernel
theorem dX8_item_480 : decode cX8_item 480 = .ok (.iconst 1, 1) := by decide +kernel
theorem dX8_item_481 : decode cX8_item 481 = .ok (.dup2, 1) := by decide +kernel
theorem dX8_item_482 : decode cX8_item 482 = .ok (.iaload, 1) := by decide +kernel
theorem dX8_item_483 : decode cX8_item 483 = .ok (.iconst 1, 1) := by decide +kernel
theorem dX8_item_484 : decode cX8_item 484 = .ok (.iadd, 1) := by decide +kernel
theorem dX8_item_485 : decode cX8_item 485 = .ok (.iastore, 1) := by decide +kernel
theorem dX8_item_486 : decode cX8_item 486 = .ok (.iconst 1, 1) := by decide +kernel
theorem dX8_item_487 : decode cX8_item 487 = .ok (.ireturn, 1) := by decide +kernel
theorem dX8_item_488 : decode cX8_item 488 = .ok (.aload_n 0, 1) := by decide +kernel
theorem dX8_item_489 : decode cX8_item 489 = .ok (.iconst 3, 1) := by decide +kernel
theorem dX8_item_490 : decode cX8_item 490 = .ok (.invokevirtual 134, 3) := by decide +kernel
theorem dX8_item_493 : decode cX8_item 493 = .ok (.ifCond .eq 42, 3) := by decide +kernel
theorem dX8_item_496 : decode cX8_item 496 = .ok (.aload_n 0, 1) := by decide +kernel
theorem dX8_item_497 : decode cX8_item 497 = .ok (.getfield 82, 3) := by decide +kernel
theorem dX8_item_500 : decode cX8_item 500 = .ok (.iconst 0, 1) := by decide +kernel
theorem dX8_item_501 : decode cX8_item 501 = .ok (.iaload, 1) := by decide +kernel
theorem dX8_item_502 : decode cX8_item 502 = .ok (.i2l, 1) := by decide +kernel
theorem dX8_item_503 : decode cX8_item 503 = .ok (.lconst 1, 1) := by decide +kernel
theorem dX8_item_504 : decode cX8_item 504 = .ok (.ldc2_w 130, 3) := by decide +kernel
theorem dX8_item_507 : decode cX8_item 507 = .ok (.invokestatic 109, 3) := by decide +kernel
theorem dX8_item_510 : decode cX8_item 510 = .ok (.ifCond .eq 25, 3) := by decide +kernel
theorem dX8_item_513 : decode cX8_item 513 = .ok (.aload_n 0, 1) := by decide +kernel
theorem dX8_item_514 : decode cX8_item 514 = .ok (.getfield 82, 3) := by decide +kernel
theorem dX8_item_517 : decode cX8_item 517 = .ok (.iconst 1, 1) := by decide +kernel
theorem dX8_item_518 : decode cX8_item 518 = .ok (.iaload, 1) := by decide +kernel
theorem dX8_item_519 : decode cX8_item 519 = .ok (.bipush 99, 2) := by decide +kernel
theorem dX8_item_521 : decode cX8_item 521 = .ok (.if_icmp .gt 14, 3) := by decide +kernel
theorem dX8_item_524 : decode cX8_item 524 = .ok (.aload_n 0, 1) := by decide +kernel
theorem dX8_item_525 : decode cX8_item 525 = .ok (.getfield 82, 3) := by decide +kernel
theorem dX8_item_528 : decode cX8_item 528 = .ok (.iconst 2, 1) := by decide +kernel
theorem dX8_item_529 : decode cX8_item 529 = .ok (.iaload, 1) := by decide +kernel
theorem dX8_item_530 : decode cX8_item 530 = .ok (.bipush 99, 2) := by decide +kernel
theorem dX8_item_532 : decode cX8_item 532 = .ok (.if_icmp .le 5, 3) := by decide +kernel
theorem dX8_item_535 : decode cX8_item 535 = .ok (.iconst 0, 1) := by decide +kernel
theorem dX8_item_536 : decode cX8_item 536 = .ok (.ireturn, 1) := by decide +kernel
theorem dX8_item_537 : decode cX8_item 537 = .ok (.aload_n 0, 1) := by decide +kernel
theorem dX8_item_538 : decode cX8_item 538 = .ok (.getfield 46, 3) := by decide +kernel
theorem dX8_item_541 : decode cX8_item 541 = .ok (.iconst 2, 1) := by decide +kernel
theorem dX8_item_542 : decode cX8_item 542 = .ok (.aload_n 0, 1) := by decide +kernel
theorem dX8_item_543 : decode cX8_item 543 = .ok (.getfield 82, 3) := by decide +kernel
theorem dX8_item_546 : decode cX8_item 546 = .ok (.iconst 0, 1) := by decide +kernel
theorem dX8_item_547 : decode cX8_item 547 = .ok (.iaload, 1) := by decide +kernel
theorem dX8_item_548 : decode cX8_item 548 = .ok (.iadd, 1) := by decide +kernel
theorem dX8_item_549 : decode cX8_item 549 = .ok (.aload_n 0, 1) := by decide +kernel
theorem dX8_item_550 : decode cX8_item 550 = .ok (.getfield 82, 3) := by decide +kernel
theorem dX8_item_553 : decode cX8_item 553 = .ok (.iconst 1, 1) := by decide +kernel
theorem dX8_item_554 : decode cX8_item 554 = .ok (.iaload, 1) := by decide +kernel
theorem dX8_item_555 : decode cX8_item 555 = .ok (.iastore, 1) := by decide +kernel
theorem dX8_item_556 : decode cX8_item 556 = .ok (.aload_n 0, 1) := by decide +kernel
theorem dX8_item_557 : decode cX8_item 557 = .ok (.getfield 49, 3) := by decide +kernel
theorem dX8_item_560 : decode cX8_item 560 = .ok (.iconst 2, 1) := by decide +kernel
theorem dX8_item_561 : decode cX8_item 561 = .ok (.aload_n 0, 1) := by decide +kernel
theorem dX8_item_562 : decode cX8_item 562 = .ok (.getfield 82, 3) := by decide +kernel
theorem dX8_item_565 : decode cX8_item 565 = .ok (.iconst 0, 1) := by decide +kernel
theorem dX8_item_566 : decode cX8_item 566 = .ok (.iaload, 1) := by decide +kernel
theorem dX8_item_567 : decode cX8_item 567 = .ok (.iadd, 1) := by decide +kernel
theorem dX8_item_568 : decode cX8_item 568 = .ok (.aload_n 0, 1) := by decide +kernel
theorem dX8_item_569 : decode cX8_item 569 = .ok (.getfield 82, 3) := by decide +kernel
theorem dX8_item_572 : decode cX8_item 572 = .ok (.iconst 2, 1) := by decide +kernel
theorem dX8_item_573 : decode cX8_item 573 = .ok (.iaload, 1) := by decide +kernel
theorem dX8_item_574 : decode cX8_item 574 = .ok (.iastore, 1) := by decide +kernel
theorem dX8_item_575 : decode cX8_item 575 = .ok (.iconst 1, 1) := by decide +kernel
theorem dX8_item_576 : decode cX8_item 576 = .ok (.ireturn, 1) := by decide +kernel
theorem dX8_item_577 : decode cX8_item 577 = .ok (.iconst 0, 1) := by decide +kernel
theorem dX8_item_578 : decode cX8_item 578 = .ok (.ireturn, 1) := by decide +kernel
theorem dX8_readAll_0 : decode cX8_readAll 0 = .ok (.aload_n 0, 1) := by decide +kernel
theorem dX8_readAll_1 : decode cX8_readAll 1 = .ok (.iconst 1, 1) := by decide +kernel
theorem dX8_readAll_2 : decode cX8_readAll 2 = .ok (.invokevirtual 103, 3) := by decide +kernel
theorem dX8_readAll_5 : decode cX8_readAll 5 = .ok (.aload_n 0, 1) := by decide +kernel
theorem dX8_readAll_6 : decode cX8_readAll 6 = .ok (.iconst 0, 1) := by decide +kernel
theorem dX8_readAll_7 : decode cX8_readAll 7 = .ok (.putfield 119, 3) := by decide +kernel
theorem dX8_readAll_10 : decode cX8_readAll 10 = .ok (.aload_n 0, 1) := by decide +kernel
theorem dX8_readAll_11 : decode cX8_readAll 11 = .ok (.getfield 119, 3) := by decide +kernel
theorem dX8_readAll_14 : decode cX8_readAll 14 = .ok (.aload_n 0, 1) := by decide +kernel
theorem dX8_readAll_15 : decode cX8_readAll 15 = .ok (.getfield 113, 3) := by decide +kernel
theorem dX8_readAll_18 : decode cX8_readAll 18 = .ok (.if_icmp .ge 20, 3) := by decide +kernel
theorem dX8_readAll_21 : decode cX8_readAll 21 = .ok (.aload_n 0, 1) := by decide +kernel
theorem dX8_readAll_22 : decode cX8_readAll 22 = .ok (.getfield 119, 3) := by decide +kernel
theorem dX8_readAll_25 : decode cX8_readAll 25 = .ok (.istore_n 1, 1) := by decide +kernel
theorem dX8_readAll_26 : decode cX8_readAll 26 = .ok (.aload_n 0, 1) := by decide +kernel
theorem dX8_readAll_27 : decode cX8_readAll 27 = .ok (.invokevirtual 150, 3) := by decide +kernel
theorem dX8_readAll_30 : decode cX8_readAll 30 = .ok (.ifCond .ne 5, 3) := by decide +kernel
theorem dX8_readAll_33 : decode cX8_readAll 33 = .ok (.iload_n 1, 1) := by decide +kernel
theorem dX8_readAll_34 : decode cX8_readAll 34 = .ok (.ireturn, 1) := by decide +kernel
theorem dX8_readAll_35 : decode cX8_readAll 35 = .ok (.goto (-25), 3) := by decide +kernel
theorem dX8_readAll_38 : decode cX8_readAll 38 = .ok (.bipush (-4), 2) := by decide +kernel
theorem dX8_readAll_40 : decode cX8_readAll 40 = .ok (.ireturn, 1) := by decide +kernel
theorem dX8_fault_0 : decode cX8_fault 0 = .ok (.aload_n 0, 1) := by decide +kernel
theorem dX8_fault_1 : decode cX8_fault 1 = .ok (.invokevirtual 153, 3) := by decide +kernel
theorem dX8_fault_4 : decode cX8_fault 4 = .ok (.ireturn, 1) := by decide +kernel
theorem dX8_copyTold_0 : decode cX8_copyTold 0 = .ok (.aload_n 0, 1) := by decide +kernel
theorem dX8_copyTold_1 : decode cX8_copyTold 1 = .ok (.getfield 64, 3) := by decide +kernel
theorem dX8_copyTold_4 : decode cX8_copyTold 4 = .ok (.iload_n 2, 1) := by decide +kernel
theorem dX8_copyTold_5 : decode cX8_copyTold 5 = .ok (.aload_n 0, 1) := by decide +kernel
theorem dX8_copyTold_6 : decode cX8_copyTold 6 = .ok (.getfield 64, 3) := by decide +kernel
theorem dX8_copyTold_9 : decode cX8_copyTold 9 = .ok (.iload_n 1, 1) := by decide +kernel
theorem dX8_copyTold_10 : decode cX8_copyTold 10 = .ok (.iaload, 1) := by decide +kernel
theorem dX8_copyTold_11 : decode cX8_copyTold 11 = .ok (.iastore, 1) := by decide +kernel
theorem dX8_copyTold_12 : decode cX8_copyTold 12 = .ok (.aload_n 0, 1) := by decide +kernel
theorem dX8_copyTold_13 : decode cX8_copyTold 13 = .ok (.getfield 73, 3) := by decide +kernel
theorem dX8_copyTold_16 : decode cX8_copyTold 16 = .ok (.iload_n 2, 1) := by decide +kernel
theorem dX8_copyTold_17 : decode cX8_copyTold 17 = .ok (.aload_n 0, 1) := by decide +kernel
theorem dX8_copyTold_18 : decode cX8_copyTold 18 = .ok (.getfield 73, 3) := by decide +kernel
theorem dX8_copyTold_21 : decode cX8_copyTold 21 = .ok (.iload_n 1, 1) := by decide +kernel
theorem dX8_copyTold_22 : decode cX8_copyTold 22 = .ok (.iaload, 1) := by decide +kernel
theorem dX8_copyTold_23 : decode cX8_copyTold 23 = .ok (.iastore, 1) := by decide +kernel
theorem dX8_copyTold_24 : decode cX8_copyTold 24 = .ok (.iconst 0, 1) := by decide +kernel
theorem dX8_copyTold_25 : decode cX8_copyTold 25 = .ok (.istore_n 3, 1) := by decide +kernel
theorem dX8_copyTold_26 : decode cX8_copyTold 26 = .ok (.iload_n 3, 1) := by decide +kernel
theorem dX8_copyTold_27 : decode cX8_copyTold 27 = .ok (.bipush 6, 2) := by decide +kernel
theorem dX8_copyTold_29 : decode cX8_copyTold 29 = .ok (.if_icmp .ge 53, 3) := by decide +kernel
theorem dX8_copyTold_32 : decode cX8_copyTold 32 = .ok (.aload_n 0, 1) := by decide +kernel
theorem dX8_copyTold_33 : decode cX8_copyTold 33 = .ok (.getfield 67, 3) := by decide +kernel
theorem dX8_copyTold_36 : decode cX8_copyTold 36 = .ok (.bipush 6, 2) := by decide +kernel
theorem dX8_copyTold_38 : decode cX8_copyTold 38 = .ok (.iload_n 2, 1) := by decide +kernel
theorem dX8_copyTold_39 : decode cX8_copyTold 39 = .ok (.imul, 1) := by decide +kernel
theorem dX8_copyTold_40 : decode cX8_copyTold 40 = .ok (.iload_n 3, 1) := by decide +kernel
theorem dX8_copyTold_41 : decode cX8_copyTold 41 = .ok (.iadd, 1) := by decide +kernel
theorem dX8_copyTold_42 : decode cX8_copyTold 42 = .ok (.aload_n 0, 1) := by decide +kernel
theorem dX8_copyTold_43 : decode cX8_copyTold 43 = .ok (.getfield 67, 3) := by decide +kernel
theorem dX8_copyTold_46 : decode cX8_copyTold 46 = .ok (.bipush 6, 2) := by decide +kernel
theorem dX8_copyTold_48 : decode cX8_copyTold 48 = .ok (.iload_n 1, 1) := by decide +kernel
theorem dX8_copyTold_49 : decode cX8_copyTold 49 = .ok (.imul, 1) := by decide +kernel
theorem dX8_copyTold_50 : decode cX8_copyTold 50 = .ok (.iload_n 3, 1) := by decide +kernel
theorem dX8_copyTold_51 : decode cX8_copyTold 51 = .ok (.iadd, 1) := by decide +kernel
theorem dX8_copyTold_52 : decode cX8_copyTold 52 = .ok (.iaload, 1) := by decide +kernel
theorem dX8_copyTold_53 : decode cX8_copyTold 53 = .ok (.iastore, 1) := by decide +kernel
theorem dX8_copyTold_54 : decode cX8_copyTold 54 = .ok (.aload_n 0, 1) := by decide +kernel
theorem dX8_copyTold_55 : decode cX8_copyTold 55 = .ok (.getfield 70, 3) := by decide +kernel
theorem dX8_copyTold_58 : decode cX8_copyTold 58 = .ok (.bipush 6, 2) := by decide +kernel
theorem dX8_copyTold_60 : decode cX8_copyTold 60 = .ok (.iload_n 2, 1) := by decide +kernel
theorem dX8_copyTold_61 : decode cX8_copyTold 61 = .ok (.imul, 1) := by decide +kernel
theorem dX8_copyTold_62 : decode cX8_copyTold 62 = .ok (.iload_n 3, 1) := by decide +kernel
theorem dX8_copyTold_63 : decode cX8_copyTold 63 = .ok (.iadd, 1) := by decide +kernel
theorem dX8_copyTold_64 : decode cX8_copyTold 64 = .ok (.aload_n 0, 1) := by decide +kernel
theorem dX8_copyTold_65 : decode cX8_copyTold 65 = .ok (.getfield 70, 3) := by decide +kernel
theorem dX8_copyTold_68 : decode cX8_copyTold 68 = .ok (.bipush 6, 2) := by decide +kernel
theorem dX8_copyTold_70 : decode cX8_copyTold 70 = .ok (.iload_n 1, 1) := by decide +kernel
theorem dX8_copyTold_71 : decode cX8_copyTold 71 = .ok (.imul, 1) := by decide +kernel
theorem dX8_copyTold_72 : decode cX8_copyTold 72 = .ok (.iload_n 3, 1) := by decide +kernel
theorem dX8_copyTold_73 : decode cX8_copyTold 73 = .ok (.iadd, 1) := by decide +kernel
theorem dX8_copyTold_74 : decode cX8_copyTold 74 = .ok (.iaload, 1) := by decide +kernel
theorem dX8_copyTold_75 : decode cX8_copyTold 75 = .ok (.iastore, 1) := by decide +kernel
theorem dX8_copyTold_76 : decode cX8_copyTold 76 = .ok (.iinc 3 1, 3) := by decide +kernel
theorem dX8_copyTold_79 : decode cX8_copyTold 79 = .ok (.goto (-53), 3) := by decide +kernel
theorem dX8_copyTold_82 : decode cX8_copyTold 82 = .ok (.iconst 0, 1) := by decide +kernel
theorem dX8_copyTold_83 : decode cX8_copyTold 83 = .ok (.istore_n 3, 1) := by decide +kernel
theorem dX8_copyTold_84 : decode cX8_copyTold 84 = .ok (.iload_n 3, 1) := by decide +kernel
theorem dX8_copyTold_85 : decode cX8_copyTold 85 = .ok (.iconst 4, 1) := by decide +kernel
theorem dX8_copyTold_86 : decode cX8_copyTold 86 = .ok (.if_icmp .ge 29, 3) := by decide +kernel
theorem dX8_copyTold_89 : decode cX8_copyTold 89 = .ok (.aload_n 0, 1) := by decide +kernel
theorem dX8_copyTold_90 : decode cX8_copyTold 90 = .ok (.getfield 76, 3) := by decide +kernel
theorem dX8_copyTold_93 : decode cX8_copyTold 93 = .ok (.iconst 4, 1) := by decide +kernel
theorem dX8_copyTold_94 : decode cX8_copyTold 94 = .ok (.iload_n 2, 1) := by decide +kernel
theorem dX8_copyTold_95 : decode cX8_copyTold 95 = .ok (.imul, 1) := by decide +kernel
theorem dX8_copyTold_96 : decode cX8_copyTold 96 = .ok (.iload_n 3, 1) := by decide +kernel
theorem dX8_copyTold_97 : decode cX8_copyTold 97 = .ok (.iadd, 1) := by decide +kernel
theorem dX8_copyTold_98 : decode cX8_copyTold 98 = .ok (.aload_n 0, 1) := by decide +kernel
theorem dX8_copyTold_99 : decode cX8_copyTold 99 = .ok (.getfield 76, 3) := by decide +kernel
theorem dX8_copyTold_102 : decode cX8_copyTold 102 = .ok (.iconst 4, 1) := by decide +kernel
theorem dX8_copyTold_103 : decode cX8_copyTold 103 = .ok (.iload_n 1, 1) := by decide +kernel
theorem dX8_copyTold_104 : decode cX8_copyTold 104 = .ok (.imul, 1) := by decide +kernel
theorem dX8_copyTold_105 : decode cX8_copyTold 105 = .ok (.iload_n 3, 1) := by decide +kernel
theorem dX8_copyTold_106 : decode cX8_copyTold 106 = .ok (.iadd, 1) := by decide +kernel
theorem dX8_copyTold_107 : decode cX8_copyTold 107 = .ok (.iaload, 1) := by decide +kernel
theorem dX8_copyTold_108 : decode cX8_copyTold 108 = .ok (.iastore, 1) := by decide +kernel
theorem dX8_copyTold_109 : decode cX8_copyTold 109 = .ok (.iinc 3 1, 3) := by decide +kernel
theorem dX8_copyTold_112 : decode cX8_copyTold 112 = .ok (.goto (-28), 3) := by decide +kernel
theorem dX8_copyTold_115 : decode cX8_copyTold 115 = .ok (.return_, 1) := by decide +kernel
theorem dX8_lay_0 : decode cX8_lay 0 = .ok (.aload_n 0, 1) := by decide +kernel
theorem dX8_lay_1 : decode cX8_lay 1 = .ok (.invokevirtual 153, 3) := by decide +kernel
theorem dX8_lay_4 : decode cX8_lay 4 = .ok (.bipush (-4), 2) := by decide +kernel
theorem dX8_lay_6 : decode cX8_lay 6 = .ok (.if_icmp .ne 12, 3) := by decide +kernel
theorem dX8_lay_9 : decode cX8_lay 9 = .ok (.aload_n 0, 1) := by decide +kernel
theorem dX8_lay_10 : decode cX8_lay 10 = .ok (.getfield 13, 3) := by decide +kernel
theorem dX8_lay_13 : decode cX8_lay 13 = .ok (.iconst 1, 1) := by decide +kernel
theorem dX8_lay_14 : decode cX8_lay 14 = .ok (.iaload, 1) := by decide +kernel
theorem dX8_lay_15 : decode cX8_lay 15 = .ok (.ifCond .ne 6, 3) := by decide +kernel
theorem dX8_lay_18 : decode cX8_lay 18 = .ok (.bipush (-2), 2) := by decide +kernel
theorem dX8_lay_20 : decode cX8_lay 20 = .ok (.ireturn, 1) := by decide +kernel
theorem dX8_lay_21 : decode cX8_lay 21 = .ok (.aload_n 0, 1) := by decide +kernel
theorem dX8_lay_22 : decode cX8_lay 22 = .ok (.getfield 13, 3) := by decide +kernel
theorem dX8_lay_25 : decode cX8_lay 25 = .ok (.iconst 0, 1) := by decide +kernel
theorem dX8_lay_26 : decode cX8_lay 26 = .ok (.aload_n 0, 1) := by decide +kernel
theorem dX8_lay_27 : decode cX8_lay 27 = .ok (.getfield 13, 3) := by decide +kernel
theorem dX8_lay_30 : decode cX8_lay 30 = .ok (.iconst 1, 1) := by decide +kernel
theorem dX8_lay_31 : decode cX8_lay 31 = .ok (.iaload, 1) := by decide +kernel
theorem dX8_lay_32 : decode cX8_lay 32 = .ok (.iastore, 1) := by decide +kernel
theorem dX8_lay_33 : decode cX8_lay 33 = .ok (.aload_n 0, 1) := by decide +kernel
theorem dX8_lay_34 : decode cX8_lay 34 = .ok (.getfield 28, 3) := by decide +kernel
theorem dX8_lay_37 : decode cX8_lay 37 = .ok (.iconst 0, 1) := by decide +kernel
theorem dX8_lay_38 : decode cX8_lay 38 = .ok (.aload_n 0, 1) := by decide +kernel
theorem dX8_lay_39 : decode cX8_lay 39 = .ok (.getfield 28, 3) := by decide +kernel
theorem dX8_lay_42 : decode cX8_lay 42 = .ok (.iconst 1, 1) := by decide +kernel
theorem dX8_lay_43 : decode cX8_lay 43 = .ok (.iaload, 1) := by decide +kernel
theorem dX8_lay_44 : decode cX8_lay 44 = .ok (.iastore, 1) := by decide +kernel
theorem dX8_lay_45 : decode cX8_lay 45 = .ok (.aload_n 0, 1) := by decide +kernel
theorem dX8_lay_46 : decode cX8_lay 46 = .ok (.getfield 37, 3) := by decide +kernel
theorem dX8_lay_49 : decode cX8_lay 49 = .ok (.iconst 0, 1) := by decide +kernel
theorem dX8_lay_50 : decode cX8_lay 50 = .ok (.aload_n 0, 1) := by decide +kernel
theorem dX8_lay_51 : decode cX8_lay 51 = .ok (.getfield 37, 3) := by decide +kernel
theorem dX8_lay_54 : decode cX8_lay 54 = .ok (.iconst 1, 1) := by decide +kernel
theorem dX8_lay_55 : decode cX8_lay 55 = .ok (.iaload, 1) := by decide +kernel
theorem dX8_lay_56 : decode cX8_lay 56 = .ok (.iastore, 1) := by decide +kernel
theorem dX8_lay_57 : decode cX8_lay 57 = .ok (.aload_n 0, 1) := by decide +kernel
theorem dX8_lay_58 : decode cX8_lay 58 = .ok (.getfield 40, 3) := by decide +kernel
theorem dX8_lay_61 : decode cX8_lay 61 = .ok (.iconst 0, 1) := by decide +kernel
theorem dX8_lay_62 : decode cX8_lay 62 = .ok (.aload_n 0, 1) := by decide +kernel
theorem dX8_lay_63 : decode cX8_lay 63 = .ok (.getfield 40, 3) := by decide +kernel
theorem dX8_lay_66 : decode cX8_lay 66 = .ok (.iconst 1, 1) := by decide +kernel
theorem dX8_lay_67 : decode cX8_lay 67 = .ok (.iaload, 1) := by decide +kernel
theorem dX8_lay_68 : decode cX8_lay 68 = .ok (.iastore, 1) := by decide +kernel
theorem dX8_lay_69 : decode cX8_lay 69 = .ok (.aload_n 0, 1) := by decide +kernel
theorem dX8_lay_70 : decode cX8_lay 70 = .ok (.getfield 43, 3) := by decide +kernel
theorem dX8_lay_73 : decode cX8_lay 73 = .ok (.iconst 0, 1) := by decide +kernel
theorem dX8_lay_74 : decode cX8_lay 74 = .ok (.aload_n 0, 1) := by decide +kernel
theorem dX8_lay_75 : decode cX8_lay 75 = .ok (.getfield 43, 3) := by decide +kernel
theorem dX8_lay_78 : decode cX8_lay 78 = .ok (.iconst 1, 1) := by decide +kernel
theorem dX8_lay_79 : decode cX8_lay 79 = .ok (.iaload, 1) := by decide +kernel
theorem dX8_lay_80 : decode cX8_lay 80 = .ok (.iastore, 1) := by decide +kernel
theorem dX8_lay_81 : decode cX8_lay 81 = .ok (.aload_n 0, 1) := by decide +kernel
theorem dX8_lay_82 : decode cX8_lay 82 = .ok (.getfield 52, 3) := by decide +kernel
theorem dX8_lay_85 : decode cX8_lay 85 = .ok (.iconst 0, 1) := by decide +kernel
theorem dX8_lay_86 : decode cX8_lay 86 = .ok (.aload_n 0, 1) := by decide +kernel
theorem dX8_lay_87 : decode cX8_lay 87 = .ok (.getfield 52, 3) := by decide +kernel
theorem dX8_lay_90 : decode cX8_lay 90 = .ok (.iconst 1, 1) := by decide +kernel
theorem dX8_lay_91 : decode cX8_lay 91 = .ok (.iaload, 1) := by decide +kernel
theorem dX8_lay_92 : decode cX8_lay 92 = .ok (.iastore, 1) := by decide +kernel
theorem dX8_lay_93 : decode cX8_lay 93 = .ok (.iconst 0, 1) := by decide +kernel
theorem dX8_lay_94 : decode cX8_lay 94 = .ok (.istore_n 1, 1) := by decide +kernel
theorem dX8_lay_95 : decode cX8_lay 95 = .ok (.iload_n 1, 1) := by decide +kernel
theorem dX8_lay_96 : decode cX8_lay 96 = .ok (.bipush 8, 2) := by decide +kernel
theorem dX8_lay_98 : decode cX8_lay 98 = .ok (.if_icmp .ge 69, 3) := by decide +kernel
theorem dX8_lay_101 : decode cX8_lay 101 = .ok (.aload_n 0, 1) := by decide +kernel
theorem dX8_lay_102 : decode cX8_lay 102 = .ok (.getfield 16, 3) := by decide +kernel
theorem dX8_lay_105 : decode cX8_lay 105 = .ok (.iload_n 1, 1) := by decide +kernel
theorem dX8_lay_106 : decode cX8_lay 106 = .ok (.aload_n 0, 1) := by decide +kernel
theorem dX8_lay_107 : decode cX8_lay 107 = .ok (.getfield 16, 3) := by decide +kernel
theorem dX8_lay_110 : decode cX8_lay 110 = .ok (.bipush 8, 2) := by decide +kernel
theorem dX8_lay_112 : decode cX8_lay 112 = .ok (.iload_n 1, 1) := by decide +kernel
theorem dX8_lay_113 : decode cX8_lay 113 = .ok (.iadd, 1) := by decide +kernel
theorem dX8_lay_114 : decode cX8_lay 114 = .ok (.iaload, 1) := by decide +kernel
