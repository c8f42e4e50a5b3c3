theorem dX3_undo_15 : decode cX3_undo 15 = .ok (.putfield 15, 3) := by decide +kernel
theorem dX3_undo_18 : decode cX3_undo 18 = .ok (.aload_n 0, 1) := by decide +kernel
theorem dX3_undo_19 : decode cX3_undo 19 = .ok (.getfield 9, 3) := by decide +kernel
theorem dX3_undo_22 : decode cX3_undo 22 = .ok (.aload_n 0, 1) := by decide +kernel
theorem dX3_undo_23 : decode cX3_undo 23 = .ok (.getfield 15, 3) := by decide +kernel
theorem dX3_undo_26 : decode cX3_undo 26 = .ok (.baload, 1) := by decide +kernel
theorem dX3_undo_27 : decode cX3_undo 27 = .ok (.ifCond .eq 20, 3) := by decide +kernel
theorem dX3_undo_30 : decode cX3_undo 30 = .ok (.aload_n 1, 1) := by decide +kernel
theorem dX3_undo_31 : decode cX3_undo 31 = .ok (.aload_n 1, 1) := by decide +kernel
theorem dX3_undo_32 : decode cX3_undo 32 = .ok (.getfield 32, 3) := by decide +kernel
theorem dX3_undo_35 : decode cX3_undo 35 = .ok (.iconst 1, 1) := by decide +kernel
theorem dX3_undo_36 : decode cX3_undo 36 = .ok (.isub, 1) := by decide +kernel
theorem dX3_undo_37 : decode cX3_undo 37 = .ok (.iconst 0, 1) := by decide +kernel
theorem dX3_undo_38 : decode cX3_undo 38 = .ok (.invokestatic 35, 3) := by decide +kernel
theorem dX3_undo_41 : decode cX3_undo 41 = .ok (.putfield 32, 3) := by decide +kernel
theorem dX3_undo_44 : decode cX3_undo 44 = .ok (.goto 17, 3) := by decide +kernel
theorem dX3_undo_47 : decode cX3_undo 47 = .ok (.aload_n 1, 1) := by decide +kernel
theorem dX3_undo_48 : decode cX3_undo 48 = .ok (.aload_n 1, 1) := by decide +kernel
theorem dX3_undo_49 : decode cX3_undo 49 = .ok (.getfield 41, 3) := by decide +kernel
theorem dX3_undo_52 : decode cX3_undo 52 = .ok (.iconst 1, 1) := by decide +kernel
theorem dX3_undo_53 : decode cX3_undo 53 = .ok (.isub, 1) := by decide +kernel
theorem dX3_undo_54 : decode cX3_undo 54 = .ok (.iconst 0, 1) := by decide +kernel
theorem dX3_undo_55 : decode cX3_undo 55 = .ok (.invokestatic 35, 3) := by decide +kernel
theorem dX3_undo_58 : decode cX3_undo 58 = .ok (.putfield 41, 3) := by decide +kernel
theorem dX3_undo_61 : decode cX3_undo 61 = .ok (.return_, 1) := by decide +kernel
theorem dX3_store_0 : decode cX3_store 0 = .ok (.aload_n 0, 1) := by decide +kernel
theorem dX3_store_1 : decode cX3_store 1 = .ok (.getfield 29, 3) := by decide +kernel
theorem dX3_store_4 : decode cX3_store 4 = .ok (.iconst 2, 1) := by decide +kernel
theorem dX3_store_5 : decode cX3_store 5 = .ok (.if_icmp .lt 5, 3) := by decide +kernel
theorem dX3_store_8 : decode cX3_store 8 = .ok (.iconst 0, 1) := by decide +kernel
theorem dX3_store_9 : decode cX3_store 9 = .ok (.ireturn, 1) := by decide +kernel
theorem dX3_store_10 : decode cX3_store 10 = .ok (.aload_n 0, 1) := by decide +kernel
theorem dX3_store_11 : decode cX3_store 11 = .ok (.aload_n 0, 1) := by decide +kernel
theorem dX3_store_12 : decode cX3_store 12 = .ok (.getfield 29, 3) := by decide +kernel
theorem dX3_store_15 : decode cX3_store 15 = .ok (.invokevirtual 44, 3) := by decide +kernel
theorem dX3_store_18 : decode cX3_store 18 = .ok (.aload_n 1, 1) := by decide +kernel
theorem dX3_store_19 : decode cX3_store 19 = .ok (.invokevirtual 48, 3) := by decide +kernel
theorem dX3_store_22 : decode cX3_store 22 = .ok (.aload_n 0, 1) := by decide +kernel
theorem dX3_store_23 : decode cX3_store 23 = .ok (.dup, 1) := by decide +kernel
theorem dX3_store_24 : decode cX3_store 24 = .ok (.getfield 29, 3) := by decide +kernel
theorem dX3_store_27 : decode cX3_store 27 = .ok (.iconst 1, 1) := by decide +kernel
theorem dX3_store_28 : decode cX3_store 28 = .ok (.iadd, 1) := by decide +kernel
theorem dX3_store_29 : decode cX3_store 29 = .ok (.putfield 29, 3) := by decide +kernel
theorem dX3_store_32 : decode cX3_store 32 = .ok (.iconst 1, 1) := by decide +kernel
theorem dX3_store_33 : decode cX3_store 33 = .ok (.ireturn, 1) := by decide +kernel
theorem dX3_restore_0 : decode cX3_restore 0 = .ok (.aload_n 0, 1) := by decide +kernel
theorem dX3_restore_1 : decode cX3_restore 1 = .ok (.getfield 29, 3) := by decide +kernel
theorem dX3_restore_4 : decode cX3_restore 4 = .ok (.ifCond .ne 5, 3) := by decide +kernel
theorem dX3_restore_7 : decode cX3_restore 7 = .ok (.iconst 0, 1) := by decide +kernel
theorem dX3_restore_8 : decode cX3_restore 8 = .ok (.ireturn, 1) := by decide +kernel
theorem dX3_restore_9 : decode cX3_restore 9 = .ok (.aload_n 0, 1) := by decide +kernel
theorem dX3_restore_10 : decode cX3_restore 10 = .ok (.dup, 1) := by decide +kernel
theorem dX3_restore_11 : decode cX3_restore 11 = .ok (.getfield 29, 3) := by decide +kernel
theorem dX3_restore_14 : decode cX3_restore 14 = .ok (.iconst 1, 1) := by decide +kernel
theorem dX3_restore_15 : decode cX3_restore 15 = .ok (.isub, 1) := by decide +kernel
theorem dX3_restore_16 : decode cX3_restore 16 = .ok (.putfield 29, 3) := by decide +kernel
theorem dX3_restore_19 : decode cX3_restore 19 = .ok (.aload_n 1, 1) := by decide +kernel
theorem dX3_restore_20 : decode cX3_restore 20 = .ok (.aload_n 0, 1) := by decide +kernel
theorem dX3_restore_21 : decode cX3_restore 21 = .ok (.aload_n 0, 1) := by decide +kernel
theorem dX3_restore_22 : decode cX3_restore 22 = .ok (.getfield 29, 3) := by decide +kernel
theorem dX3_restore_25 : decode cX3_restore 25 = .ok (.invokevirtual 44, 3) := by decide +kernel
theorem dX3_restore_28 : decode cX3_restore 28 = .ok (.invokevirtual 48, 3) := by decide +kernel
theorem dX3_restore_31 : decode cX3_restore 31 = .ok (.aload_n 0, 1) := by decide +kernel
theorem dX3_restore_32 : decode cX3_restore 32 = .ok (.iconst 0, 1) := by decide +kernel
theorem dX3_restore_33 : decode cX3_restore 33 = .ok (.putfield 15, 3) := by decide +kernel
theorem dX3_restore_36 : decode cX3_restore 36 = .ok (.iconst 1, 1) := by decide +kernel
theorem dX3_restore_37 : decode cX3_restore 37 = .ok (.ireturn, 1) := by decide +kernel
theorem dX3_placeOf_0 : decode cX3_placeOf 0 = .ok (.iload_n 1, 1) := by decide +kernel
theorem dX3_placeOf_1 : decode cX3_placeOf 1 = .ok (.ifCond .ne 10, 3) := by decide +kernel
theorem dX3_placeOf_4 : decode cX3_placeOf 4 = .ok (.aload_n 0, 1) := by decide +kernel
theorem dX3_placeOf_5 : decode cX3_placeOf 5 = .ok (.getfield 22, 3) := by decide +kernel
theorem dX3_placeOf_8 : decode cX3_placeOf 8 = .ok (.goto 7, 3) := by decide +kernel
theorem dX3_placeOf_11 : decode cX3_placeOf 11 = .ok (.aload_n 0, 1) := by decide +kernel
theorem dX3_placeOf_12 : decode cX3_placeOf 12 = .ok (.getfield 26, 3) := by decide +kernel
theorem dX3_placeOf_15 : decode cX3_placeOf 15 = .ok (.areturn, 1) := by decide +kernel
theorem dX4_init_0 : decode cX4_init 0 = .ok (.aload_n 0, 1) := by decide +kernel
theorem dX4_init_1 : decode cX4_init 1 = .ok (.invokespecial 3, 3) := by decide +kernel
theorem dX4_init_4 : decode cX4_init 4 = .ok (.aload_n 0, 1) := by decide +kernel
theorem dX4_init_5 : decode cX4_init 5 = .ok (.iconst 0, 1) := by decide +kernel
theorem dX4_init_6 : decode cX4_init 6 = .ok (.putfield 9, 3) := by decide +kernel
theorem dX4_init_9 : decode cX4_init 9 = .ok (.aload_n 0, 1) := by decide +kernel
theorem dX4_init_10 : decode cX4_init 10 = .ok (.bipush 8, 2) := by decide +kernel
theorem dX4_init_12 : decode cX4_init 12 = .ok (.newarray .int, 2) := by decide +kernel
theorem dX4_init_14 : decode cX4_init 14 = .ok (.putfield 15, 3) := by decide +kernel
theorem dX4_init_17 : decode cX4_init 17 = .ok (.aload_n 0, 1) := by decide +kernel
theorem dX4_init_18 : decode cX4_init 18 = .ok (.bipush 8, 2) := by decide +kernel
theorem dX4_init_20 : decode cX4_init 20 = .ok (.newarray .int, 2) := by decide +kernel
theorem dX4_init_22 : decode cX4_init 22 = .ok (.putfield 19, 3) := by decide +kernel
theorem dX4_init_25 : decode cX4_init 25 = .ok (.aload_n 0, 1) := by decide +kernel
theorem dX4_init_26 : decode cX4_init 26 = .ok (.bipush 8, 2) := by decide +kernel
theorem dX4_init_28 : decode cX4_init 28 = .ok (.newarray .int, 2) := by decide +kernel
theorem dX4_init_30 : decode cX4_init 30 = .ok (.putfield 22, 3) := by decide +kernel
theorem dX4_init_33 : decode cX4_init 33 = .ok (.aload_n 0, 1) := by decide +kernel
theorem dX4_init_34 : decode cX4_init 34 = .ok (.bipush 8, 2) := by decide +kernel
theorem dX4_init_36 : decode cX4_init 36 = .ok (.newarray .int, 2) := by decide +kernel
theorem dX4_init_38 : decode cX4_init 38 = .ok (.putfield 25, 3) := by decide +kernel
theorem dX4_init_41 : decode cX4_init 41 = .ok (.aload_n 0, 1) := by decide +kernel
theorem dX4_init_42 : decode cX4_init 42 = .ok (.new 28, 3) := by decide +kernel
theorem dX4_init_45 : decode cX4_init 45 = .ok (.dup, 1) := by decide +kernel
theorem dX4_init_46 : decode cX4_init 46 = .ok (.invokespecial 30, 3) := by decide +kernel
theorem dX4_init_49 : decode cX4_init 49 = .ok (.putfield 31, 3) := by decide +kernel
theorem dX4_init_52 : decode cX4_init 52 = .ok (.aload_n 0, 1) := by decide +kernel
theorem dX4_init_53 : decode cX4_init 53 = .ok (.bipush 15, 2) := by decide +kernel
theorem dX4_init_55 : decode cX4_init 55 = .ok (.putfield 35, 3) := by decide +kernel
theorem dX4_init_58 : decode cX4_init 58 = .ok (.aload_n 0, 1) := by decide +kernel
theorem dX4_init_59 : decode cX4_init 59 = .ok (.bipush 20, 2) := by decide +kernel
theorem dX4_init_61 : decode cX4_init 61 = .ok (.putfield 38, 3) := by decide +kernel
theorem dX4_init_64 : decode cX4_init 64 = .ok (.aload_n 0, 1) := by decide +kernel
theorem dX4_init_65 : decode cX4_init 65 = .ok (.sipush 240, 3) := by decide +kernel
theorem dX4_init_68 : decode cX4_init 68 = .ok (.putfield 41, 3) := by decide +kernel
theorem dX4_init_71 : decode cX4_init 71 = .ok (.aload_n 0, 1) := by decide +kernel
theorem dX4_init_72 : decode cX4_init 72 = .ok (.iconst 0, 1) := by decide +kernel
theorem dX4_init_73 : decode cX4_init 73 = .ok (.putfield 44, 3) := by decide +kernel
theorem dX4_init_76 : decode cX4_init 76 = .ok (.aload_n 0, 1) := by decide +kernel
theorem dX4_init_77 : decode cX4_init 77 = .ok (.iconst 3, 1) := by decide +kernel
theorem dX4_init_78 : decode cX4_init 78 = .ok (.newarray .int, 2) := by decide +kernel
theorem dX4_init_80 : decode cX4_init 80 = .ok (.putfield 47, 3) := by decide +kernel
theorem dX4_init_83 : decode cX4_init 83 = .ok (.aload_n 0, 1) := by decide +kernel
theorem dX4_init_84 : decode cX4_init 84 = .ok (.iconst 3, 1) := by decide +kernel
theorem dX4_init_85 : decode cX4_init 85 = .ok (.newarray .int, 2) := by decide +kernel
theorem dX4_init_87 : decode cX4_init 87 = .ok (.putfield 50, 3) := by decide +kernel
theorem dX4_init_90 : decode cX4_init 90 = .ok (.aload_n 0, 1) := by decide +kernel
theorem dX4_init_91 : decode cX4_init 91 = .ok (.iconst 4, 1) := by decide +kernel
theorem dX4_init_92 : decode cX4_init 92 = .ok (.newarray .int, 2) := by decide +kernel
theorem dX4_init_94 : decode cX4_init 94 = .ok (.putfield 53, 3) := by decide +kernel
theorem dX4_init_97 : decode cX4_init 97 = .ok (.aload_n 0, 1) := by decide +kernel
theorem dX4_init_98 : decode cX4_init 98 = .ok (.iconst 4, 1) := by decide +kernel
theorem dX4_init_99 : decode cX4_init 99 = .ok (.newarray .int, 2) := by decide +kernel
theorem dX4_init_101 : decode cX4_init 101 = .ok (.putfield 56, 3) := by decide +kernel
theorem dX4_init_104 : decode cX4_init 104 = .ok (.aload_n 0, 1) := by decide +kernel
theorem dX4_init_105 : decode cX4_init 105 = .ok (.iconst 0, 1) := by decide +kernel
theorem dX4_init_106 : decode cX4_init 106 = .ok (.putfield 59, 3) := by decide +kernel
theorem dX4_init_109 : decode cX4_init 109 = .ok (.aload_n 0, 1) := by decide +kernel
theorem dX4_init_110 : decode cX4_init 110 = .ok (.bipush 6, 2) := by decide +kernel
theorem dX4_init_112 : decode cX4_init 112 = .ok (.newarray .int, 2) := by decide +kernel
theorem dX4_init_114 : decode cX4_init 114 = .ok (.putfield 62, 3) := by decide +kernel
theorem dX4_init_117 : decode cX4_init 117 = .ok (.aload_n 0, 1) := by decide +kernel
theorem dX4_init_118 : decode cX4_init 118 = .ok (.bipush 6, 2) := by decide +kernel
theorem dX4_init_120 : decode cX4_init 120 = .ok (.newarray .int, 2) := by decide +kernel
theorem dX4_init_122 : decode cX4_init 122 = .ok (.putfield 65, 3) := by decide +kernel
theorem dX4_init_125 : decode cX4_init 125 = .ok (.aload_n 0, 1) := by decide +kernel
theorem dX4_init_126 : decode cX4_init 126 = .ok (.bipush 6, 2) := by decide +kernel
theorem dX4_init_128 : decode cX4_init 128 = .ok (.newarray .int, 2) := by decide +kernel
theorem dX4_init_130 : decode cX4_init 130 = .ok (.putfield 68, 3) := by decide +kernel
theorem dX4_init_133 : decode cX4_init 133 = .ok (.return_, 1) := by decide +kernel
theorem dX4_clear_0 : decode cX4_clear 0 = .ok (.aload_n 0, 1) := by decide +kernel
theorem dX4_clear_1 : decode cX4_clear 1 = .ok (.iconst 0, 1) := by decide +kernel
theorem dX4_clear_2 : decode cX4_clear 2 = .ok (.putfield 9, 3) := by decide +kernel
theorem dX4_clear_5 : decode cX4_clear 5 = .ok (.aload_n 0, 1) := by decide +kernel
theorem dX4_clear_6 : decode cX4_clear 6 = .ok (.getfield 31, 3) := by decide +kernel
theorem dX4_clear_9 : decode cX4_clear 9 = .ok (.invokevirtual 71, 3) := by decide +kernel
theorem dX4_clear_12 : decode cX4_clear 12 = .ok (.aload_n 0, 1) := by decide +kernel
theorem dX4_clear_13 : decode cX4_clear 13 = .ok (.bipush 15, 2) := by decide +kernel
theorem dX4_clear_15 : decode cX4_clear 15 = .ok (.putfield 35, 3) := by decide +kernel
theorem dX4_clear_18 : decode cX4_clear 18 = .ok (.aload_n 0, 1) := by decide +kernel
theorem dX4_clear_19 : decode cX4_clear 19 = .ok (.bipush 20, 2) := by decide +kernel
theorem dX4_clear_21 : decode cX4_clear 21 = .ok (.putfield 38, 3) := by decide +kernel
theorem dX4_clear_24 : decode cX4_clear 24 = .ok (.aload_n 0, 1) := by decide +kernel
theorem dX4_clear_25 : decode cX4_clear 25 = .ok (.sipush 240, 3) := by decide +kernel
theorem dX4_clear_28 : decode cX4_clear 28 = .ok (.putfield 41, 3) := by decide +kernel
theorem dX4_clear_31 : decode cX4_clear 31 = .ok (.aload_n 0, 1) := by decide +kernel
theorem dX4_clear_32 : decode cX4_clear 32 = .ok (.iconst 0, 1) := by decide +kernel
theorem dX4_clear_33 : decode cX4_clear 33 = .ok (.putfield 44, 3) := by decide +kernel
theorem dX4_clear_36 : decode cX4_clear 36 = .ok (.aload_n 0, 1) := by decide +kernel
theorem dX4_clear_37 : decode cX4_clear 37 = .ok (.getfield 53, 3) := by decide +kernel
theorem dX4_clear_40 : decode cX4_clear 40 = .ok (.iconst 0, 1) := by decide +kernel
theorem dX4_clear_41 : decode cX4_clear 41 = .ok (.invokestatic 74, 3) := by decide +kernel
theorem dX4_clear_44 : decode cX4_clear 44 = .ok (.aload_n 0, 1) := by decide +kernel
theorem dX4_clear_45 : decode cX4_clear 45 = .ok (.getfield 56, 3) := by decide +kernel
theorem dX4_clear_48 : decode cX4_clear 48 = .ok (.iconst 0, 1) := by decide +kernel
theorem dX4_clear_49 : decode cX4_clear 49 = .ok (.invokestatic 74, 3) := by decide +kernel
theorem dX4_clear_52 : decode cX4_clear 52 = .ok (.aload_n 0, 1) := by decide +kernel
theorem dX4_clear_53 : decode cX4_clear 53 = .ok (.iconst 0, 1) := by decide +kernel
theorem dX4_clear_54 : decode cX4_clear 54 = .ok (.putfield 59, 3) := by decide +kernel
theorem dX4_clear_57 : decode cX4_clear 57 = .ok (.return_, 1) := by decide +kernel
theorem dX4_addGuest_0 : decode cX4_addGuest 0 = .ok (.aload_n 0, 1) := by decide +kernel
theorem dX4_addGuest_1 : decode cX4_addGuest 1 = .ok (.getfield 9, 3) := by decide +kernel
theorem dX4_addGuest_4 : decode cX4_addGuest 4 = .ok (.bipush 8, 2) := by decide +kernel
theorem dX4_addGuest_6 : decode cX4_addGuest 6 = .ok (.if_icmp .lt 5, 3) := by decide +kernel
theorem dX4_addGuest_9 : decode cX4_addGuest 9 = .ok (.iconst 0, 1) := by decide +kernel
theorem dX4_addGuest_10 : decode cX4_addGuest 10 = .ok (.ireturn, 1) := by decide +kernel
theorem dX4_addGuest_11 : decode cX4_addGuest 11 = .ok (.aload_n 0, 1) := by decide +kernel
theorem dX4_addGuest_12 : decode cX4_addGuest 12 = .ok (.getfield 15, 3) := by decide +kernel
theorem dX4_addGuest_15 : decode cX4_addGuest 15 = .ok (.aload_n 0, 1) := by decide +kernel
theorem dX4_addGuest_16 : decode cX4_addGuest 16 = .ok (.getfield 9, 3) := by decide +kernel
theorem dX4_addGuest_19 : decode cX4_addGuest 19 = .ok (.iload_n 1, 1) := by decide +kernel
theorem dX4_addGuest_20 : decode cX4_addGuest 20 = .ok (.iastore, 1) := by decide +kernel
theorem dX4_addGuest_21 : decode cX4_addGuest 21 = .ok (.aload_n 0, 1) := by decide +kernel
theorem dX4_addGuest_22 : decode cX4_addGuest 22 = .ok (.getfield 19, 3) := by decide +kernel
theorem dX4_addGuest_25 : decode cX4_addGuest 25 = .ok (.aload_n 0, 1) := by decide +kernel
theorem dX4_addGuest_26 : decode cX4_addGuest 26 = .ok (.getfield 9, 3) := by decide +kernel
theorem dX4_addGuest_29 : decode cX4_addGuest 29 = .ok (.iload_n 2, 1) := by decide +kernel
theorem dX4_addGuest_30 : decode cX4_addGuest 30 = .ok (.iastore, 1) := by decide +kernel
theorem dX4_addGuest_31 : decode cX4_addGuest 31 = .ok (.aload_n 0, 1) := by decide +kernel
theorem dX4_addGuest_32 : decode cX4_addGuest 32 = .ok (.getfield 22, 3) := by decide +kernel
theorem dX4_addGuest_35 : decode cX4_addGuest 35 = .ok (.aload_n 0, 1) := by decide +kernel
theorem dX4_addGuest_36 : decode cX4_addGuest 36 = .ok (.getfield 9, 3) := by decide +kernel
theorem dX4_addGuest_39 : decode cX4_addGuest 39 = .ok (.iload_n 3, 1) := by decide +kernel
theorem dX4_addGuest_40 : decode cX4_addGuest 40 = .ok (.iastore, 1) := by decide +kernel
theorem dX4_addGuest_41 : decode cX4_addGuest 41 = .ok (.aload_n 0, 1) := by decide +kernel
theorem dX4_addGuest_42 : decode cX4_addGuest 42 = .ok (.getfield 25, 3) := by decide +kernel
theorem dX4_addGuest_45 : decode cX4_addGuest 45 = .ok (.aload_n 0, 1) := by decide +kernel
theorem dX4_addGuest_46 : decode cX4_addGuest 46 = .ok (.getfield 9, 3) := by decide +kernel
theorem dX4_addGuest_49 : decode cX4_addGuest 49 = .ok (.iload 4, 2) := by decide +kernel
theorem dX4_addGuest_51 : decode cX4_addGuest 51 = .ok (.iastore, 1) := by decide +kernel
theorem dX4_addGuest_52 : decode cX4_addGuest 52 = .ok (.aload_n 0, 1) := by decide +kernel
theorem dX4_addGuest_53 : decode cX4_addGuest 53 = .ok (.dup, 1) := by decide +kernel
theorem dX4_addGuest_54 : decode cX4_addGuest 54 = .ok (.getfield 9, 3) := by decide +kernel
theorem dX4_addGuest_57 : decode cX4_addGuest 57 = .ok (.iconst 1, 1) := by decide +kernel
theorem dX4_addGuest_58 : decode cX4_addGuest 58 = .ok (.iadd, 1) := by decide +kernel
theorem dX4_addGuest_59 : decode cX4_addGuest 59 = .ok (.putfield 9, 3) := by decide +kernel
theorem dX4_addGuest_62 : decode cX4_addGuest 62 = .ok (.iconst 1, 1) := by decide +kernel
theorem dX4_addGuest_63 : decode cX4_addGuest 63 = .ok (.ireturn, 1) := by decide +kernel
theorem dX4_addOffer_0 : decode cX4_addOffer 0 = .ok (.aload_n 0, 1) := by decide +kernel
theorem dX4_addOffer_1 : decode cX4_addOffer 1 = .ok (.getfield 44, 3) := by decide +kernel
theorem dX4_addOffer_4 : decode cX4_addOffer 4 = .ok (.iconst 3, 1) := by decide +kernel
theorem dX4_addOffer_5 : decode cX4_addOffer 5 = .ok (.if_icmp .lt 5, 3) := by decide +kernel
theorem dX4_addOffer_8 : decode cX4_addOffer 8 = .ok (.iconst 0, 1) := by decide +kernel
theorem dX4_addOffer_9 : decode cX4_addOffer 9 = .ok (.ireturn, 1) := by decide +kernel
theorem dX4_addOffer_10 : decode cX4_addOffer 10 = .ok (.aload_n 0, 1) := by decide +kernel
theorem dX4_addOffer_11 : decode cX4_addOffer 11 = .ok (.getfield 47, 3) := by decide +kernel
theorem dX4_addOffer_14 : decode cX4_addOffer 14 = .ok (.aload_n 0, 1) := by decide +kernel
theorem dX4_addOffer_15 : decode cX4_addOffer 15 = .ok (.getfield 44, 3) := by decide +kernel
theorem dX4_addOffer_18 : decode cX4_addOffer 18 = .ok (.iload_n 1, 1) := by decide +kernel
theorem dX4_addOffer_19 : decode cX4_addOffer 19 = .ok (.iastore, 1) := by decide +kernel
theorem dX4_addOffer_20 : decode cX4_addOffer 20 = .ok (.aload_n 0, 1) := by decide +kernel
theorem dX4_addOffer_21 : decode cX4_addOffer 21 = .ok (.getfield 50, 3) := by decide +kernel
theorem dX4_addOffer_24 : decode cX4_addOffer 24 = .ok (.aload_n 0, 1) := by decide +kernel
theorem dX4_addOffer_25 : decode cX4_addOffer 25 = .ok (.getfield 44, 3) := by decide +kernel
theorem dX4_addOffer_28 : decode cX4_addOffer 28 = .ok (.iload_n 2, 1) := by decide +kernel
theorem dX4_addOffer_29 : decode cX4_addOffer 29 = .ok (.iastore, 1) := by decide +kernel
theorem dX4_addOffer_30 : decode cX4_addOffer 30 = .ok (.aload_n 0, 1) := by decide +kernel
theorem dX4_addOffer_31 : decode cX4_addOffer 31 = .ok (.dup, 1) := by decide +kernel
theorem dX4_addOffer_32 : decode cX4_addOffer 32 = .ok (.getfield 44, 3) := by decide +kernel
theorem dX4_addOffer_35 : decode cX4_addOffer 35 = .ok (.iconst 1, 1) := by decide +kernel
theorem dX4_addOffer_36 : decode cX4_addOffer 36 = .ok (.iadd, 1) := by decide +kernel
theorem dX4_addOffer_37 : decode cX4_addOffer 37 = .ok (.putfield 44, 3) := by decide +kernel
theorem dX4_addOffer_40 : decode cX4_addOffer 40 = .ok (.iconst 1, 1) := by decide +kernel
theorem dX4_addOffer_41 : decode cX4_addOffer 41 = .ok (.ireturn, 1) := by decide +kernel
theorem dX4_addLook_0 : decode cX4_addLook 0 = .ok (.aload_n 0, 1) := by decide +kernel
theorem dX4_addLook_1 : decode cX4_addLook 1 = .ok (.getfield 59, 3) := by decide +kernel
theorem dX4_addLook_4 : decode cX4_addLook 4 = .ok (.bipush 6, 2) := by decide +kernel
theorem dX4_addLook_6 : decode cX4_addLook 6 = .ok (.if_icmp .ge 11, 3) := by decide +kernel
theorem dX4_addLook_9 : decode cX4_addLook 9 = .ok (.iload_n 1, 1) := by decide +kernel
theorem dX4_addLook_10 : decode cX4_addLook 10 = .ok (.aload_n 0, 1) := by decide +kernel
theorem dX4_addLook_11 : decode cX4_addLook 11 = .ok (.getfield 9, 3) := by decide +kernel
theorem dX4_addLook_14 : decode cX4_addLook 14 = .ok (.if_icmp .lt 5, 3) := by decide +kernel
theorem dX4_addLook_17 : decode cX4_addLook 17 = .ok (.iconst 0, 1) := by decide +kernel
theorem dX4_addLook_18 : decode cX4_addLook 18 = .ok (.ireturn, 1) := by decide +kernel
theorem dX4_addLook_19 : decode cX4_addLook 19 = .ok (.aload_n 0, 1) := by decide +kernel
theorem dX4_addLook_20 : decode cX4_addLook 20 = .ok (.getfield 62, 3) := by decide +kernel
theorem dX4_addLook_23 : decode cX4_addLook 23 = .ok (.aload_n 0, 1) := by decide +kernel
theorem dX4_addLook_24 : decode cX4_addLook 24 = .ok (.getfield 59, 3) := by decide +kernel
theorem dX4_addLook_27 : decode cX4_addLook 27 = .ok (.iload_n 1, 1) := by decide +kernel
theorem dX4_addLook_28 : decode cX4_addLook 28 = .ok (.iastore, 1) := by decide +kernel
theorem dX4_addLook_29 : decode cX4_addLook 29 = .ok (.aload_n 0, 1) := by decide +kernel
theorem dX4_addLook_30 : decode cX4_addLook 30 = .ok (.getfield 65, 3) := by decide +kernel
theorem dX4_addLook_33 : decode cX4_addLook 33 = .ok (.aload_n 0, 1) := by decide +kernel
theorem dX4_addLook_34 : decode cX4_addLook 34 = .ok (.getfield 59, 3) := by decide +kernel
theorem dX4_addLook_37 : decode cX4_addLook 37 = .ok (.iload_n 2, 1) := by decide +kernel
theorem dX4_addLook_38 : decode cX4_addLook 38 = .ok (.iastore, 1) := by decide +kernel
theorem dX4_addLook_39 : decode cX4_addLook 39 = .ok (.aload_n 0, 1) := by decide +kernel
theorem dX4_addLook_40 : decode cX4_addLook 40 = .ok (.getfield 68, 3) := by decide +kernel
theorem dX4_addLook_43 : decode cX4_addLook 43 = .ok (.aload_n 0, 1) := by decide +kernel
theorem dX4_addLook_44 : decode cX4_addLook 44 = .ok (.getfield 59, 3) := by decide +kernel
theorem dX4_addLook_47 : decode cX4_addLook 47 = .ok (.iload_n 3, 1) := by decide +kernel
theorem dX4_addLook_48 : decode cX4_addLook 48 = .ok (.iastore, 1) := by decide +kernel
theorem dX4_addLook_49 : decode cX4_addLook 49 = .ok (.aload_n 0, 1) := by decide +kernel
theorem dX4_addLook_50 : decode cX4_addLook 50 = .ok (.dup, 1) := by decide +kernel
theorem dX4_addLook_51 : decode cX4_addLook 51 = .ok (.getfield 59, 3) := by decide +kernel
theorem dX4_addLook_54 : decode cX4_addLook 54 = .ok (.iconst 1, 1) := by decide +kernel
theorem dX4_addLook_55 : decode cX4_addLook 55 = .ok (.iadd, 1) := by decide +kernel
theorem dX4_addLook_56 : decode cX4_addLook 56 = .ok (.putfield 59, 3) := by decide +kernel
theorem dX4_addLook_59 : decode cX4_addLook 59 = .ok (.iconst 1, 1) := by decide +kernel
theorem dX4_addLook_60 : decode cX4_addLook 60 = .ok (.ireturn, 1) := by decide +kernel
theorem dX4_setCustom_0 : decode cX4_setCustom 0 = .ok (.iload_n 1, 1) := by decide +kernel
theorem dX4_setCustom_1 : decode cX4_setCustom 1 = .ok (.iconst 1, 1) := by decide +kernel
theorem dX4_setCustom_2 : decode cX4_setCustom 2 = .ok (.iconst 3, 1) := by decide +kernel
theorem dX4_setCustom_3 : decode cX4_setCustom 3 = .ok (.invokestatic 80, 3) := by decide +kernel
theorem dX4_setCustom_6 : decode cX4_setCustom 6 = .ok (.ifCond .ne 5, 3) := by decide +kernel
theorem dX4_setCustom_9 : decode cX4_setCustom 9 = .ok (.iconst 0, 1) := by decide +kernel
theorem dX4_setCustom_10 : decode cX4_setCustom 10 = .ok (.ireturn, 1) := by decide +kernel
theorem dX4_setCustom_11 : decode cX4_setCustom 11 = .ok (.aload_n 0, 1) := by decide +kernel
theorem dX4_setCustom_12 : decode cX4_setCustom 12 = .ok (.getfield 53, 3) := by decide +kernel
theorem dX4_setCustom_15 : decode cX4_setCustom 15 = .ok (.iload_n 1, 1) := by decide +kernel
theorem dX4_setCustom_16 : decode cX4_setCustom 16 = .ok (.iload_n 2, 1) := by decide +kernel
theorem dX4_setCustom_17 : decode cX4_setCustom 17 = .ok (.iastore, 1) := by decide +kernel
theorem dX4_setCustom_18 : decode cX4_setCustom 18 = .ok (.aload_n 0, 1) := by decide +kernel
theorem dX4_setCustom_19 : decode cX4_setCustom 19 = .ok (.getfield 56, 3) := by decide +kernel
theorem dX4_setCustom_22 : decode cX4_setCustom 22 = .ok (.iload_n 1, 1) := by decide +kernel
theorem dX4_setCustom_23 : decode cX4_setCustom 23 = .ok (.iload_n 3, 1) := by decide +kernel
theorem dX4_setCustom_24 : decode cX4_setCustom 24 = .ok (.iastore, 1) := by decide +kernel
theorem dX4_setCustom_25 : decode cX4_setCustom 25 = .ok (.iconst 1, 1) := by decide +kernel
theorem dX4_setCustom_26 : decode cX4_setCustom 26 = .ok (.ireturn, 1) := by decide +kernel
theorem dX4_setHall_0 : decode cX4_setHall 0 = .ok (.aload_n 0, 1) := by decide +kernel
theorem dX4_setHall_1 : decode cX4_setHall 1 = .ok (.iload_n 1, 1) := by decide +kernel
theorem dX4_setHall_2 : decode cX4_setHall 2 = .ok (.putfield 35, 3) := by decide +kernel
theorem dX4_setHall_5 : decode cX4_setHall 5 = .ok (.aload_n 0, 1) := by decide +kernel
theorem dX4_setHall_6 : decode cX4_setHall 6 = .ok (.iload_n 2, 1) := by decide +kernel
theorem dX4_setHall_7 : decode cX4_setHall 7 = .ok (.putfield 38, 3) := by decide +kernel
theorem dX4_setHall_10 : decode cX4_setHall 10 = .ok (.iconst 1, 1) := by decide +kernel
theorem dX4_setHall_11 : decode cX4_setHall 11 = .ok (.ireturn, 1) := by decide +kernel
theorem dX4_setEnd_0 : decode cX4_setEnd 0 = .ok (.aload_n 0, 1) := by decide +kernel
theorem dX4_setEnd_1 : decode cX4_setEnd 1 = .ok (.iload_n 1, 1) := by decide +kernel
theorem dX4_setEnd_2 : decode cX4_setEnd 2 = .ok (.putfield 41, 3) := by decide +kernel
theorem dX4_setEnd_5 : decode cX4_setEnd 5 = .ok (.iconst 1, 1) := by decide +kernel
theorem dX4_setEnd_6 : decode cX4_setEnd 6 = .ok (.ireturn, 1) := by decide +kernel
theorem dX4_weightOfLooks_0 : decode cX4_weightOfLooks 0 = .ok (.iconst 1, 1) := by decide +kernel
theorem dX4_weightOfLooks_1 : decode cX4_weightOfLooks 1 = .ok (.istore_n 3, 1) := by decide +kernel
theorem dX4_weightOfLooks_2 : decode cX4_weightOfLooks 2 = .ok (.iconst 0, 1) := by decide +kernel
theorem dX4_weightOfLooks_3 : decode cX4_weightOfLooks 3 = .ok (.istore 4, 2) := by decide +kernel
theorem dX4_weightOfLooks_5 : decode cX4_weightOfLooks 5 = .ok (.iload 4, 2) := by decide +kernel
theorem dX4_weightOfLooks_7 : decode cX4_weightOfLooks 7 = .ok (.aload_n 0, 1) := by decide +kernel
theorem dX4_weightOfLooks_8 : decode cX4_weightOfLooks 8 = .ok (.getfield 59, 3) := by decide +kernel
theorem dX4_weightOfLooks_11 : decode cX4_weightOfLooks 11 = .ok (.if_icmp .ge 58, 3) := by decide +kernel
theorem dX4_weightOfLooks_14 : decode cX4_weightOfLooks 14 = .ok (.aload_n 0, 1) := by decide +kernel
theorem dX4_weightOfLooks_15 : decode cX4_weightOfLooks 15 = .ok (.getfield 62, 3) := by decide +kernel
theorem dX4_weightOfLooks_18 : decode cX4_weightOfLooks 18 = .ok (.iload 4, 2) := by decide +kernel
theorem dX4_weightOfLooks_20 : decode cX4_weightOfLooks 20 = .ok (.iaload, 1) := by decide +kernel
theorem dX4_weightOfLooks_21 : decode cX4_weightOfLooks 21 = .ok (.iload_n 1, 1) := by decide +kernel
theorem dX4_weightOfLooks_22 : decode cX4_weightOfLooks 22 = .ok (.if_icmp .ne 41, 3) := by decide +kernel
theorem dX4_weightOfLooks_25 : decode cX4_weightOfLooks 25 = .ok (.iload_n 3, 1) := by decide +kernel
theorem dX4_weightOfLooks_26 : decode cX4_weightOfLooks 26 = .ok (.aload_n 0, 1) := by decide +kernel
theorem dX4_weightOfLooks_27 : decode cX4_weightOfLooks 27 = .ok (.getfield 68, 3) := by decide +kernel
theorem dX4_weightOfLooks_30 : decode cX4_weightOfLooks 30 = .ok (.iload 4, 2) := by decide +kernel
theorem dX4_weightOfLooks_32 : decode cX4_weightOfLooks 32 = .ok (.iaload, 1) := by decide +kernel
theorem dX4_weightOfLooks_33 : decode cX4_weightOfLooks 33 = .ok (.iconst 1, 1) := by decide +kernel
theorem dX4_weightOfLooks_34 : decode cX4_weightOfLooks 34 = .ok (.if_icmp .ne 7, 3) := by decide +kernel
theorem dX4_weightOfLooks_37 : decode cX4_weightOfLooks 37 = .ok (.iconst 1, 1) := by decide +kernel
theorem dX4_weightOfLooks_38 : decode cX4_weightOfLooks 38 = .ok (.goto 4, 3) := by decide +kernel
theorem dX4_weightOfLooks_41 : decode cX4_weightOfLooks 41 = .ok (.iconst 0, 1) := by decide +kernel
theorem dX4_weightOfLooks_42 : decode cX4_weightOfLooks 42 = .ok (.aload_n 0, 1) := by decide +kernel
theorem dX4_weightOfLooks_43 : decode cX4_weightOfLooks 43 = .ok (.getfield 65, 3) := by decide +kernel
theorem dX4_weightOfLooks_46 : decode cX4_weightOfLooks 46 = .ok (.iload 4, 2) := by decide +kernel
theorem dX4_weightOfLooks_48 : decode cX4_weightOfLooks 48 = .ok (.iaload, 1) := by decide +kernel
theorem dX4_weightOfLooks_49 : decode cX4_weightOfLooks 49 = .ok (.iload_n 2, 1) := by decide +kernel
theorem dX4_weightOfLooks_50 : decode cX4_weightOfLooks 50 = .ok (.if_icmp .ge 7, 3) := by decide +kernel
theorem dX4_weightOfLooks_53 : decode cX4_weightOfLooks 53 = .ok (.iconst 1, 1) := by decide +kernel
theorem dX4_weightOfLooks_54 : decode cX4_weightOfLooks 54 = .ok (.goto 4, 3) := by decide +kernel
theorem dX4_weightOfLooks_57 : decode cX4_weightOfLooks 57 = .ok (.iconst 0, 1) := by decide +kernel
theorem dX4_weightOfLooks_58 : decode cX4_weightOfLooks 58 = .ok (.invokestatic 84, 3) := by decide +kernel
theorem dX4_weightOfLooks_61 : decode cX4_weightOfLooks 61 = .ok (.imul, 1) := by decide +kernel
theorem dX4_weightOfLooks_62 : decode cX4_weightOfLooks 62 = .ok (.istore_n 3, 1) := by decide +kernel
theorem dX4_weightOfLooks_63 : decode cX4_weightOfLooks 63 = .ok (.iinc 4 1, 3) := by decide +kernel
theorem dX4_weightOfLooks_66 : decode cX4_weightOfLooks 66 = .ok (.goto (-61), 3) := by decide +kernel
theorem dX4_weightOfLooks_69 : decode cX4_weightOfLooks 69 = .ok (.iload_n 3, 1) := by decide +kernel
theorem dX4_weightOfLooks_70 : decode cX4_weightOfLooks 70 = .ok (.ireturn, 1) := by decide +kernel
theorem dX4_weightOfLook_0 : decode cX4_weightOfLook 0 = .ok (.iload_n 1, 1) := by decide +kernel
theorem dX4_weightOfLook_1 : decode cX4_weightOfLook 1 = .ok (.ifCond .eq 14, 3) := by decide +kernel
theorem dX4_weightOfLook_4 : decode cX4_weightOfLook 4 = .ok (.iload_n 0, 1) := by decide +kernel
theorem dX4_weightOfLook_5 : decode cX4_weightOfLook 5 = .ok (.ifCond .eq 7, 3) := by decide +kernel
theorem dX4_weightOfLook_8 : decode cX4_weightOfLook 8 = .ok (.iconst 0, 1) := by decide +kernel
theorem dX4_weightOfLook_9 : decode cX4_weightOfLook 9 = .ok (.goto 5, 3) := by decide +kernel
theorem dX4_weightOfLook_12 : decode cX4_weightOfLook 12 = .ok (.bipush 10, 2) := by decide +kernel
theorem dX4_weightOfLook_14 : decode cX4_weightOfLook 14 = .ok (.ireturn, 1) := by decide +kernel
theorem dX4_weightOfLook_15 : decode cX4_weightOfLook 15 = .ok (.iload_n 0, 1) := by decide +kernel
theorem dX4_weightOfLook_16 : decode cX4_weightOfLook 16 = .ok (.ifCond .eq 7, 3) := by decide +kernel
theorem dX4_weightOfLook_19 : decode cX4_weightOfLook 19 = .ok (.iconst 3, 1) := by decide +kernel
theorem dX4_weightOfLook_20 : decode cX4_weightOfLook 20 = .ok (.goto 5, 3) := by decide +kernel
theorem dX4_weightOfLook_23 : decode cX4_weightOfLook 23 = .ok (.bipush 7, 2) := by decide +kernel
theorem dX4_weightOfLook_25 : decode cX4_weightOfLook 25 = .ok (.ireturn, 1) := by decide +kernel
theorem dX5_init_0 : decode cX5_init 0 = .ok (.aload_n 0, 1) := by decide +kernel
theorem dX5_init_1 : decode cX5_init 1 = .ok (.invokespecial 3, 3) := by decide +kernel
theorem dX5_init_4 : decode cX5_init 4 = .ok (.aload_n 0, 1) := by decide +kernel
theorem dX5_init_5 : decode cX5_init 5 = .ok (.iconst 4, 1) := by decide +kernel
theorem dX5_init_6 : decode cX5_init 6 = .ok (.newarray .int, 2) := by decide +kernel
theorem dX5_init_8 : decode cX5_init 8 = .ok (.putfield 11, 3) := by decide +kernel
theorem dX5_init_11 : decode cX5_init 11 = .ok (.aload_n 0, 1) := by decide +kernel
theorem dX5_init_12 : decode cX5_init 12 = .ok (.iconst 0, 1) := by decide +kernel
theorem dX5_init_13 : decode cX5_init 13 = .ok (.putfield 15, 3) := by decide +kernel
theorem dX5_init_16 : decode cX5_init 16 = .ok (.return_, 1) := by decide +kernel
theorem dX5_firstFault_0 : decode cX5_firstFault 0 = .ok (.aload_n 3, 1) := by decide +kernel
theorem dX5_firstFault_1 : decode cX5_firstFault 1 = .ok (.invokevirtual 19, 3) := by decide +kernel
theorem dX5_firstFault_4 : decode cX5_firstFault 4 = .ok (.aload_n 0, 1) := by decide +kernel
theorem dX5_firstFault_5 : decode cX5_firstFault 5 = .ok (.iconst 0, 1) := by decide +kernel
theorem dX5_firstFault_6 : decode cX5_firstFault 6 = .ok (.putfield 15, 3) := by decide +kernel
theorem dX5_firstFault_9 : decode cX5_firstFault 9 = .ok (.iconst 0, 1) := by decide +kernel
theorem dX5_firstFault_10 : decode cX5_firstFault 10 = .ok (.istore 4, 2) := by decide +kernel
theorem dX5_firstFault_12 : decode cX5_firstFault 12 = .ok (.iload 4, 2) := by decide +kernel
theorem dX5_firstFault_14 : decode cX5_firstFault 14 = .ok (.iload_n 2, 1) := by decide +kernel
theorem dX5_firstFault_15 : decode cX5_firstFault 15 = .ok (.if_icmp .gt 68, 3) := by decide +kernel
theorem dX5_firstFault_18 : decode cX5_firstFault 18 = .ok (.aload_n 0, 1) := by decide +kernel
theorem dX5_firstFault_19 : decode cX5_firstFault 19 = .ok (.getfield 15, 3) := by decide +kernel
theorem dX5_firstFault_22 : decode cX5_firstFault 22 = .ok (.iload_n 2, 1) := by decide +kernel
theorem dX5_firstFault_23 : decode cX5_firstFault 23 = .ok (.if_icmp .ge 60, 3) := by decide +kernel
theorem dX5_firstFault_26 : decode cX5_firstFault 26 = .ok (.aload_n 0, 1) := by decide +kernel
theorem dX5_firstFault_27 : decode cX5_firstFault 27 = .ok (.getfield 15, 3) := by decide +kernel
theorem dX5_firstFault_30 : decode cX5_firstFault 30 = .ok (.istore 5, 2) := by decide +kernel
theorem dX5_firstFault_32 : decode cX5_firstFault 32 = .ok (.ldc 24, 2) := by decide +kernel
theorem dX5_firstFault_34 : decode cX5_firstFault 34 = .ok (.aload_n 1, 1) := by decide +kernel
theorem dX5_firstFault_35 : decode cX5_firstFault 35 = .ok (.iload 5, 2) := by decide +kernel
theorem dX5_firstFault_37 : decode cX5_firstFault 37 = .ok (.baload, 1) := by decide +kernel
theorem dX5_firstFault_38 : decode cX5_firstFault 38 = .ok (.sipush 255, 3) := by decide +kernel
theorem dX5_firstFault_41 : decode cX5_firstFault 41 = .ok (.iand, 1) := by decide +kernel
theorem dX5_firstFault_42 : decode cX5_firstFault 42 = .ok (.i2c, 1) := by decide +kernel
theorem dX5_firstFault_43 : decode cX5_firstFault 43 = .ok (.invokevirtual 26, 3) := by decide +kernel
theorem dX5_firstFault_46 : decode cX5_firstFault 46 = .ok (.istore 6, 2) := by decide +kernel
theorem dX5_firstFault_48 : decode cX5_firstFault 48 = .ok (.iload 6, 2) := by decide +kernel
theorem dX5_firstFault_50 : decode cX5_firstFault 50 = .ok (.ifCond .lt 24, 3) := by decide +kernel
theorem dX5_firstFault_53 : decode cX5_firstFault 53 = .ok (.aload_n 0, 1) := by decide +kernel
theorem dX5_firstFault_54 : decode cX5_firstFault 54 = .ok (.aload_n 1, 1) := by decide +kernel
theorem dX5_firstFault_55 : decode cX5_firstFault 55 = .ok (.iload_n 2, 1) := by decide +kernel
theorem dX5_firstFault_56 : decode cX5_firstFault 56 = .ok (.iload 6, 2) := by decide +kernel
theorem dX5_firstFault_58 : decode cX5_firstFault 58 = .ok (.invokevirtual 32, 3) := by decide +kernel
theorem dX5_firstFault_61 : decode cX5_firstFault 61 = .ok (.ifCond .eq 13, 3) := by decide +kernel
theorem dX5_firstFault_64 : decode cX5_firstFault 64 = .ok (.aload_n 0, 1) := by decide +kernel
theorem dX5_firstFault_65 : decode cX5_firstFault 65 = .ok (.iload 6, 2) := by decide +kernel
theorem dX5_firstFault_67 : decode cX5_firstFault 67 = .ok (.aload_n 3, 1) := by decide +kernel
theorem dX5_firstFault_68 : decode cX5_firstFault 68 = .ok (.invokevirtual 36, 3) := by decide +kernel
theorem dX5_firstFault_71 : decode cX5_firstFault 71 = .ok (.ifCond .ne 6, 3) := by decide +kernel
theorem dX5_firstFault_74 : decode cX5_firstFault 74 = .ok (.iload 5, 2) := by decide +kernel
theorem dX5_firstFault_76 : decode cX5_firstFault 76 = .ok (.ireturn, 1) := by decide +kernel
theorem dX5_firstFault_77 : decode cX5_firstFault 77 = .ok (.iinc 4 1, 3) := by decide +kernel
theorem dX5_firstFault_80 : decode cX5_firstFault 80 = .ok (.goto (-68), 3) := by decide +kernel
theorem dX5_firstFault_83 : decode cX5_firstFault 83 = .ok (.bipush (-4), 2) := by decide +kernel
theorem dX5_firstFault_85 : decode cX5_firstFault 85 = .ok (.ireturn, 1) := by decide +kernel
theorem dX5_readNumbers_0 : decode cX5_readNumbers 0 = .ok (.getstatic 40, 3) := by decide +kernel
theorem dX5_readNumbers_3 : decode cX5_readNumbers 3 = .ok (.iload_n 3, 1) := by decide +kernel
theorem dX5_readNumbers_4 : decode cX5_readNumbers 4 = .ok (.iaload, 1) := by decide +kernel
theorem dX5_readNumbers_5 : decode cX5_readNumbers 5 = .ok (.istore 4, 2) := by decide +kernel
theorem dX5_readNumbers_7 : decode cX5_readNumbers 7 = .ok (.aload_n 0, 1) := by decide +kernel
theorem dX5_readNumbers_8 : decode cX5_readNumbers 8 = .ok (.dup, 1) := by decide +kernel
theorem dX5_readNumbers_9 : decode cX5_readNumbers 9 = .ok (.getfield 15, 3) := by decide +kernel
theorem dX5_readNumbers_12 : decode cX5_readNumbers 12 = .ok (.iconst 1, 1) := by decide +kernel
theorem dX5_readNumbers_13 : decode cX5_readNumbers 13 = .ok (.iadd, 1) := by decide +kernel
theorem dX5_readNumbers_14 : decode cX5_readNumbers 14 = .ok (.putfield 15, 3) := by decide +kernel
theorem dX5_readNumbers_17 : decode cX5_readNumbers 17 = .ok (.iconst 0, 1) := by decide +kernel
theorem dX5_readNumbers_18 : decode cX5_readNumbers 18 = .ok (.istore 5, 2) := by decide +kernel
theorem dX5_readNumbers_20 : decode cX5_readNumbers 20 = .ok (.iload 5, 2) := by decide +kernel
theorem dX5_readNumbers_22 : decode cX5_readNumbers 22 = .ok (.iload 4, 2) := by decide +kernel
theorem dX5_readNumbers_24 : decode cX5_readNumbers 24 = .ok (.if_icmp .ge 107, 3) := by decide +kernel
theorem dX5_readNumbers_27 : decode cX5_readNumbers 27 = .ok (.aload_n 0, 1) := by decide +kernel
theorem dX5_readNumbers_28 : decode cX5_readNumbers 28 = .ok (.aload_n 1, 1) := by decide +kernel
theorem dX5_readNumbers_29 : decode cX5_readNumbers 29 = .ok (.iload_n 2, 1) := by decide +kernel
theorem dX5_readNumbers_30 : decode cX5_readNumbers 30 = .ok (.invokevirtual 43, 3) := by decide +kernel
theorem dX5_readNumbers_33 : decode cX5_readNumbers 33 = .ok (.istore 6, 2) := by decide +kernel
theorem dX5_readNumbers_35 : decode cX5_readNumbers 35 = .ok (.iconst 4, 1) := by decide +kernel
theorem dX5_readNumbers_36 : decode cX5_readNumbers 36 = .ok (.iload_n 3, 1) := by decide +kernel
theorem dX5_readNumbers_37 : decode cX5_readNumbers 37 = .ok (.imul, 1) := by decide +kernel
theorem dX5_readNumbers_38 : decode cX5_readNumbers 38 = .ok (.iload 5, 2) := by decide +kernel
theorem dX5_readNumbers_40 : decode cX5_readNumbers 40 = .ok (.iadd, 1) := by decide +kernel
theorem dX5_readNumbers_41 : decode cX5_readNumbers 41 = .ok (.istore 7, 2) := by decide +kernel
theorem dX5_readNumbers_43 : decode cX5_readNumbers 43 = .ok (.iload 6, 2) := by decide +kernel
theorem dX5_readNumbers_45 : decode cX5_readNumbers 45 = .ok (.getstatic 47, 3) := by decide +kernel
theorem dX5_readNumbers_48 : decode cX5_readNumbers 48 = .ok (.iload 7, 2) := by decide +kernel
theorem dX5_readNumbers_50 : decode cX5_readNumbers 50 = .ok (.iaload, 1) := by decide +kernel
theorem dX5_readNumbers_51 : decode cX5_readNumbers 51 = .ok (.if_icmp .lt 14, 3) := by decide +kernel
theorem dX5_readNumbers_54 : decode cX5_readNumbers 54 = .ok (.iload 6, 2) := by decide +kernel
theorem dX5_readNumbers_56 : decode cX5_readNumbers 56 = .ok (.getstatic 50, 3) := by decide +kernel
theorem dX5_readNumbers_59 : decode cX5_readNumbers 59 = .ok (.iload 7, 2) := by decide +kernel
theorem dX5_readNumbers_61 : decode cX5_readNumbers 61 = .ok (.iaload, 1) := by decide +kernel
theorem dX5_readNumbers_62 : decode cX5_readNumbers 62 = .ok (.if_icmp .le 5, 3) := by decide +kernel
theorem dX5_readNumbers_65 : decode cX5_readNumbers 65 = .ok (.iconst 0, 1) := by decide +kernel
theorem dX5_readNumbers_66 : decode cX5_readNumbers 66 = .ok (.ireturn, 1) := by decide +kernel
theorem dX5_readNumbers_67 : decode cX5_readNumbers 67 = .ok (.aload_n 0, 1) := by decide +kernel
theorem dX5_readNumbers_68 : decode cX5_readNumbers 68 = .ok (.getfield 11, 3) := by decide +kernel
theorem dX5_readNumbers_71 : decode cX5_readNumbers 71 = .ok (.iload 5, 2) := by decide +kernel
theorem dX5_readNumbers_73 : decode cX5_readNumbers 73 = .ok (.iload 6, 2) := by decide +kernel
theorem dX5_readNumbers_75 : decode cX5_readNumbers 75 = .ok (.iastore, 1) := by decide +kernel
theorem dX5_readNumbers_76 : decode cX5_readNumbers 76 = .ok (.iload 5, 2) := by decide +kernel
theorem dX5_readNumbers_78 : decode cX5_readNumbers 78 = .ok (.iload 4, 2) := by decide +kernel
theorem dX5_readNumbers_80 : decode cX5_readNumbers 80 = .ok (.iconst 1, 1) := by decide +kernel
theorem dX5_readNumbers_81 : decode cX5_readNumbers 81 = .ok (.isub, 1) := by decide +kernel
theorem dX5_readNumbers_82 : decode cX5_readNumbers 82 = .ok (.if_icmp .ne 8, 3) := by decide +kernel
theorem dX5_readNumbers_85 : decode cX5_readNumbers 85 = .ok (.bipush 59, 2) := by decide +kernel
theorem dX5_readNumbers_87 : decode cX5_readNumbers 87 = .ok (.goto 5, 3) := by decide +kernel
theorem dX5_readNumbers_90 : decode cX5_readNumbers 90 = .ok (.bipush 44, 2) := by decide +kernel
theorem dX5_readNumbers_92 : decode cX5_readNumbers 92 = .ok (.istore 8, 2) := by decide +kernel
theorem dX5_readNumbers_94 : decode cX5_readNumbers 94 = .ok (.aload_n 0, 1) := by decide +kernel
theorem dX5_readNumbers_95 : decode cX5_readNumbers 95 = .ok (.getfield 15, 3) := by decide +kernel
theorem dX5_readNumbers_98 : decode cX5_readNumbers 98 = .ok (.iload_n 2, 1) := by decide +kernel
theorem dX5_readNumbers_99 : decode cX5_readNumbers 99 = .ok (.if_icmp .ge 14, 3) := by decide +kernel
theorem dX5_readNumbers_102 : decode cX5_readNumbers 102 = .ok (.aload_n 1, 1) := by decide +kernel
theorem dX5_readNumbers_103 : decode cX5_readNumbers 103 = .ok (.aload_n 0, 1) := by decide +kernel
theorem dX5_readNumbers_104 : decode cX5_readNumbers 104 = .ok (.getfield 15, 3) := by decide +kernel
theorem dX5_readNumbers_107 : decode cX5_readNumbers 107 = .ok (.baload, 1) := by decide +kernel
theorem dX5_readNumbers_108 : decode cX5_readNumbers 108 = .ok (.iload 8, 2) := by decide +kernel
theorem dX5_readNumbers_110 : decode cX5_readNumbers 110 = .ok (.if_icmp .eq 5, 3) := by decide +kernel
theorem dX5_readNumbers_113 : decode cX5_readNumbers 113 = .ok (.iconst 0, 1) := by decide +kernel
theorem dX5_readNumbers_114 : decode cX5_readNumbers 114 = .ok (.ireturn, 1) := by decide +kernel
theorem dX5_readNumbers_115 : decode cX5_readNumbers 115 = .ok (.aload_n 0, 1) := by decide +kernel
theorem dX5_readNumbers_116 : decode cX5_readNumbers 116 = .ok (.dup, 1) := by decide +kernel
theorem dX5_readNumbers_117 : decode cX5_readNumbers 117 = .ok (.getfield 15, 3) := by decide +kernel
theorem dX5_readNumbers_120 : decode cX5_readNumbers 120 = .ok (.iconst 1, 1) := by decide +kernel
theorem dX5_readNumbers_121 : decode cX5_readNumbers 121 = .ok (.iadd, 1) := by decide +kernel
theorem dX5_readNumbers_122 : decode cX5_readNumbers 122 = .ok (.putfield 15, 3) := by decide +kernel
theorem dX5_readNumbers_125 : decode cX5_readNumbers 125 = .ok (.iinc 5 1, 3) := by decide +kernel
theorem dX5_readNumbers_128 : decode cX5_readNumbers 128 = .ok (.goto (-108), 3) := by decide +kernel
theorem dX5_readNumbers_131 : decode cX5_readNumbers 131 = .ok (.iconst 1, 1) := by decide +kernel
theorem dX5_readNumbers_132 : decode cX5_readNumbers 132 = .ok (.ireturn, 1) := by decide +kernel
theorem dX5_readNumber_0 : decode cX5_readNumber 0 = .ok (.aload_n 0, 1) := by decide +kernel
theorem dX5_readNumber_1 : decode cX5_readNumber 1 = .ok (.getfield 15, 3) := by decide +kernel
theorem dX5_readNumber_4 : decode cX5_readNumber 4 = .ok (.istore_n 3, 1) := by decide +kernel
theorem dX5_readNumber_5 : decode cX5_readNumber 5 = .ok (.iconst 0, 1) := by decide +kernel
theorem dX5_readNumber_6 : decode cX5_readNumber 6 = .ok (.istore 4, 2) := by decide +kernel
theorem dX5_readNumber_8 : decode cX5_readNumber 8 = .ok (.aload_n 0, 1) := by decide +kernel
theorem dX5_readNumber_9 : decode cX5_readNumber 9 = .ok (.getfield 15, 3) := by decide +kernel
theorem dX5_readNumber_12 : decode cX5_readNumber 12 = .ok (.iload_n 2, 1) := by decide +kernel
theorem dX5_readNumber_13 : decode cX5_readNumber 13 = .ok (.if_icmp .ge 65, 3) := by decide +kernel
theorem dX5_readNumber_16 : decode cX5_readNumber 16 = .ok (.aload_n 0, 1) := by decide +kernel
theorem dX5_readNumber_17 : decode cX5_readNumber 17 = .ok (.getfield 15, 3) := by decide +kernel
theorem dX5_readNumber_20 : decode cX5_readNumber 20 = .ok (.iload_n 3, 1) := by decide +kernel
theorem dX5_readNumber_21 : decode cX5_readNumber 21 = .ok (.isub, 1) := by decide +kernel
theorem dX5_readNumber_22 : decode cX5_readNumber 22 = .ok (.iconst 3, 1) := by decide +kernel
theorem dX5_readNumber_23 : decode cX5_readNumber 23 = .ok (.if_icmp .ge 55, 3) := by decide +kernel
theorem dX5_readNumber_26 : decode cX5_readNumber 26 = .ok (.aload_n 1, 1) := by decide +kernel
theorem dX5_readNumber_27 : decode cX5_readNumber 27 = .ok (.aload_n 0, 1) := by decide +kernel
theorem dX5_readNumber_28 : decode cX5_readNumber 28 = .ok (.getfield 15, 3) := by decide +kernel
theorem dX5_readNumber_31 : decode cX5_readNumber 31 = .ok (.baload, 1) := by decide +kernel
theorem dX5_readNumber_32 : decode cX5_readNumber 32 = .ok (.bipush 48, 2) := by decide +kernel
theorem dX5_readNumber_34 : decode cX5_readNumber 34 = .ok (.if_icmp .lt 44, 3) := by decide +kernel
theorem dX5_readNumber_37 : decode cX5_readNumber 37 = .ok (.aload_n 1, 1) := by decide +kernel
theorem dX5_readNumber_38 : decode cX5_readNumber 38 = .ok (.aload_n 0, 1) := by decide +kernel
theorem dX5_readNumber_39 : decode cX5_readNumber 39 = .ok (.getfield 15, 3) := by decide +kernel
theorem dX5_readNumber_42 : decode cX5_readNumber 42 = .ok (.baload, 1) := by decide +kernel
theorem dX5_readNumber_43 : decode cX5_readNumber 43 = .ok (.bipush 57, 2) := by decide +kernel
theorem dX5_readNumber_45 : decode cX5_readNumber 45 = .ok (.if_icmp .gt 33, 3) := by decide +kernel
theorem dX5_readNumber_48 : decode cX5_readNumber 48 = .ok (.bipush 10, 2) := by decide +kernel
theorem dX5_readNumber_50 : decode cX5_readNumber 50 = .ok (.iload 4, 2) := by decide +kernel
theorem dX5_readNumber_52 : decode cX5_readNumber 52 = .ok (.imul, 1) := by decide +kernel
theorem dX5_readNumber_53 : decode cX5_readNumber 53 = .ok (.aload_n 1, 1) := by decide +kernel
theorem dX5_readNumber_54 : decode cX5_readNumber 54 = .ok (.aload_n 0, 1) := by decide +kernel
theorem dX5_readNumber_55 : decode cX5_readNumber 55 = .ok (.getfield 15, 3) := by decide +kernel
theorem dX5_readNumber_58 : decode cX5_readNumber 58 = .ok (.baload, 1) := by decide +kernel
theorem dX5_readNumber_59 : decode cX5_readNumber 59 = .ok (.bipush 48, 2) := by decide +kernel
theorem dX5_readNumber_61 : decode cX5_readNumber 61 = .ok (.isub, 1) := by decide +kernel
theorem dX5_readNumber_62 : decode cX5_readNumber 62 = .ok (.iadd, 1) := by decide +kernel
theorem dX5_readNumber_63 : decode cX5_readNumber 63 = .ok (.istore 4, 2) := by decide +kernel
theorem dX5_readNumber_65 : decode cX5_readNumber 65 = .ok (.aload_n 0, 1) := by decide +kernel
theorem dX5_readNumber_66 : decode cX5_readNumber 66 = .ok (.dup, 1) := by decide +kernel
theorem dX5_readNumber_67 : decode cX5_readNumber 67 = .ok (.getfield 15, 3) := by decide +kernel
theorem dX5_readNumber_70 : decode cX5_readNumber 70 = .ok (.iconst 1, 1) := by decide +kernel
theorem dX5_readNumber_71 : decode cX5_readNumber 71 = .ok (.iadd, 1) := by decide +kernel
theorem dX5_readNumber_72 : decode cX5_readNumber 72 = .ok (.putfield 15, 3) := by decide +kernel
theorem dX5_readNumber_75 : decode cX5_readNumber 75 = .ok (.goto (-67), 3) := by decide +kernel
theorem dX5_readNumber_78 : decode cX5_readNumber 78 = .ok (.aload_n 0, 1) := by decide +kernel
theorem dX5_readNumber_79 : decode cX5_readNumber 79 = .ok (.getfield 15, 3) := by decide +kernel
theorem dX5_readNumber_82 : decode cX5_readNumber 82 = .ok (.iload_n 3, 1) := by decide +kernel
theorem dX5_readNumber_83 : decode cX5_readNumber 83 = .ok (.if_icmp .ne 7, 3) := by decide +kernel
theorem dX5_readNumber_86 : decode cX5_readNumber 86 = .ok (.iconst (-1), 1) := by decide +kernel
theorem dX5_readNumber_87 : decode cX5_readNumber 87 = .ok (.goto 5, 3) := by decide +kernel
theorem dX5_readNumber_90 : decode cX5_readNumber 90 = .ok (.iload 4, 2) := by decide +kernel
theorem dX5_readNumber_92 : decode cX5_readNumber 92 = .ok (.ireturn, 1) := by decide +kernel
theorem dX5_enter_0 : decode cX5_enter 0 = .ok (.iload_n 1, 1) := by decide +kernel
theorem dX5_enter_1 : decode cX5_enter 1 = .ok (.tableswitch 201 0 7 #[47, 76, 96, 110, 127, 138, 155, 178], 47) := by decide +kernel
theorem dX5_enter_48 : decode cX5_enter 48 = .ok (.aload_n 2, 1) := by decide +kernel
theorem dX5_enter_49 : decode cX5_enter 49 = .ok (.aload_n 0, 1) := by decide +kernel
theorem dX5_enter_50 : decode cX5_enter 50 = .ok (.getfield 11, 3) := by decide +kernel
theorem dX5_enter_53 : decode cX5_enter 53 = .ok (.iconst 0, 1) := by decide +kernel
theorem dX5_enter_54 : decode cX5_enter 54 = .ok (.iaload, 1) := by decide +kernel
theorem dX5_enter_55 : decode cX5_enter 55 = .ok (.aload_n 0, 1) := by decide +kernel
theorem dX5_enter_56 : decode cX5_enter 56 = .ok (.getfield 11, 3) := by decide +kernel
theorem dX5_enter_59 : decode cX5_enter 59 = .ok (.iconst 1, 1) := by decide +kernel
theorem dX5_enter_60 : decode cX5_enter 60 = .ok (.iaload, 1) := by decide +kernel
theorem dX5_enter_61 : decode cX5_enter 61 = .ok (.aload_n 0, 1) := by decide +kernel
theorem dX5_enter_62 : decode cX5_enter 62 = .ok (.getfield 11, 3) := by decide +kernel
theorem dX5_enter_65 : decode cX5_enter 65 = .ok (.iconst 2, 1) := by decide +kernel
theorem dX5_enter_66 : decode cX5_enter 66 = .ok (.iaload, 1) := by decide +kernel
theorem dX5_enter_67 : decode cX5_enter 67 = .ok (.aload_n 0, 1) := by decide +kernel
theorem dX5_enter_68 : decode cX5_enter 68 = .ok (.getfield 11, 3) := by decide +kernel
theorem dX5_enter_71 : decode cX5_enter 71 = .ok (.iconst 3, 1) := by decide +kernel
theorem dX5_enter_72 : decode cX5_enter 72 = .ok (.iaload, 1) := by decide +kernel
theorem dX5_enter_73 : decode cX5_enter 73 = .ok (.invokevirtual 53, 3) := by decide +kernel
theorem dX5_enter_76 : decode cX5_enter 76 = .ok (.ireturn, 1) := by decide +kernel
theorem dX5_enter_77 : decode cX5_enter 77 = .ok (.aload_n 2, 1) := by decide +kernel
theorem dX5_enter_78 : decode cX5_enter 78 = .ok (.getfield 57, 3) := by decide +kernel
theorem dX5_enter_81 : decode cX5_enter 81 = .ok (.aload_n 0, 1) := by decide +kernel
theorem dX5_enter_82 : decode cX5_enter 82 = .ok (.getfield 11, 3) := by decide +kernel
theorem dX5_enter_85 : decode cX5_enter 85 = .ok (.iconst 0, 1) := by decide +kernel
theorem dX5_enter_86 : decode cX5_enter 86 = .ok (.iaload, 1) := by decide +kernel
theorem dX5_enter_87 : decode cX5_enter 87 = .ok (.aload_n 0, 1) := by decide +kernel
theorem dX5_enter_88 : decode cX5_enter 88 = .ok (.getfield 11, 3) := by decide +kernel
theorem dX5_enter_91 : decode cX5_enter 91 = .ok (.iconst 1, 1) := by decide +kernel
theorem dX5_enter_92 : decode cX5_enter 92 = .ok (.iaload, 1) := by decide +kernel
theorem dX5_enter_93 : decode cX5_enter 93 = .ok (.invokevirtual 61, 3) := by decide +kernel
theorem dX5_enter_96 : decode cX5_enter 96 = .ok (.ireturn, 1) := by decide +kernel
theorem dX5_enter_97 : decode cX5_enter 97 = .ok (.aload_n 2, 1) := by decide +kernel
theorem dX5_enter_98 : decode cX5_enter 98 = .ok (.getfield 57, 3) := by decide +kernel
theorem dX5_enter_101 : decode cX5_enter 101 = .ok (.aload_n 0, 1) := by decide +kernel
theorem dX5_enter_102 : decode cX5_enter 102 = .ok (.getfield 11, 3) := by decide +kernel
theorem dX5_enter_105 : decode cX5_enter 105 = .ok (.iconst 0, 1) := by decide +kernel
theorem dX5_enter_106 : decode cX5_enter 106 = .ok (.iaload, 1) := by decide +kernel
theorem dX5_enter_107 : decode cX5_enter 107 = .ok (.invokevirtual 67, 3) := by decide +kernel
theorem dX5_enter_110 : decode cX5_enter 110 = .ok (.ireturn, 1) := by decide +kernel
theorem dX5_enter_111 : decode cX5_enter 111 = .ok (.aload_n 2, 1) := by decide +kernel
theorem dX5_enter_112 : decode cX5_enter 112 = .ok (.aload_n 0, 1) := by decide +kernel
theorem dX5_enter_113 : decode cX5_enter 113 = .ok (.getfield 11, 3) := by decide +kernel
theorem dX5_enter_116 : decode cX5_enter 116 = .ok (.iconst 0, 1) := by decide +kernel
theorem dX5_enter_117 : decode cX5_enter 117 = .ok (.iaload, 1) := by decide +kernel
theorem dX5_enter_118 : decode cX5_enter 118 = .ok (.aload_n 0, 1) := by decide +kernel
theorem dX5_enter_119 : decode cX5_enter 119 = .ok (.getfield 11, 3) := by decide +kernel
theorem dX5_enter_122 : decode cX5_enter 122 = .ok (.iconst 1, 1) := by decide +kernel
theorem dX5_enter_123 : decode cX5_enter 123 = .ok (.iaload, 1) := by decide +kernel
theorem dX5_enter_124 : decode cX5_enter 124 = .ok (.invokevirtual 71, 3) := by decide +kernel
theorem dX5_enter_127 : decode cX5_enter 127 = .ok (.ireturn, 1) := by decide +kernel
theorem dX5_enter_128 : decode cX5_enter 128 = .ok (.aload_n 2, 1) := by decide +kernel
theorem dX5_enter_129 : decode cX5_enter 129 = .ok (.aload_n 0, 1) := by decide +kernel
theorem dX5_enter_130 : decode cX5_enter 130 = .ok (.getfield 11, 3) := by decide +kernel
theorem dX5_enter_133 : decode cX5_enter 133 = .ok (.iconst 0, 1) := by decide +kernel
theorem dX5_enter_134 : decode cX5_enter 134 = .ok (.iaload, 1) := by decide +kernel
theorem dX5_enter_135 : decode cX5_enter 135 = .ok (.invokevirtual 74, 3) := by decide +kernel
theorem dX5_enter_138 : decode cX5_enter 138 = .ok (.ireturn, 1) := by decide +kernel
theorem dX5_enter_139 : decode cX5_enter 139 = .ok (.aload_n 2, 1) := by decide +kernel
theorem dX5_enter_140 : decode cX5_enter 140 = .ok (.aload_n 0, 1) := by decide +kernel
theorem dX5_enter_141 : decode cX5_enter 141 = .ok (.getfield 11, 3) := by decide +kernel
theorem dX5_enter_144 : decode cX5_enter 144 = .ok (.iconst 0, 1) := by decide +kernel
theorem dX5_enter_145 : decode cX5_enter 145 = .ok (.iaload, 1) := by decide +kernel
theorem dX5_enter_146 : decode cX5_enter 146 = .ok (.aload_n 0, 1) := by decide +kernel
theorem dX5_enter_147 : decode cX5_enter 147 = .ok (.getfield 11, 3) := by decide +kernel
theorem dX5_enter_150 : decode cX5_enter 150 = .ok (.iconst 1, 1) := by decide +kernel
theorem dX5_enter_151 : decode cX5_enter 151 = .ok (.iaload, 1) := by decide +kernel
theorem dX5_enter_152 : decode cX5_enter 152 = .ok (.invokevirtual 77, 3) := by decide +kernel
theorem dX5_enter_155 : decode cX5_enter 155 = .ok (.ireturn, 1) := by decide +kernel
theorem dX5_enter_156 : decode cX5_enter 156 = .ok (.aload_n 2, 1) := by decide +kernel
theorem dX5_enter_157 : decode cX5_enter 157 = .ok (.aload_n 0, 1) := by decide +kernel
theorem dX5_enter_158 : decode cX5_enter 158 = .ok (.getfield 11, 3) := by decide +kernel
theorem dX5_enter_161 : decode cX5_enter 161 = .ok (.iconst 0, 1) := by decide +kernel
theorem dX5_enter_162 : decode cX5_enter 162 = .ok (.iaload, 1) := by decide +kernel
theorem dX5_enter_163 : decode cX5_enter 163 = .ok (.aload_n 0, 1) := by decide +kernel
theorem dX5_enter_164 : decode cX5_enter 164 = .ok (.getfield 11, 3) := by decide +kernel
theorem dX5_enter_167 : decode cX5_enter 167 = .ok (.iconst 1, 1) := by decide +kernel
theorem dX5_enter_168 : decode cX5_enter 168 = .ok (.iaload, 1) := by decide +kernel
theorem dX5_enter_169 : decode cX5_enter 169 = .ok (.aload_n 0, 1) := by decide +kernel
theorem dX5_enter_170 : decode cX5_enter 170 = .ok (.getfield 11, 3) := by decide +kernel
theorem dX5_enter_173 : decode cX5_enter 173 = .ok (.iconst 2, 1) := by decide +kernel
theorem dX5_enter_174 : decode cX5_enter 174 = .ok (.iaload, 1) := by decide +kernel
theorem dX5_enter_175 : decode cX5_enter 175 = .ok (.invokevirtual 80, 3) := by decide +kernel
theorem dX5_enter_178 : decode cX5_enter 178 = .ok (.ireturn, 1) := by decide +kernel
theorem dX5_enter_179 : decode cX5_enter 179 = .ok (.aload_n 2, 1) := by decide +kernel
theorem dX5_enter_180 : decode cX5_enter 180 = .ok (.aload_n 0, 1) := by decide +kernel
theorem dX5_enter_181 : decode cX5_enter 181 = .ok (.getfield 11, 3) := by decide +kernel
theorem dX5_enter_184 : decode cX5_enter 184 = .ok (.iconst 0, 1) := by decide +kernel
theorem dX5_enter_185 : decode cX5_enter 185 = .ok (.iaload, 1) := by decide +kernel
theorem dX5_enter_186 : decode cX5_enter 186 = .ok (.aload_n 0, 1) := by decide +kernel
theorem dX5_enter_187 : decode cX5_enter 187 = .ok (.getfield 11, 3) := by decide +kernel
theorem dX5_enter_190 : decode cX5_enter 190 = .ok (.iconst 1, 1) := by decide +kernel
theorem dX5_enter_191 : decode cX5_enter 191 = .ok (.iaload, 1) := by decide +kernel
theorem dX5_enter_192 : decode cX5_enter 192 = .ok (.aload_n 0, 1) := by decide +kernel
theorem dX5_enter_193 : decode cX5_enter 193 = .ok (.getfield 11, 3) := by decide +kernel
theorem dX5_enter_196 : decode cX5_enter 196 = .ok (.iconst 2, 1) := by decide +kernel
theorem dX5_enter_197 : decode cX5_enter 197 = .ok (.iaload, 1) := by decide +kernel
theorem dX5_enter_198 : decode cX5_enter 198 = .ok (.invokevirtual 84, 3) := by decide +kernel
theorem dX5_enter_201 : decode cX5_enter 201 = .ok (.ireturn, 1) := by decide +kernel
theorem dX5_enter_202 : decode cX5_enter 202 = .ok (.iconst 0, 1) := by decide +kernel
theorem dX5_enter_203 : decode cX5_enter 203 = .ok (.ireturn, 1) := by decide +kernel
theorem dX6_init_0 : decode cX6_init 0 = .ok (.aload_n 0, 1) := by decide +kernel
theorem dX6_init_1 : decode cX6_init 1 = .ok (.invokespecial 3, 3) := by decide +kernel
theorem dX6_init_4 : decode cX6_init 4 = .ok (.aload_n 0, 1) := by decide +kernel
theorem dX6_init_5 : decode cX6_init 5 = .ok (.iconst 0, 1) := by decide +kernel
theorem dX6_init_6 : decode cX6_init 6 = .ok (.putfield 9, 3) := by decide +kernel
theorem dX6_init_9 : decode cX6_init 9 = .ok (.aload_n 0, 1) := by decide +kernel
theorem dX6_init_10 : decode cX6_init 10 = .ok (.bipush 6, 2) := by decide +kernel
theorem dX6_init_12 : decode cX6_init 12 = .ok (.newarray .int, 2) := by decide +kernel
theorem dX6_init_14 : decode cX6_init 14 = .ok (.putfield 15, 3) := by decide +kernel
theorem dX6_init_17 : decode cX6_init 17 = .ok (.aload_n 0, 1) := by decide +kernel
theorem dX6_init_18 : decode cX6_init 18 = .ok (.bipush 6, 2) := by decide +kernel
theorem dX6_init_20 : decode cX6_init 20 = .ok (.newarray .int, 2) := by decide +kernel
theorem dX6_init_22 : decode cX6_init 22 = .ok (.putfield 19, 3) := by decide +kernel
theorem dX6_init_25 : decode cX6_init 25 = .ok (.aload_n 0, 1) := by decide +kernel
theorem dX6_init_26 : decode cX6_init 26 = .ok (.iconst 0, 1) := by decide +kernel
theorem dX6_init_27 : decode cX6_init 27 = .ok (.putfield 22, 3) := by decide +kernel
theorem dX6_init_30 : decode cX6_init 30 = .ok (.aload_n 0, 1) := by decide +kernel
theorem dX6_init_31 : decode cX6_init 31 = .ok (.iconst 4, 1) := by decide +kernel
theorem dX6_init_32 : decode cX6_init 32 = .ok (.newarray .int, 2) := by decide +kernel
theorem dX6_init_34 : decode cX6_init 34 = .ok (.putfield 25, 3) := by decide +kernel
theorem dX6_init_37 : decode cX6_init 37 = .ok (.return_, 1) := by decide +kernel
theorem dX6_clear_0 : decode cX6_clear 0 = .ok (.aload_n 0, 1) := by decide +kernel
theorem dX6_clear_1 : decode cX6_clear 1 = .ok (.iconst 0, 1) := by decide +kernel
theorem dX6_clear_2 : decode cX6_clear 2 = .ok (.putfield 9, 3) := by decide +kernel
theorem dX6_clear_5 : decode cX6_clear 5 = .ok (.aload_n 0, 1) := by decide +kernel
theorem dX6_clear_6 : decode cX6_clear 6 = .ok (.iconst 0, 1) := by decide +kernel
theorem dX6_clear_7 : decode cX6_clear 7 = .ok (.putfield 22, 3) := by decide +kernel
theorem dX6_clear_10 : decode cX6_clear 10 = .ok (.return_, 1) := by decide +kernel
theorem dX6_addSign_0 : decode cX6_addSign 0 = .ok (.aload_n 0, 1) := by decide +kernel
theorem dX6_addSign_1 : decode cX6_addSign 1 = .ok (.getfield 9, 3) := by decide +kernel
theorem dX6_addSign_4 : decode cX6_addSign 4 = .ok (.bipush 6, 2) := by decide +kernel
theorem dX6_addSign_6 : decode cX6_addSign 6 = .ok (.if_icmp .lt 5, 3) := by decide +kernel
theorem dX6_addSign_9 : decode cX6_addSign 9 = .ok (.iconst 0, 1) := by decide +kernel
theorem dX6_addSign_10 : decode cX6_addSign 10 = .ok (.ireturn, 1) := by decide +kernel
theorem dX6_addSign_11 : decode cX6_addSign 11 = .ok (.aload_n 0, 1) := by decide +kernel
theorem dX6_addSign_12 : decode cX6_addSign 12 = .ok (.getfield 15, 3) := by decide +kernel
theorem dX6_addSign_15 : decode cX6_addSign 15 = .ok (.aload_n 0, 1) := by decide +kernel
theorem dX6_addSign_16 : decode cX6_addSign 16 = .ok (.getfield 9, 3) := by decide +kernel
theorem dX6_addSign_19 : decode cX6_addSign 19 = .ok (.iload_n 1, 1) := by decide +kernel
theorem dX6_addSign_20 : decode cX6_addSign 20 = .ok (.iastore, 1) := by decide +kernel
theorem dX6_addSign_21 : decode cX6_addSign 21 = .ok (.aload_n 0, 1) := by decide +kernel
theorem dX6_addSign_22 : decode cX6_addSign 22 = .ok (.getfield 19, 3) := by decide +kernel
theorem dX6_addSign_25 : decode cX6_addSign 25 = .ok (.aload_n 0, 1) := by decide +kernel
theorem dX6_addSign_26 : decode cX6_addSign 26 = .ok (.getfield 9, 3) := by decide +kernel
theorem dX6_addSign_29 : decode cX6_addSign 29 = .ok (.iload_n 2, 1) := by decide +kernel
theorem dX6_addSign_30 : decode cX6_addSign 30 = .ok (.iastore, 1) := by decide +kernel
theorem dX6_addSign_31 : decode cX6_addSign 31 = .ok (.aload_n 0, 1) := by decide +kernel
theorem dX6_addSign_32 : decode cX6_addSign 32 = .ok (.dup, 1) := by decide +kernel
theorem dX6_addSign_33 : decode cX6_addSign 33 = .ok (.getfield 9, 3) := by decide +kernel
theorem dX6_addSign_36 : decode cX6_addSign 36 = .ok (.iconst 1, 1) := by decide +kernel
theorem dX6_addSign_37 : decode cX6_addSign 37 = .ok (.iadd, 1) := by decide +kernel
theorem dX6_addSign_38 : decode cX6_addSign 38 = .ok (.putfield 9, 3) := by decide +kernel
theorem dX6_addSign_41 : decode cX6_addSign 41 = .ok (.iconst 1, 1) := by decide +kernel
theorem dX6_addSign_42 : decode cX6_addSign 42 = .ok (.ireturn, 1) := by decide +kernel
theorem dX6_addWord_0 : decode cX6_addWord 0 = .ok (.aload_n 0, 1) := by decide +kernel
theorem dX6_addWord_1 : decode cX6_addWord 1 = .ok (.getfield 22, 3) := by decide +kernel
theorem dX6_addWord_4 : decode cX6_addWord 4 = .ok (.iconst 4, 1) := by decide +kernel
theorem dX6_addWord_5 : decode cX6_addWord 5 = .ok (.if_icmp .lt 5, 3) := by decide +kernel
theorem dX6_addWord_8 : decode cX6_addWord 8 = .ok (.iconst 0, 1) := by decide +kernel
theorem dX6_addWord_9 : decode cX6_addWord 9 = .ok (.ireturn, 1) := by decide +kernel
theorem dX6_addWord_10 : decode cX6_addWord 10 = .ok (.aload_n 0, 1) := by decide +kernel
theorem dX6_addWord_11 : decode cX6_addWord 11 = .ok (.getfield 25, 3) := by decide +kernel
theorem dX6_addWord_14 : decode cX6_addWord 14 = .ok (.aload_n 0, 1) := by decide +kernel
theorem dX6_addWord_15 : decode cX6_addWord 15 = .ok (.getfield 22, 3) := by decide +kernel
theorem dX6_addWord_18 : decode cX6_addWord 18 = .ok (.iload_n 1, 1) := by decide +kernel
theorem dX6_addWord_19 : decode cX6_addWord 19 = .ok (.iastore, 1) := by decide +kernel
theorem dX6_addWord_20 : decode cX6_addWord 20 = .ok (.aload_n 0, 1) := by decide +kernel
theorem dX6_addWord_21 : decode cX6_addWord 21 = .ok (.dup, 1) := by decide +kernel
theorem dX6_addWord_22 : decode cX6_addWord 22 = .ok (.getfield 22, 3) := by decide +kernel
theorem dX6_addWord_25 : decode cX6_addWord 25 = .ok (.iconst 1, 1) := by decide +kernel
theorem dX6_addWord_26 : decode cX6_addWord 26 = .ok (.iadd, 1) := by decide +kernel
theorem dX6_addWord_27 : decode cX6_addWord 27 = .ok (.putfield 22, 3) := by decide +kernel
theorem dX6_addWord_30 : decode cX6_addWord 30 = .ok (.iconst 1, 1) := by decide +kernel
theorem dX6_addWord_31 : decode cX6_addWord 31 = .ok (.ireturn, 1) := by decide +kernel
theorem dX6_copyFrom_0 : decode cX6_copyFrom 0 = .ok (.aload_n 0, 1) := by decide +kernel
theorem dX6_copyFrom_1 : decode cX6_copyFrom 1 = .ok (.aload_n 1, 1) := by decide +kernel
theorem dX6_copyFrom_2 : decode cX6_copyFrom 2 = .ok (.getfield 9, 3) := by decide +kernel
theorem dX6_copyFrom_5 : decode cX6_copyFrom 5 = .ok (.putfield 9, 3) := by decide +kernel
theorem dX6_copyFrom_8 : decode cX6_copyFrom 8 = .ok (.aload_n 0, 1) := by decide +kernel
theorem dX6_copyFrom_9 : decode cX6_copyFrom 9 = .ok (.aload_n 1, 1) := by decide +kernel
theorem dX6_copyFrom_10 : decode cX6_copyFrom 10 = .ok (.getfield 22, 3) := by decide +kernel
theorem dX6_copyFrom_13 : decode cX6_copyFrom 13 = .ok (.putfield 22, 3) := by decide +kernel
theorem dX6_copyFrom_16 : decode cX6_copyFrom 16 = .ok (.aload_n 1, 1) := by decide +kernel
theorem dX6_copyFrom_17 : decode cX6_copyFrom 17 = .ok (.getfield 15, 3) := by decide +kernel
theorem dX6_copyFrom_20 : decode cX6_copyFrom 20 = .ok (.iconst 0, 1) := by decide +kernel
theorem dX6_copyFrom_21 : decode cX6_copyFrom 21 = .ok (.aload_n 0, 1) := by decide +kernel
theorem dX6_copyFrom_22 : decode cX6_copyFrom 22 = .ok (.getfield 15, 3) := by decide +kernel
theorem dX6_copyFrom_25 : decode cX6_copyFrom 25 = .ok (.iconst 0, 1) := by decide +kernel
theorem dX6_copyFrom_26 : decode cX6_copyFrom 26 = .ok (.bipush 6, 2) := by decide +kernel
theorem dX6_copyFrom_28 : decode cX6_copyFrom 28 = .ok (.invokestatic 28, 3) := by decide +kernel
theorem dX6_copyFrom_31 : decode cX6_copyFrom 31 = .ok (.aload_n 1, 1) := by decide +kernel
theorem dX6_copyFrom_32 : decode cX6_copyFrom 32 = .ok (.getfield 19, 3) := by decide +kernel
theorem dX6_copyFrom_35 : decode cX6_copyFrom 35 = .ok (.iconst 0, 1) := by decide +kernel
theorem dX6_copyFrom_36 : decode cX6_copyFrom 36 = .ok (.aload_n 0, 1) := by decide +kernel
theorem dX6_copyFrom_37 : decode cX6_copyFrom 37 = .ok (.getfield 19, 3) := by decide +kernel
theorem dX6_copyFrom_40 : decode cX6_copyFrom 40 = .ok (.iconst 0, 1) := by decide +kernel
theorem dX6_copyFrom_41 : decode cX6_copyFrom 41 = .ok (.bipush 6, 2) := by decide +kernel
theorem dX6_copyFrom_43 : decode cX6_copyFrom 43 = .ok (.invokestatic 28, 3) := by decide +kernel
theorem dX6_copyFrom_46 : decode cX6_copyFrom 46 = .ok (.aload_n 1, 1) := by decide +kernel
theorem dX6_copyFrom_47 : decode cX6_copyFrom 47 = .ok (.getfield 25, 3) := by decide +kernel
theorem dX6_copyFrom_50 : decode cX6_copyFrom 50 = .ok (.iconst 0, 1) := by decide +kernel
theorem dX6_copyFrom_51 : decode cX6_copyFrom 51 = .ok (.aload_n 0, 1) := by decide +kernel
theorem dX6_copyFrom_52 : decode cX6_copyFrom 52 = .ok (.getfield 25, 3) := by decide +kernel
theorem dX6_copyFrom_55 : decode cX6_copyFrom 55 = .ok (.iconst 0, 1) := by decide +kernel
theorem dX6_copyFrom_56 : decode cX6_copyFrom 56 = .ok (.iconst 4, 1) := by decide +kernel
theorem dX6_copyFrom_57 : decode cX6_copyFrom 57 = .ok (.invokestatic 28, 3) := by decide +kernel
theorem dX6_copyFrom_60 : decode cX6_copyFrom 60 = .ok (.return_, 1) := by decide +kernel
theorem dX7_init_0 : decode cX7_init 0 = .ok (.aload_n 0, 1) := by decide +kernel
theorem dX7_init_1 : decode cX7_init 1 = .ok (.invokespecial 1, 3) := by decide +kernel
theorem dX7_init_4 : decode cX7_init 4 = .ok (.aload_n 0, 1) := by decide +kernel
theorem dX7_init_5 : decode cX7_init 5 = .ok (.sipush 400, 3) := by decide +kernel
theorem dX7_init_8 : decode cX7_init 8 = .ok (.newarray .byte, 2) := by decide +kernel
theorem dX7_init_10 : decode cX7_init 10 = .ok (.putfield 9, 3) := by decide +kernel
theorem dX7_init_13 : decode cX7_init 13 = .ok (.aload_n 0, 1) := by decide +kernel
theorem dX7_init_14 : decode cX7_init 14 = .ok (.iconst 0, 1) := by decide +kernel
theorem dX7_init_15 : decode cX7_init 15 = .ok (.putfield 13, 3) := by decide +kernel
theorem dX7_init_18 : decode cX7_init 18 = .ok (.aload_n 0, 1) := by decide +kernel
theorem dX7_init_19 : decode cX7_init 19 = .ok (.new 17, 3) := by decide +kernel
theorem dX7_init_22 : decode cX7_init 22 = .ok (.dup, 1) := by decide +kernel
theorem dX7_init_23 : decode cX7_init 23 = .ok (.invokespecial 19, 3) := by decide +kernel
theorem dX7_init_26 : decode cX7_init 26 = .ok (.putfield 20, 3) := by decide +kernel
theorem dX7_init_29 : decode cX7_init 29 = .ok (.aload_n 0, 1) := by decide +kernel
theorem dX7_init_30 : decode cX7_init 30 = .ok (.new 24, 3) := by decide +kernel
theorem dX7_init_33 : decode cX7_init 33 = .ok (.dup, 1) := by decide +kernel
theorem dX7_init_34 : decode cX7_init 34 = .ok (.invokespecial 26, 3) := by decide +kernel
theorem dX7_init_37 : decode cX7_init 37 = .ok (.putfield 27, 3) := by decide +kernel
theorem dX7_init_40 : decode cX7_init 40 = .ok (.aload_n 0, 1) := by decide +kernel
theorem dX7_init_41 : decode cX7_init 41 = .ok (.new 24, 3) := by decide +kernel
theorem dX7_init_44 : decode cX7_init 44 = .ok (.dup, 1) := by decide +kernel
theorem dX7_init_45 : decode cX7_init 45 = .ok (.invokespecial 26, 3) := by decide +kernel
theorem dX7_init_48 : decode cX7_init 48 = .ok (.putfield 31, 3) := by decide +kernel
theorem dX7_init_51 : decode cX7_init 51 = .ok (.aload_n 0, 1) := by decide +kernel
theorem dX7_init_52 : decode cX7_init 52 = .ok (.new 34, 3) := by decide +kernel
theorem dX7_init_55 : decode cX7_init 55 = .ok (.dup, 1) := by decide +kernel
theorem dX7_init_56 : decode cX7_init 56 = .ok (.invokespecial 36, 3) := by decide +kernel
theorem dX7_init_59 : decode cX7_init 59 = .ok (.putfield 37, 3) := by decide +kernel
theorem dX7_init_62 : decode cX7_init 62 = .ok (.aload_n 0, 1) := by decide +kernel
theorem dX7_init_63 : decode cX7_init 63 = .ok (.new 41, 3) := by decide +kernel
theorem dX7_init_66 : decode cX7_init 66 = .ok (.dup, 1) := by decide +kernel
theorem dX7_init_67 : decode cX7_init 67 = .ok (.invokespecial 43, 3) := by decide +kernel
theorem dX7_init_70 : decode cX7_init 70 = .ok (.putfield 44, 3) := by decide +kernel
theorem dX7_init_73 : decode cX7_init 73 = .ok (.aload_n 0, 1) := by decide +kernel
theorem dX7_init_74 : decode cX7_init 74 = .ok (.new 48, 3) := by decide +kernel
theorem dX7_init_77 : decode cX7_init 77 = .ok (.dup, 1) := by decide +kernel
theorem dX7_init_78 : decode cX7_init 78 = .ok (.invokespecial 50, 3) := by decide +kernel
theorem dX7_init_81 : decode cX7_init 81 = .ok (.putfield 51, 3) := by decide +kernel
theorem dX7_init_84 : decode cX7_init 84 = .ok (.aload_n 0, 1) := by decide +kernel
theorem dX7_init_85 : decode cX7_init 85 = .ok (.new 55, 3) := by decide +kernel
theorem dX7_init_88 : decode cX7_init 88 = .ok (.dup, 1) := by decide +kernel
theorem dX7_init_89 : decode cX7_init 89 = .ok (.invokespecial 57, 3) := by decide +kernel
theorem dX7_init_92 : decode cX7_init 92 = .ok (.putfield 58, 3) := by decide +kernel
theorem dX7_init_95 : decode cX7_init 95 = .ok (.aload_n 0, 1) := by decide +kernel
theorem dX7_init_96 : decode cX7_init 96 = .ok (.getfield 27, 3) := by decide +kernel
theorem dX7_init_99 : decode cX7_init 99 = .ok (.iconst 0, 1) := by decide +kernel
theorem dX7_init_100 : decode cX7_init 100 = .ok (.sipush 200, 3) := by decide +kernel
theorem dX7_init_103 : decode cX7_init 103 = .ok (.bipush 30, 2) := by decide +kernel
theorem dX7_init_105 : decode cX7_init 105 = .ok (.iconst 0, 1) := by decide +kernel
theorem dX7_init_106 : decode cX7_init 106 = .ok (.invokevirtual 62, 3) := by decide +kernel
theorem dX7_init_109 : decode cX7_init 109 = .ok (.pop, 1) := by decide +kernel
theorem dX7_init_110 : decode cX7_init 110 = .ok (.aload_n 0, 1) := by decide +kernel
theorem dX7_init_111 : decode cX7_init 111 = .ok (.getfield 27, 3) := by decide +kernel
theorem dX7_init_114 : decode cX7_init 114 = .ok (.iconst 1, 1) := by decide +kernel
theorem dX7_init_115 : decode cX7_init 115 = .ok (.sipush 210, 3) := by decide +kernel
theorem dX7_init_118 : decode cX7_init 118 = .ok (.bipush 40, 2) := by decide +kernel
theorem dX7_init_120 : decode cX7_init 120 = .ok (.iconst 0, 1) := by decide +kernel
theorem dX7_init_121 : decode cX7_init 121 = .ok (.invokevirtual 62, 3) := by decide +kernel
theorem dX7_init_124 : decode cX7_init 124 = .ok (.pop, 1) := by decide +kernel
theorem dX7_init_125 : decode cX7_init 125 = .ok (.aload_n 0, 1) := by decide +kernel
theorem dX7_init_126 : decode cX7_init 126 = .ok (.getfield 51, 3) := by decide +kernel
theorem dX7_init_129 : decode cX7_init 129 = .ok (.aload_n 0, 1) := by decide +kernel
theorem dX7_init_130 : decode cX7_init 130 = .ok (.getfield 27, 3) := by decide +kernel
theorem dX7_init_133 : decode cX7_init 133 = .ok (.invokevirtual 66, 3) := by decide +kernel
theorem dX7_init_136 : decode cX7_init 136 = .ok (.return_, 1) := by decide +kernel
theorem dX7_write_0 : decode cX7_write 0 = .ok (.iload_n 1, 1) := by decide +kernel
theorem dX7_write_1 : decode cX7_write 1 = .ok (.iconst 1, 1) := by decide +kernel
theorem dX7_write_2 : decode cX7_write 2 = .ok (.bipush 8, 2) := by decide +kernel
theorem dX7_write_4 : decode cX7_write 4 = .ok (.invokestatic 70, 3) := by decide +kernel
theorem dX7_write_7 : decode cX7_write 7 = .ok (.ifCond .ne 5, 3) := by decide +kernel
theorem dX7_write_10 : decode cX7_write 10 = .ok (.iconst (-1), 1) := by decide +kernel
theorem dX7_write_11 : decode cX7_write 11 = .ok (.ireturn, 1) := by decide +kernel
theorem dX7_write_12 : decode cX7_write 12 = .ok (.aload_n 0, 1) := by decide +kernel
theorem dX7_write_13 : decode cX7_write 13 = .ok (.getfield 13, 3) := by decide +kernel
theorem dX7_write_16 : decode cX7_write 16 = .ok (.iload_n 1, 1) := by decide +kernel
theorem dX7_write_17 : decode cX7_write 17 = .ok (.iadd, 1) := by decide +kernel
theorem dX7_write_18 : decode cX7_write 18 = .ok (.sipush 400, 3) := by decide +kernel
theorem dX7_write_21 : decode cX7_write 21 = .ok (.if_icmp .le 6, 3) := by decide +kernel
theorem dX7_write_24 : decode cX7_write 24 = .ok (.bipush (-3), 2) := by decide +kernel
theorem dX7_write_26 : decode cX7_write 26 = .ok (.ireturn, 1) := by decide +kernel
theorem dX7_write_27 : decode cX7_write 27 = .ok (.iload_n 1, 1) := by decide +kernel
theorem dX7_write_28 : decode cX7_write 28 = .ok (.iconst 1, 1) := by decide +kernel
theorem dX7_write_29 : decode cX7_write 29 = .ok (.isub, 1) := by decide +kernel
theorem dX7_write_30 : decode cX7_write 30 = .ok (.istore 4, 2) := by decide +kernel
theorem dX7_write_32 : decode cX7_write 32 = .ok (.iload 4, 2) := by decide +kernel
theorem dX7_write_34 : decode cX7_write 34 = .ok (.ifCond .lt 37, 3) := by decide +kernel
theorem dX7_write_37 : decode cX7_write 37 = .ok (.aload_n 0, 1) := by decide +kernel
theorem dX7_write_38 : decode cX7_write 38 = .ok (.getfield 9, 3) := by decide +kernel
theorem dX7_write_41 : decode cX7_write 41 = .ok (.aload_n 0, 1) := by decide +kernel
theorem dX7_write_42 : decode cX7_write 42 = .ok (.getfield 13, 3) := by decide +kernel
theorem dX7_write_45 : decode cX7_write 45 = .ok (.lload_n 2, 1) := by decide +kernel
theorem dX7_write_46 : decode cX7_write 46 = .ok (.bipush 8, 2) := by decide +kernel
theorem dX7_write_48 : decode cX7_write 48 = .ok (.iload 4, 2) := by decide +kernel
theorem dX7_write_50 : decode cX7_write 50 = .ok (.imul, 1) := by decide +kernel
theorem dX7_write_51 : decode cX7_write 51 = .ok (.lshr, 1) := by decide +kernel
theorem dX7_write_52 : decode cX7_write 52 = .ok (.l2i, 1) := by decide +kernel
theorem dX7_write_53 : decode cX7_write 53 = .ok (.i2b, 1) := by decide +kernel
theorem dX7_write_54 : decode cX7_write 54 = .ok (.bastore, 1) := by decide +kernel
theorem dX7_write_55 : decode cX7_write 55 = .ok (.aload_n 0, 1) := by decide +kernel
theorem dX7_write_56 : decode cX7_write 56 = .ok (.dup, 1) := by decide +kernel
theorem dX7_write_57 : decode cX7_write 57 = .ok (.getfield 13, 3) := by decide +kernel
theorem dX7_write_60 : decode cX7_write 60 = .ok (.iconst 1, 1) := by decide +kernel
theorem dX7_write_61 : decode cX7_write 61 = .ok (.iadd, 1) := by decide +kernel
theorem dX7_write_62 : decode cX7_write 62 = .ok (.putfield 13, 3) := by decide +kernel
theorem dX7_write_65 : decode cX7_write 65 = .ok (.iinc 4 (-1), 3) := by decide +kernel
theorem dX7_write_68 : decode cX7_write 68 = .ok (.goto (-36), 3) := by decide +kernel
theorem dX7_write_71 : decode cX7_write 71 = .ok (.aload_n 0, 1) := by decide +kernel
theorem dX7_write_72 : decode cX7_write 72 = .ok (.getfield 13, 3) := by decide +kernel
theorem dX7_write_75 : decode cX7_write 75 = .ok (.ireturn, 1) := by decide +kernel
theorem dX7_wipe_0 : decode cX7_wipe 0 = .ok (.aload_n 0, 1) := by decide +kernel
theorem dX7_wipe_1 : decode cX7_wipe 1 = .ok (.getfield 13, 3) := by decide +kernel
theorem dX7_wipe_4 : decode cX7_wipe 4 = .ok (.istore_n 1, 1) := by decide +kernel
theorem dX7_wipe_5 : decode cX7_wipe 5 = .ok (.aload_n 0, 1) := by decide +kernel
theorem dX7_wipe_6 : decode cX7_wipe 6 = .ok (.iconst 0, 1) := by decide +kernel
theorem dX7_wipe_7 : decode cX7_wipe 7 = .ok (.putfield 13, 3) := by decide +kernel
theorem dX7_wipe_10 : decode cX7_wipe 10 = .ok (.iload_n 1, 1) := by decide +kernel
theorem dX7_wipe_11 : decode cX7_wipe 11 = .ok (.ireturn, 1) := by decide +kernel
theorem dX7_fault_0 : decode cX7_fault 0 = .ok (.aload_n 0, 1) := by decide +kernel
theorem dX7_fault_1 : decode cX7_fault 1 = .ok (.getfield 20, 3) := by decide +kernel
theorem dX7_fault_4 : decode cX7_fault 4 = .ok (.aload_n 0, 1) := by decide +kernel
theorem dX7_fault_5 : decode cX7_fault 5 = .ok (.getfield 9, 3) := by decide +kernel
theorem dX7_fault_8 : decode cX7_fault 8 = .ok (.aload_n 0, 1) := by decide +kernel
theorem dX7_fault_9 : decode cX7_fault 9 = .ok (.getfield 13, 3) := by decide +kernel
theorem dX7_fault_12 : decode cX7_fault 12 = .ok (.aload_n 0, 1) := by decide +kernel
theorem dX7_fault_13 : decode cX7_fault 13 = .ok (.getfield 31, 3) := by decide +kernel
theorem dX7_fault_16 : decode cX7_fault 16 = .ok (.invokevirtual 74, 3) := by decide +kernel
theorem dX7_fault_19 : decode cX7_fault 19 = .ok (.ireturn, 1) := by decide +kernel
theorem dX7_lay_0 : decode cX7_lay 0 = .ok (.aload_n 0, 1) := by decide +kernel
theorem dX7_lay_1 : decode cX7_lay 1 = .ok (.getfield 20, 3) := by decide +kernel
theorem dX7_lay_4 : decode cX7_lay 4 = .ok (.aload_n 0, 1) := by decide +kernel
theorem dX7_lay_5 : decode cX7_lay 5 = .ok (.getfield 9, 3) := by decide +kernel
theorem dX7_lay_8 : decode cX7_lay 8 = .ok (.aload_n 0, 1) := by decide +kernel
theorem dX7_lay_9 : decode cX7_lay 9 = .ok (.getfield 13, 3) := by decide +kernel
theorem dX7_lay_12 : decode cX7_lay 12 = .ok (.aload_n 0, 1) := by decide +kernel
theorem dX7_lay_13 : decode cX7_lay 13 = .ok (.getfield 31, 3) := by decide +kernel
theorem dX7_lay_16 : decode cX7_lay 16 = .ok (.invokevirtual 74, 3) := by decide +kernel
theorem dX7_lay_19 : decode cX7_lay 19 = .ok (.bipush (-4), 2) := by decide +kernel
theorem dX7_lay_21 : decode cX7_lay 21 = .ok (.if_icmp .ne 13, 3) := by decide +kernel
theorem dX7_lay_24 : decode cX7_lay 24 = .ok (.aload_n 0, 1) := by decide +kernel
theorem dX7_lay_25 : decode cX7_lay 25 = .ok (.getfield 31, 3) := by decide +kernel
theorem dX7_lay_28 : decode cX7_lay 28 = .ok (.getfield 78, 3) := by decide +kernel
theorem dX7_lay_31 : decode cX7_lay 31 = .ok (.ifCond .ne 6, 3) := by decide +kernel
theorem dX7_lay_34 : decode cX7_lay 34 = .ok (.bipush (-2), 2) := by decide +kernel
theorem dX7_lay_36 : decode cX7_lay 36 = .ok (.ireturn, 1) := by decide +kernel
theorem dX7_lay_37 : decode cX7_lay 37 = .ok (.aload_n 0, 1) := by decide +kernel
theorem dX7_lay_38 : decode cX7_lay 38 = .ok (.getfield 27, 3) := by decide +kernel
theorem dX7_lay_41 : decode cX7_lay 41 = .ok (.astore_n 1, 1) := by decide +kernel
theorem dX7_lay_42 : decode cX7_lay 42 = .ok (.aload_n 0, 1) := by decide +kernel
theorem dX7_lay_43 : decode cX7_lay 43 = .ok (.aload_n 0, 1) := by decide +kernel
theorem dX7_lay_44 : decode cX7_lay 44 = .ok (.getfield 31, 3) := by decide +kernel
theorem dX7_lay_47 : decode cX7_lay 47 = .ok (.putfield 27, 3) := by decide +kernel
theorem dX7_lay_50 : decode cX7_lay 50 = .ok (.aload_n 0, 1) := by decide +kernel
theorem dX7_lay_51 : decode cX7_lay 51 = .ok (.aload_n 1, 1) := by decide +kernel
theorem dX7_lay_52 : decode cX7_lay 52 = .ok (.putfield 31, 3) := by decide +kernel
theorem dX7_lay_55 : decode cX7_lay 55 = .ok (.aload_n 0, 1) := by decide +kernel
theorem dX7_lay_56 : decode cX7_lay 56 = .ok (.getfield 58, 3) := by decide +kernel
theorem dX7_lay_59 : decode cX7_lay 59 = .ok (.invokevirtual 81, 3) := by decide +kernel
theorem dX7_lay_62 : decode cX7_lay 62 = .ok (.aload_n 0, 1) := by decide +kernel
theorem dX7_lay_63 : decode cX7_lay 63 = .ok (.getfield 44, 3) := by decide +kernel
theorem dX7_lay_66 : decode cX7_lay 66 = .ok (.iconst 0, 1) := by decide +kernel
theorem dX7_lay_67 : decode cX7_lay 67 = .ok (.putfield 84, 3) := by decide +kernel
theorem dX7_lay_70 : decode cX7_lay 70 = .ok (.aload_n 0, 1) := by decide +kernel
theorem dX7_lay_71 : decode cX7_lay 71 = .ok (.getfield 51, 3) := by decide +kernel
theorem dX7_lay_74 : decode cX7_lay 74 = .ok (.aload_n 0, 1) := by decide +kernel
theorem dX7_lay_75 : decode cX7_lay 75 = .ok (.getfield 27, 3) := by decide +kernel
theorem dX7_lay_78 : decode cX7_lay 78 = .ok (.invokevirtual 66, 3) := by decide +kernel
theorem dX7_lay_81 : decode cX7_lay 81 = .ok (.aload_n 0, 1) := by decide +kernel
theorem dX7_lay_82 : decode cX7_lay 82 = .ok (.getfield 27, 3) := by decide +kernel
theorem dX7_lay_85 : decode cX7_lay 85 = .ok (.getfield 78, 3) := by decide +kernel
theorem dX7_lay_88 : decode cX7_lay 88 = .ok (.ireturn, 1) := by decide +kernel
theorem dX7_guest_0 : decode cX7_guest 0 = .ok (.aload_n 0, 1) := by decide +kernel
theorem dX7_guest_1 : decode cX7_guest 1 = .ok (.iload_n 1, 1) := by decide +kernel
theorem dX7_guest_2 : decode cX7_guest 2 = .ok (.invokevirtual 88, 3) := by decide +kernel
theorem dX7_guest_5 : decode cX7_guest 5 = .ok (.ifCond .ne 5, 3) := by decide +kernel
theorem dX7_guest_8 : decode cX7_guest 8 = .ok (.iconst (-1), 1) := by decide +kernel
theorem dX7_guest_9 : decode cX7_guest 9 = .ok (.ireturn, 1) := by decide +kernel
theorem dX7_guest_10 : decode cX7_guest 10 = .ok (.iload_n 2, 1) := by decide +kernel
theorem dX7_guest_11 : decode cX7_guest 11 = .ok (.tableswitch 69 0 3 #[29, 39, 49, 59], 29) := by decide +kernel
theorem dX7_guest_40 : decode cX7_guest 40 = .ok (.aload_n 0, 1) := by decide +kernel
theorem dX7_guest_41 : decode cX7_guest 41 = .ok (.getfield 27, 3) := by decide +kernel
theorem dX7_guest_44 : decode cX7_guest 44 = .ok (.getfield 92, 3) := by decide +kernel
theorem dX7_guest_47 : decode cX7_guest 47 = .ok (.iload_n 1, 1) := by decide +kernel
theorem dX7_guest_48 : decode cX7_guest 48 = .ok (.iaload, 1) := by decide +kernel
theorem dX7_guest_49 : decode cX7_guest 49 = .ok (.ireturn, 1) := by decide +kernel
theorem dX7_guest_50 : decode cX7_guest 50 = .ok (.aload_n 0, 1) := by decide +kernel
theorem dX7_guest_51 : decode cX7_guest 51 = .ok (.getfield 27, 3) := by decide +kernel
theorem dX7_guest_54 : decode cX7_guest 54 = .ok (.getfield 96, 3) := by decide +kernel
theorem dX7_guest_57 : decode cX7_guest 57 = .ok (.iload_n 1, 1) := by decide +kernel
theorem dX7_guest_58 : decode cX7_guest 58 = .ok (.iaload, 1) := by decide +kernel
theorem dX7_guest_59 : decode cX7_guest 59 = .ok (.ireturn, 1) := by decide +kernel
theorem dX7_guest_60 : decode cX7_guest 60 = .ok (.aload_n 0, 1) := by decide +kernel
theorem dX7_guest_61 : decode cX7_guest 61 = .ok (.getfield 27, 3) := by decide +kernel
theorem dX7_guest_64 : decode cX7_guest 64 = .ok (.getfield 99, 3) := by decide +kernel
theorem dX7_guest_67 : decode cX7_guest 67 = .ok (.iload_n 1, 1) := by decide +kernel
theorem dX7_guest_68 : decode cX7_guest 68 = .ok (.iaload, 1) := by decide +kernel
theorem dX7_guest_69 : decode cX7_guest 69 = .ok (.ireturn, 1) := by decide +kernel
theorem dX7_guest_70 : decode cX7_guest 70 = .ok (.aload_n 0, 1) := by decide +kernel
theorem dX7_guest_71 : decode cX7_guest 71 = .ok (.getfield 27, 3) := by decide +kernel
theorem dX7_guest_74 : decode cX7_guest 74 = .ok (.getfield 102, 3) := by decide +kernel
theorem dX7_guest_77 : decode cX7_guest 77 = .ok (.iload_n 1, 1) := by decide +kernel
theorem dX7_guest_78 : decode cX7_guest 78 = .ok (.iaload, 1) := by decide +kernel
theorem dX7_guest_79 : decode cX7_guest 79 = .ok (.ireturn, 1) := by decide +kernel
theorem dX7_guest_80 : decode cX7_guest 80 = .ok (.iconst (-1), 1) := by decide +kernel
theorem dX7_guest_81 : decode cX7_guest 81 = .ok (.ireturn, 1) := by decide +kernel
theorem dX7_shame_0 : decode cX7_shame 0 = .ok (.aload_n 0, 1) := by decide +kernel
theorem dX7_shame_1 : decode cX7_shame 1 = .ok (.iload_n 1, 1) := by decide +kernel
theorem dX7_shame_2 : decode cX7_shame 2 = .ok (.invokevirtual 88, 3) := by decide +kernel
theorem dX7_shame_5 : decode cX7_shame 5 = .ok (.ifCond .eq 14, 3) := by decide +kernel
theorem dX7_shame_8 : decode cX7_shame 8 = .ok (.iload_n 2, 1) := by decide +kernel
theorem dX7_shame_9 : decode cX7_shame 9 = .ok (.iconst 0, 1) := by decide +kernel
theorem dX7_shame_10 : decode cX7_shame 10 = .ok (.sipush 719, 3) := by decide +kernel
theorem dX7_shame_13 : decode cX7_shame 13 = .ok (.invokestatic 70, 3) := by decide +kernel
theorem dX7_shame_16 : decode cX7_shame 16 = .ok (.ifCond .ne 5, 3) := by decide +kernel
theorem dX7_shame_19 : decode cX7_shame 19 = .ok (.iconst (-1), 1) := by decide +kernel
theorem dX7_shame_20 : decode cX7_shame 20 = .ok (.ireturn, 1) := by decide +kernel
theorem dX7_shame_21 : decode cX7_shame 21 = .ok (.aload_n 0, 1) := by decide +kernel
theorem dX7_shame_22 : decode cX7_shame 22 = .ok (.invokevirtual 105, 3) := by decide +kernel
theorem dX7_shame_25 : decode cX7_shame 25 = .ok (.aload_n 0, 1) := by decide +kernel
theorem dX7_shame_26 : decode cX7_shame 26 = .ok (.getfield 37, 3) := by decide +kernel
theorem dX7_shame_29 : decode cX7_shame 29 = .ok (.iload_n 2, 1) := by decide +kernel
theorem dX7_shame_30 : decode cX7_shame 30 = .ok (.invokevirtual 108, 3) := by decide +kernel
theorem dX7_shame_33 : decode cX7_shame 33 = .ok (.aload_n 0, 1) := by decide +kernel
theorem dX7_shame_34 : decode cX7_shame 34 = .ok (.getfield 37, 3) := by decide +kernel
theorem dX7_shame_37 : decode cX7_shame 37 = .ok (.iload_n 1, 1) := by decide +kernel
theorem dX7_shame_38 : decode cX7_shame 38 = .ok (.iload_n 2, 1) := by decide +kernel
theorem dX7_shame_39 : decode cX7_shame 39 = .ok (.invokevirtual 112, 3) := by decide +kernel
theorem dX7_shame_42 : decode cX7_shame 42 = .ok (.ireturn, 1) := by decide +kernel
theorem dX7_presses_0 : decode cX7_presses 0 = .ok (.aload_n 0, 1) := by decide +kernel
theorem dX7_presses_1 : decode cX7_presses 1 = .ok (.iload_n 1, 1) := by decide +kernel
theorem dX7_presses_2 : decode cX7_presses 2 = .ok (.invokevirtual 88, 3) := by decide +kernel
theorem dX7_presses_5 : decode cX7_presses 5 = .ok (.ifCond .eq 14, 3) := by decide +kernel
theorem dX7_presses_8 : decode cX7_presses 8 = .ok (.iload_n 2, 1) := by decide +kernel
theorem dX7_presses_9 : decode cX7_presses 9 = .ok (.iconst 0, 1) := by decide +kernel
theorem dX7_presses_10 : decode cX7_presses 10 = .ok (.sipush 719, 3) := by decide +kernel
theorem dX7_presses_13 : decode cX7_presses 13 = .ok (.invokestatic 70, 3) := by decide +kernel
theorem dX7_presses_16 : decode cX7_presses 16 = .ok (.ifCond .ne 5, 3) := by decide +kernel
theorem dX7_presses_19 : decode cX7_presses 19 = .ok (.iconst (-1), 1) := by decide +kernel
theorem dX7_presses_20 : decode cX7_presses 20 = .ok (.ireturn, 1) := by decide +kernel
theorem dX7_presses_21 : decode cX7_presses 21 = .ok (.aload_n 0, 1) := by decide +kernel
theorem dX7_presses_22 : decode cX7_presses 22 = .ok (.invokevirtual 105, 3) := by decide +kernel
theorem dX7_presses_25 : decode cX7_presses 25 = .ok (.aload_n 0, 1) := by decide +kernel
theorem dX7_presses_26 : decode cX7_presses 26 = .ok (.getfield 37, 3) := by decide +kernel
theorem dX7_presses_29 : decode cX7_presses 29 = .ok (.iload_n 2, 1) := by decide +kernel
theorem dX7_presses_30 : decode cX7_presses 30 = .ok (.invokevirtual 108, 3) := by decide +kernel
theorem dX7_presses_33 : decode cX7_presses 33 = .ok (.iload_n 2, 1) := by decide +kernel
theorem dX7_presses_34 : decode cX7_presses 34 = .ok (.aload_n 0, 1) := by decide +kernel
theorem dX7_presses_35 : decode cX7_presses 35 = .ok (.getfield 37, 3) := by decide +kernel
theorem dX7_presses_38 : decode cX7_presses 38 = .ok (.iload_n 1, 1) := by decide +kernel
theorem dX7_presses_39 : decode cX7_presses 39 = .ok (.iload_n 2, 1) := by decide +kernel
theorem dX7_presses_40 : decode cX7_presses 40 = .ok (.invokevirtual 116, 3) := by decide +kernel
theorem dX7_presses_43 : decode cX7_presses 43 = .ok (.if_icmp .lt 7, 3) := by decide +kernel
theorem dX7_presses_46 : decode cX7_presses 46 = .ok (.iconst 1, 1) := by decide +kernel
theorem dX7_presses_47 : decode cX7_presses 47 = .ok (.goto 4, 3) := by decide +kernel
theorem dX7_presses_50 : decode cX7_presses 50 = .ok (.iconst 0, 1) := by decide +kernel
theorem dX7_presses_51 : decode cX7_presses 51 = .ok (.ireturn, 1) := by decide +kernel
theorem dX7_is_0 : decode cX7_is 0 = .ok (.aload_n 0, 1) := by decide +kernel
theorem dX7_is_1 : decode cX7_is 1 = .ok (.iload_n 1, 1) := by decide +kernel
theorem dX7_is_2 : decode cX7_is 2 = .ok (.invokevirtual 88, 3) := by decide +kernel
theorem dX7_is_5 : decode cX7_is 5 = .ok (.ifCond .eq 14, 3) := by decide +kernel
theorem dX7_is_8 : decode cX7_is 8 = .ok (.iload_n 2, 1) := by decide +kernel
theorem dX7_is_9 : decode cX7_is 9 = .ok (.iconst 0, 1) := by decide +kernel
theorem dX7_is_10 : decode cX7_is 10 = .ok (.sipush 999, 3) := by decide +kernel
theorem dX7_is_13 : decode cX7_is 13 = .ok (.invokestatic 70, 3) := by decide +kernel
theorem dX7_is_16 : decode cX7_is 16 = .ok (.ifCond .ne 5, 3) := by decide +kernel
theorem dX7_is_19 : decode cX7_is 19 = .ok (.iconst (-1), 1) := by decide +kernel
theorem dX7_is_20 : decode cX7_is 20 = .ok (.ireturn, 1) := by decide +kernel
theorem dX7_is_21 : decode cX7_is 21 = .ok (.aload_n 0, 1) := by decide +kernel
theorem dX7_is_22 : decode cX7_is 22 = .ok (.invokevirtual 105, 3) := by decide +kernel
theorem dX7_is_25 : decode cX7_is 25 = .ok (.iload_n 2, 1) := by decide +kernel
theorem dX7_is_26 : decode cX7_is 26 = .ok (.aload_n 0, 1) := by decide +kernel
theorem dX7_is_27 : decode cX7_is 27 = .ok (.getfield 37, 3) := by decide +kernel
theorem dX7_is_30 : decode cX7_is 30 = .ok (.iload_n 1, 1) := by decide +kernel
theorem dX7_is_31 : decode cX7_is 31 = .ok (.invokevirtual 119, 3) := by decide +kernel
theorem dX7_is_34 : decode cX7_is 34 = .ok (.if_icmp .ge 5, 3) := by decide +kernel
theorem dX7_is_37 : decode cX7_is 37 = .ok (.iconst 0, 1) := by decide +kernel
theorem dX7_is_38 : decode cX7_is 38 = .ok (.ireturn, 1) := by decide +kernel
theorem dX7_is_39 : decode cX7_is 39 = .ok (.iload_n 2, 1) := by decide +kernel
theorem dX7_is_40 : decode cX7_is 40 = .ok (.aload_n 0, 1) := by decide +kernel
theorem dX7_is_41 : decode cX7_is 41 = .ok (.getfield 37, 3) := by decide +kernel
theorem dX7_is_44 : decode cX7_is 44 = .ok (.iload_n 1, 1) := by decide +kernel
theorem dX7_is_45 : decode cX7_is 45 = .ok (.invokevirtual 123, 3) := by decide +kernel
theorem dX7_is_48 : decode cX7_is 48 = .ok (.if_icmp .ge 7, 3) := by decide +kernel
theorem dX7_is_51 : decode cX7_is 51 = .ok (.iconst 1, 1) := by decide +kernel
theorem dX7_is_52 : decode cX7_is 52 = .ok (.goto 4, 3) := by decide +kernel
theorem dX7_is_55 : decode cX7_is 55 = .ok (.iconst 2, 1) := by decide +kernel
theorem dX7_is_56 : decode cX7_is 56 = .ok (.ireturn, 1) := by decide +kernel
theorem dX7_when_0 : decode cX7_when 0 = .ok (.aload_n 0, 1) := by decide +kernel
theorem dX7_when_1 : decode cX7_when 1 = .ok (.iload_n 1, 1) := by decide +kernel
theorem dX7_when_2 : decode cX7_when 2 = .ok (.invokevirtual 88, 3) := by decide +kernel
theorem dX7_when_5 : decode cX7_when 5 = .ok (.ifCond .eq 12, 3) := by decide +kernel
theorem dX7_when_8 : decode cX7_when 8 = .ok (.iload_n 2, 1) := by decide +kernel
theorem dX7_when_9 : decode cX7_when 9 = .ok (.iconst 0, 1) := by decide +kernel
theorem dX7_when_10 : decode cX7_when 10 = .ok (.iconst 1, 1) := by decide +kernel
theorem dX7_when_11 : decode cX7_when 11 = .ok (.invokestatic 70, 3) := by decide +kernel
theorem dX7_when_14 : decode cX7_when 14 = .ok (.ifCond .ne 5, 3) := by decide +kernel
theorem dX7_when_17 : decode cX7_when 17 = .ok (.iconst (-1), 1) := by decide +kernel
theorem dX7_when_18 : decode cX7_when 18 = .ok (.ireturn, 1) := by decide +kernel
theorem dX7_when_19 : decode cX7_when 19 = .ok (.aload_n 0, 1) := by decide +kernel
theorem dX7_when_20 : decode cX7_when 20 = .ok (.invokevirtual 105, 3) := by decide +kernel
theorem dX7_when_23 : decode cX7_when 23 = .ok (.iload_n 2, 1) := by decide +kernel
theorem dX7_when_24 : decode cX7_when 24 = .ok (.ifCond .ne 14, 3) := by decide +kernel
theorem dX7_when_27 : decode cX7_when 27 = .ok (.aload_n 0, 1) := by decide +kernel
theorem dX7_when_28 : decode cX7_when 28 = .ok (.getfield 37, 3) := by decide +kernel
theorem dX7_when_31 : decode cX7_when 31 = .ok (.iload_n 1, 1) := by decide +kernel
theorem dX7_when_32 : decode cX7_when 32 = .ok (.invokevirtual 119, 3) := by decide +kernel
theorem dX7_when_35 : decode cX7_when 35 = .ok (.goto 11, 3) := by decide +kernel
theorem dX7_when_38 : decode cX7_when 38 = .ok (.aload_n 0, 1) := by decide +kernel
theorem dX7_when_39 : decode cX7_when 39 = .ok (.getfield 37, 3) := by decide +kernel
theorem dX7_when_42 : decode cX7_when 42 = .ok (.iload_n 1, 1) := by decide +kernel
theorem dX7_when_43 : decode cX7_when 43 = .ok (.invokevirtual 123, 3) := by decide +kernel
theorem dX7_when_46 : decode cX7_when 46 = .ok (.ireturn, 1) := by decide +kernel
theorem dX7_wasted_0 : decode cX7_wasted 0 = .ok (.iload_n 1, 1) := by decide +kernel
theorem dX7_wasted_1 : decode cX7_wasted 1 = .ok (.bipush (-2), 2) := by decide +kernel
theorem dX7_wasted_3 : decode cX7_wasted 3 = .ok (.aload_n 0, 1) := by decide +kernel
theorem dX7_wasted_4 : decode cX7_wasted 4 = .ok (.getfield 27, 3) := by decide +kernel
theorem dX7_wasted_7 : decode cX7_wasted 7 = .ok (.getfield 78, 3) := by decide +kernel
theorem dX7_wasted_10 : decode cX7_wasted 10 = .ok (.iconst 1, 1) := by decide +kernel
theorem dX7_wasted_11 : decode cX7_wasted 11 = .ok (.isub, 1) := by decide +kernel
theorem dX7_wasted_12 : decode cX7_wasted 12 = .ok (.invokestatic 70, 3) := by decide +kernel
theorem dX7_wasted_15 : decode cX7_wasted 15 = .ok (.ifCond .ne 5, 3) := by decide +kernel
theorem dX7_wasted_18 : decode cX7_wasted 18 = .ok (.iconst (-1), 1) := by decide +kernel
theorem dX7_wasted_19 : decode cX7_wasted 19 = .ok (.ireturn, 1) := by decide +kernel
theorem dX7_wasted_20 : decode cX7_wasted 20 = .ok (.aload_n 0, 1) := by decide +kernel
theorem dX7_wasted_21 : decode cX7_wasted 21 = .ok (.invokevirtual 105, 3) := by decide +kernel
theorem dX7_wasted_24 : decode cX7_wasted 24 = .ok (.iload_n 1, 1) := by decide +kernel
theorem dX7_wasted_25 : decode cX7_wasted 25 = .ok (.bipush (-2), 2) := by decide +kernel
theorem dX7_wasted_27 : decode cX7_wasted 27 = .ok (.if_icmp .ne 11, 3) := by decide +kernel
theorem dX7_wasted_30 : decode cX7_wasted 30 = .ok (.aload_n 0, 1) := by decide +kernel
theorem dX7_wasted_31 : decode cX7_wasted 31 = .ok (.getfield 37, 3) := by decide +kernel
theorem dX7_wasted_34 : decode cX7_wasted 34 = .ok (.invokevirtual 126, 3) := by decide +kernel
theorem dX7_wasted_37 : decode cX7_wasted 37 = .ok (.ireturn, 1) := by decide +kernel
theorem dX7_wasted_38 : decode cX7_wasted 38 = .ok (.iload_n 1, 1) := by decide +kernel
theorem dX7_wasted_39 : decode cX7_wasted 39 = .ok (.iconst (-1), 1) := by decide +kernel
theorem dX7_wasted_40 : decode cX7_wasted 40 = .ok (.if_icmp .ne 13, 3) := by decide +kernel
theorem dX7_wasted_43 : decode cX7_wasted 43 = .ok (.aload_n 0, 1) := by decide +kernel
theorem dX7_wasted_44 : decode cX7_wasted 44 = .ok (.getfield 37, 3) := by decide +kernel
theorem dX7_wasted_47 : decode cX7_wasted 47 = .ok (.invokevirtual 130, 3) := by decide +kernel
theorem dX7_wasted_50 : decode cX7_wasted 50 = .ok (.goto 11, 3) := by decide +kernel
theorem dX7_wasted_53 : decode cX7_wasted 53 = .ok (.aload_n 0, 1) := by decide +kernel
theorem dX7_wasted_54 : decode cX7_wasted 54 = .ok (.getfield 37, 3) := by decide +kernel
theorem dX7_wasted_57 : decode cX7_wasted 57 = .ok (.iload_n 1, 1) := by decide +kernel
theorem dX7_wasted_58 : decode cX7_wasted 58 = .ok (.invokevirtual 133, 3) := by decide +kernel
theorem dX7_wasted_61 : decode cX7_wasted 61 = .ok (.ireturn, 1) := by decide +kernel
theorem dX7_frees_0 : decode cX7_frees 0 = .ok (.aload_n 0, 1) := by decide +kernel
theorem dX7_frees_1 : decode cX7_frees 1 = .ok (.iload_n 1, 1) := by decide +kernel
theorem dX7_frees_2 : decode cX7_frees 2 = .ok (.invokevirtual 88, 3) := by decide +kernel
theorem dX7_frees_5 : decode cX7_frees 5 = .ok (.ifCond .eq 14, 3) := by decide +kernel
theorem dX7_frees_8 : decode cX7_frees 8 = .ok (.iload_n 2, 1) := by decide +kernel
theorem dX7_frees_9 : decode cX7_frees 9 = .ok (.iconst 0, 1) := by decide +kernel
theorem dX7_frees_10 : decode cX7_frees 10 = .ok (.sipush 359, 3) := by decide +kernel
theorem dX7_frees_13 : decode cX7_frees 13 = .ok (.invokestatic 70, 3) := by decide +kernel
theorem dX7_frees_16 : decode cX7_frees 16 = .ok (.ifCond .ne 5, 3) := by decide +kernel
theorem dX7_frees_19 : decode cX7_frees 19 = .ok (.iconst (-1), 1) := by decide +kernel
theorem dX7_frees_20 : decode cX7_frees 20 = .ok (.ireturn, 1) := by decide +kernel
theorem dX7_frees_21 : decode cX7_frees 21 = .ok (.aload_n 0, 1) := by decide +kernel
theorem dX7_frees_22 : decode cX7_frees 22 = .ok (.invokevirtual 105, 3) := by decide +kernel
theorem dX7_frees_25 : decode cX7_frees 25 = .ok (.ldc 136, 2) := by decide +kernel
theorem dX7_frees_27 : decode cX7_frees 27 = .ok (.aload_n 0, 1) := by decide +kernel
theorem dX7_frees_28 : decode cX7_frees 28 = .ok (.getfield 37, 3) := by decide +kernel
theorem dX7_frees_31 : decode cX7_frees 31 = .ok (.invokevirtual 126, 3) := by decide +kernel
theorem dX7_frees_34 : decode cX7_frees 34 = .ok (.iadd, 1) := by decide +kernel
theorem dX7_frees_35 : decode cX7_frees 35 = .ok (.aload_n 0, 1) := by decide +kernel
theorem dX7_frees_36 : decode cX7_frees 36 = .ok (.iload_n 1, 1) := by decide +kernel
theorem dX7_frees_37 : decode cX7_frees 37 = .ok (.iload_n 2, 1) := by decide +kernel
theorem dX7_frees_38 : decode cX7_frees 38 = .ok (.invokevirtual 137, 3) := by decide +kernel
theorem dX7_frees_41 : decode cX7_frees 41 = .ok (.isub, 1) := by decide +kernel
theorem dX7_frees_42 : decode cX7_frees 42 = .ok (.ireturn, 1) := by decide +kernel
theorem dX7_madeUp_0 : decode cX7_madeUp 0 = .ok (.aload_n 0, 1) := by decide +kernel
theorem dX7_madeUp_1 : decode cX7_madeUp 1 = .ok (.iload_n 1, 1) := by decide +kernel
theorem dX7_madeUp_2 : decode cX7_madeUp 2 = .ok (.invokevirtual 88, 3) := by decide +kernel
theorem dX7_madeUp_5 : decode cX7_madeUp 5 = .ok (.ifCond .eq 12, 3) := by decide +kernel
theorem dX7_madeUp_8 : decode cX7_madeUp 8 = .ok (.iload_n 2, 1) := by decide +kernel
theorem dX7_madeUp_9 : decode cX7_madeUp 9 = .ok (.iconst 0, 1) := by decide +kernel
theorem dX7_madeUp_10 : decode cX7_madeUp 10 = .ok (.iconst 1, 1) := by decide +kernel
theorem dX7_madeUp_11 : decode cX7_madeUp 11 = .ok (.invokestatic 70, 3) := by decide +kernel
theorem dX7_madeUp_14 : decode cX7_madeUp 14 = .ok (.ifCond .ne 5, 3) := by decide +kernel
theorem dX7_madeUp_17 : decode cX7_madeUp 17 = .ok (.iconst (-1), 1) := by decide +kernel
theorem dX7_madeUp_18 : decode cX7_madeUp 18 = .ok (.ireturn, 1) := by decide +kernel
theorem dX7_madeUp_19 : decode cX7_madeUp 19 = .ok (.aload_n 0, 1) := by decide +kernel
theorem dX7_madeUp_20 : decode cX7_madeUp 20 = .ok (.invokevirtual 105, 3) := by decide +kernel
theorem dX7_madeUp_23 : decode cX7_madeUp 23 = .ok (.aload_n 0, 1) := by decide +kernel
theorem dX7_madeUp_24 : decode cX7_madeUp 24 = .ok (.getfield 37, 3) := by decide +kernel
theorem dX7_madeUp_27 : decode cX7_madeUp 27 = .ok (.invokevirtual 126, 3) := by decide +kernel
theorem dX7_madeUp_30 : decode cX7_madeUp 30 = .ok (.istore_n 3, 1) := by decide +kernel
theorem dX7_madeUp_31 : decode cX7_madeUp 31 = .ok (.iload_n 3, 1) := by decide +kernel
theorem dX7_madeUp_32 : decode cX7_madeUp 32 = .ok (.istore 4, 2) := by decide +kernel
theorem dX7_madeUp_34 : decode cX7_madeUp 34 = .ok (.bipush (-4), 2) := by decide +kernel
theorem dX7_madeUp_36 : decode cX7_madeUp 36 = .ok (.istore 5, 2) := by decide +kernel
theorem dX7_madeUp_38 : decode cX7_madeUp 38 = .ok (.iconst 0, 1) := by decide +kernel
theorem dX7_madeUp_39 : decode cX7_madeUp 39 = .ok (.istore 6, 2) := by decide +kernel
theorem dX7_madeUp_41 : decode cX7_madeUp 41 = .ok (.iload 6, 2) := by decide +kernel
theorem dX7_madeUp_43 : decode cX7_madeUp 43 = .ok (.sipush 350, 3) := by decide +kernel
theorem dX7_madeUp_46 : decode cX7_madeUp 46 = .ok (.if_icmp .gt 33, 3) := by decide +kernel
theorem dX7_madeUp_49 : decode cX7_madeUp 49 = .ok (.aload_n 0, 1) := by decide +kernel
theorem dX7_madeUp_50 : decode cX7_madeUp 50 = .ok (.iload_n 1, 1) := by decide +kernel
theorem dX7_madeUp_51 : decode cX7_madeUp 51 = .ok (.iload 6, 2) := by decide +kernel
theorem dX7_madeUp_53 : decode cX7_madeUp 53 = .ok (.invokevirtual 137, 3) := by decide +kernel
theorem dX7_madeUp_56 : decode cX7_madeUp 56 = .ok (.istore 7, 2) := by decide +kernel
theorem dX7_madeUp_58 : decode cX7_madeUp 58 = .ok (.iload 7, 2) := by decide +kernel
theorem dX7_madeUp_60 : decode cX7_madeUp 60 = .ok (.iload 4, 2) := by decide +kernel
theorem dX7_madeUp_62 : decode cX7_madeUp 62 = .ok (.if_icmp .ge 11, 3) := by decide +kernel
theorem dX7_madeUp_65 : decode cX7_madeUp 65 = .ok (.iload 7, 2) := by decide +kernel
theorem dX7_madeUp_67 : decode cX7_madeUp 67 = .ok (.istore 4, 2) := by decide +kernel
theorem dX7_madeUp_69 : decode cX7_madeUp 69 = .ok (.iload 6, 2) := by decide +kernel
theorem dX7_madeUp_71 : decode cX7_madeUp 71 = .ok (.istore 5, 2) := by decide +kernel
theorem dX7_madeUp_73 : decode cX7_madeUp 73 = .ok (.iinc 6 10, 3) := by decide +kernel
theorem dX7_madeUp_76 : decode cX7_madeUp 76 = .ok (.goto (-35), 3) := by decide +kernel
theorem dX7_madeUp_79 : decode cX7_madeUp 79 = .ok (.iload 5, 2) := by decide +kernel
theorem dX7_madeUp_81 : decode cX7_madeUp 81 = .ok (.bipush (-4), 2) := by decide +kernel
theorem dX7_madeUp_83 : decode cX7_madeUp 83 = .ok (.if_icmp .eq 7, 3) := by decide +kernel
theorem dX7_madeUp_86 : decode cX7_madeUp 86 = .ok (.iload_n 2, 1) := by decide +kernel
theorem dX7_madeUp_87 : decode cX7_madeUp 87 = .ok (.ifCond .ne 6, 3) := by decide +kernel
theorem dX7_madeUp_90 : decode cX7_madeUp 90 = .ok (.iload 5, 2) := by decide +kernel
theorem dX7_madeUp_92 : decode cX7_madeUp 92 = .ok (.ireturn, 1) := by decide +kernel
theorem dX7_madeUp_93 : decode cX7_madeUp 93 = .ok (.ldc 136, 2) := by decide +kernel
theorem dX7_madeUp_95 : decode cX7_madeUp 95 = .ok (.iload_n 3, 1) := by decide +kernel
theorem dX7_madeUp_96 : decode cX7_madeUp 96 = .ok (.iadd, 1) := by decide +kernel
theorem dX7_madeUp_97 : decode cX7_madeUp 97 = .ok (.iload 4, 2) := by decide +kernel
theorem dX7_madeUp_99 : decode cX7_madeUp 99 = .ok (.isub, 1) := by decide +kernel
theorem dX7_madeUp_100 : decode cX7_madeUp 100 = .ok (.ireturn, 1) := by decide +kernel
theorem dX7_bell_0 : decode cX7_bell 0 = .ok (.iload_n 1, 1) := by decide +kernel
theorem dX7_bell_1 : decode cX7_bell 1 = .ok (.iconst 0, 1) := by decide +kernel
theorem dX7_bell_2 : decode cX7_bell 2 = .ok (.sipush 719, 3) := by decide +kernel
theorem dX7_bell_5 : decode cX7_bell 5 = .ok (.invokestatic 70, 3) := by decide +kernel
theorem dX7_bell_8 : decode cX7_bell 8 = .ok (.ifCond .ne 5, 3) := by decide +kernel
theorem dX7_bell_11 : decode cX7_bell 11 = .ok (.iconst (-1), 1) := by decide +kernel
theorem dX7_bell_12 : decode cX7_bell 12 = .ok (.ireturn, 1) := by decide +kernel
theorem dX7_bell_13 : decode cX7_bell 13 = .ok (.aload_n 0, 1) := by decide +kernel
theorem dX7_bell_14 : decode cX7_bell 14 = .ok (.iload_n 1, 1) := by decide +kernel
theorem dX7_bell_15 : decode cX7_bell 15 = .ok (.invokevirtual 140, 3) := by decide +kernel
theorem dX7_bell_18 : decode cX7_bell 18 = .ok (.ireturn, 1) := by decide +kernel
theorem dX7_best_0 : decode cX7_best 0 = .ok (.iload_n 1, 1) := by decide +kernel
theorem dX7_best_1 : decode cX7_best 1 = .ok (.iconst 0, 1) := by decide +kernel
theorem dX7_best_2 : decode cX7_best 2 = .ok (.iconst 1, 1) := by decide +kernel
theorem dX7_best_3 : decode cX7_best 3 = .ok (.invokestatic 70, 3) := by decide +kernel
theorem dX7_best_6 : decode cX7_best 6 = .ok (.ifCond .ne 5, 3) := by decide +kernel
theorem dX7_best_9 : decode cX7_best 9 = .ok (.iconst (-1), 1) := by decide +kernel
theorem dX7_best_10 : decode cX7_best 10 = .ok (.ireturn, 1) := by decide +kernel
theorem dX7_best_11 : decode cX7_best 11 = .ok (.aload_n 0, 1) := by decide +kernel
theorem dX7_best_12 : decode cX7_best 12 = .ok (.iconst 0, 1) := by decide +kernel
theorem dX7_best_13 : decode cX7_best 13 = .ok (.invokevirtual 140, 3) := by decide +kernel
theorem dX7_best_16 : decode cX7_best 16 = .ok (.istore_n 2, 1) := by decide +kernel
theorem dX7_best_17 : decode cX7_best 17 = .ok (.iconst 0, 1) := by decide +kernel
theorem dX7_best_18 : decode cX7_best 18 = .ok (.istore_n 3, 1) := by decide +kernel
theorem dX7_best_19 : decode cX7_best 19 = .ok (.bipush 10, 2) := by decide +kernel
theorem dX7_best_21 : decode cX7_best 21 = .ok (.istore 4, 2) := by decide +kernel
theorem dX7_best_23 : decode cX7_best 23 = .ok (.iload 4, 2) := by decide +kernel
theorem dX7_best_25 : decode cX7_best 25 = .ok (.sipush 350, 3) := by decide +kernel
theorem dX7_best_28 : decode cX7_best 28 = .ok (.if_icmp .gt 29, 3) := by decide +kernel
theorem dX7_best_31 : decode cX7_best 31 = .ok (.aload_n 0, 1) := by decide +kernel
theorem dX7_best_32 : decode cX7_best 32 = .ok (.iload 4, 2) := by decide +kernel
theorem dX7_best_34 : decode cX7_best 34 = .ok (.invokevirtual 140, 3) := by decide +kernel
theorem dX7_best_37 : decode cX7_best 37 = .ok (.istore 5, 2) := by decide +kernel
theorem dX7_best_39 : decode cX7_best 39 = .ok (.iload 5, 2) := by decide +kernel
theorem dX7_best_41 : decode cX7_best 41 = .ok (.iload_n 2, 1) := by decide +kernel
theorem dX7_best_42 : decode cX7_best 42 = .ok (.if_icmp .ge 9, 3) := by decide +kernel
theorem dX7_best_45 : decode cX7_best 45 = .ok (.iload 5, 2) := by decide +kernel
theorem dX7_best_47 : decode cX7_best 47 = .ok (.istore_n 2, 1) := by decide +kernel
theorem dX7_best_48 : decode cX7_best 48 = .ok (.iload 4, 2) := by decide +kernel
theorem dX7_best_50 : decode cX7_best 50 = .ok (.istore_n 3, 1) := by decide +kernel
theorem dX7_best_51 : decode cX7_best 51 = .ok (.iinc 4 10, 3) := by decide +kernel
theorem dX7_best_54 : decode cX7_best 54 = .ok (.goto (-31), 3) := by decide +kernel
theorem dX7_best_57 : decode cX7_best 57 = .ok (.iload_n 1, 1) := by decide +kernel
theorem dX7_best_58 : decode cX7_best 58 = .ok (.ifCond .ne 7, 3) := by decide +kernel
theorem dX7_best_61 : decode cX7_best 61 = .ok (.iload_n 3, 1) := by decide +kernel
theorem dX7_best_62 : decode cX7_best 62 = .ok (.goto 4, 3) := by decide +kernel
theorem dX7_best_65 : decode cX7_best 65 = .ok (.iload_n 2, 1) := by decide +kernel
theorem dX7_best_66 : decode cX7_best 66 = .ok (.ireturn, 1) := by decide +kernel
theorem dX7_given_0 : decode cX7_given 0 = .ok (.iload_n 1, 1) := by decide +kernel
theorem dX7_given_1 : decode cX7_given 1 = .ok (.iconst (-1), 1) := by decide +kernel
theorem dX7_given_2 : decode cX7_given 2 = .ok (.aload_n 0, 1) := by decide +kernel
theorem dX7_given_3 : decode cX7_given 3 = .ok (.getfield 27, 3) := by decide +kernel
theorem dX7_given_6 : decode cX7_given 6 = .ok (.getfield 143, 3) := by decide +kernel
theorem dX7_given_9 : decode cX7_given 9 = .ok (.iconst 1, 1) := by decide +kernel
theorem dX7_given_10 : decode cX7_given 10 = .ok (.isub, 1) := by decide +kernel
theorem dX7_given_11 : decode cX7_given 11 = .ok (.invokestatic 70, 3) := by decide +kernel
theorem dX7_given_14 : decode cX7_given 14 = .ok (.ifCond .ne 5, 3) := by decide +kernel
theorem dX7_given_17 : decode cX7_given 17 = .ok (.iconst (-1), 1) := by decide +kernel
theorem dX7_given_18 : decode cX7_given 18 = .ok (.ireturn, 1) := by decide +kernel
theorem dX7_given_19 : decode cX7_given 19 = .ok (.aload_n 0, 1) := by decide +kernel
theorem dX7_given_20 : decode cX7_given 20 = .ok (.getfield 44, 3) := by decide +kernel
theorem dX7_given_23 : decode cX7_given 23 = .ok (.aload_n 0, 1) := by decide +kernel
theorem dX7_given_24 : decode cX7_given 24 = .ok (.getfield 27, 3) := by decide +kernel
theorem dX7_given_27 : decode cX7_given 27 = .ok (.aload_n 0, 1) := by decide +kernel
theorem dX7_given_28 : decode cX7_given 28 = .ok (.getfield 37, 3) := by decide +kernel
theorem dX7_given_31 : decode cX7_given 31 = .ok (.invokevirtual 146, 3) := by decide +kernel
theorem dX7_given_34 : decode cX7_given 34 = .ok (.iload_n 1, 1) := by decide +kernel
theorem dX7_given_35 : decode cX7_given 35 = .ok (.iconst (-1), 1) := by decide +kernel
theorem dX7_given_36 : decode cX7_given 36 = .ok (.if_icmp .ne 13, 3) := by decide +kernel
theorem dX7_given_39 : decode cX7_given 39 = .ok (.aload_n 0, 1) := by decide +kernel
theorem dX7_given_40 : decode cX7_given 40 = .ok (.getfield 44, 3) := by decide +kernel
theorem dX7_given_43 : decode cX7_given 43 = .ok (.getfield 150, 3) := by decide +kernel
theorem dX7_given_46 : decode cX7_given 46 = .ok (.goto 11, 3) := by decide +kernel
theorem dX7_given_49 : decode cX7_given 49 = .ok (.aload_n 0, 1) := by decide +kernel
theorem dX7_given_50 : decode cX7_given 50 = .ok (.getfield 44, 3) := by decide +kernel
theorem dX7_given_53 : decode cX7_given 53 = .ok (.iload_n 1, 1) := by decide +kernel
theorem dX7_given_54 : decode cX7_given 54 = .ok (.invokevirtual 153, 3) := by decide +kernel
theorem dX7_given_57 : decode cX7_given 57 = .ok (.ireturn, 1) := by decide +kernel
theorem dX7_cost_0 : decode cX7_cost 0 = .ok (.iload_n 1, 1) := by decide +kernel
theorem dX7_cost_1 : decode cX7_cost 1 = .ok (.iconst 0, 1) := by decide +kernel
theorem dX7_cost_2 : decode cX7_cost 2 = .ok (.aload_n 0, 1) := by decide +kernel
theorem dX7_cost_3 : decode cX7_cost 3 = .ok (.getfield 51, 3) := by decide +kernel
theorem dX7_cost_6 : decode cX7_cost 6 = .ok (.getfield 156, 3) := by decide +kernel
theorem dX7_cost_9 : decode cX7_cost 9 = .ok (.iconst 1, 1) := by decide +kernel
theorem dX7_cost_10 : decode cX7_cost 10 = .ok (.isub, 1) := by decide +kernel
theorem dX7_cost_11 : decode cX7_cost 11 = .ok (.invokestatic 70, 3) := by decide +kernel
theorem dX7_cost_14 : decode cX7_cost 14 = .ok (.ifCond .eq 13, 3) := by decide +kernel
theorem dX7_cost_17 : decode cX7_cost 17 = .ok (.iload_n 2, 1) := by decide +kernel
theorem dX7_cost_18 : decode cX7_cost 18 = .ok (.iconst 0, 1) := by decide +kernel
theorem dX7_cost_19 : decode cX7_cost 19 = .ok (.ldc 159, 2) := by decide +kernel
theorem dX7_cost_21 : decode cX7_cost 21 = .ok (.invokestatic 70, 3) := by decide +kernel
theorem dX7_cost_24 : decode cX7_cost 24 = .ok (.ifCond .ne 5, 3) := by decide +kernel
theorem dX7_cost_27 : decode cX7_cost 27 = .ok (.iconst (-1), 1) := by decide +kernel
theorem dX7_cost_28 : decode cX7_cost 28 = .ok (.ireturn, 1) := by decide +kernel
theorem dX7_cost_29 : decode cX7_cost 29 = .ok (.aload_n 0, 1) := by decide +kernel
theorem dX7_cost_30 : decode cX7_cost 30 = .ok (.getfield 51, 3) := by decide +kernel
theorem dX7_cost_33 : decode cX7_cost 33 = .ok (.iload_n 2, 1) := by decide +kernel
theorem dX7_cost_34 : decode cX7_cost 34 = .ok (.invokevirtual 160, 3) := by decide +kernel
theorem dX7_cost_37 : decode cX7_cost 37 = .ok (.ifCond .ne 5, 3) := by decide +kernel
theorem dX7_cost_40 : decode cX7_cost 40 = .ok (.iconst (-1), 1) := by decide +kernel
theorem dX7_cost_41 : decode cX7_cost 41 = .ok (.ireturn, 1) := by decide +kernel
theorem dX7_cost_42 : decode cX7_cost 42 = .ok (.aload_n 0, 1) := by decide +kernel
theorem dX7_cost_43 : decode cX7_cost 43 = .ok (.getfield 51, 3) := by decide +kernel
theorem dX7_cost_46 : decode cX7_cost 46 = .ok (.iload_n 1, 1) := by decide +kernel
theorem dX7_cost_47 : decode cX7_cost 47 = .ok (.invokevirtual 163, 3) := by decide +kernel
theorem dX7_cost_50 : decode cX7_cost 50 = .ok (.ireturn, 1) := by decide +kernel
theorem dX7_rests_0 : decode cX7_rests 0 = .ok (.iload_n 1, 1) := by decide +kernel
theorem dX7_rests_1 : decode cX7_rests 1 = .ok (.iconst (-1), 1) := by decide +kernel
theorem dX7_rests_2 : decode cX7_rests 2 = .ok (.aload_n 0, 1) := by decide +kernel
theorem dX7_rests_3 : decode cX7_rests 3 = .ok (.getfield 51, 3) := by decide +kernel
theorem dX7_rests_6 : decode cX7_rests 6 = .ok (.getfield 156, 3) := by decide +kernel
theorem dX7_rests_9 : decode cX7_rests 9 = .ok (.iconst 1, 1) := by decide +kernel
theorem dX7_rests_10 : decode cX7_rests 10 = .ok (.isub, 1) := by decide +kernel
theorem dX7_rests_11 : decode cX7_rests 11 = .ok (.invokestatic 70, 3) := by decide +kernel
theorem dX7_rests_14 : decode cX7_rests 14 = .ok (.ifCond .ne 5, 3) := by decide +kernel
theorem dX7_rests_17 : decode cX7_rests 17 = .ok (.iconst (-1), 1) := by decide +kernel
theorem dX7_rests_18 : decode cX7_rests 18 = .ok (.ireturn, 1) := by decide +kernel
theorem dX7_rests_19 : decode cX7_rests 19 = .ok (.aload_n 0, 1) := by decide +kernel
theorem dX7_rests_20 : decode cX7_rests 20 = .ok (.getfield 51, 3) := by decide +kernel
theorem dX7_rests_23 : decode cX7_rests 23 = .ok (.invokevirtual 166, 3) := by decide +kernel
theorem dX7_rests_26 : decode cX7_rests 26 = .ok (.iload_n 1, 1) := by decide +kernel
theorem dX7_rests_27 : decode cX7_rests 27 = .ok (.iconst (-1), 1) := by decide +kernel
theorem dX7_rests_28 : decode cX7_rests 28 = .ok (.if_icmp .ne 11, 3) := by decide +kernel
theorem dX7_rests_31 : decode cX7_rests 31 = .ok (.aload_n 0, 1) := by decide +kernel
theorem dX7_rests_32 : decode cX7_rests 32 = .ok (.getfield 51, 3) := by decide +kernel
theorem dX7_rests_35 : decode cX7_rests 35 = .ok (.getfield 168, 3) := by decide +kernel
theorem dX7_rests_38 : decode cX7_rests 38 = .ok (.ireturn, 1) := by decide +kernel
theorem dX7_rests_39 : decode cX7_rests 39 = .ok (.aload_n 0, 1) := by decide +kernel
theorem dX7_rests_40 : decode cX7_rests 40 = .ok (.getfield 51, 3) := by decide +kernel
theorem dX7_rests_43 : decode cX7_rests 43 = .ok (.getfield 168, 3) := by decide +kernel
theorem dX7_rests_46 : decode cX7_rests 46 = .ok (.ifCond .ne 8, 3) := by decide +kernel
theorem dX7_rests_49 : decode cX7_rests 49 = .ok (.bipush (-4), 2) := by decide +kernel
theorem dX7_rests_51 : decode cX7_rests 51 = .ok (.goto 12, 3) := by decide +kernel
theorem dX7_rests_54 : decode cX7_rests 54 = .ok (.aload_n 0, 1) := by decide +kernel
theorem dX7_rests_55 : decode cX7_rests 55 = .ok (.getfield 51, 3) := by decide +kernel
theorem dX7_rests_58 : decode cX7_rests 58 = .ok (.getfield 171, 3) := by decide +kernel
theorem dX7_rests_61 : decode cX7_rests 61 = .ok (.iload_n 1, 1) := by decide +kernel
theorem dX7_rests_62 : decode cX7_rests 62 = .ok (.iaload, 1) := by decide +kernel
theorem dX7_rests_63 : decode cX7_rests 63 = .ok (.ireturn, 1) := by decide +kernel
theorem dX7_price_0 : decode cX7_price 0 = .ok (.aload_n 0, 1) := by decide +kernel
theorem dX7_price_1 : decode cX7_price 1 = .ok (.getfield 51, 3) := by decide +kernel
theorem dX7_price_4 : decode cX7_price 4 = .ok (.invokevirtual 166, 3) := by decide +kernel
theorem dX7_price_7 : decode cX7_price 7 = .ok (.aload_n 0, 1) := by decide +kernel
theorem dX7_price_8 : decode cX7_price 8 = .ok (.getfield 51, 3) := by decide +kernel
theorem dX7_price_11 : decode cX7_price 11 = .ok (.getfield 168, 3) := by decide +kernel
theorem dX7_price_14 : decode cX7_price 14 = .ok (.ifCond .ne 8, 3) := by decide +kernel
theorem dX7_price_17 : decode cX7_price 17 = .ok (.bipush (-4), 2) := by decide +kernel
theorem dX7_price_19 : decode cX7_price 19 = .ok (.goto 18, 3) := by decide +kernel
theorem dX7_price_22 : decode cX7_price 22 = .ok (.aload_n 0, 1) := by decide +kernel
theorem dX7_price_23 : decode cX7_price 23 = .ok (.getfield 51, 3) := by decide +kernel
theorem dX7_price_26 : decode cX7_price 26 = .ok (.getfield 174, 3) := by decide +kernel
theorem dX7_price_29 : decode cX7_price 29 = .ok (.aload_n 0, 1) := by decide +kernel
theorem dX7_price_30 : decode cX7_price 30 = .ok (.getfield 51, 3) := by decide +kernel
theorem dX7_price_33 : decode cX7_price 33 = .ok (.getfield 177, 3) := by decide +kernel
theorem dX7_price_36 : decode cX7_price 36 = .ok (.isub, 1) := by decide +kernel
theorem dX7_price_37 : decode cX7_price 37 = .ok (.ireturn, 1) := by decide +kernel
theorem dX7_meant_0 : decode cX7_meant 0 = .ok (.iload_n 1, 1) := by decide +kernel
theorem dX7_meant_1 : decode cX7_meant 1 = .ok (.iconst 1, 1) := by decide +kernel
theorem dX7_meant_2 : decode cX7_meant 2 = .ok (.iconst 3, 1) := by decide +kernel
theorem dX7_meant_3 : decode cX7_meant 3 = .ok (.invokestatic 70, 3) := by decide +kernel
theorem dX7_meant_6 : decode cX7_meant 6 = .ok (.ifCond .eq 12, 3) := by decide +kernel
theorem dX7_meant_9 : decode cX7_meant 9 = .ok (.iload_n 2, 1) := by decide +kernel
theorem dX7_meant_10 : decode cX7_meant 10 = .ok (.iconst 0, 1) := by decide +kernel
theorem dX7_meant_11 : decode cX7_meant 11 = .ok (.iconst 1, 1) := by decide +kernel
theorem dX7_meant_12 : decode cX7_meant 12 = .ok (.invokestatic 70, 3) := by decide +kernel
theorem dX7_meant_15 : decode cX7_meant 15 = .ok (.ifCond .ne 5, 3) := by decide +kernel
theorem dX7_meant_18 : decode cX7_meant 18 = .ok (.iconst (-1), 1) := by decide +kernel
theorem dX7_meant_19 : decode cX7_meant 19 = .ok (.ireturn, 1) := by decide +kernel
theorem dX7_meant_20 : decode cX7_meant 20 = .ok (.aload_n 0, 1) := by decide +kernel
theorem dX7_meant_21 : decode cX7_meant 21 = .ok (.getfield 27, 3) := by decide +kernel
theorem dX7_meant_24 : decode cX7_meant 24 = .ok (.getfield 180, 3) := by decide +kernel
theorem dX7_meant_27 : decode cX7_meant 27 = .ok (.iload_n 1, 1) := by decide +kernel
theorem dX7_meant_28 : decode cX7_meant 28 = .ok (.iaload, 1) := by decide +kernel
theorem dX7_meant_29 : decode cX7_meant 29 = .ok (.aload_n 0, 1) := by decide +kernel
theorem dX7_meant_30 : decode cX7_meant 30 = .ok (.getfield 27, 3) := by decide +kernel
theorem dX7_meant_33 : decode cX7_meant 33 = .ok (.getfield 180, 3) := by decide +kernel
theorem dX7_meant_36 : decode cX7_meant 36 = .ok (.iload_n 1, 1) := by decide +kernel
theorem dX7_meant_37 : decode cX7_meant 37 = .ok (.iaload, 1) := by decide +kernel
theorem dX7_meant_38 : decode cX7_meant 38 = .ok (.aload_n 0, 1) := by decide +kernel
theorem dX7_meant_39 : decode cX7_meant 39 = .ok (.getfield 27, 3) := by decide +kernel
theorem dX7_meant_42 : decode cX7_meant 42 = .ok (.getfield 183, 3) := by decide +kernel
theorem dX7_meant_45 : decode cX7_meant 45 = .ok (.iload_n 1, 1) := by decide +kernel
theorem dX7_meant_46 : decode cX7_meant 46 = .ok (.iaload, 1) := by decide +kernel
theorem dX7_meant_47 : decode cX7_meant 47 = .ok (.iadd, 1) := by decide +kernel
theorem dX7_meant_48 : decode cX7_meant 48 = .ok (.iload_n 2, 1) := by decide +kernel
theorem dX7_meant_49 : decode cX7_meant 49 = .ok (.invokestatic 186, 3) := by decide +kernel
theorem dX7_meant_52 : decode cX7_meant 52 = .ok (.ireturn, 1) := by decide +kernel
theorem dX7_since_0 : decode cX7_since 0 = .ok (.aload_n 0, 1) := by decide +kernel
theorem dX7_since_1 : decode cX7_since 1 = .ok (.iload_n 1, 1) := by decide +kernel
theorem dX7_since_2 : decode cX7_since 2 = .ok (.invokevirtual 88, 3) := by decide +kernel
theorem dX7_since_5 : decode cX7_since 5 = .ok (.ifCond .eq 22, 3) := by decide +kernel
theorem dX7_since_8 : decode cX7_since 8 = .ok (.iload_n 2, 1) := by decide +kernel
theorem dX7_since_9 : decode cX7_since 9 = .ok (.iconst 0, 1) := by decide +kernel
theorem dX7_since_10 : decode cX7_since 10 = .ok (.bipush 11, 2) := by decide +kernel
theorem dX7_since_12 : decode cX7_since 12 = .ok (.invokestatic 70, 3) := by decide +kernel
theorem dX7_since_15 : decode cX7_since 15 = .ok (.ifCond .eq 12, 3) := by decide +kernel
theorem dX7_since_18 : decode cX7_since 18 = .ok (.iload_n 3, 1) := by decide +kernel
theorem dX7_since_19 : decode cX7_since 19 = .ok (.iconst 0, 1) := by decide +kernel
theorem dX7_since_20 : decode cX7_since 20 = .ok (.iconst 1, 1) := by decide +kernel
theorem dX7_since_21 : decode cX7_since 21 = .ok (.invokestatic 70, 3) := by decide +kernel
theorem dX7_since_24 : decode cX7_since 24 = .ok (.ifCond .ne 5, 3) := by decide +kernel
theorem dX7_since_27 : decode cX7_since 27 = .ok (.iconst (-1), 1) := by decide +kernel
theorem dX7_since_28 : decode cX7_since 28 = .ok (.ireturn, 1) := by decide +kernel
theorem dX7_since_29 : decode cX7_since 29 = .ok (.iconst 0, 1) := by decide +kernel
theorem dX7_since_30 : decode cX7_since 30 = .ok (.istore 4, 2) := by decide +kernel
theorem dX7_since_32 : decode cX7_since 32 = .ok (.iconst 0, 1) := by decide +kernel
theorem dX7_since_33 : decode cX7_since 33 = .ok (.istore 5, 2) := by decide +kernel
theorem dX7_since_35 : decode cX7_since 35 = .ok (.iload 5, 2) := by decide +kernel
theorem dX7_since_37 : decode cX7_since 37 = .ok (.bipush 12, 2) := by decide +kernel
theorem dX7_since_39 : decode cX7_since 39 = .ok (.if_icmp .ge 27, 3) := by decide +kernel
theorem dX7_since_42 : decode cX7_since 42 = .ok (.iload 4, 2) := by decide +kernel
theorem dX7_since_44 : decode cX7_since 44 = .ok (.aload_n 0, 1) := by decide +kernel
theorem dX7_since_45 : decode cX7_since 45 = .ok (.getfield 27, 3) := by decide +kernel
theorem dX7_since_48 : decode cX7_since 48 = .ok (.iload_n 1, 1) := by decide +kernel
theorem dX7_since_49 : decode cX7_since 49 = .ok (.bipush 30, 2) := by decide +kernel
theorem dX7_since_51 : decode cX7_since 51 = .ok (.iload 5, 2) := by decide +kernel
theorem dX7_since_53 : decode cX7_since 53 = .ok (.imul, 1) := by decide +kernel
theorem dX7_since_54 : decode cX7_since 54 = .ok (.invokevirtual 190, 3) := by decide +kernel
theorem dX7_since_57 : decode cX7_since 57 = .ok (.iadd, 1) := by decide +kernel
theorem dX7_since_58 : decode cX7_since 58 = .ok (.istore 4, 2) := by decide +kernel
theorem dX7_since_60 : decode cX7_since 60 = .ok (.iinc 5 1, 3) := by decide +kernel
theorem dX7_since_63 : decode cX7_since 63 = .ok (.goto (-28), 3) := by decide +kernel
theorem dX7_since_66 : decode cX7_since 66 = .ok (.aload_n 0, 1) := by decide +kernel
theorem dX7_since_67 : decode cX7_since 67 = .ok (.getfield 27, 3) := by decide +kernel
theorem dX7_since_70 : decode cX7_since 70 = .ok (.iload_n 1, 1) := by decide +kernel
theorem dX7_since_71 : decode cX7_since 71 = .ok (.bipush 30, 2) := by decide +kernel
theorem dX7_since_73 : decode cX7_since 73 = .ok (.iload_n 2, 1) := by decide +kernel
