theorem dX0_init_0 : decode cX0_init 0 = .ok (.aload_n 0, 1) := by decide +kernel
theorem dX0_init_1 : decode cX0_init 1 = .ok (.invokespecial 3, 3) := by decide +kernel
theorem dX0_init_4 : decode cX0_init 4 = .ok (.aload_n 0, 1) := by decide +kernel
theorem dX0_init_5 : decode cX0_init 5 = .ok (.new 9, 3) := by decide +kernel
theorem dX0_init_8 : decode cX0_init 8 = .ok (.dup, 1) := by decide +kernel
theorem dX0_init_9 : decode cX0_init 9 = .ok (.invokespecial 11, 3) := by decide +kernel
theorem dX0_init_12 : decode cX0_init 12 = .ok (.putfield 12, 3) := by decide +kernel
theorem dX0_init_15 : decode cX0_init 15 = .ok (.aload_n 0, 1) := by decide +kernel
theorem dX0_init_16 : decode cX0_init 16 = .ok (.bipush 8, 2) := by decide +kernel
theorem dX0_init_18 : decode cX0_init 18 = .ok (.newarray .int, 2) := by decide +kernel
theorem dX0_init_20 : decode cX0_init 20 = .ok (.putfield 18, 3) := by decide +kernel
theorem dX0_init_23 : decode cX0_init 23 = .ok (.aload_n 0, 1) := by decide +kernel
theorem dX0_init_24 : decode cX0_init 24 = .ok (.bipush 8, 2) := by decide +kernel
theorem dX0_init_26 : decode cX0_init 26 = .ok (.newarray .int, 2) := by decide +kernel
theorem dX0_init_28 : decode cX0_init 28 = .ok (.putfield 22, 3) := by decide +kernel
theorem dX0_init_31 : decode cX0_init 31 = .ok (.aload_n 0, 1) := by decide +kernel
theorem dX0_init_32 : decode cX0_init 32 = .ok (.iconst 0, 1) := by decide +kernel
theorem dX0_init_33 : decode cX0_init 33 = .ok (.putfield 25, 3) := by decide +kernel
theorem dX0_init_36 : decode cX0_init 36 = .ok (.aload_n 0, 1) := by decide +kernel
theorem dX0_init_37 : decode cX0_init 37 = .ok (.bipush 9, 2) := by decide +kernel
theorem dX0_init_39 : decode cX0_init 39 = .ok (.newarray .int, 2) := by decide +kernel
theorem dX0_init_41 : decode cX0_init 41 = .ok (.putfield 29, 3) := by decide +kernel
theorem dX0_init_44 : decode cX0_init 44 = .ok (.aload_n 0, 1) := by decide +kernel
theorem dX0_init_45 : decode cX0_init 45 = .ok (.bipush 9, 2) := by decide +kernel
theorem dX0_init_47 : decode cX0_init 47 = .ok (.newarray .int, 2) := by decide +kernel
theorem dX0_init_49 : decode cX0_init 49 = .ok (.putfield 32, 3) := by decide +kernel
theorem dX0_init_52 : decode cX0_init 52 = .ok (.aload_n 0, 1) := by decide +kernel
theorem dX0_init_53 : decode cX0_init 53 = .ok (.bipush 9, 2) := by decide +kernel
theorem dX0_init_55 : decode cX0_init 55 = .ok (.newarray .int, 2) := by decide +kernel
theorem dX0_init_57 : decode cX0_init 57 = .ok (.putfield 35, 3) := by decide +kernel
theorem dX0_init_60 : decode cX0_init 60 = .ok (.aload_n 0, 1) := by decide +kernel
theorem dX0_init_61 : decode cX0_init 61 = .ok (.sipush 719, 3) := by decide +kernel
theorem dX0_init_64 : decode cX0_init 64 = .ok (.putfield 38, 3) := by decide +kernel
theorem dX0_init_67 : decode cX0_init 67 = .ok (.aload_n 0, 1) := by decide +kernel
theorem dX0_init_68 : decode cX0_init 68 = .ok (.iconst 0, 1) := by decide +kernel
theorem dX0_init_69 : decode cX0_init 69 = .ok (.putfield 41, 3) := by decide +kernel
theorem dX0_init_72 : decode cX0_init 72 = .ok (.aload_n 0, 1) := by decide +kernel
theorem dX0_init_73 : decode cX0_init 73 = .ok (.iconst 0, 1) := by decide +kernel
theorem dX0_init_74 : decode cX0_init 74 = .ok (.putfield 44, 3) := by decide +kernel
theorem dX0_init_77 : decode cX0_init 77 = .ok (.aload_n 0, 1) := by decide +kernel
theorem dX0_init_78 : decode cX0_init 78 = .ok (.iconst 0, 1) := by decide +kernel
theorem dX0_init_79 : decode cX0_init 79 = .ok (.putfield 47, 3) := by decide +kernel
theorem dX0_init_82 : decode cX0_init 82 = .ok (.aload_n 0, 1) := by decide +kernel
theorem dX0_init_83 : decode cX0_init 83 = .ok (.iconst 4, 1) := by decide +kernel
theorem dX0_init_84 : decode cX0_init 84 = .ok (.newarray .int, 2) := by decide +kernel
theorem dX0_init_86 : decode cX0_init 86 = .ok (.putfield 50, 3) := by decide +kernel
theorem dX0_init_89 : decode cX0_init 89 = .ok (.aload_n 0, 1) := by decide +kernel
theorem dX0_init_90 : decode cX0_init 90 = .ok (.iconst 4, 1) := by decide +kernel
theorem dX0_init_91 : decode cX0_init 91 = .ok (.newarray .int, 2) := by decide +kernel
theorem dX0_init_93 : decode cX0_init 93 = .ok (.putfield 53, 3) := by decide +kernel
theorem dX0_init_96 : decode cX0_init 96 = .ok (.aload_n 0, 1) := by decide +kernel
theorem dX0_init_97 : decode cX0_init 97 = .ok (.iconst 4, 1) := by decide +kernel
theorem dX0_init_98 : decode cX0_init 98 = .ok (.newarray .int, 2) := by decide +kernel
theorem dX0_init_100 : decode cX0_init 100 = .ok (.putfield 56, 3) := by decide +kernel
theorem dX0_init_103 : decode cX0_init 103 = .ok (.return_, 1) := by decide +kernel
theorem dX0_prepare_0 : decode cX0_prepare 0 = .ok (.aload_n 0, 1) := by decide +kernel
theorem dX0_prepare_1 : decode cX0_prepare 1 = .ok (.aload_n 1, 1) := by decide +kernel
theorem dX0_prepare_2 : decode cX0_prepare 2 = .ok (.putfield 12, 3) := by decide +kernel
theorem dX0_prepare_5 : decode cX0_prepare 5 = .ok (.aload_n 0, 1) := by decide +kernel
theorem dX0_prepare_6 : decode cX0_prepare 6 = .ok (.sipush 719, 3) := by decide +kernel
theorem dX0_prepare_9 : decode cX0_prepare 9 = .ok (.putfield 38, 3) := by decide +kernel
theorem dX0_prepare_12 : decode cX0_prepare 12 = .ok (.aload_n 0, 1) := by decide +kernel
theorem dX0_prepare_13 : decode cX0_prepare 13 = .ok (.iconst 0, 1) := by decide +kernel
theorem dX0_prepare_14 : decode cX0_prepare 14 = .ok (.putfield 41, 3) := by decide +kernel
theorem dX0_prepare_17 : decode cX0_prepare 17 = .ok (.iconst 0, 1) := by decide +kernel
theorem dX0_prepare_18 : decode cX0_prepare 18 = .ok (.istore_n 2, 1) := by decide +kernel
theorem dX0_prepare_19 : decode cX0_prepare 19 = .ok (.iload_n 2, 1) := by decide +kernel
theorem dX0_prepare_20 : decode cX0_prepare 20 = .ok (.aload_n 0, 1) := by decide +kernel
theorem dX0_prepare_21 : decode cX0_prepare 21 = .ok (.getfield 12, 3) := by decide +kernel
theorem dX0_prepare_24 : decode cX0_prepare 24 = .ok (.getfield 59, 3) := by decide +kernel
theorem dX0_prepare_27 : decode cX0_prepare 27 = .ok (.if_icmp .ge 59, 3) := by decide +kernel
theorem dX0_prepare_30 : decode cX0_prepare 30 = .ok (.aload_n 0, 1) := by decide +kernel
theorem dX0_prepare_31 : decode cX0_prepare 31 = .ok (.dup, 1) := by decide +kernel
theorem dX0_prepare_32 : decode cX0_prepare 32 = .ok (.getfield 41, 3) := by decide +kernel
theorem dX0_prepare_35 : decode cX0_prepare 35 = .ok (.iconst 1, 1) := by decide +kernel
theorem dX0_prepare_36 : decode cX0_prepare 36 = .ok (.aload_n 0, 1) := by decide +kernel
theorem dX0_prepare_37 : decode cX0_prepare 37 = .ok (.getfield 12, 3) := by decide +kernel
theorem dX0_prepare_40 : decode cX0_prepare 40 = .ok (.getfield 62, 3) := by decide +kernel
theorem dX0_prepare_43 : decode cX0_prepare 43 = .ok (.iload_n 2, 1) := by decide +kernel
theorem dX0_prepare_44 : decode cX0_prepare 44 = .ok (.iaload, 1) := by decide +kernel
theorem dX0_prepare_45 : decode cX0_prepare 45 = .ok (.ishl, 1) := by decide +kernel
theorem dX0_prepare_46 : decode cX0_prepare 46 = .ok (.ior, 1) := by decide +kernel
theorem dX0_prepare_47 : decode cX0_prepare 47 = .ok (.putfield 41, 3) := by decide +kernel
theorem dX0_prepare_50 : decode cX0_prepare 50 = .ok (.aload_n 0, 1) := by decide +kernel
theorem dX0_prepare_51 : decode cX0_prepare 51 = .ok (.getfield 18, 3) := by decide +kernel
theorem dX0_prepare_54 : decode cX0_prepare 54 = .ok (.iload_n 2, 1) := by decide +kernel
theorem dX0_prepare_55 : decode cX0_prepare 55 = .ok (.aload_n 0, 1) := by decide +kernel
theorem dX0_prepare_56 : decode cX0_prepare 56 = .ok (.getfield 12, 3) := by decide +kernel
theorem dX0_prepare_59 : decode cX0_prepare 59 = .ok (.getfield 65, 3) := by decide +kernel
theorem dX0_prepare_62 : decode cX0_prepare 62 = .ok (.iload_n 2, 1) := by decide +kernel
theorem dX0_prepare_63 : decode cX0_prepare 63 = .ok (.iaload, 1) := by decide +kernel
theorem dX0_prepare_64 : decode cX0_prepare 64 = .ok (.iastore, 1) := by decide +kernel
theorem dX0_prepare_65 : decode cX0_prepare 65 = .ok (.aload_n 0, 1) := by decide +kernel
theorem dX0_prepare_66 : decode cX0_prepare 66 = .ok (.getfield 22, 3) := by decide +kernel
theorem dX0_prepare_69 : decode cX0_prepare 69 = .ok (.iload_n 2, 1) := by decide +kernel
theorem dX0_prepare_70 : decode cX0_prepare 70 = .ok (.aload_n 0, 1) := by decide +kernel
theorem dX0_prepare_71 : decode cX0_prepare 71 = .ok (.getfield 12, 3) := by decide +kernel
theorem dX0_prepare_74 : decode cX0_prepare 74 = .ok (.getfield 66, 3) := by decide +kernel
theorem dX0_prepare_77 : decode cX0_prepare 77 = .ok (.iload_n 2, 1) := by decide +kernel
theorem dX0_prepare_78 : decode cX0_prepare 78 = .ok (.iaload, 1) := by decide +kernel
theorem dX0_prepare_79 : decode cX0_prepare 79 = .ok (.iastore, 1) := by decide +kernel
theorem dX0_prepare_80 : decode cX0_prepare 80 = .ok (.iinc 2 1, 3) := by decide +kernel
theorem dX0_prepare_83 : decode cX0_prepare 83 = .ok (.goto (-64), 3) := by decide +kernel
theorem dX0_prepare_86 : decode cX0_prepare 86 = .ok (.aload_n 0, 1) := by decide +kernel
theorem dX0_prepare_87 : decode cX0_prepare 87 = .ok (.iconst 0, 1) := by decide +kernel
theorem dX0_prepare_88 : decode cX0_prepare 88 = .ok (.putfield 25, 3) := by decide +kernel
theorem dX0_prepare_91 : decode cX0_prepare 91 = .ok (.iconst 0, 1) := by decide +kernel
theorem dX0_prepare_92 : decode cX0_prepare 92 = .ok (.istore_n 2, 1) := by decide +kernel
theorem dX0_prepare_93 : decode cX0_prepare 93 = .ok (.iload_n 2, 1) := by decide +kernel
theorem dX0_prepare_94 : decode cX0_prepare 94 = .ok (.aload_n 0, 1) := by decide +kernel
theorem dX0_prepare_95 : decode cX0_prepare 95 = .ok (.getfield 12, 3) := by decide +kernel
theorem dX0_prepare_98 : decode cX0_prepare 98 = .ok (.getfield 69, 3) := by decide +kernel
theorem dX0_prepare_101 : decode cX0_prepare 101 = .ok (.getfield 73, 3) := by decide +kernel
theorem dX0_prepare_104 : decode cX0_prepare 104 = .ok (.if_icmp .ge 37, 3) := by decide +kernel
theorem dX0_prepare_107 : decode cX0_prepare 107 = .ok (.aload_n 0, 1) := by decide +kernel
theorem dX0_prepare_108 : decode cX0_prepare 108 = .ok (.aload_n 0, 1) := by decide +kernel
theorem dX0_prepare_109 : decode cX0_prepare 109 = .ok (.getfield 12, 3) := by decide +kernel
theorem dX0_prepare_112 : decode cX0_prepare 112 = .ok (.getfield 69, 3) := by decide +kernel
theorem dX0_prepare_115 : decode cX0_prepare 115 = .ok (.getfield 76, 3) := by decide +kernel
theorem dX0_prepare_118 : decode cX0_prepare 118 = .ok (.iload_n 2, 1) := by decide +kernel
theorem dX0_prepare_119 : decode cX0_prepare 119 = .ok (.iaload, 1) := by decide +kernel
theorem dX0_prepare_120 : decode cX0_prepare 120 = .ok (.aload_n 0, 1) := by decide +kernel
theorem dX0_prepare_121 : decode cX0_prepare 121 = .ok (.getfield 12, 3) := by decide +kernel
theorem dX0_prepare_124 : decode cX0_prepare 124 = .ok (.getfield 69, 3) := by decide +kernel
theorem dX0_prepare_127 : decode cX0_prepare 127 = .ok (.getfield 77, 3) := by decide +kernel
theorem dX0_prepare_130 : decode cX0_prepare 130 = .ok (.iload_n 2, 1) := by decide +kernel
theorem dX0_prepare_131 : decode cX0_prepare 131 = .ok (.iaload, 1) := by decide +kernel
theorem dX0_prepare_132 : decode cX0_prepare 132 = .ok (.invokevirtual 78, 3) := by decide +kernel
theorem dX0_prepare_135 : decode cX0_prepare 135 = .ok (.iinc 2 1, 3) := by decide +kernel
theorem dX0_prepare_138 : decode cX0_prepare 138 = .ok (.goto (-45), 3) := by decide +kernel
theorem dX0_prepare_141 : decode cX0_prepare 141 = .ok (.return_, 1) := by decide +kernel
theorem dX0_addSign_0 : decode cX0_addSign 0 = .ok (.aload_n 0, 1) := by decide +kernel
theorem dX0_addSign_1 : decode cX0_addSign 1 = .ok (.getfield 25, 3) := by decide +kernel
theorem dX0_addSign_4 : decode cX0_addSign 4 = .ok (.bipush 9, 2) := by decide +kernel
theorem dX0_addSign_6 : decode cX0_addSign 6 = .ok (.if_icmp .lt 4, 3) := by decide +kernel
theorem dX0_addSign_9 : decode cX0_addSign 9 = .ok (.return_, 1) := by decide +kernel
theorem dX0_addSign_10 : decode cX0_addSign 10 = .ok (.aload_n 0, 1) := by decide +kernel
theorem dX0_addSign_11 : decode cX0_addSign 11 = .ok (.getfield 29, 3) := by decide +kernel
theorem dX0_addSign_14 : decode cX0_addSign 14 = .ok (.aload_n 0, 1) := by decide +kernel
theorem dX0_addSign_15 : decode cX0_addSign 15 = .ok (.getfield 25, 3) := by decide +kernel
theorem dX0_addSign_18 : decode cX0_addSign 18 = .ok (.iload_n 1, 1) := by decide +kernel
theorem dX0_addSign_19 : decode cX0_addSign 19 = .ok (.iastore, 1) := by decide +kernel
theorem dX0_addSign_20 : decode cX0_addSign 20 = .ok (.aload_n 0, 1) := by decide +kernel
theorem dX0_addSign_21 : decode cX0_addSign 21 = .ok (.getfield 32, 3) := by decide +kernel
theorem dX0_addSign_24 : decode cX0_addSign 24 = .ok (.aload_n 0, 1) := by decide +kernel
theorem dX0_addSign_25 : decode cX0_addSign 25 = .ok (.getfield 25, 3) := by decide +kernel
theorem dX0_addSign_28 : decode cX0_addSign 28 = .ok (.iload_n 2, 1) := by decide +kernel
theorem dX0_addSign_29 : decode cX0_addSign 29 = .ok (.iastore, 1) := by decide +kernel
theorem dX0_addSign_30 : decode cX0_addSign 30 = .ok (.aload_n 0, 1) := by decide +kernel
theorem dX0_addSign_31 : decode cX0_addSign 31 = .ok (.getfield 35, 3) := by decide +kernel
theorem dX0_addSign_34 : decode cX0_addSign 34 = .ok (.aload_n 0, 1) := by decide +kernel
theorem dX0_addSign_35 : decode cX0_addSign 35 = .ok (.getfield 25, 3) := by decide +kernel
theorem dX0_addSign_38 : decode cX0_addSign 38 = .ok (.sipush 255, 3) := by decide +kernel
theorem dX0_addSign_41 : decode cX0_addSign 41 = .ok (.iastore, 1) := by decide +kernel
theorem dX0_addSign_42 : decode cX0_addSign 42 = .ok (.aload_n 0, 1) := by decide +kernel
theorem dX0_addSign_43 : decode cX0_addSign 43 = .ok (.dup, 1) := by decide +kernel
theorem dX0_addSign_44 : decode cX0_addSign 44 = .ok (.getfield 25, 3) := by decide +kernel
theorem dX0_addSign_47 : decode cX0_addSign 47 = .ok (.iconst 1, 1) := by decide +kernel
theorem dX0_addSign_48 : decode cX0_addSign 48 = .ok (.iadd, 1) := by decide +kernel
theorem dX0_addSign_49 : decode cX0_addSign 49 = .ok (.putfield 25, 3) := by decide +kernel
theorem dX0_addSign_52 : decode cX0_addSign 52 = .ok (.return_, 1) := by decide +kernel
theorem dX0_dropAddedSigns_0 : decode cX0_dropAddedSigns 0 = .ok (.aload_n 0, 1) := by decide +kernel
theorem dX0_dropAddedSigns_1 : decode cX0_dropAddedSigns 1 = .ok (.aload_n 0, 1) := by decide +kernel
theorem dX0_dropAddedSigns_2 : decode cX0_dropAddedSigns 2 = .ok (.getfield 12, 3) := by decide +kernel
theorem dX0_dropAddedSigns_5 : decode cX0_dropAddedSigns 5 = .ok (.getfield 69, 3) := by decide +kernel
theorem dX0_dropAddedSigns_8 : decode cX0_dropAddedSigns 8 = .ok (.getfield 73, 3) := by decide +kernel
theorem dX0_dropAddedSigns_11 : decode cX0_dropAddedSigns 11 = .ok (.putfield 25, 3) := by decide +kernel
theorem dX0_dropAddedSigns_14 : decode cX0_dropAddedSigns 14 = .ok (.return_, 1) := by decide +kernel
theorem dX0_makeBus_0 : decode cX0_makeBus 0 = .ok (.aload_n 0, 1) := by decide +kernel
theorem dX0_makeBus_1 : decode cX0_makeBus 1 = .ok (.getfield 18, 3) := by decide +kernel
theorem dX0_makeBus_4 : decode cX0_makeBus 4 = .ok (.iload_n 1, 1) := by decide +kernel
theorem dX0_makeBus_5 : decode cX0_makeBus 5 = .ok (.iconst 3, 1) := by decide +kernel
theorem dX0_makeBus_6 : decode cX0_makeBus 6 = .ok (.iastore, 1) := by decide +kernel
theorem dX0_makeBus_7 : decode cX0_makeBus 7 = .ok (.aload_n 0, 1) := by decide +kernel
theorem dX0_makeBus_8 : decode cX0_makeBus 8 = .ok (.getfield 22, 3) := by decide +kernel
theorem dX0_makeBus_11 : decode cX0_makeBus 11 = .ok (.iload_n 1, 1) := by decide +kernel
theorem dX0_makeBus_12 : decode cX0_makeBus 12 = .ok (.iload_n 2, 1) := by decide +kernel
theorem dX0_makeBus_13 : decode cX0_makeBus 13 = .ok (.iastore, 1) := by decide +kernel
theorem dX0_makeBus_14 : decode cX0_makeBus 14 = .ok (.return_, 1) := by decide +kernel
theorem dX0_ringAt_0 : decode cX0_ringAt 0 = .ok (.aload_n 0, 1) := by decide +kernel
theorem dX0_ringAt_1 : decode cX0_ringAt 1 = .ok (.iload_n 1, 1) := by decide +kernel
theorem dX0_ringAt_2 : decode cX0_ringAt 2 = .ok (.putfield 38, 3) := by decide +kernel
theorem dX0_ringAt_5 : decode cX0_ringAt 5 = .ok (.return_, 1) := by decide +kernel
theorem dX0_drawWhoHears_0 : decode cX0_drawWhoHears 0 = .ok (.iconst 0, 1) := by decide +kernel
theorem dX0_drawWhoHears_1 : decode cX0_drawWhoHears 1 = .ok (.istore_n 2, 1) := by decide +kernel
theorem dX0_drawWhoHears_2 : decode cX0_drawWhoHears 2 = .ok (.iload_n 2, 1) := by decide +kernel
theorem dX0_drawWhoHears_3 : decode cX0_drawWhoHears 3 = .ok (.aload_n 0, 1) := by decide +kernel
theorem dX0_drawWhoHears_4 : decode cX0_drawWhoHears 4 = .ok (.getfield 25, 3) := by decide +kernel
theorem dX0_drawWhoHears_7 : decode cX0_drawWhoHears 7 = .ok (.if_icmp .ge 91, 3) := by decide +kernel
theorem dX0_drawWhoHears_10 : decode cX0_drawWhoHears 10 = .ok (.aload_n 0, 1) := by decide +kernel
theorem dX0_drawWhoHears_11 : decode cX0_drawWhoHears 11 = .ok (.getfield 35, 3) := by decide +kernel
theorem dX0_drawWhoHears_14 : decode cX0_drawWhoHears 14 = .ok (.iload_n 2, 1) := by decide +kernel
theorem dX0_drawWhoHears_15 : decode cX0_drawWhoHears 15 = .ok (.iconst 0, 1) := by decide +kernel
theorem dX0_drawWhoHears_16 : decode cX0_drawWhoHears 16 = .ok (.iastore, 1) := by decide +kernel
theorem dX0_drawWhoHears_17 : decode cX0_drawWhoHears 17 = .ok (.iconst 0, 1) := by decide +kernel
theorem dX0_drawWhoHears_18 : decode cX0_drawWhoHears 18 = .ok (.istore_n 3, 1) := by decide +kernel
theorem dX0_drawWhoHears_19 : decode cX0_drawWhoHears 19 = .ok (.iload_n 3, 1) := by decide +kernel
theorem dX0_drawWhoHears_20 : decode cX0_drawWhoHears 20 = .ok (.aload_n 0, 1) := by decide +kernel
theorem dX0_drawWhoHears_21 : decode cX0_drawWhoHears 21 = .ok (.getfield 12, 3) := by decide +kernel
theorem dX0_drawWhoHears_24 : decode cX0_drawWhoHears 24 = .ok (.getfield 59, 3) := by decide +kernel
theorem dX0_drawWhoHears_27 : decode cX0_drawWhoHears 27 = .ok (.if_icmp .ge 65, 3) := by decide +kernel
theorem dX0_drawWhoHears_30 : decode cX0_drawWhoHears 30 = .ok (.ldc2_w 82, 3) := by decide +kernel
theorem dX0_drawWhoHears_33 : decode cX0_drawWhoHears 33 = .ok (.iload_n 1, 1) := by decide +kernel
theorem dX0_drawWhoHears_34 : decode cX0_drawWhoHears 34 = .ok (.i2l, 1) := by decide +kernel
theorem dX0_drawWhoHears_35 : decode cX0_drawWhoHears 35 = .ok (.lmul, 1) := by decide +kernel
theorem dX0_drawWhoHears_36 : decode cX0_drawWhoHears 36 = .ok (.sipush 6151, 3) := by decide +kernel
theorem dX0_drawWhoHears_39 : decode cX0_drawWhoHears 39 = .ok (.iload_n 3, 1) := by decide +kernel
theorem dX0_drawWhoHears_40 : decode cX0_drawWhoHears 40 = .ok (.imul, 1) := by decide +kernel
theorem dX0_drawWhoHears_41 : decode cX0_drawWhoHears 41 = .ok (.i2l, 1) := by decide +kernel
theorem dX0_drawWhoHears_42 : decode cX0_drawWhoHears 42 = .ok (.ladd, 1) := by decide +kernel
theorem dX0_drawWhoHears_43 : decode cX0_drawWhoHears 43 = .ok (.sipush 3571, 3) := by decide +kernel
theorem dX0_drawWhoHears_46 : decode cX0_drawWhoHears 46 = .ok (.iload_n 2, 1) := by decide +kernel
theorem dX0_drawWhoHears_47 : decode cX0_drawWhoHears 47 = .ok (.imul, 1) := by decide +kernel
theorem dX0_drawWhoHears_48 : decode cX0_drawWhoHears 48 = .ok (.i2l, 1) := by decide +kernel
theorem dX0_drawWhoHears_49 : decode cX0_drawWhoHears 49 = .ok (.ladd, 1) := by decide +kernel
theorem dX0_drawWhoHears_50 : decode cX0_drawWhoHears 50 = .ok (.lconst 1, 1) := by decide +kernel
theorem dX0_drawWhoHears_51 : decode cX0_drawWhoHears 51 = .ok (.ladd, 1) := by decide +kernel
theorem dX0_drawWhoHears_52 : decode cX0_drawWhoHears 52 = .ok (.lstore 4, 2) := by decide +kernel
theorem dX0_drawWhoHears_54 : decode cX0_drawWhoHears 54 = .ok (.lload 4, 2) := by decide +kernel
theorem dX0_drawWhoHears_56 : decode cX0_drawWhoHears 56 = .ok (.lload 4, 2) := by decide +kernel
theorem dX0_drawWhoHears_58 : decode cX0_drawWhoHears 58 = .ok (.lmul, 1) := by decide +kernel
theorem dX0_drawWhoHears_59 : decode cX0_drawWhoHears 59 = .ok (.ldc2_w 84, 3) := by decide +kernel
theorem dX0_drawWhoHears_62 : decode cX0_drawWhoHears 62 = .ok (.lrem, 1) := by decide +kernel
theorem dX0_drawWhoHears_63 : decode cX0_drawWhoHears 63 = .ok (.ldc2_w 86, 3) := by decide +kernel
theorem dX0_drawWhoHears_66 : decode cX0_drawWhoHears 66 = .ok (.lrem, 1) := by decide +kernel
theorem dX0_drawWhoHears_67 : decode cX0_drawWhoHears 67 = .ok (.ldc2_w 88, 3) := by decide +kernel
theorem dX0_drawWhoHears_70 : decode cX0_drawWhoHears 70 = .ok (.lcmp, 1) := by decide +kernel
theorem dX0_drawWhoHears_71 : decode cX0_drawWhoHears 71 = .ok (.ifCond .ge 15, 3) := by decide +kernel
theorem dX0_drawWhoHears_74 : decode cX0_drawWhoHears 74 = .ok (.aload_n 0, 1) := by decide +kernel
theorem dX0_drawWhoHears_75 : decode cX0_drawWhoHears 75 = .ok (.getfield 35, 3) := by decide +kernel
theorem dX0_drawWhoHears_78 : decode cX0_drawWhoHears 78 = .ok (.iload_n 2, 1) := by decide +kernel
theorem dX0_drawWhoHears_79 : decode cX0_drawWhoHears 79 = .ok (.dup2, 1) := by decide +kernel
theorem dX0_drawWhoHears_80 : decode cX0_drawWhoHears 80 = .ok (.iaload, 1) := by decide +kernel
theorem dX0_drawWhoHears_81 : decode cX0_drawWhoHears 81 = .ok (.iconst 1, 1) := by decide +kernel
theorem dX0_drawWhoHears_82 : decode cX0_drawWhoHears 82 = .ok (.iload_n 3, 1) := by decide +kernel
theorem dX0_drawWhoHears_83 : decode cX0_drawWhoHears 83 = .ok (.ishl, 1) := by decide +kernel
theorem dX0_drawWhoHears_84 : decode cX0_drawWhoHears 84 = .ok (.ior, 1) := by decide +kernel
theorem dX0_drawWhoHears_85 : decode cX0_drawWhoHears 85 = .ok (.iastore, 1) := by decide +kernel
theorem dX0_drawWhoHears_86 : decode cX0_drawWhoHears 86 = .ok (.iinc 3 1, 3) := by decide +kernel
theorem dX0_drawWhoHears_89 : decode cX0_drawWhoHears 89 = .ok (.goto (-70), 3) := by decide +kernel
theorem dX0_drawWhoHears_92 : decode cX0_drawWhoHears 92 = .ok (.iinc 2 1, 3) := by decide +kernel
theorem dX0_drawWhoHears_95 : decode cX0_drawWhoHears 95 = .ok (.goto (-93), 3) := by decide +kernel
theorem dX0_drawWhoHears_98 : decode cX0_drawWhoHears 98 = .ok (.return_, 1) := by decide +kernel
theorem dX0_pass_0 : decode cX0_pass 0 = .ok (.aload_n 0, 1) := by decide +kernel
theorem dX0_pass_1 : decode cX0_pass 1 = .ok (.iconst 0, 1) := by decide +kernel
theorem dX0_pass_2 : decode cX0_pass 2 = .ok (.putfield 44, 3) := by decide +kernel
theorem dX0_pass_5 : decode cX0_pass 5 = .ok (.aload_n 0, 1) := by decide +kernel
theorem dX0_pass_6 : decode cX0_pass 6 = .ok (.iconst 0, 1) := by decide +kernel
theorem dX0_pass_7 : decode cX0_pass 7 = .ok (.putfield 47, 3) := by decide +kernel
theorem dX0_pass_10 : decode cX0_pass 10 = .ok (.aload_n 0, 1) := by decide +kernel
theorem dX0_pass_11 : decode cX0_pass 11 = .ok (.getfield 53, 3) := by decide +kernel
theorem dX0_pass_14 : decode cX0_pass 14 = .ok (.ldc 90, 2) := by decide +kernel
theorem dX0_pass_16 : decode cX0_pass 16 = .ok (.invokestatic 91, 3) := by decide +kernel
theorem dX0_pass_19 : decode cX0_pass 19 = .ok (.iconst 0, 1) := by decide +kernel
theorem dX0_pass_20 : decode cX0_pass 20 = .ok (.istore_n 1, 1) := by decide +kernel
theorem dX0_pass_21 : decode cX0_pass 21 = .ok (.iconst 0, 1) := by decide +kernel
theorem dX0_pass_22 : decode cX0_pass 22 = .ok (.istore_n 2, 1) := by decide +kernel
theorem dX0_pass_23 : decode cX0_pass 23 = .ok (.iload_n 2, 1) := by decide +kernel
theorem dX0_pass_24 : decode cX0_pass 24 = .ok (.sipush 719, 3) := by decide +kernel
theorem dX0_pass_27 : decode cX0_pass 27 = .ok (.if_icmp .gt 34, 3) := by decide +kernel
theorem dX0_pass_30 : decode cX0_pass 30 = .ok (.iload_n 1, 1) := by decide +kernel
theorem dX0_pass_31 : decode cX0_pass 31 = .ok (.aload_n 0, 1) := by decide +kernel
theorem dX0_pass_32 : decode cX0_pass 32 = .ok (.getfield 38, 3) := by decide +kernel
theorem dX0_pass_35 : decode cX0_pass 35 = .ok (.if_icmp .ge 26, 3) := by decide +kernel
theorem dX0_pass_38 : decode cX0_pass 38 = .ok (.aload_n 0, 1) := by decide +kernel
theorem dX0_pass_39 : decode cX0_pass 39 = .ok (.getfield 44, 3) := by decide +kernel
theorem dX0_pass_42 : decode cX0_pass 42 = .ok (.aload_n 0, 1) := by decide +kernel
theorem dX0_pass_43 : decode cX0_pass 43 = .ok (.getfield 41, 3) := by decide +kernel
theorem dX0_pass_46 : decode cX0_pass 46 = .ok (.if_icmp .eq 15, 3) := by decide +kernel
theorem dX0_pass_49 : decode cX0_pass 49 = .ok (.aload_n 0, 1) := by decide +kernel
theorem dX0_pass_50 : decode cX0_pass 50 = .ok (.iload_n 1, 1) := by decide +kernel
theorem dX0_pass_51 : decode cX0_pass 51 = .ok (.invokevirtual 97, 3) := by decide +kernel
theorem dX0_pass_54 : decode cX0_pass 54 = .ok (.istore_n 1, 1) := by decide +kernel
theorem dX0_pass_55 : decode cX0_pass 55 = .ok (.iinc 2 1, 3) := by decide +kernel
theorem dX0_pass_58 : decode cX0_pass 58 = .ok (.goto (-35), 3) := by decide +kernel
theorem dX0_pass_61 : decode cX0_pass 61 = .ok (.iconst 0, 1) := by decide +kernel
theorem dX0_pass_62 : decode cX0_pass 62 = .ok (.istore_n 2, 1) := by decide +kernel
theorem dX0_pass_63 : decode cX0_pass 63 = .ok (.iload_n 2, 1) := by decide +kernel
theorem dX0_pass_64 : decode cX0_pass 64 = .ok (.iconst 4, 1) := by decide +kernel
theorem dX0_pass_65 : decode cX0_pass 65 = .ok (.if_icmp .ge 27, 3) := by decide +kernel
theorem dX0_pass_68 : decode cX0_pass 68 = .ok (.aload_n 0, 1) := by decide +kernel
theorem dX0_pass_69 : decode cX0_pass 69 = .ok (.iload_n 2, 1) := by decide +kernel
theorem dX0_pass_70 : decode cX0_pass 70 = .ok (.invokevirtual 101, 3) := by decide +kernel
theorem dX0_pass_73 : decode cX0_pass 73 = .ok (.ifCond .eq 13, 3) := by decide +kernel
theorem dX0_pass_76 : decode cX0_pass 76 = .ok (.aload_n 0, 1) := by decide +kernel
theorem dX0_pass_77 : decode cX0_pass 77 = .ok (.getfield 53, 3) := by decide +kernel
theorem dX0_pass_80 : decode cX0_pass 80 = .ok (.iload_n 2, 1) := by decide +kernel
theorem dX0_pass_81 : decode cX0_pass 81 = .ok (.aload_n 0, 1) := by decide +kernel
theorem dX0_pass_82 : decode cX0_pass 82 = .ok (.getfield 38, 3) := by decide +kernel
theorem dX0_pass_85 : decode cX0_pass 85 = .ok (.iastore, 1) := by decide +kernel
theorem dX0_pass_86 : decode cX0_pass 86 = .ok (.iinc 2 1, 3) := by decide +kernel
theorem dX0_pass_89 : decode cX0_pass 89 = .ok (.goto (-26), 3) := by decide +kernel
theorem dX0_pass_92 : decode cX0_pass 92 = .ok (.iconst 0, 1) := by decide +kernel
theorem dX0_pass_93 : decode cX0_pass 93 = .ok (.istore_n 2, 1) := by decide +kernel
theorem dX0_pass_94 : decode cX0_pass 94 = .ok (.iload_n 2, 1) := by decide +kernel
theorem dX0_pass_95 : decode cX0_pass 95 = .ok (.iconst 4, 1) := by decide +kernel
theorem dX0_pass_96 : decode cX0_pass 96 = .ok (.if_icmp .ge 25, 3) := by decide +kernel
theorem dX0_pass_99 : decode cX0_pass 99 = .ok (.aload_n 0, 1) := by decide +kernel
theorem dX0_pass_100 : decode cX0_pass 100 = .ok (.getfield 56, 3) := by decide +kernel
theorem dX0_pass_103 : decode cX0_pass 103 = .ok (.iload_n 2, 1) := by decide +kernel
theorem dX0_pass_104 : decode cX0_pass 104 = .ok (.aload_n 0, 1) := by decide +kernel
theorem dX0_pass_105 : decode cX0_pass 105 = .ok (.aload_n 0, 1) := by decide +kernel
theorem dX0_pass_106 : decode cX0_pass 106 = .ok (.getfield 53, 3) := by decide +kernel
theorem dX0_pass_109 : decode cX0_pass 109 = .ok (.iload_n 2, 1) := by decide +kernel
theorem dX0_pass_110 : decode cX0_pass 110 = .ok (.iaload, 1) := by decide +kernel
theorem dX0_pass_111 : decode cX0_pass 111 = .ok (.invokevirtual 105, 3) := by decide +kernel
theorem dX0_pass_114 : decode cX0_pass 114 = .ok (.iastore, 1) := by decide +kernel
theorem dX0_pass_115 : decode cX0_pass 115 = .ok (.iinc 2 1, 3) := by decide +kernel
theorem dX0_pass_118 : decode cX0_pass 118 = .ok (.goto (-24), 3) := by decide +kernel
theorem dX0_pass_121 : decode cX0_pass 121 = .ok (.return_, 1) := by decide +kernel
theorem dX0_goOnFrom_0 : decode cX0_goOnFrom 0 = .ok (.aload_n 0, 1) := by decide +kernel
theorem dX0_goOnFrom_1 : decode cX0_goOnFrom 1 = .ok (.iload_n 1, 1) := by decide +kernel
theorem dX0_goOnFrom_2 : decode cX0_goOnFrom 2 = .ok (.invokevirtual 108, 3) := by decide +kernel
theorem dX0_goOnFrom_5 : decode cX0_goOnFrom 5 = .ok (.aload_n 0, 1) := by decide +kernel
theorem dX0_goOnFrom_6 : decode cX0_goOnFrom 6 = .ok (.getfield 38, 3) := by decide +kernel
theorem dX0_goOnFrom_9 : decode cX0_goOnFrom 9 = .ok (.invokestatic 111, 3) := by decide +kernel
theorem dX0_goOnFrom_12 : decode cX0_goOnFrom 12 = .ok (.istore_n 2, 1) := by decide +kernel
theorem dX0_goOnFrom_13 : decode cX0_goOnFrom 13 = .ok (.iload_n 2, 1) := by decide +kernel
theorem dX0_goOnFrom_14 : decode cX0_goOnFrom 14 = .ok (.istore_n 3, 1) := by decide +kernel
theorem dX0_goOnFrom_15 : decode cX0_goOnFrom 15 = .ok (.iconst 0, 1) := by decide +kernel
theorem dX0_goOnFrom_16 : decode cX0_goOnFrom 16 = .ok (.istore 4, 2) := by decide +kernel
theorem dX0_goOnFrom_18 : decode cX0_goOnFrom 18 = .ok (.iload 4, 2) := by decide +kernel
theorem dX0_goOnFrom_20 : decode cX0_goOnFrom 20 = .ok (.iconst 4, 1) := by decide +kernel
theorem dX0_goOnFrom_21 : decode cX0_goOnFrom 21 = .ok (.if_icmp .ge 53, 3) := by decide +kernel
theorem dX0_goOnFrom_24 : decode cX0_goOnFrom 24 = .ok (.aload_n 0, 1) := by decide +kernel
theorem dX0_goOnFrom_25 : decode cX0_goOnFrom 25 = .ok (.getfield 50, 3) := by decide +kernel
theorem dX0_goOnFrom_28 : decode cX0_goOnFrom 28 = .ok (.iload 4, 2) := by decide +kernel
theorem dX0_goOnFrom_30 : decode cX0_goOnFrom 30 = .ok (.aload_n 0, 1) := by decide +kernel
theorem dX0_goOnFrom_31 : decode cX0_goOnFrom 31 = .ok (.iload 4, 2) := by decide +kernel
theorem dX0_goOnFrom_33 : decode cX0_goOnFrom 33 = .ok (.invokevirtual 101, 3) := by decide +kernel
theorem dX0_goOnFrom_36 : decode cX0_goOnFrom 36 = .ok (.ifCond .eq 17, 3) := by decide +kernel
theorem dX0_goOnFrom_39 : decode cX0_goOnFrom 39 = .ok (.iload_n 1, 1) := by decide +kernel
theorem dX0_goOnFrom_40 : decode cX0_goOnFrom 40 = .ok (.aload_n 0, 1) := by decide +kernel
theorem dX0_goOnFrom_41 : decode cX0_goOnFrom 41 = .ok (.iload 4, 2) := by decide +kernel
theorem dX0_goOnFrom_43 : decode cX0_goOnFrom 43 = .ok (.iload_n 1, 1) := by decide +kernel
theorem dX0_goOnFrom_44 : decode cX0_goOnFrom 44 = .ok (.invokevirtual 117, 3) := by decide +kernel
theorem dX0_goOnFrom_47 : decode cX0_goOnFrom 47 = .ok (.invokestatic 120, 3) := by decide +kernel
theorem dX0_goOnFrom_50 : decode cX0_goOnFrom 50 = .ok (.goto 5, 3) := by decide +kernel
theorem dX0_goOnFrom_53 : decode cX0_goOnFrom 53 = .ok (.ldc 90, 2) := by decide +kernel
theorem dX0_goOnFrom_55 : decode cX0_goOnFrom 55 = .ok (.iastore, 1) := by decide +kernel
theorem dX0_goOnFrom_56 : decode cX0_goOnFrom 56 = .ok (.iload_n 3, 1) := by decide +kernel
theorem dX0_goOnFrom_57 : decode cX0_goOnFrom 57 = .ok (.aload_n 0, 1) := by decide +kernel
theorem dX0_goOnFrom_58 : decode cX0_goOnFrom 58 = .ok (.getfield 50, 3) := by decide +kernel
theorem dX0_goOnFrom_61 : decode cX0_goOnFrom 61 = .ok (.iload 4, 2) := by decide +kernel
theorem dX0_goOnFrom_63 : decode cX0_goOnFrom 63 = .ok (.iaload, 1) := by decide +kernel
theorem dX0_goOnFrom_64 : decode cX0_goOnFrom 64 = .ok (.invokestatic 111, 3) := by decide +kernel
theorem dX0_goOnFrom_67 : decode cX0_goOnFrom 67 = .ok (.istore_n 3, 1) := by decide +kernel
theorem dX0_goOnFrom_68 : decode cX0_goOnFrom 68 = .ok (.iinc 4 1, 3) := by decide +kernel
theorem dX0_goOnFrom_71 : decode cX0_goOnFrom 71 = .ok (.goto (-53), 3) := by decide +kernel
theorem dX0_goOnFrom_74 : decode cX0_goOnFrom 74 = .ok (.iload_n 3, 1) := by decide +kernel
theorem dX0_goOnFrom_75 : decode cX0_goOnFrom 75 = .ok (.iload_n 2, 1) := by decide +kernel
theorem dX0_goOnFrom_76 : decode cX0_goOnFrom 76 = .ok (.if_icmp .lt 5, 3) := by decide +kernel
theorem dX0_goOnFrom_79 : decode cX0_goOnFrom 79 = .ok (.iload_n 2, 1) := by decide +kernel
theorem dX0_goOnFrom_80 : decode cX0_goOnFrom 80 = .ok (.ireturn, 1) := by decide +kernel
theorem dX0_goOnFrom_81 : decode cX0_goOnFrom 81 = .ok (.iconst 0, 1) := by decide +kernel
theorem dX0_goOnFrom_82 : decode cX0_goOnFrom 82 = .ok (.istore 4, 2) := by decide +kernel
theorem dX0_goOnFrom_84 : decode cX0_goOnFrom 84 = .ok (.iload 4, 2) := by decide +kernel
theorem dX0_goOnFrom_86 : decode cX0_goOnFrom 86 = .ok (.iconst 4, 1) := by decide +kernel
theorem dX0_goOnFrom_87 : decode cX0_goOnFrom 87 = .ok (.if_icmp .ge 28, 3) := by decide +kernel
theorem dX0_goOnFrom_90 : decode cX0_goOnFrom 90 = .ok (.aload_n 0, 1) := by decide +kernel
theorem dX0_goOnFrom_91 : decode cX0_goOnFrom 91 = .ok (.getfield 50, 3) := by decide +kernel
theorem dX0_goOnFrom_94 : decode cX0_goOnFrom 94 = .ok (.iload 4, 2) := by decide +kernel
theorem dX0_goOnFrom_96 : decode cX0_goOnFrom 96 = .ok (.iaload, 1) := by decide +kernel
theorem dX0_goOnFrom_97 : decode cX0_goOnFrom 97 = .ok (.iload_n 3, 1) := by decide +kernel
theorem dX0_goOnFrom_98 : decode cX0_goOnFrom 98 = .ok (.if_icmp .gt 11, 3) := by decide +kernel
theorem dX0_goOnFrom_101 : decode cX0_goOnFrom 101 = .ok (.aload_n 0, 1) := by decide +kernel
theorem dX0_goOnFrom_102 : decode cX0_goOnFrom 102 = .ok (.getfield 53, 3) := by decide +kernel
theorem dX0_goOnFrom_105 : decode cX0_goOnFrom 105 = .ok (.iload 4, 2) := by decide +kernel
theorem dX0_goOnFrom_107 : decode cX0_goOnFrom 107 = .ok (.iload_n 3, 1) := by decide +kernel
theorem dX0_goOnFrom_108 : decode cX0_goOnFrom 108 = .ok (.iastore, 1) := by decide +kernel
theorem dX0_goOnFrom_109 : decode cX0_goOnFrom 109 = .ok (.iinc 4 1, 3) := by decide +kernel
theorem dX0_goOnFrom_112 : decode cX0_goOnFrom 112 = .ok (.goto (-28), 3) := by decide +kernel
theorem dX0_goOnFrom_115 : decode cX0_goOnFrom 115 = .ok (.aload_n 0, 1) := by decide +kernel
theorem dX0_goOnFrom_116 : decode cX0_goOnFrom 116 = .ok (.iload_n 3, 1) := by decide +kernel
theorem dX0_goOnFrom_117 : decode cX0_goOnFrom 117 = .ok (.iconst 1, 1) := by decide +kernel
theorem dX0_goOnFrom_118 : decode cX0_goOnFrom 118 = .ok (.iadd, 1) := by decide +kernel
theorem dX0_goOnFrom_119 : decode cX0_goOnFrom 119 = .ok (.invokevirtual 123, 3) := by decide +kernel
theorem dX0_goOnFrom_122 : decode cX0_goOnFrom 122 = .ok (.iload_n 3, 1) := by decide +kernel
theorem dX0_goOnFrom_123 : decode cX0_goOnFrom 123 = .ok (.iconst 1, 1) := by decide +kernel
theorem dX0_goOnFrom_124 : decode cX0_goOnFrom 124 = .ok (.iadd, 1) := by decide +kernel
theorem dX0_goOnFrom_125 : decode cX0_goOnFrom 125 = .ok (.ireturn, 1) := by decide +kernel
theorem dX0_nextChange_0 : decode cX0_nextChange 0 = .ok (.ldc 90, 2) := by decide +kernel
theorem dX0_nextChange_2 : decode cX0_nextChange 2 = .ok (.istore_n 2, 1) := by decide +kernel
theorem dX0_nextChange_3 : decode cX0_nextChange 3 = .ok (.iconst 0, 1) := by decide +kernel
theorem dX0_nextChange_4 : decode cX0_nextChange 4 = .ok (.istore_n 3, 1) := by decide +kernel
theorem dX0_nextChange_5 : decode cX0_nextChange 5 = .ok (.iload_n 3, 1) := by decide +kernel
theorem dX0_nextChange_6 : decode cX0_nextChange 6 = .ok (.aload_n 0, 1) := by decide +kernel
theorem dX0_nextChange_7 : decode cX0_nextChange 7 = .ok (.getfield 25, 3) := by decide +kernel
theorem dX0_nextChange_10 : decode cX0_nextChange 10 = .ok (.if_icmp .ge 30, 3) := by decide +kernel
theorem dX0_nextChange_13 : decode cX0_nextChange 13 = .ok (.aload_n 0, 1) := by decide +kernel
theorem dX0_nextChange_14 : decode cX0_nextChange 14 = .ok (.getfield 29, 3) := by decide +kernel
theorem dX0_nextChange_17 : decode cX0_nextChange 17 = .ok (.iload_n 3, 1) := by decide +kernel
theorem dX0_nextChange_18 : decode cX0_nextChange 18 = .ok (.iaload, 1) := by decide +kernel
theorem dX0_nextChange_19 : decode cX0_nextChange 19 = .ok (.iload_n 1, 1) := by decide +kernel
theorem dX0_nextChange_20 : decode cX0_nextChange 20 = .ok (.if_icmp .le 14, 3) := by decide +kernel
theorem dX0_nextChange_23 : decode cX0_nextChange 23 = .ok (.iload_n 2, 1) := by decide +kernel
theorem dX0_nextChange_24 : decode cX0_nextChange 24 = .ok (.aload_n 0, 1) := by decide +kernel
theorem dX0_nextChange_25 : decode cX0_nextChange 25 = .ok (.getfield 29, 3) := by decide +kernel
theorem dX0_nextChange_28 : decode cX0_nextChange 28 = .ok (.iload_n 3, 1) := by decide +kernel
theorem dX0_nextChange_29 : decode cX0_nextChange 29 = .ok (.iaload, 1) := by decide +kernel
theorem dX0_nextChange_30 : decode cX0_nextChange 30 = .ok (.invokestatic 111, 3) := by decide +kernel
theorem dX0_nextChange_33 : decode cX0_nextChange 33 = .ok (.istore_n 2, 1) := by decide +kernel
theorem dX0_nextChange_34 : decode cX0_nextChange 34 = .ok (.iinc 3 1, 3) := by decide +kernel
theorem dX0_nextChange_37 : decode cX0_nextChange 37 = .ok (.goto (-32), 3) := by decide +kernel
theorem dX0_nextChange_40 : decode cX0_nextChange 40 = .ok (.iconst 0, 1) := by decide +kernel
theorem dX0_nextChange_41 : decode cX0_nextChange 41 = .ok (.istore_n 3, 1) := by decide +kernel
theorem dX0_nextChange_42 : decode cX0_nextChange 42 = .ok (.iload_n 3, 1) := by decide +kernel
theorem dX0_nextChange_43 : decode cX0_nextChange 43 = .ok (.aload_n 0, 1) := by decide +kernel
theorem dX0_nextChange_44 : decode cX0_nextChange 44 = .ok (.getfield 12, 3) := by decide +kernel
theorem dX0_nextChange_47 : decode cX0_nextChange 47 = .ok (.getfield 69, 3) := by decide +kernel
theorem dX0_nextChange_50 : decode cX0_nextChange 50 = .ok (.getfield 127, 3) := by decide +kernel
theorem dX0_nextChange_53 : decode cX0_nextChange 53 = .ok (.if_icmp .ge 42, 3) := by decide +kernel
theorem dX0_nextChange_56 : decode cX0_nextChange 56 = .ok (.aload_n 0, 1) := by decide +kernel
theorem dX0_nextChange_57 : decode cX0_nextChange 57 = .ok (.getfield 12, 3) := by decide +kernel
theorem dX0_nextChange_60 : decode cX0_nextChange 60 = .ok (.getfield 69, 3) := by decide +kernel
theorem dX0_nextChange_63 : decode cX0_nextChange 63 = .ok (.getfield 130, 3) := by decide +kernel
theorem dX0_nextChange_66 : decode cX0_nextChange 66 = .ok (.iload_n 3, 1) := by decide +kernel
theorem dX0_nextChange_67 : decode cX0_nextChange 67 = .ok (.iaload, 1) := by decide +kernel
theorem dX0_nextChange_68 : decode cX0_nextChange 68 = .ok (.iload_n 1, 1) := by decide +kernel
theorem dX0_nextChange_69 : decode cX0_nextChange 69 = .ok (.if_icmp .le 20, 3) := by decide +kernel
theorem dX0_nextChange_72 : decode cX0_nextChange 72 = .ok (.iload_n 2, 1) := by decide +kernel
theorem dX0_nextChange_73 : decode cX0_nextChange 73 = .ok (.aload_n 0, 1) := by decide +kernel
theorem dX0_nextChange_74 : decode cX0_nextChange 74 = .ok (.getfield 12, 3) := by decide +kernel
theorem dX0_nextChange_77 : decode cX0_nextChange 77 = .ok (.getfield 69, 3) := by decide +kernel
theorem dX0_nextChange_80 : decode cX0_nextChange 80 = .ok (.getfield 130, 3) := by decide +kernel
theorem dX0_nextChange_83 : decode cX0_nextChange 83 = .ok (.iload_n 3, 1) := by decide +kernel
theorem dX0_nextChange_84 : decode cX0_nextChange 84 = .ok (.iaload, 1) := by decide +kernel
theorem dX0_nextChange_85 : decode cX0_nextChange 85 = .ok (.invokestatic 111, 3) := by decide +kernel
theorem dX0_nextChange_88 : decode cX0_nextChange 88 = .ok (.istore_n 2, 1) := by decide +kernel
theorem dX0_nextChange_89 : decode cX0_nextChange 89 = .ok (.iinc 3 1, 3) := by decide +kernel
theorem dX0_nextChange_92 : decode cX0_nextChange 92 = .ok (.goto (-50), 3) := by decide +kernel
theorem dX0_nextChange_95 : decode cX0_nextChange 95 = .ok (.iload_n 2, 1) := by decide +kernel
theorem dX0_nextChange_96 : decode cX0_nextChange 96 = .ok (.ireturn, 1) := by decide +kernel
theorem dX0_sits_0 : decode cX0_sits 0 = .ok (.aload_n 0, 1) := by decide +kernel
theorem dX0_sits_1 : decode cX0_sits 1 = .ok (.getfield 41, 3) := by decide +kernel
theorem dX0_sits_4 : decode cX0_sits 4 = .ok (.aload_n 0, 1) := by decide +kernel
theorem dX0_sits_5 : decode cX0_sits 5 = .ok (.getfield 44, 3) := by decide +kernel
theorem dX0_sits_8 : decode cX0_sits 8 = .ok (.iconst (-1), 1) := by decide +kernel
theorem dX0_sits_9 : decode cX0_sits 9 = .ok (.ixor, 1) := by decide +kernel
theorem dX0_sits_10 : decode cX0_sits 10 = .ok (.iand, 1) := by decide +kernel
theorem dX0_sits_11 : decode cX0_sits 11 = .ok (.iload_n 1, 1) := by decide +kernel
theorem dX0_sits_12 : decode cX0_sits 12 = .ok (.ishr, 1) := by decide +kernel
theorem dX0_sits_13 : decode cX0_sits 13 = .ok (.iconst 1, 1) := by decide +kernel
theorem dX0_sits_14 : decode cX0_sits 14 = .ok (.iand, 1) := by decide +kernel
theorem dX0_sits_15 : decode cX0_sits 15 = .ok (.iconst 1, 1) := by decide +kernel
theorem dX0_sits_16 : decode cX0_sits 16 = .ok (.if_icmp .ne 7, 3) := by decide +kernel
theorem dX0_sits_19 : decode cX0_sits 19 = .ok (.iconst 1, 1) := by decide +kernel
theorem dX0_sits_20 : decode cX0_sits 20 = .ok (.goto 4, 3) := by decide +kernel
theorem dX0_sits_23 : decode cX0_sits 23 = .ok (.iconst 0, 1) := by decide +kernel
theorem dX0_sits_24 : decode cX0_sits 24 = .ok (.ireturn, 1) := by decide +kernel
theorem dX0_pairFrom_0 : decode cX0_pairFrom 0 = .ok (.iconst 0, 1) := by decide +kernel
theorem dX0_pairFrom_1 : decode cX0_pairFrom 1 = .ok (.istore_n 3, 1) := by decide +kernel
theorem dX0_pairFrom_2 : decode cX0_pairFrom 2 = .ok (.ldc 90, 2) := by decide +kernel
theorem dX0_pairFrom_4 : decode cX0_pairFrom 4 = .ok (.istore 4, 2) := by decide +kernel
theorem dX0_pairFrom_6 : decode cX0_pairFrom 6 = .ok (.iconst 0, 1) := by decide +kernel
theorem dX0_pairFrom_7 : decode cX0_pairFrom 7 = .ok (.istore 5, 2) := by decide +kernel
theorem dX0_pairFrom_9 : decode cX0_pairFrom 9 = .ok (.iload 5, 2) := by decide +kernel
theorem dX0_pairFrom_11 : decode cX0_pairFrom 11 = .ok (.aload_n 0, 1) := by decide +kernel
theorem dX0_pairFrom_12 : decode cX0_pairFrom 12 = .ok (.getfield 12, 3) := by decide +kernel
theorem dX0_pairFrom_15 : decode cX0_pairFrom 15 = .ok (.getfield 59, 3) := by decide +kernel
theorem dX0_pairFrom_18 : decode cX0_pairFrom 18 = .ok (.if_icmp .ge 59, 3) := by decide +kernel
theorem dX0_pairFrom_21 : decode cX0_pairFrom 21 = .ok (.aload_n 0, 1) := by decide +kernel
theorem dX0_pairFrom_22 : decode cX0_pairFrom 22 = .ok (.getfield 12, 3) := by decide +kernel
theorem dX0_pairFrom_25 : decode cX0_pairFrom 25 = .ok (.getfield 62, 3) := by decide +kernel
theorem dX0_pairFrom_28 : decode cX0_pairFrom 28 = .ok (.iload 5, 2) := by decide +kernel
theorem dX0_pairFrom_30 : decode cX0_pairFrom 30 = .ok (.iaload, 1) := by decide +kernel
theorem dX0_pairFrom_31 : decode cX0_pairFrom 31 = .ok (.iload_n 1, 1) := by decide +kernel
theorem dX0_pairFrom_32 : decode cX0_pairFrom 32 = .ok (.if_icmp .ne 39, 3) := by decide +kernel
theorem dX0_pairFrom_35 : decode cX0_pairFrom 35 = .ok (.aload_n 0, 1) := by decide +kernel
theorem dX0_pairFrom_36 : decode cX0_pairFrom 36 = .ok (.iload 5, 2) := by decide +kernel
theorem dX0_pairFrom_38 : decode cX0_pairFrom 38 = .ok (.iload_n 2, 1) := by decide +kernel
theorem dX0_pairFrom_39 : decode cX0_pairFrom 39 = .ok (.invokevirtual 133, 3) := by decide +kernel
theorem dX0_pairFrom_42 : decode cX0_pairFrom 42 = .ok (.istore 6, 2) := by decide +kernel
theorem dX0_pairFrom_44 : decode cX0_pairFrom 44 = .ok (.iload_n 3, 1) := by decide +kernel
theorem dX0_pairFrom_45 : decode cX0_pairFrom 45 = .ok (.iload 6, 2) := by decide +kernel
theorem dX0_pairFrom_47 : decode cX0_pairFrom 47 = .ok (.invokestatic 120, 3) := by decide +kernel
theorem dX0_pairFrom_50 : decode cX0_pairFrom 50 = .ok (.istore_n 3, 1) := by decide +kernel
theorem dX0_pairFrom_51 : decode cX0_pairFrom 51 = .ok (.aload_n 0, 1) := by decide +kernel
theorem dX0_pairFrom_52 : decode cX0_pairFrom 52 = .ok (.getfield 18, 3) := by decide +kernel
theorem dX0_pairFrom_55 : decode cX0_pairFrom 55 = .ok (.iload 5, 2) := by decide +kernel
theorem dX0_pairFrom_57 : decode cX0_pairFrom 57 = .ok (.iaload, 1) := by decide +kernel
theorem dX0_pairFrom_58 : decode cX0_pairFrom 58 = .ok (.iconst 3, 1) := by decide +kernel
theorem dX0_pairFrom_59 : decode cX0_pairFrom 59 = .ok (.if_icmp .ne 12, 3) := by decide +kernel
theorem dX0_pairFrom_62 : decode cX0_pairFrom 62 = .ok (.iload 4, 2) := by decide +kernel
theorem dX0_pairFrom_64 : decode cX0_pairFrom 64 = .ok (.iload 6, 2) := by decide +kernel
theorem dX0_pairFrom_66 : decode cX0_pairFrom 66 = .ok (.invokestatic 111, 3) := by decide +kernel
theorem dX0_pairFrom_69 : decode cX0_pairFrom 69 = .ok (.istore 4, 2) := by decide +kernel
theorem dX0_pairFrom_71 : decode cX0_pairFrom 71 = .ok (.iinc 5 1, 3) := by decide +kernel
theorem dX0_pairFrom_74 : decode cX0_pairFrom 74 = .ok (.goto (-65), 3) := by decide +kernel
theorem dX0_pairFrom_77 : decode cX0_pairFrom 77 = .ok (.iload_n 3, 1) := by decide +kernel
theorem dX0_pairFrom_78 : decode cX0_pairFrom 78 = .ok (.iload 4, 2) := by decide +kernel
theorem dX0_pairFrom_80 : decode cX0_pairFrom 80 = .ok (.invokestatic 111, 3) := by decide +kernel
theorem dX0_pairFrom_83 : decode cX0_pairFrom 83 = .ok (.ireturn, 1) := by decide +kernel
theorem dX0_lookAt_0 : decode cX0_lookAt 0 = .ok (.aload_n 0, 1) := by decide +kernel
theorem dX0_lookAt_1 : decode cX0_lookAt 1 = .ok (.iconst 0, 1) := by decide +kernel
theorem dX0_lookAt_2 : decode cX0_lookAt 2 = .ok (.putfield 44, 3) := by decide +kernel
theorem dX0_lookAt_5 : decode cX0_lookAt 5 = .ok (.aload_n 0, 1) := by decide +kernel
theorem dX0_lookAt_6 : decode cX0_lookAt 6 = .ok (.iconst 0, 1) := by decide +kernel
theorem dX0_lookAt_7 : decode cX0_lookAt 7 = .ok (.putfield 47, 3) := by decide +kernel
theorem dX0_lookAt_10 : decode cX0_lookAt 10 = .ok (.iconst 0, 1) := by decide +kernel
theorem dX0_lookAt_11 : decode cX0_lookAt 11 = .ok (.istore_n 2, 1) := by decide +kernel
theorem dX0_lookAt_12 : decode cX0_lookAt 12 = .ok (.iload_n 2, 1) := by decide +kernel
theorem dX0_lookAt_13 : decode cX0_lookAt 13 = .ok (.aload_n 0, 1) := by decide +kernel
theorem dX0_lookAt_14 : decode cX0_lookAt 14 = .ok (.getfield 12, 3) := by decide +kernel
theorem dX0_lookAt_17 : decode cX0_lookAt 17 = .ok (.getfield 59, 3) := by decide +kernel
theorem dX0_lookAt_20 : decode cX0_lookAt 20 = .ok (.if_icmp .ge 51, 3) := by decide +kernel
theorem dX0_lookAt_23 : decode cX0_lookAt 23 = .ok (.aload_n 0, 1) := by decide +kernel
theorem dX0_lookAt_24 : decode cX0_lookAt 24 = .ok (.getfield 12, 3) := by decide +kernel
theorem dX0_lookAt_27 : decode cX0_lookAt 27 = .ok (.getfield 62, 3) := by decide +kernel
theorem dX0_lookAt_30 : decode cX0_lookAt 30 = .ok (.iload_n 2, 1) := by decide +kernel
theorem dX0_lookAt_31 : decode cX0_lookAt 31 = .ok (.iaload, 1) := by decide +kernel
theorem dX0_lookAt_32 : decode cX0_lookAt 32 = .ok (.istore_n 3, 1) := by decide +kernel
theorem dX0_lookAt_33 : decode cX0_lookAt 33 = .ok (.aload_n 0, 1) := by decide +kernel
theorem dX0_lookAt_34 : decode cX0_lookAt 34 = .ok (.getfield 53, 3) := by decide +kernel
theorem dX0_lookAt_37 : decode cX0_lookAt 37 = .ok (.iload_n 3, 1) := by decide +kernel
theorem dX0_lookAt_38 : decode cX0_lookAt 38 = .ok (.iaload, 1) := by decide +kernel
theorem dX0_lookAt_39 : decode cX0_lookAt 39 = .ok (.iload_n 1, 1) := by decide +kernel
theorem dX0_lookAt_40 : decode cX0_lookAt 40 = .ok (.if_icmp .ge 25, 3) := by decide +kernel
theorem dX0_lookAt_43 : decode cX0_lookAt 43 = .ok (.aload_n 0, 1) := by decide +kernel
theorem dX0_lookAt_44 : decode cX0_lookAt 44 = .ok (.dup, 1) := by decide +kernel
theorem dX0_lookAt_45 : decode cX0_lookAt 45 = .ok (.getfield 44, 3) := by decide +kernel
theorem dX0_lookAt_48 : decode cX0_lookAt 48 = .ok (.iconst 1, 1) := by decide +kernel
theorem dX0_lookAt_49 : decode cX0_lookAt 49 = .ok (.iload_n 3, 1) := by decide +kernel
theorem dX0_lookAt_50 : decode cX0_lookAt 50 = .ok (.ishl, 1) := by decide +kernel
theorem dX0_lookAt_51 : decode cX0_lookAt 51 = .ok (.ior, 1) := by decide +kernel
theorem dX0_lookAt_52 : decode cX0_lookAt 52 = .ok (.putfield 44, 3) := by decide +kernel
theorem dX0_lookAt_55 : decode cX0_lookAt 55 = .ok (.aload_n 0, 1) := by decide +kernel
theorem dX0_lookAt_56 : decode cX0_lookAt 56 = .ok (.dup, 1) := by decide +kernel
theorem dX0_lookAt_57 : decode cX0_lookAt 57 = .ok (.getfield 47, 3) := by decide +kernel
theorem dX0_lookAt_60 : decode cX0_lookAt 60 = .ok (.iconst 1, 1) := by decide +kernel
theorem dX0_lookAt_61 : decode cX0_lookAt 61 = .ok (.iadd, 1) := by decide +kernel
theorem dX0_lookAt_62 : decode cX0_lookAt 62 = .ok (.putfield 47, 3) := by decide +kernel
theorem dX0_lookAt_65 : decode cX0_lookAt 65 = .ok (.iinc 2 1, 3) := by decide +kernel
theorem dX0_lookAt_68 : decode cX0_lookAt 68 = .ok (.goto (-56), 3) := by decide +kernel
theorem dX0_lookAt_71 : decode cX0_lookAt 71 = .ok (.return_, 1) := by decide +kernel
theorem dX0_pressesFrom_0 : decode cX0_pressesFrom 0 = .ok (.aload_n 0, 1) := by decide +kernel
theorem dX0_pressesFrom_1 : decode cX0_pressesFrom 1 = .ok (.getfield 18, 3) := by decide +kernel
theorem dX0_pressesFrom_4 : decode cX0_pressesFrom 4 = .ok (.iload_n 1, 1) := by decide +kernel
theorem dX0_pressesFrom_5 : decode cX0_pressesFrom 5 = .ok (.iaload, 1) := by decide +kernel
theorem dX0_pressesFrom_6 : decode cX0_pressesFrom 6 = .ok (.iconst 4, 1) := by decide +kernel
theorem dX0_pressesFrom_7 : decode cX0_pressesFrom 7 = .ok (.if_icmp .ne 34, 3) := by decide +kernel
theorem dX0_pressesFrom_10 : decode cX0_pressesFrom 10 = .ok (.aload_n 0, 1) := by decide +kernel
theorem dX0_pressesFrom_11 : decode cX0_pressesFrom 11 = .ok (.getfield 41, 3) := by decide +kernel
theorem dX0_pressesFrom_14 : decode cX0_pressesFrom 14 = .ok (.aload_n 0, 1) := by decide +kernel
theorem dX0_pressesFrom_15 : decode cX0_pressesFrom 15 = .ok (.getfield 44, 3) := by decide +kernel
theorem dX0_pressesFrom_18 : decode cX0_pressesFrom 18 = .ok (.iconst (-1), 1) := by decide +kernel
theorem dX0_pressesFrom_19 : decode cX0_pressesFrom 19 = .ok (.ixor, 1) := by decide +kernel
theorem dX0_pressesFrom_20 : decode cX0_pressesFrom 20 = .ok (.iand, 1) := by decide +kernel
theorem dX0_pressesFrom_21 : decode cX0_pressesFrom 21 = .ok (.iconst 1, 1) := by decide +kernel
theorem dX0_pressesFrom_22 : decode cX0_pressesFrom 22 = .ok (.aload_n 0, 1) := by decide +kernel
theorem dX0_pressesFrom_23 : decode cX0_pressesFrom 23 = .ok (.getfield 12, 3) := by decide +kernel
theorem dX0_pressesFrom_26 : decode cX0_pressesFrom 26 = .ok (.getfield 62, 3) := by decide +kernel
theorem dX0_pressesFrom_29 : decode cX0_pressesFrom 29 = .ok (.iload_n 1, 1) := by decide +kernel
theorem dX0_pressesFrom_30 : decode cX0_pressesFrom 30 = .ok (.iaload, 1) := by decide +kernel
theorem dX0_pressesFrom_31 : decode cX0_pressesFrom 31 = .ok (.ishl, 1) := by decide +kernel
theorem dX0_pressesFrom_32 : decode cX0_pressesFrom 32 = .ok (.iconst (-1), 1) := by decide +kernel
theorem dX0_pressesFrom_33 : decode cX0_pressesFrom 33 = .ok (.ixor, 1) := by decide +kernel
theorem dX0_pressesFrom_34 : decode cX0_pressesFrom 34 = .ok (.iand, 1) := by decide +kernel
theorem dX0_pressesFrom_35 : decode cX0_pressesFrom 35 = .ok (.ifCond .eq 6, 3) := by decide +kernel
theorem dX0_pressesFrom_38 : decode cX0_pressesFrom 38 = .ok (.ldc 90, 2) := by decide +kernel
theorem dX0_pressesFrom_40 : decode cX0_pressesFrom 40 = .ok (.ireturn, 1) := by decide +kernel
theorem dX0_pressesFrom_41 : decode cX0_pressesFrom 41 = .ok (.aload_n 0, 1) := by decide +kernel
theorem dX0_pressesFrom_42 : decode cX0_pressesFrom 42 = .ok (.getfield 18, 3) := by decide +kernel
theorem dX0_pressesFrom_45 : decode cX0_pressesFrom 45 = .ok (.iload_n 1, 1) := by decide +kernel
theorem dX0_pressesFrom_46 : decode cX0_pressesFrom 46 = .ok (.iaload, 1) := by decide +kernel
theorem dX0_pressesFrom_47 : decode cX0_pressesFrom 47 = .ok (.iconst 3, 1) := by decide +kernel
theorem dX0_pressesFrom_48 : decode cX0_pressesFrom 48 = .ok (.if_icmp .eq 20, 3) := by decide +kernel
theorem dX0_pressesFrom_51 : decode cX0_pressesFrom 51 = .ok (.aload_n 0, 1) := by decide +kernel
theorem dX0_pressesFrom_52 : decode cX0_pressesFrom 52 = .ok (.getfield 18, 3) := by decide +kernel
theorem dX0_pressesFrom_55 : decode cX0_pressesFrom 55 = .ok (.iload_n 1, 1) := by decide +kernel
theorem dX0_pressesFrom_56 : decode cX0_pressesFrom 56 = .ok (.iaload, 1) := by decide +kernel
theorem dX0_pressesFrom_57 : decode cX0_pressesFrom 57 = .ok (.iconst 5, 1) := by decide +kernel
theorem dX0_pressesFrom_58 : decode cX0_pressesFrom 58 = .ok (.if_icmp .ne 17, 3) := by decide +kernel
theorem dX0_pressesFrom_61 : decode cX0_pressesFrom 61 = .ok (.aload_n 0, 1) := by decide +kernel
theorem dX0_pressesFrom_62 : decode cX0_pressesFrom 62 = .ok (.getfield 44, 3) := by decide +kernel
theorem dX0_pressesFrom_65 : decode cX0_pressesFrom 65 = .ok (.ifCond .eq 10, 3) := by decide +kernel
theorem dX0_pressesFrom_68 : decode cX0_pressesFrom 68 = .ok (.aload_n 0, 1) := by decide +kernel
theorem dX0_pressesFrom_69 : decode cX0_pressesFrom 69 = .ok (.getfield 22, 3) := by decide +kernel
theorem dX0_pressesFrom_72 : decode cX0_pressesFrom 72 = .ok (.iload_n 1, 1) := by decide +kernel
theorem dX0_pressesFrom_73 : decode cX0_pressesFrom 73 = .ok (.iaload, 1) := by decide +kernel
theorem dX0_pressesFrom_74 : decode cX0_pressesFrom 74 = .ok (.ireturn, 1) := by decide +kernel
theorem dX0_pressesFrom_75 : decode cX0_pressesFrom 75 = .ok (.aload_n 0, 1) := by decide +kernel
theorem dX0_pressesFrom_76 : decode cX0_pressesFrom 76 = .ok (.getfield 22, 3) := by decide +kernel
theorem dX0_pressesFrom_79 : decode cX0_pressesFrom 79 = .ok (.iload_n 1, 1) := by decide +kernel
theorem dX0_pressesFrom_80 : decode cX0_pressesFrom 80 = .ok (.iaload, 1) := by decide +kernel
theorem dX0_pressesFrom_81 : decode cX0_pressesFrom 81 = .ok (.aload_n 0, 1) := by decide +kernel
theorem dX0_pressesFrom_82 : decode cX0_pressesFrom 82 = .ok (.iload_n 1, 1) := by decide +kernel
theorem dX0_pressesFrom_83 : decode cX0_pressesFrom 83 = .ok (.iload_n 2, 1) := by decide +kernel
theorem dX0_pressesFrom_84 : decode cX0_pressesFrom 84 = .ok (.invokevirtual 136, 3) := by decide +kernel
theorem dX0_pressesFrom_87 : decode cX0_pressesFrom 87 = .ok (.iadd, 1) := by decide +kernel
theorem dX0_pressesFrom_88 : decode cX0_pressesFrom 88 = .ok (.ireturn, 1) := by decide +kernel
theorem dX0_shameAt_0 : decode cX0_shameAt 0 = .ok (.aload_n 0, 1) := by decide +kernel
theorem dX0_shameAt_1 : decode cX0_shameAt 1 = .ok (.getfield 12, 3) := by decide +kernel
theorem dX0_shameAt_4 : decode cX0_shameAt 4 = .ok (.getfield 139, 3) := by decide +kernel
theorem dX0_shameAt_7 : decode cX0_shameAt 7 = .ok (.iload_n 1, 1) := by decide +kernel
theorem dX0_shameAt_8 : decode cX0_shameAt 8 = .ok (.iaload, 1) := by decide +kernel
theorem dX0_shameAt_9 : decode cX0_shameAt 9 = .ok (.aload_n 0, 1) := by decide +kernel
theorem dX0_shameAt_10 : decode cX0_shameAt 10 = .ok (.getfield 12, 3) := by decide +kernel
theorem dX0_shameAt_13 : decode cX0_shameAt 13 = .ok (.getfield 142, 3) := by decide +kernel
theorem dX0_shameAt_16 : decode cX0_shameAt 16 = .ok (.aload_n 0, 1) := by decide +kernel
theorem dX0_shameAt_17 : decode cX0_shameAt 17 = .ok (.getfield 47, 3) := by decide +kernel
theorem dX0_shameAt_20 : decode cX0_shameAt 20 = .ok (.imul, 1) := by decide +kernel
theorem dX0_shameAt_21 : decode cX0_shameAt 21 = .ok (.isub, 1) := by decide +kernel
theorem dX0_shameAt_22 : decode cX0_shameAt 22 = .ok (.istore_n 3, 1) := by decide +kernel
theorem dX0_shameAt_23 : decode cX0_shameAt 23 = .ok (.iconst 0, 1) := by decide +kernel
theorem dX0_shameAt_24 : decode cX0_shameAt 24 = .ok (.istore 4, 2) := by decide +kernel
theorem dX0_shameAt_26 : decode cX0_shameAt 26 = .ok (.iload 4, 2) := by decide +kernel
theorem dX0_shameAt_28 : decode cX0_shameAt 28 = .ok (.aload_n 0, 1) := by decide +kernel
theorem dX0_shameAt_29 : decode cX0_shameAt 29 = .ok (.getfield 25, 3) := by decide +kernel
theorem dX0_shameAt_32 : decode cX0_shameAt 32 = .ok (.if_icmp .ge 55, 3) := by decide +kernel
theorem dX0_shameAt_35 : decode cX0_shameAt 35 = .ok (.aload_n 0, 1) := by decide +kernel
theorem dX0_shameAt_36 : decode cX0_shameAt 36 = .ok (.getfield 18, 3) := by decide +kernel
theorem dX0_shameAt_39 : decode cX0_shameAt 39 = .ok (.iload_n 1, 1) := by decide +kernel
theorem dX0_shameAt_40 : decode cX0_shameAt 40 = .ok (.iaload, 1) := by decide +kernel
theorem dX0_shameAt_41 : decode cX0_shameAt 41 = .ok (.iconst 2, 1) := by decide +kernel
theorem dX0_shameAt_42 : decode cX0_shameAt 42 = .ok (.if_icmp .eq 45, 3) := by decide +kernel
theorem dX0_shameAt_45 : decode cX0_shameAt 45 = .ok (.aload_n 0, 1) := by decide +kernel
theorem dX0_shameAt_46 : decode cX0_shameAt 46 = .ok (.getfield 29, 3) := by decide +kernel
theorem dX0_shameAt_49 : decode cX0_shameAt 49 = .ok (.iload 4, 2) := by decide +kernel
theorem dX0_shameAt_51 : decode cX0_shameAt 51 = .ok (.iaload, 1) := by decide +kernel
theorem dX0_shameAt_52 : decode cX0_shameAt 52 = .ok (.iload_n 2, 1) := by decide +kernel
theorem dX0_shameAt_53 : decode cX0_shameAt 53 = .ok (.if_icmp .gt 28, 3) := by decide +kernel
theorem dX0_shameAt_56 : decode cX0_shameAt 56 = .ok (.aload_n 0, 1) := by decide +kernel
theorem dX0_shameAt_57 : decode cX0_shameAt 57 = .ok (.getfield 35, 3) := by decide +kernel
theorem dX0_shameAt_60 : decode cX0_shameAt 60 = .ok (.iload 4, 2) := by decide +kernel
theorem dX0_shameAt_62 : decode cX0_shameAt 62 = .ok (.iaload, 1) := by decide +kernel
theorem dX0_shameAt_63 : decode cX0_shameAt 63 = .ok (.iload_n 1, 1) := by decide +kernel
theorem dX0_shameAt_64 : decode cX0_shameAt 64 = .ok (.ishr, 1) := by decide +kernel
theorem dX0_shameAt_65 : decode cX0_shameAt 65 = .ok (.iconst 1, 1) := by decide +kernel
theorem dX0_shameAt_66 : decode cX0_shameAt 66 = .ok (.iand, 1) := by decide +kernel
theorem dX0_shameAt_67 : decode cX0_shameAt 67 = .ok (.iconst 1, 1) := by decide +kernel
theorem dX0_shameAt_68 : decode cX0_shameAt 68 = .ok (.if_icmp .ne 13, 3) := by decide +kernel
theorem dX0_shameAt_71 : decode cX0_shameAt 71 = .ok (.iload_n 3, 1) := by decide +kernel
theorem dX0_shameAt_72 : decode cX0_shameAt 72 = .ok (.aload_n 0, 1) := by decide +kernel
theorem dX0_shameAt_73 : decode cX0_shameAt 73 = .ok (.getfield 32, 3) := by decide +kernel
theorem dX0_shameAt_76 : decode cX0_shameAt 76 = .ok (.iload 4, 2) := by decide +kernel
theorem dX0_shameAt_78 : decode cX0_shameAt 78 = .ok (.iaload, 1) := by decide +kernel
theorem dX0_shameAt_79 : decode cX0_shameAt 79 = .ok (.isub, 1) := by decide +kernel
theorem dX0_shameAt_80 : decode cX0_shameAt 80 = .ok (.istore_n 3, 1) := by decide +kernel
theorem dX0_shameAt_81 : decode cX0_shameAt 81 = .ok (.iinc 4 1, 3) := by decide +kernel
theorem dX0_shameAt_84 : decode cX0_shameAt 84 = .ok (.goto (-58), 3) := by decide +kernel
theorem dX0_shameAt_87 : decode cX0_shameAt 87 = .ok (.iload_n 3, 1) := by decide +kernel
theorem dX0_shameAt_88 : decode cX0_shameAt 88 = .ok (.iconst 0, 1) := by decide +kernel
theorem dX0_shameAt_89 : decode cX0_shameAt 89 = .ok (.invokestatic 120, 3) := by decide +kernel
theorem dX0_shameAt_92 : decode cX0_shameAt 92 = .ok (.istore_n 3, 1) := by decide +kernel
theorem dX0_shameAt_93 : decode cX0_shameAt 93 = .ok (.iconst 0, 1) := by decide +kernel
theorem dX0_shameAt_94 : decode cX0_shameAt 94 = .ok (.istore 4, 2) := by decide +kernel
theorem dX0_shameAt_96 : decode cX0_shameAt 96 = .ok (.iload 4, 2) := by decide +kernel
theorem dX0_shameAt_98 : decode cX0_shameAt 98 = .ok (.aload_n 0, 1) := by decide +kernel
theorem dX0_shameAt_99 : decode cX0_shameAt 99 = .ok (.getfield 12, 3) := by decide +kernel
theorem dX0_shameAt_102 : decode cX0_shameAt 102 = .ok (.getfield 69, 3) := by decide +kernel
theorem dX0_shameAt_105 : decode cX0_shameAt 105 = .ok (.getfield 127, 3) := by decide +kernel
theorem dX0_shameAt_108 : decode cX0_shameAt 108 = .ok (.if_icmp .ge 39, 3) := by decide +kernel
theorem dX0_shameAt_111 : decode cX0_shameAt 111 = .ok (.aload_n 0, 1) := by decide +kernel
theorem dX0_shameAt_112 : decode cX0_shameAt 112 = .ok (.getfield 18, 3) := by decide +kernel
theorem dX0_shameAt_115 : decode cX0_shameAt 115 = .ok (.iload_n 1, 1) := by decide +kernel
theorem dX0_shameAt_116 : decode cX0_shameAt 116 = .ok (.iaload, 1) := by decide +kernel
theorem dX0_shameAt_117 : decode cX0_shameAt 117 = .ok (.iconst 1, 1) := by decide +kernel
theorem dX0_shameAt_118 : decode cX0_shameAt 118 = .ok (.if_icmp .ne 29, 3) := by decide +kernel
theorem dX0_shameAt_121 : decode cX0_shameAt 121 = .ok (.aload_n 0, 1) := by decide +kernel
theorem dX0_shameAt_122 : decode cX0_shameAt 122 = .ok (.getfield 12, 3) := by decide +kernel
theorem dX0_shameAt_125 : decode cX0_shameAt 125 = .ok (.getfield 69, 3) := by decide +kernel
theorem dX0_shameAt_128 : decode cX0_shameAt 128 = .ok (.getfield 130, 3) := by decide +kernel
theorem dX0_shameAt_131 : decode cX0_shameAt 131 = .ok (.iload 4, 2) := by decide +kernel
theorem dX0_shameAt_133 : decode cX0_shameAt 133 = .ok (.iaload, 1) := by decide +kernel
theorem dX0_shameAt_134 : decode cX0_shameAt 134 = .ok (.iload_n 2, 1) := by decide +kernel
theorem dX0_shameAt_135 : decode cX0_shameAt 135 = .ok (.if_icmp .gt 6, 3) := by decide +kernel
theorem dX0_shameAt_138 : decode cX0_shameAt 138 = .ok (.iinc 3 10, 3) := by decide +kernel
theorem dX0_shameAt_141 : decode cX0_shameAt 141 = .ok (.iinc 4 1, 3) := by decide +kernel
theorem dX0_shameAt_144 : decode cX0_shameAt 144 = .ok (.goto (-48), 3) := by decide +kernel
theorem dX0_shameAt_147 : decode cX0_shameAt 147 = .ok (.iload_n 3, 1) := by decide +kernel
theorem dX0_shameAt_148 : decode cX0_shameAt 148 = .ok (.ireturn, 1) := by decide +kernel
theorem dX0_goesAfter_0 : decode cX0_goesAfter 0 = .ok (.iload_n 1, 1) := by decide +kernel
theorem dX0_goesAfter_1 : decode cX0_goesAfter 1 = .ok (.istore_n 2, 1) := by decide +kernel
theorem dX0_goesAfter_2 : decode cX0_goesAfter 2 = .ok (.iconst 0, 1) := by decide +kernel
theorem dX0_goesAfter_3 : decode cX0_goesAfter 3 = .ok (.istore_n 3, 1) := by decide +kernel
theorem dX0_goesAfter_4 : decode cX0_goesAfter 4 = .ok (.iload_n 3, 1) := by decide +kernel
theorem dX0_goesAfter_5 : decode cX0_goesAfter 5 = .ok (.iconst 4, 1) := by decide +kernel
theorem dX0_goesAfter_6 : decode cX0_goesAfter 6 = .ok (.if_icmp .ge 62, 3) := by decide +kernel
theorem dX0_goesAfter_9 : decode cX0_goesAfter 9 = .ok (.iconst 0, 1) := by decide +kernel
theorem dX0_goesAfter_10 : decode cX0_goesAfter 10 = .ok (.istore 4, 2) := by decide +kernel
theorem dX0_goesAfter_12 : decode cX0_goesAfter 12 = .ok (.iload 4, 2) := by decide +kernel
theorem dX0_goesAfter_14 : decode cX0_goesAfter 14 = .ok (.iconst 4, 1) := by decide +kernel
theorem dX0_goesAfter_15 : decode cX0_goesAfter 15 = .ok (.if_icmp .ge 47, 3) := by decide +kernel
theorem dX0_goesAfter_18 : decode cX0_goesAfter 18 = .ok (.aload_n 0, 1) := by decide +kernel
theorem dX0_goesAfter_19 : decode cX0_goesAfter 19 = .ok (.getfield 53, 3) := by decide +kernel
theorem dX0_goesAfter_22 : decode cX0_goesAfter 22 = .ok (.iload 4, 2) := by decide +kernel
theorem dX0_goesAfter_24 : decode cX0_goesAfter 24 = .ok (.iaload, 1) := by decide +kernel
theorem dX0_goesAfter_25 : decode cX0_goesAfter 25 = .ok (.iload_n 2, 1) := by decide +kernel
theorem dX0_goesAfter_26 : decode cX0_goesAfter 26 = .ok (.if_icmp .le 30, 3) := by decide +kernel
theorem dX0_goesAfter_29 : decode cX0_goesAfter 29 = .ok (.aload_n 0, 1) := by decide +kernel
theorem dX0_goesAfter_30 : decode cX0_goesAfter 30 = .ok (.getfield 53, 3) := by decide +kernel
theorem dX0_goesAfter_33 : decode cX0_goesAfter 33 = .ok (.iload 4, 2) := by decide +kernel
theorem dX0_goesAfter_35 : decode cX0_goesAfter 35 = .ok (.iaload, 1) := by decide +kernel
theorem dX0_goesAfter_36 : decode cX0_goesAfter 36 = .ok (.iload_n 2, 1) := by decide +kernel
theorem dX0_goesAfter_37 : decode cX0_goesAfter 37 = .ok (.aload_n 0, 1) := by decide +kernel
theorem dX0_goesAfter_38 : decode cX0_goesAfter 38 = .ok (.getfield 12, 3) := by decide +kernel
theorem dX0_goesAfter_41 : decode cX0_goesAfter 41 = .ok (.getfield 145, 3) := by decide +kernel
theorem dX0_goesAfter_44 : decode cX0_goesAfter 44 = .ok (.iadd, 1) := by decide +kernel
theorem dX0_goesAfter_45 : decode cX0_goesAfter 45 = .ok (.if_icmp .gt 11, 3) := by decide +kernel
theorem dX0_goesAfter_48 : decode cX0_goesAfter 48 = .ok (.aload_n 0, 1) := by decide +kernel
theorem dX0_goesAfter_49 : decode cX0_goesAfter 49 = .ok (.getfield 53, 3) := by decide +kernel
theorem dX0_goesAfter_52 : decode cX0_goesAfter 52 = .ok (.iload 4, 2) := by decide +kernel
theorem dX0_goesAfter_54 : decode cX0_goesAfter 54 = .ok (.iaload, 1) := by decide +kernel
theorem dX0_goesAfter_55 : decode cX0_goesAfter 55 = .ok (.istore_n 2, 1) := by decide +kernel
theorem dX0_goesAfter_56 : decode cX0_goesAfter 56 = .ok (.iinc 4 1, 3) := by decide +kernel
theorem dX0_goesAfter_59 : decode cX0_goesAfter 59 = .ok (.goto (-47), 3) := by decide +kernel
theorem dX0_goesAfter_62 : decode cX0_goesAfter 62 = .ok (.iinc 3 1, 3) := by decide +kernel
theorem dX0_goesAfter_65 : decode cX0_goesAfter 65 = .ok (.goto (-61), 3) := by decide +kernel
theorem dX0_goesAfter_68 : decode cX0_goesAfter 68 = .ok (.iload_n 2, 1) := by decide +kernel
theorem dX0_goesAfter_69 : decode cX0_goesAfter 69 = .ok (.aload_n 0, 1) := by decide +kernel
theorem dX0_goesAfter_70 : decode cX0_goesAfter 70 = .ok (.getfield 12, 3) := by decide +kernel
theorem dX0_goesAfter_73 : decode cX0_goesAfter 73 = .ok (.getfield 145, 3) := by decide +kernel
theorem dX0_goesAfter_76 : decode cX0_goesAfter 76 = .ok (.iadd, 1) := by decide +kernel
theorem dX0_goesAfter_77 : decode cX0_goesAfter 77 = .ok (.ireturn, 1) := by decide +kernel
theorem dX0_standsIn_0 : decode cX0_standsIn 0 = .ok (.aload_n 0, 1) := by decide +kernel
theorem dX0_standsIn_1 : decode cX0_standsIn 1 = .ok (.getfield 53, 3) := by decide +kernel
theorem dX0_standsIn_4 : decode cX0_standsIn 4 = .ok (.aload_n 0, 1) := by decide +kernel
theorem dX0_standsIn_5 : decode cX0_standsIn 5 = .ok (.getfield 12, 3) := by decide +kernel
theorem dX0_standsIn_8 : decode cX0_standsIn 8 = .ok (.getfield 62, 3) := by decide +kernel
theorem dX0_standsIn_11 : decode cX0_standsIn 11 = .ok (.iload_n 1, 1) := by decide +kernel
theorem dX0_standsIn_12 : decode cX0_standsIn 12 = .ok (.iaload, 1) := by decide +kernel
theorem dX0_standsIn_13 : decode cX0_standsIn 13 = .ok (.iaload, 1) := by decide +kernel
theorem dX0_standsIn_14 : decode cX0_standsIn 14 = .ok (.ireturn, 1) := by decide +kernel
theorem dX0_goesIn_0 : decode cX0_goesIn 0 = .ok (.aload_n 0, 1) := by decide +kernel
theorem dX0_goesIn_1 : decode cX0_goesIn 1 = .ok (.getfield 56, 3) := by decide +kernel
theorem dX0_goesIn_4 : decode cX0_goesIn 4 = .ok (.aload_n 0, 1) := by decide +kernel
theorem dX0_goesIn_5 : decode cX0_goesIn 5 = .ok (.getfield 12, 3) := by decide +kernel
theorem dX0_goesIn_8 : decode cX0_goesIn 8 = .ok (.getfield 62, 3) := by decide +kernel
theorem dX0_goesIn_11 : decode cX0_goesIn 11 = .ok (.iload_n 1, 1) := by decide +kernel
theorem dX0_goesIn_12 : decode cX0_goesIn 12 = .ok (.iaload, 1) := by decide +kernel
theorem dX0_goesIn_13 : decode cX0_goesIn 13 = .ok (.iaload, 1) := by decide +kernel
theorem dX0_goesIn_14 : decode cX0_goesIn 14 = .ok (.ireturn, 1) := by decide +kernel
theorem dX0_lastGoes_0 : decode cX0_lastGoes 0 = .ok (.iconst 0, 1) := by decide +kernel
theorem dX0_lastGoes_1 : decode cX0_lastGoes 1 = .ok (.istore_n 1, 1) := by decide +kernel
theorem dX0_lastGoes_2 : decode cX0_lastGoes 2 = .ok (.iconst 0, 1) := by decide +kernel
theorem dX0_lastGoes_3 : decode cX0_lastGoes 3 = .ok (.istore_n 2, 1) := by decide +kernel
theorem dX0_lastGoes_4 : decode cX0_lastGoes 4 = .ok (.iload_n 2, 1) := by decide +kernel
theorem dX0_lastGoes_5 : decode cX0_lastGoes 5 = .ok (.aload_n 0, 1) := by decide +kernel
theorem dX0_lastGoes_6 : decode cX0_lastGoes 6 = .ok (.getfield 12, 3) := by decide +kernel
theorem dX0_lastGoes_9 : decode cX0_lastGoes 9 = .ok (.getfield 59, 3) := by decide +kernel
theorem dX0_lastGoes_12 : decode cX0_lastGoes 12 = .ok (.if_icmp .ge 19, 3) := by decide +kernel
theorem dX0_lastGoes_15 : decode cX0_lastGoes 15 = .ok (.iload_n 1, 1) := by decide +kernel
theorem dX0_lastGoes_16 : decode cX0_lastGoes 16 = .ok (.aload_n 0, 1) := by decide +kernel
theorem dX0_lastGoes_17 : decode cX0_lastGoes 17 = .ok (.iload_n 2, 1) := by decide +kernel
theorem dX0_lastGoes_18 : decode cX0_lastGoes 18 = .ok (.invokevirtual 148, 3) := by decide +kernel
theorem dX0_lastGoes_21 : decode cX0_lastGoes 21 = .ok (.invokestatic 120, 3) := by decide +kernel
theorem dX0_lastGoes_24 : decode cX0_lastGoes 24 = .ok (.istore_n 1, 1) := by decide +kernel
theorem dX0_lastGoes_25 : decode cX0_lastGoes 25 = .ok (.iinc 2 1, 3) := by decide +kernel
theorem dX0_lastGoes_28 : decode cX0_lastGoes 28 = .ok (.goto (-24), 3) := by decide +kernel
theorem dX0_lastGoes_31 : decode cX0_lastGoes 31 = .ok (.iload_n 1, 1) := by decide +kernel
theorem dX0_lastGoes_32 : decode cX0_lastGoes 32 = .ok (.ireturn, 1) := by decide +kernel
theorem dX0_wastedBy_0 : decode cX0_wastedBy 0 = .ok (.aload_n 0, 1) := by decide +kernel
theorem dX0_wastedBy_1 : decode cX0_wastedBy 1 = .ok (.iload_n 1, 1) := by decide +kernel
theorem dX0_wastedBy_2 : decode cX0_wastedBy 2 = .ok (.invokevirtual 148, 3) := by decide +kernel
theorem dX0_wastedBy_5 : decode cX0_wastedBy 5 = .ok (.aload_n 0, 1) := by decide +kernel
theorem dX0_wastedBy_6 : decode cX0_wastedBy 6 = .ok (.getfield 12, 3) := by decide +kernel
theorem dX0_wastedBy_9 : decode cX0_wastedBy 9 = .ok (.getfield 66, 3) := by decide +kernel
theorem dX0_wastedBy_12 : decode cX0_wastedBy 12 = .ok (.iload_n 1, 1) := by decide +kernel
theorem dX0_wastedBy_13 : decode cX0_wastedBy 13 = .ok (.iaload, 1) := by decide +kernel
theorem dX0_wastedBy_14 : decode cX0_wastedBy 14 = .ok (.isub, 1) := by decide +kernel
theorem dX0_wastedBy_15 : decode cX0_wastedBy 15 = .ok (.invokestatic 151, 3) := by decide +kernel
theorem dX0_wastedBy_18 : decode cX0_wastedBy 18 = .ok (.ireturn, 1) := by decide +kernel
theorem dX0_wastedByHost_0 : decode cX0_wastedByHost 0 = .ok (.aload_n 0, 1) := by decide +kernel
theorem dX0_wastedByHost_1 : decode cX0_wastedByHost 1 = .ok (.invokevirtual 154, 3) := by decide +kernel
theorem dX0_wastedByHost_4 : decode cX0_wastedByHost 4 = .ok (.aload_n 0, 1) := by decide +kernel
theorem dX0_wastedByHost_5 : decode cX0_wastedByHost 5 = .ok (.getfield 12, 3) := by decide +kernel
theorem dX0_wastedByHost_8 : decode cX0_wastedByHost 8 = .ok (.getfield 158, 3) := by decide +kernel
theorem dX0_wastedByHost_11 : decode cX0_wastedByHost 11 = .ok (.isub, 1) := by decide +kernel
theorem dX0_wastedByHost_12 : decode cX0_wastedByHost 12 = .ok (.invokestatic 151, 3) := by decide +kernel
theorem dX0_wastedByHost_15 : decode cX0_wastedByHost 15 = .ok (.ireturn, 1) := by decide +kernel
theorem dX0_wastedByAll_0 : decode cX0_wastedByAll 0 = .ok (.aload_n 0, 1) := by decide +kernel
theorem dX0_wastedByAll_1 : decode cX0_wastedByAll 1 = .ok (.invokevirtual 161, 3) := by decide +kernel
theorem dX0_wastedByAll_4 : decode cX0_wastedByAll 4 = .ok (.istore_n 1, 1) := by decide +kernel
theorem dX0_wastedByAll_5 : decode cX0_wastedByAll 5 = .ok (.iconst 0, 1) := by decide +kernel
theorem dX0_wastedByAll_6 : decode cX0_wastedByAll 6 = .ok (.istore_n 2, 1) := by decide +kernel
theorem dX0_wastedByAll_7 : decode cX0_wastedByAll 7 = .ok (.iload_n 2, 1) := by decide +kernel
theorem dX0_wastedByAll_8 : decode cX0_wastedByAll 8 = .ok (.aload_n 0, 1) := by decide +kernel
theorem dX0_wastedByAll_9 : decode cX0_wastedByAll 9 = .ok (.getfield 12, 3) := by decide +kernel
theorem dX0_wastedByAll_12 : decode cX0_wastedByAll 12 = .ok (.getfield 59, 3) := by decide +kernel
theorem dX0_wastedByAll_15 : decode cX0_wastedByAll 15 = .ok (.if_icmp .ge 17, 3) := by decide +kernel
theorem dX0_wastedByAll_18 : decode cX0_wastedByAll 18 = .ok (.iload_n 1, 1) := by decide +kernel
theorem dX0_wastedByAll_19 : decode cX0_wastedByAll 19 = .ok (.aload_n 0, 1) := by decide +kernel
theorem dX0_wastedByAll_20 : decode cX0_wastedByAll 20 = .ok (.iload_n 2, 1) := by decide +kernel
theorem dX0_wastedByAll_21 : decode cX0_wastedByAll 21 = .ok (.invokevirtual 164, 3) := by decide +kernel
theorem dX0_wastedByAll_24 : decode cX0_wastedByAll 24 = .ok (.iadd, 1) := by decide +kernel
theorem dX0_wastedByAll_25 : decode cX0_wastedByAll 25 = .ok (.istore_n 1, 1) := by decide +kernel
theorem dX0_wastedByAll_26 : decode cX0_wastedByAll 26 = .ok (.iinc 2 1, 3) := by decide +kernel
theorem dX0_wastedByAll_29 : decode cX0_wastedByAll 29 = .ok (.goto (-22), 3) := by decide +kernel
theorem dX0_wastedByAll_32 : decode cX0_wastedByAll 32 = .ok (.iload_n 1, 1) := by decide +kernel
theorem dX0_wastedByAll_33 : decode cX0_wastedByAll 33 = .ok (.ireturn, 1) := by decide +kernel
theorem dX1_init_0 : decode cX1_init 0 = .ok (.aload_n 0, 1) := by decide +kernel
theorem dX1_init_1 : decode cX1_init 1 = .ok (.invokespecial 3, 3) := by decide +kernel
theorem dX1_init_4 : decode cX1_init 4 = .ok (.aload_n 0, 1) := by decide +kernel
theorem dX1_init_5 : decode cX1_init 5 = .ok (.iconst 0, 1) := by decide +kernel
theorem dX1_init_6 : decode cX1_init 6 = .ok (.putfield 9, 3) := by decide +kernel
theorem dX1_init_9 : decode cX1_init 9 = .ok (.aload_n 0, 1) := by decide +kernel
theorem dX1_init_10 : decode cX1_init 10 = .ok (.iconst 0, 1) := by decide +kernel
theorem dX1_init_11 : decode cX1_init 11 = .ok (.putfield 15, 3) := by decide +kernel
theorem dX1_init_14 : decode cX1_init 14 = .ok (.aload_n 0, 1) := by decide +kernel
theorem dX1_init_15 : decode cX1_init 15 = .ok (.iconst 4, 1) := by decide +kernel
theorem dX1_init_16 : decode cX1_init 16 = .ok (.newarray .int, 2) := by decide +kernel
theorem dX1_init_18 : decode cX1_init 18 = .ok (.putfield 19, 3) := by decide +kernel
theorem dX1_init_21 : decode cX1_init 21 = .ok (.aload_n 0, 1) := by decide +kernel
theorem dX1_init_22 : decode cX1_init 22 = .ok (.iconst 4, 1) := by decide +kernel
theorem dX1_init_23 : decode cX1_init 23 = .ok (.newarray .int, 2) := by decide +kernel
theorem dX1_init_25 : decode cX1_init 25 = .ok (.putfield 23, 3) := by decide +kernel
theorem dX1_init_28 : decode cX1_init 28 = .ok (.aload_n 0, 1) := by decide +kernel
theorem dX1_init_29 : decode cX1_init 29 = .ok (.iconst 4, 1) := by decide +kernel
theorem dX1_init_30 : decode cX1_init 30 = .ok (.newarray .int, 2) := by decide +kernel
theorem dX1_init_32 : decode cX1_init 32 = .ok (.putfield 26, 3) := by decide +kernel
theorem dX1_init_35 : decode cX1_init 35 = .ok (.aload_n 0, 1) := by decide +kernel
theorem dX1_init_36 : decode cX1_init 36 = .ok (.iconst 4, 1) := by decide +kernel
theorem dX1_init_37 : decode cX1_init 37 = .ok (.newarray .int, 2) := by decide +kernel
theorem dX1_init_39 : decode cX1_init 39 = .ok (.putfield 29, 3) := by decide +kernel
theorem dX1_init_42 : decode cX1_init 42 = .ok (.aload_n 0, 1) := by decide +kernel
theorem dX1_init_43 : decode cX1_init 43 = .ok (.iconst 0, 1) := by decide +kernel
theorem dX1_init_44 : decode cX1_init 44 = .ok (.putfield 32, 3) := by decide +kernel
theorem dX1_init_47 : decode cX1_init 47 = .ok (.aload_n 0, 1) := by decide +kernel
theorem dX1_init_48 : decode cX1_init 48 = .ok (.iconst 0, 1) := by decide +kernel
theorem dX1_init_49 : decode cX1_init 49 = .ok (.putfield 35, 3) := by decide +kernel
theorem dX1_init_52 : decode cX1_init 52 = .ok (.aload_n 0, 1) := by decide +kernel
theorem dX1_init_53 : decode cX1_init 53 = .ok (.iconst 0, 1) := by decide +kernel
theorem dX1_init_54 : decode cX1_init 54 = .ok (.putfield 38, 3) := by decide +kernel
theorem dX1_init_57 : decode cX1_init 57 = .ok (.return_, 1) := by decide +kernel
theorem dX1_gather_0 : decode cX1_gather 0 = .ok (.aload_n 0, 1) := by decide +kernel
theorem dX1_gather_1 : decode cX1_gather 1 = .ok (.iconst 0, 1) := by decide +kernel
theorem dX1_gather_2 : decode cX1_gather 2 = .ok (.putfield 9, 3) := by decide +kernel
theorem dX1_gather_5 : decode cX1_gather 5 = .ok (.aload_n 0, 1) := by decide +kernel
theorem dX1_gather_6 : decode cX1_gather 6 = .ok (.iconst 0, 1) := by decide +kernel
theorem dX1_gather_7 : decode cX1_gather 7 = .ok (.putfield 15, 3) := by decide +kernel
theorem dX1_gather_10 : decode cX1_gather 10 = .ok (.iconst 0, 1) := by decide +kernel
theorem dX1_gather_11 : decode cX1_gather 11 = .ok (.istore_n 2, 1) := by decide +kernel
theorem dX1_gather_12 : decode cX1_gather 12 = .ok (.iload_n 2, 1) := by decide +kernel
theorem dX1_gather_13 : decode cX1_gather 13 = .ok (.iconst 4, 1) := by decide +kernel
theorem dX1_gather_14 : decode cX1_gather 14 = .ok (.if_icmp .ge 133, 3) := by decide +kernel
theorem dX1_gather_17 : decode cX1_gather 17 = .ok (.iconst 0, 1) := by decide +kernel
theorem dX1_gather_18 : decode cX1_gather 18 = .ok (.istore_n 3, 1) := by decide +kernel
theorem dX1_gather_19 : decode cX1_gather 19 = .ok (.aload_n 0, 1) := by decide +kernel
theorem dX1_gather_20 : decode cX1_gather 20 = .ok (.getfield 19, 3) := by decide +kernel
theorem dX1_gather_23 : decode cX1_gather 23 = .ok (.aload_n 0, 1) := by decide +kernel
theorem dX1_gather_24 : decode cX1_gather 24 = .ok (.getfield 15, 3) := by decide +kernel
theorem dX1_gather_27 : decode cX1_gather 27 = .ok (.iconst 0, 1) := by decide +kernel
theorem dX1_gather_28 : decode cX1_gather 28 = .ok (.iastore, 1) := by decide +kernel
theorem dX1_gather_29 : decode cX1_gather 29 = .ok (.aload_n 0, 1) := by decide +kernel
theorem dX1_gather_30 : decode cX1_gather 30 = .ok (.getfield 23, 3) := by decide +kernel
theorem dX1_gather_33 : decode cX1_gather 33 = .ok (.aload_n 0, 1) := by decide +kernel
theorem dX1_gather_34 : decode cX1_gather 34 = .ok (.getfield 15, 3) := by decide +kernel
theorem dX1_gather_37 : decode cX1_gather 37 = .ok (.iconst 0, 1) := by decide +kernel
theorem dX1_gather_38 : decode cX1_gather 38 = .ok (.iastore, 1) := by decide +kernel
theorem dX1_gather_39 : decode cX1_gather 39 = .ok (.iconst 0, 1) := by decide +kernel
theorem dX1_gather_40 : decode cX1_gather 40 = .ok (.istore 4, 2) := by decide +kernel
theorem dX1_gather_42 : decode cX1_gather 42 = .ok (.iload 4, 2) := by decide +kernel
theorem dX1_gather_44 : decode cX1_gather 44 = .ok (.aload_n 1, 1) := by decide +kernel
theorem dX1_gather_45 : decode cX1_gather 45 = .ok (.getfield 41, 3) := by decide +kernel
theorem dX1_gather_48 : decode cX1_gather 48 = .ok (.if_icmp .ge 79, 3) := by decide +kernel
theorem dX1_gather_51 : decode cX1_gather 51 = .ok (.aload_n 1, 1) := by decide +kernel
theorem dX1_gather_52 : decode cX1_gather 52 = .ok (.getfield 46, 3) := by decide +kernel
theorem dX1_gather_55 : decode cX1_gather 55 = .ok (.iload 4, 2) := by decide +kernel
theorem dX1_gather_57 : decode cX1_gather 57 = .ok (.iaload, 1) := by decide +kernel
theorem dX1_gather_58 : decode cX1_gather 58 = .ok (.iload_n 2, 1) := by decide +kernel
theorem dX1_gather_59 : decode cX1_gather 59 = .ok (.if_icmp .ne 62, 3) := by decide +kernel
theorem dX1_gather_62 : decode cX1_gather 62 = .ok (.iinc 3 1, 3) := by decide +kernel
theorem dX1_gather_65 : decode cX1_gather 65 = .ok (.aload_n 0, 1) := by decide +kernel
theorem dX1_gather_66 : decode cX1_gather 66 = .ok (.getfield 19, 3) := by decide +kernel
theorem dX1_gather_69 : decode cX1_gather 69 = .ok (.aload_n 0, 1) := by decide +kernel
theorem dX1_gather_70 : decode cX1_gather 70 = .ok (.getfield 15, 3) := by decide +kernel
theorem dX1_gather_73 : decode cX1_gather 73 = .ok (.aload_n 0, 1) := by decide +kernel
theorem dX1_gather_74 : decode cX1_gather 74 = .ok (.getfield 19, 3) := by decide +kernel
theorem dX1_gather_77 : decode cX1_gather 77 = .ok (.aload_n 0, 1) := by decide +kernel
theorem dX1_gather_78 : decode cX1_gather 78 = .ok (.getfield 15, 3) := by decide +kernel
theorem dX1_gather_81 : decode cX1_gather 81 = .ok (.iaload, 1) := by decide +kernel
theorem dX1_gather_82 : decode cX1_gather 82 = .ok (.aload_n 1, 1) := by decide +kernel
theorem dX1_gather_83 : decode cX1_gather 83 = .ok (.getfield 49, 3) := by decide +kernel
theorem dX1_gather_86 : decode cX1_gather 86 = .ok (.iload 4, 2) := by decide +kernel
theorem dX1_gather_88 : decode cX1_gather 88 = .ok (.iaload, 1) := by decide +kernel
theorem dX1_gather_89 : decode cX1_gather 89 = .ok (.invokestatic 50, 3) := by decide +kernel
theorem dX1_gather_92 : decode cX1_gather 92 = .ok (.iastore, 1) := by decide +kernel
theorem dX1_gather_93 : decode cX1_gather 93 = .ok (.aload_n 0, 1) := by decide +kernel
theorem dX1_gather_94 : decode cX1_gather 94 = .ok (.getfield 23, 3) := by decide +kernel
theorem dX1_gather_97 : decode cX1_gather 97 = .ok (.aload_n 0, 1) := by decide +kernel
theorem dX1_gather_98 : decode cX1_gather 98 = .ok (.getfield 15, 3) := by decide +kernel
theorem dX1_gather_101 : decode cX1_gather 101 = .ok (.aload_n 0, 1) := by decide +kernel
theorem dX1_gather_102 : decode cX1_gather 102 = .ok (.getfield 23, 3) := by decide +kernel
theorem dX1_gather_105 : decode cX1_gather 105 = .ok (.aload_n 0, 1) := by decide +kernel
theorem dX1_gather_106 : decode cX1_gather 106 = .ok (.getfield 15, 3) := by decide +kernel
theorem dX1_gather_109 : decode cX1_gather 109 = .ok (.iaload, 1) := by decide +kernel
theorem dX1_gather_110 : decode cX1_gather 110 = .ok (.aload_n 1, 1) := by decide +kernel
theorem dX1_gather_111 : decode cX1_gather 111 = .ok (.getfield 56, 3) := by decide +kernel
theorem dX1_gather_114 : decode cX1_gather 114 = .ok (.iload 4, 2) := by decide +kernel
theorem dX1_gather_116 : decode cX1_gather 116 = .ok (.iaload, 1) := by decide +kernel
theorem dX1_gather_117 : decode cX1_gather 117 = .ok (.invokestatic 50, 3) := by decide +kernel
theorem dX1_gather_120 : decode cX1_gather 120 = .ok (.iastore, 1) := by decide +kernel
theorem dX1_gather_121 : decode cX1_gather 121 = .ok (.iinc 4 1, 3) := by decide +kernel
theorem dX1_gather_124 : decode cX1_gather 124 = .ok (.goto (-82), 3) := by decide +kernel
theorem dX1_gather_127 : decode cX1_gather 127 = .ok (.iload_n 3, 1) := by decide +kernel
theorem dX1_gather_128 : decode cX1_gather 128 = .ok (.ifCond .le 13, 3) := by decide +kernel
theorem dX1_gather_131 : decode cX1_gather 131 = .ok (.aload_n 0, 1) := by decide +kernel
theorem dX1_gather_132 : decode cX1_gather 132 = .ok (.dup, 1) := by decide +kernel
theorem dX1_gather_133 : decode cX1_gather 133 = .ok (.getfield 15, 3) := by decide +kernel
theorem dX1_gather_136 : decode cX1_gather 136 = .ok (.iconst 1, 1) := by decide +kernel
theorem dX1_gather_137 : decode cX1_gather 137 = .ok (.iadd, 1) := by decide +kernel
theorem dX1_gather_138 : decode cX1_gather 138 = .ok (.putfield 15, 3) := by decide +kernel
theorem dX1_gather_141 : decode cX1_gather 141 = .ok (.iinc 2 1, 3) := by decide +kernel
theorem dX1_gather_144 : decode cX1_gather 144 = .ok (.goto (-132), 3) := by decide +kernel
theorem dX1_gather_147 : decode cX1_gather 147 = .ok (.return_, 1) := by decide +kernel
theorem dX1_chooseByFigures_0 : decode cX1_chooseByFigures 0 = .ok (.iload_n 1, 1) := by decide +kernel
theorem dX1_chooseByFigures_1 : decode cX1_chooseByFigures 1 = .ok (.istore_n 2, 1) := by decide +kernel
theorem dX1_chooseByFigures_2 : decode cX1_chooseByFigures 2 = .ok (.iconst 0, 1) := by decide +kernel
theorem dX1_chooseByFigures_3 : decode cX1_chooseByFigures 3 = .ok (.istore_n 3, 1) := by decide +kernel
theorem dX1_chooseByFigures_4 : decode cX1_chooseByFigures 4 = .ok (.iload_n 3, 1) := by decide +kernel
theorem dX1_chooseByFigures_5 : decode cX1_chooseByFigures 5 = .ok (.aload_n 0, 1) := by decide +kernel
theorem dX1_chooseByFigures_6 : decode cX1_chooseByFigures 6 = .ok (.getfield 15, 3) := by decide +kernel
theorem dX1_chooseByFigures_9 : decode cX1_chooseByFigures 9 = .ok (.if_icmp .ge 37, 3) := by decide +kernel
theorem dX1_chooseByFigures_12 : decode cX1_chooseByFigures 12 = .ok (.aload_n 0, 1) := by decide +kernel
theorem dX1_chooseByFigures_13 : decode cX1_chooseByFigures 13 = .ok (.getfield 26, 3) := by decide +kernel
theorem dX1_chooseByFigures_16 : decode cX1_chooseByFigures 16 = .ok (.iload_n 3, 1) := by decide +kernel
theorem dX1_chooseByFigures_17 : decode cX1_chooseByFigures 17 = .ok (.iload_n 2, 1) := by decide +kernel
theorem dX1_chooseByFigures_18 : decode cX1_chooseByFigures 18 = .ok (.bipush 10, 2) := by decide +kernel
theorem dX1_chooseByFigures_20 : decode cX1_chooseByFigures 20 = .ok (.irem, 1) := by decide +kernel
theorem dX1_chooseByFigures_21 : decode cX1_chooseByFigures 21 = .ok (.iastore, 1) := by decide +kernel
theorem dX1_chooseByFigures_22 : decode cX1_chooseByFigures 22 = .ok (.iload_n 2, 1) := by decide +kernel
theorem dX1_chooseByFigures_23 : decode cX1_chooseByFigures 23 = .ok (.bipush 10, 2) := by decide +kernel
theorem dX1_chooseByFigures_25 : decode cX1_chooseByFigures 25 = .ok (.idiv, 1) := by decide +kernel
theorem dX1_chooseByFigures_26 : decode cX1_chooseByFigures 26 = .ok (.istore_n 2, 1) := by decide +kernel
theorem dX1_chooseByFigures_27 : decode cX1_chooseByFigures 27 = .ok (.aload_n 0, 1) := by decide +kernel
theorem dX1_chooseByFigures_28 : decode cX1_chooseByFigures 28 = .ok (.getfield 26, 3) := by decide +kernel
theorem dX1_chooseByFigures_31 : decode cX1_chooseByFigures 31 = .ok (.iload_n 3, 1) := by decide +kernel
theorem dX1_chooseByFigures_32 : decode cX1_chooseByFigures 32 = .ok (.iaload, 1) := by decide +kernel
theorem dX1_chooseByFigures_33 : decode cX1_chooseByFigures 33 = .ok (.bipush 6, 2) := by decide +kernel
theorem dX1_chooseByFigures_35 : decode cX1_chooseByFigures 35 = .ok (.if_icmp .lt 5, 3) := by decide +kernel
theorem dX1_chooseByFigures_38 : decode cX1_chooseByFigures 38 = .ok (.iconst 0, 1) := by decide +kernel
theorem dX1_chooseByFigures_39 : decode cX1_chooseByFigures 39 = .ok (.ireturn, 1) := by decide +kernel
theorem dX1_chooseByFigures_40 : decode cX1_chooseByFigures 40 = .ok (.iinc 3 1, 3) := by decide +kernel
theorem dX1_chooseByFigures_43 : decode cX1_chooseByFigures 43 = .ok (.goto (-39), 3) := by decide +kernel
theorem dX1_chooseByFigures_46 : decode cX1_chooseByFigures 46 = .ok (.iconst 1, 1) := by decide +kernel
theorem dX1_chooseByFigures_47 : decode cX1_chooseByFigures 47 = .ok (.ireturn, 1) := by decide +kernel
theorem dX1_costOf_0 : decode cX1_costOf 0 = .ok (.sipush 180, 3) := by decide +kernel
theorem dX1_costOf_3 : decode cX1_costOf 3 = .ok (.bipush 30, 2) := by decide +kernel
theorem dX1_costOf_5 : decode cX1_costOf 5 = .ok (.aload_n 0, 1) := by decide +kernel
theorem dX1_costOf_6 : decode cX1_costOf 6 = .ok (.getfield 26, 3) := by decide +kernel
theorem dX1_costOf_9 : decode cX1_costOf 9 = .ok (.iload_n 1, 1) := by decide +kernel
theorem dX1_costOf_10 : decode cX1_costOf 10 = .ok (.iaload, 1) := by decide +kernel
theorem dX1_costOf_11 : decode cX1_costOf 11 = .ok (.imul, 1) := by decide +kernel
theorem dX1_costOf_12 : decode cX1_costOf 12 = .ok (.iadd, 1) := by decide +kernel
theorem dX1_costOf_13 : decode cX1_costOf 13 = .ok (.aload_n 0, 1) := by decide +kernel
theorem dX1_costOf_14 : decode cX1_costOf 14 = .ok (.getfield 19, 3) := by decide +kernel
theorem dX1_costOf_17 : decode cX1_costOf 17 = .ok (.iload_n 1, 1) := by decide +kernel
theorem dX1_costOf_18 : decode cX1_costOf 18 = .ok (.iaload, 1) := by decide +kernel
theorem dX1_costOf_19 : decode cX1_costOf 19 = .ok (.isub, 1) := by decide +kernel
theorem dX1_costOf_20 : decode cX1_costOf 20 = .ok (.invokestatic 57, 3) := by decide +kernel
theorem dX1_costOf_23 : decode cX1_costOf 23 = .ok (.istore_n 2, 1) := by decide +kernel
theorem dX1_costOf_24 : decode cX1_costOf 24 = .ok (.aload_n 0, 1) := by decide +kernel
theorem dX1_costOf_25 : decode cX1_costOf 25 = .ok (.iload_n 1, 1) := by decide +kernel
theorem dX1_costOf_26 : decode cX1_costOf 26 = .ok (.invokevirtual 61, 3) := by decide +kernel
theorem dX1_costOf_29 : decode cX1_costOf 29 = .ok (.ifCond .eq 14, 3) := by decide +kernel
theorem dX1_costOf_32 : decode cX1_costOf 32 = .ok (.iload_n 2, 1) := by decide +kernel
theorem dX1_costOf_33 : decode cX1_costOf 33 = .ok (.aload_n 0, 1) := by decide +kernel
theorem dX1_costOf_34 : decode cX1_costOf 34 = .ok (.getfield 23, 3) := by decide +kernel
theorem dX1_costOf_37 : decode cX1_costOf 37 = .ok (.iload_n 1, 1) := by decide +kernel
theorem dX1_costOf_38 : decode cX1_costOf 38 = .ok (.iaload, 1) := by decide +kernel
theorem dX1_costOf_39 : decode cX1_costOf 39 = .ok (.iadd, 1) := by decide +kernel
theorem dX1_costOf_40 : decode cX1_costOf 40 = .ok (.goto 4, 3) := by decide +kernel
theorem dX1_costOf_43 : decode cX1_costOf 43 = .ok (.iload_n 2, 1) := by decide +kernel
theorem dX1_costOf_44 : decode cX1_costOf 44 = .ok (.ireturn, 1) := by decide +kernel
theorem dX1_isFirstAlone_0 : decode cX1_isFirstAlone 0 = .ok (.iconst 0, 1) := by decide +kernel
theorem dX1_isFirstAlone_1 : decode cX1_isFirstAlone 1 = .ok (.istore_n 2, 1) := by decide +kernel
theorem dX1_isFirstAlone_2 : decode cX1_isFirstAlone 2 = .ok (.iload_n 2, 1) := by decide +kernel
theorem dX1_isFirstAlone_3 : decode cX1_isFirstAlone 3 = .ok (.aload_n 0, 1) := by decide +kernel
theorem dX1_isFirstAlone_4 : decode cX1_isFirstAlone 4 = .ok (.getfield 15, 3) := by decide +kernel
theorem dX1_isFirstAlone_7 : decode cX1_isFirstAlone 7 = .ok (.if_icmp .ge 31, 3) := by decide +kernel
theorem dX1_isFirstAlone_10 : decode cX1_isFirstAlone 10 = .ok (.iload_n 2, 1) := by decide +kernel
theorem dX1_isFirstAlone_11 : decode cX1_isFirstAlone 11 = .ok (.iload_n 1, 1) := by decide +kernel
theorem dX1_isFirstAlone_12 : decode cX1_isFirstAlone 12 = .ok (.if_icmp .eq 20, 3) := by decide +kernel
theorem dX1_isFirstAlone_15 : decode cX1_isFirstAlone 15 = .ok (.aload_n 0, 1) := by decide +kernel
theorem dX1_isFirstAlone_16 : decode cX1_isFirstAlone 16 = .ok (.getfield 26, 3) := by decide +kernel
theorem dX1_isFirstAlone_19 : decode cX1_isFirstAlone 19 = .ok (.iload_n 2, 1) := by decide +kernel
theorem dX1_isFirstAlone_20 : decode cX1_isFirstAlone 20 = .ok (.iaload, 1) := by decide +kernel
theorem dX1_isFirstAlone_21 : decode cX1_isFirstAlone 21 = .ok (.aload_n 0, 1) := by decide +kernel
theorem dX1_isFirstAlone_22 : decode cX1_isFirstAlone 22 = .ok (.getfield 26, 3) := by decide +kernel
theorem dX1_isFirstAlone_25 : decode cX1_isFirstAlone 25 = .ok (.iload_n 1, 1) := by decide +kernel
theorem dX1_isFirstAlone_26 : decode cX1_isFirstAlone 26 = .ok (.iaload, 1) := by decide +kernel
theorem dX1_isFirstAlone_27 : decode cX1_isFirstAlone 27 = .ok (.if_icmp .gt 5, 3) := by decide +kernel
theorem dX1_isFirstAlone_30 : decode cX1_isFirstAlone 30 = .ok (.iconst 0, 1) := by decide +kernel
theorem dX1_isFirstAlone_31 : decode cX1_isFirstAlone 31 = .ok (.ireturn, 1) := by decide +kernel
theorem dX1_isFirstAlone_32 : decode cX1_isFirstAlone 32 = .ok (.iinc 2 1, 3) := by decide +kernel
theorem dX1_isFirstAlone_35 : decode cX1_isFirstAlone 35 = .ok (.goto (-33), 3) := by decide +kernel
theorem dX1_isFirstAlone_38 : decode cX1_isFirstAlone 38 = .ok (.iconst 1, 1) := by decide +kernel
theorem dX1_isFirstAlone_39 : decode cX1_isFirstAlone 39 = .ok (.ireturn, 1) := by decide +kernel
theorem dX1_reckon_0 : decode cX1_reckon 0 = .ok (.aload_n 0, 1) := by decide +kernel
theorem dX1_reckon_1 : decode cX1_reckon 1 = .ok (.getfield 9, 3) := by decide +kernel
theorem dX1_reckon_4 : decode cX1_reckon 4 = .ok (.ifCond .eq 4, 3) := by decide +kernel
theorem dX1_reckon_7 : decode cX1_reckon 7 = .ok (.return_, 1) := by decide +kernel
theorem dX1_reckon_8 : decode cX1_reckon 8 = .ok (.aload_n 0, 1) := by decide +kernel
theorem dX1_reckon_9 : decode cX1_reckon 9 = .ok (.iconst 0, 1) := by decide +kernel
theorem dX1_reckon_10 : decode cX1_reckon 10 = .ok (.putfield 32, 3) := by decide +kernel
theorem dX1_reckon_13 : decode cX1_reckon 13 = .ok (.aload_n 0, 1) := by decide +kernel
theorem dX1_reckon_14 : decode cX1_reckon 14 = .ok (.ldc 65, 2) := by decide +kernel
theorem dX1_reckon_16 : decode cX1_reckon 16 = .ok (.putfield 35, 3) := by decide +kernel
theorem dX1_reckon_19 : decode cX1_reckon 19 = .ok (.aload_n 0, 1) := by decide +kernel
theorem dX1_reckon_20 : decode cX1_reckon 20 = .ok (.ldc 65, 2) := by decide +kernel
theorem dX1_reckon_22 : decode cX1_reckon 22 = .ok (.putfield 38, 3) := by decide +kernel
theorem dX1_reckon_25 : decode cX1_reckon 25 = .ok (.iconst 1, 1) := by decide +kernel
theorem dX1_reckon_26 : decode cX1_reckon 26 = .ok (.istore_n 1, 1) := by decide +kernel
theorem dX1_reckon_27 : decode cX1_reckon 27 = .ok (.iconst 0, 1) := by decide +kernel
theorem dX1_reckon_28 : decode cX1_reckon 28 = .ok (.istore_n 2, 1) := by decide +kernel
theorem dX1_reckon_29 : decode cX1_reckon 29 = .ok (.iload_n 2, 1) := by decide +kernel
theorem dX1_reckon_30 : decode cX1_reckon 30 = .ok (.aload_n 0, 1) := by decide +kernel
theorem dX1_reckon_31 : decode cX1_reckon 31 = .ok (.getfield 15, 3) := by decide +kernel
theorem dX1_reckon_34 : decode cX1_reckon 34 = .ok (.if_icmp .ge 14, 3) := by decide +kernel
theorem dX1_reckon_37 : decode cX1_reckon 37 = .ok (.iload_n 1, 1) := by decide +kernel
theorem dX1_reckon_38 : decode cX1_reckon 38 = .ok (.bipush 6, 2) := by decide +kernel
theorem dX1_reckon_40 : decode cX1_reckon 40 = .ok (.imul, 1) := by decide +kernel
theorem dX1_reckon_41 : decode cX1_reckon 41 = .ok (.istore_n 1, 1) := by decide +kernel
theorem dX1_reckon_42 : decode cX1_reckon 42 = .ok (.iinc 2 1, 3) := by decide +kernel
theorem dX1_reckon_45 : decode cX1_reckon 45 = .ok (.goto (-16), 3) := by decide +kernel
theorem dX1_reckon_48 : decode cX1_reckon 48 = .ok (.iconst 0, 1) := by decide +kernel
theorem dX1_reckon_49 : decode cX1_reckon 49 = .ok (.istore_n 2, 1) := by decide +kernel
theorem dX1_reckon_50 : decode cX1_reckon 50 = .ok (.iload_n 2, 1) := by decide +kernel
theorem dX1_reckon_51 : decode cX1_reckon 51 = .ok (.iload_n 1, 1) := by decide +kernel
theorem dX1_reckon_52 : decode cX1_reckon 52 = .ok (.if_icmp .ge 18, 3) := by decide +kernel
theorem dX1_reckon_55 : decode cX1_reckon 55 = .ok (.aload_n 0, 1) := by decide +kernel
theorem dX1_reckon_56 : decode cX1_reckon 56 = .ok (.iload_n 2, 1) := by decide +kernel
theorem dX1_reckon_57 : decode cX1_reckon 57 = .ok (.invokevirtual 66, 3) := by decide +kernel
theorem dX1_reckon_60 : decode cX1_reckon 60 = .ok (.aload_n 0, 1) := by decide +kernel
theorem dX1_reckon_61 : decode cX1_reckon 61 = .ok (.invokevirtual 70, 3) := by decide +kernel
theorem dX1_reckon_64 : decode cX1_reckon 64 = .ok (.iinc 2 1, 3) := by decide +kernel
theorem dX1_reckon_67 : decode cX1_reckon 67 = .ok (.goto (-17), 3) := by decide +kernel
theorem dX1_reckon_70 : decode cX1_reckon 70 = .ok (.aload_n 0, 1) := by decide +kernel
theorem dX1_reckon_71 : decode cX1_reckon 71 = .ok (.iconst 1, 1) := by decide +kernel
theorem dX1_reckon_72 : decode cX1_reckon 72 = .ok (.putfield 9, 3) := by decide +kernel
theorem dX1_reckon_75 : decode cX1_reckon 75 = .ok (.return_, 1) := by decide +kernel
theorem dX1_choose_0 : decode cX1_choose 0 = .ok (.iload_n 1, 1) := by decide +kernel
theorem dX1_choose_1 : decode cX1_choose 1 = .ok (.istore_n 2, 1) := by decide +kernel
theorem dX1_choose_2 : decode cX1_choose 2 = .ok (.aload_n 0, 1) := by decide +kernel
theorem dX1_choose_3 : decode cX1_choose 3 = .ok (.getfield 15, 3) := by decide +kernel
theorem dX1_choose_6 : decode cX1_choose 6 = .ok (.iconst 1, 1) := by decide +kernel
theorem dX1_choose_7 : decode cX1_choose 7 = .ok (.isub, 1) := by decide +kernel
theorem dX1_choose_8 : decode cX1_choose 8 = .ok (.istore_n 3, 1) := by decide +kernel
theorem dX1_choose_9 : decode cX1_choose 9 = .ok (.iload_n 3, 1) := by decide +kernel
theorem dX1_choose_10 : decode cX1_choose 10 = .ok (.ifCond .lt 24, 3) := by decide +kernel
theorem dX1_choose_13 : decode cX1_choose 13 = .ok (.aload_n 0, 1) := by decide +kernel
theorem dX1_choose_14 : decode cX1_choose 14 = .ok (.getfield 26, 3) := by decide +kernel
theorem dX1_choose_17 : decode cX1_choose 17 = .ok (.iload_n 3, 1) := by decide +kernel
theorem dX1_choose_18 : decode cX1_choose 18 = .ok (.iload_n 2, 1) := by decide +kernel
theorem dX1_choose_19 : decode cX1_choose 19 = .ok (.bipush 6, 2) := by decide +kernel
theorem dX1_choose_21 : decode cX1_choose 21 = .ok (.irem, 1) := by decide +kernel
theorem dX1_choose_22 : decode cX1_choose 22 = .ok (.iastore, 1) := by decide +kernel
theorem dX1_choose_23 : decode cX1_choose 23 = .ok (.iload_n 2, 1) := by decide +kernel
theorem dX1_choose_24 : decode cX1_choose 24 = .ok (.bipush 6, 2) := by decide +kernel
theorem dX1_choose_26 : decode cX1_choose 26 = .ok (.idiv, 1) := by decide +kernel
theorem dX1_choose_27 : decode cX1_choose 27 = .ok (.istore_n 2, 1) := by decide +kernel
theorem dX1_choose_28 : decode cX1_choose 28 = .ok (.iinc 3 (-1), 3) := by decide +kernel
theorem dX1_choose_31 : decode cX1_choose 31 = .ok (.goto (-22), 3) := by decide +kernel
theorem dX1_choose_34 : decode cX1_choose 34 = .ok (.return_, 1) := by decide +kernel
theorem dX1_weighChoice_0 : decode cX1_weighChoice 0 = .ok (.iconst 0, 1) := by decide +kernel
theorem dX1_weighChoice_1 : decode cX1_weighChoice 1 = .ok (.istore_n 1, 1) := by decide +kernel
theorem dX1_weighChoice_2 : decode cX1_weighChoice 2 = .ok (.iconst 0, 1) := by decide +kernel
theorem dX1_weighChoice_3 : decode cX1_weighChoice 3 = .ok (.istore_n 2, 1) := by decide +kernel
theorem dX1_weighChoice_4 : decode cX1_weighChoice 4 = .ok (.iload_n 2, 1) := by decide +kernel
theorem dX1_weighChoice_5 : decode cX1_weighChoice 5 = .ok (.aload_n 0, 1) := by decide +kernel
theorem dX1_weighChoice_6 : decode cX1_weighChoice 6 = .ok (.getfield 15, 3) := by decide +kernel
theorem dX1_weighChoice_9 : decode cX1_weighChoice 9 = .ok (.if_icmp .ge 17, 3) := by decide +kernel
theorem dX1_weighChoice_12 : decode cX1_weighChoice 12 = .ok (.iload_n 1, 1) := by decide +kernel
theorem dX1_weighChoice_13 : decode cX1_weighChoice 13 = .ok (.aload_n 0, 1) := by decide +kernel
theorem dX1_weighChoice_14 : decode cX1_weighChoice 14 = .ok (.iload_n 2, 1) := by decide +kernel
theorem dX1_weighChoice_15 : decode cX1_weighChoice 15 = .ok (.invokevirtual 73, 3) := by decide +kernel
theorem dX1_weighChoice_18 : decode cX1_weighChoice 18 = .ok (.iadd, 1) := by decide +kernel
theorem dX1_weighChoice_19 : decode cX1_weighChoice 19 = .ok (.istore_n 1, 1) := by decide +kernel
theorem dX1_weighChoice_20 : decode cX1_weighChoice 20 = .ok (.iinc 2 1, 3) := by decide +kernel
theorem dX1_weighChoice_23 : decode cX1_weighChoice 23 = .ok (.goto (-19), 3) := by decide +kernel
theorem dX1_weighChoice_26 : decode cX1_weighChoice 26 = .ok (.aload_n 0, 1) := by decide +kernel
theorem dX1_weighChoice_27 : decode cX1_weighChoice 27 = .ok (.aload_n 0, 1) := by decide +kernel
theorem dX1_weighChoice_28 : decode cX1_weighChoice 28 = .ok (.getfield 38, 3) := by decide +kernel
theorem dX1_weighChoice_31 : decode cX1_weighChoice 31 = .ok (.iload_n 1, 1) := by decide +kernel
theorem dX1_weighChoice_32 : decode cX1_weighChoice 32 = .ok (.invokestatic 76, 3) := by decide +kernel
theorem dX1_weighChoice_35 : decode cX1_weighChoice 35 = .ok (.putfield 38, 3) := by decide +kernel
theorem dX1_weighChoice_38 : decode cX1_weighChoice 38 = .ok (.aload_n 0, 1) := by decide +kernel
theorem dX1_weighChoice_39 : decode cX1_weighChoice 39 = .ok (.invokevirtual 79, 3) := by decide +kernel
theorem dX1_weighChoice_42 : decode cX1_weighChoice 42 = .ok (.ifCond .ne 4, 3) := by decide +kernel
theorem dX1_weighChoice_45 : decode cX1_weighChoice 45 = .ok (.return_, 1) := by decide +kernel
theorem dX1_weighChoice_46 : decode cX1_weighChoice 46 = .ok (.aload_n 0, 1) := by decide +kernel
theorem dX1_weighChoice_47 : decode cX1_weighChoice 47 = .ok (.getfield 32, 3) := by decide +kernel
theorem dX1_weighChoice_50 : decode cX1_weighChoice 50 = .ok (.ifCond .ne 17, 3) := by decide +kernel
theorem dX1_weighChoice_53 : decode cX1_weighChoice 53 = .ok (.aload_n 0, 1) := by decide +kernel
theorem dX1_weighChoice_54 : decode cX1_weighChoice 54 = .ok (.getfield 26, 3) := by decide +kernel
theorem dX1_weighChoice_57 : decode cX1_weighChoice 57 = .ok (.iconst 0, 1) := by decide +kernel
theorem dX1_weighChoice_58 : decode cX1_weighChoice 58 = .ok (.aload_n 0, 1) := by decide +kernel
theorem dX1_weighChoice_59 : decode cX1_weighChoice 59 = .ok (.getfield 29, 3) := by decide +kernel
theorem dX1_weighChoice_62 : decode cX1_weighChoice 62 = .ok (.iconst 0, 1) := by decide +kernel
theorem dX1_weighChoice_63 : decode cX1_weighChoice 63 = .ok (.iconst 4, 1) := by decide +kernel
theorem dX1_weighChoice_64 : decode cX1_weighChoice 64 = .ok (.invokestatic 83, 3) := by decide +kernel
theorem dX1_weighChoice_67 : decode cX1_weighChoice 67 = .ok (.aload_n 0, 1) := by decide +kernel
theorem dX1_weighChoice_68 : decode cX1_weighChoice 68 = .ok (.dup, 1) := by decide +kernel
theorem dX1_weighChoice_69 : decode cX1_weighChoice 69 = .ok (.getfield 32, 3) := by decide +kernel
theorem dX1_weighChoice_72 : decode cX1_weighChoice 72 = .ok (.iconst 1, 1) := by decide +kernel
theorem dX1_weighChoice_73 : decode cX1_weighChoice 73 = .ok (.iadd, 1) := by decide +kernel
theorem dX1_weighChoice_74 : decode cX1_weighChoice 74 = .ok (.putfield 32, 3) := by decide +kernel
theorem dX1_weighChoice_77 : decode cX1_weighChoice 77 = .ok (.aload_n 0, 1) := by decide +kernel
theorem dX1_weighChoice_78 : decode cX1_weighChoice 78 = .ok (.aload_n 0, 1) := by decide +kernel
theorem dX1_weighChoice_79 : decode cX1_weighChoice 79 = .ok (.getfield 35, 3) := by decide +kernel
theorem dX1_weighChoice_82 : decode cX1_weighChoice 82 = .ok (.iload_n 1, 1) := by decide +kernel
theorem dX1_weighChoice_83 : decode cX1_weighChoice 83 = .ok (.invokestatic 76, 3) := by decide +kernel
theorem dX1_weighChoice_86 : decode cX1_weighChoice 86 = .ok (.putfield 35, 3) := by decide +kernel
theorem dX1_weighChoice_89 : decode cX1_weighChoice 89 = .ok (.return_, 1) := by decide +kernel
theorem dX1_isRest_0 : decode cX1_isRest 0 = .ok (.iconst 0, 1) := by decide +kernel
theorem dX1_isRest_1 : decode cX1_isRest 1 = .ok (.istore_n 1, 1) := by decide +kernel
theorem dX1_isRest_2 : decode cX1_isRest 2 = .ok (.iload_n 1, 1) := by decide +kernel
theorem dX1_isRest_3 : decode cX1_isRest 3 = .ok (.aload_n 0, 1) := by decide +kernel
theorem dX1_isRest_4 : decode cX1_isRest 4 = .ok (.getfield 15, 3) := by decide +kernel
theorem dX1_isRest_7 : decode cX1_isRest 7 = .ok (.if_icmp .ge 19, 3) := by decide +kernel
theorem dX1_isRest_10 : decode cX1_isRest 10 = .ok (.aload_n 0, 1) := by decide +kernel
theorem dX1_isRest_11 : decode cX1_isRest 11 = .ok (.iload_n 1, 1) := by decide +kernel
theorem dX1_isRest_12 : decode cX1_isRest 12 = .ok (.invokevirtual 89, 3) := by decide +kernel
theorem dX1_isRest_15 : decode cX1_isRest 15 = .ok (.ifCond .eq 5, 3) := by decide +kernel
theorem dX1_isRest_18 : decode cX1_isRest 18 = .ok (.iconst 0, 1) := by decide +kernel
theorem dX1_isRest_19 : decode cX1_isRest 19 = .ok (.ireturn, 1) := by decide +kernel
theorem dX1_isRest_20 : decode cX1_isRest 20 = .ok (.iinc 1 1, 3) := by decide +kernel
theorem dX1_isRest_23 : decode cX1_isRest 23 = .ok (.goto (-21), 3) := by decide +kernel
theorem dX1_isRest_26 : decode cX1_isRest 26 = .ok (.iconst 1, 1) := by decide +kernel
theorem dX1_isRest_27 : decode cX1_isRest 27 = .ok (.ireturn, 1) := by decide +kernel
theorem dX1_wouldRatherMove_0 : decode cX1_wouldRatherMove 0 = .ok (.aload_n 0, 1) := by decide +kernel
theorem dX1_wouldRatherMove_1 : decode cX1_wouldRatherMove 1 = .ok (.getfield 26, 3) := by decide +kernel
theorem dX1_wouldRatherMove_4 : decode cX1_wouldRatherMove 4 = .ok (.iload_n 1, 1) := by decide +kernel
theorem dX1_wouldRatherMove_5 : decode cX1_wouldRatherMove 5 = .ok (.iaload, 1) := by decide +kernel
theorem dX1_wouldRatherMove_6 : decode cX1_wouldRatherMove 6 = .ok (.istore_n 2, 1) := by decide +kernel
theorem dX1_wouldRatherMove_7 : decode cX1_wouldRatherMove 7 = .ok (.aload_n 0, 1) := by decide +kernel
theorem dX1_wouldRatherMove_8 : decode cX1_wouldRatherMove 8 = .ok (.iload_n 1, 1) := by decide +kernel
theorem dX1_wouldRatherMove_9 : decode cX1_wouldRatherMove 9 = .ok (.invokevirtual 73, 3) := by decide +kernel
theorem dX1_wouldRatherMove_12 : decode cX1_wouldRatherMove 12 = .ok (.istore_n 3, 1) := by decide +kernel
theorem dX1_wouldRatherMove_13 : decode cX1_wouldRatherMove 13 = .ok (.iconst 0, 1) := by decide +kernel
theorem dX1_wouldRatherMove_14 : decode cX1_wouldRatherMove 14 = .ok (.istore 4, 2) := by decide +kernel
theorem dX1_wouldRatherMove_16 : decode cX1_wouldRatherMove 16 = .ok (.iconst 0, 1) := by decide +kernel
theorem dX1_wouldRatherMove_17 : decode cX1_wouldRatherMove 17 = .ok (.istore 5, 2) := by decide +kernel
theorem dX1_wouldRatherMove_19 : decode cX1_wouldRatherMove 19 = .ok (.iload 5, 2) := by decide +kernel
theorem dX1_wouldRatherMove_21 : decode cX1_wouldRatherMove 21 = .ok (.bipush 6, 2) := by decide +kernel
theorem dX1_wouldRatherMove_23 : decode cX1_wouldRatherMove 23 = .ok (.if_icmp .ge 38, 3) := by decide +kernel
theorem dX1_wouldRatherMove_26 : decode cX1_wouldRatherMove 26 = .ok (.iload 4, 2) := by decide +kernel
theorem dX1_wouldRatherMove_28 : decode cX1_wouldRatherMove 28 = .ok (.ifCond .ne 33, 3) := by decide +kernel
theorem dX1_wouldRatherMove_31 : decode cX1_wouldRatherMove 31 = .ok (.aload_n 0, 1) := by decide +kernel
theorem dX1_wouldRatherMove_32 : decode cX1_wouldRatherMove 32 = .ok (.getfield 26, 3) := by decide +kernel
theorem dX1_wouldRatherMove_35 : decode cX1_wouldRatherMove 35 = .ok (.iload_n 1, 1) := by decide +kernel
theorem dX1_wouldRatherMove_36 : decode cX1_wouldRatherMove 36 = .ok (.iload 5, 2) := by decide +kernel
theorem dX1_wouldRatherMove_38 : decode cX1_wouldRatherMove 38 = .ok (.iastore, 1) := by decide +kernel
theorem dX1_wouldRatherMove_39 : decode cX1_wouldRatherMove 39 = .ok (.aload_n 0, 1) := by decide +kernel
theorem dX1_wouldRatherMove_40 : decode cX1_wouldRatherMove 40 = .ok (.iload_n 1, 1) := by decide +kernel
theorem dX1_wouldRatherMove_41 : decode cX1_wouldRatherMove 41 = .ok (.invokevirtual 73, 3) := by decide +kernel
theorem dX1_wouldRatherMove_44 : decode cX1_wouldRatherMove 44 = .ok (.iload_n 3, 1) := by decide +kernel
theorem dX1_wouldRatherMove_45 : decode cX1_wouldRatherMove 45 = .ok (.if_icmp .ge 7, 3) := by decide +kernel
theorem dX1_wouldRatherMove_48 : decode cX1_wouldRatherMove 48 = .ok (.iconst 1, 1) := by decide +kernel
theorem dX1_wouldRatherMove_49 : decode cX1_wouldRatherMove 49 = .ok (.goto 4, 3) := by decide +kernel
theorem dX1_wouldRatherMove_52 : decode cX1_wouldRatherMove 52 = .ok (.iconst 0, 1) := by decide +kernel
theorem dX1_wouldRatherMove_53 : decode cX1_wouldRatherMove 53 = .ok (.istore 4, 2) := by decide +kernel
theorem dX1_wouldRatherMove_55 : decode cX1_wouldRatherMove 55 = .ok (.iinc 5 1, 3) := by decide +kernel
theorem dX1_wouldRatherMove_58 : decode cX1_wouldRatherMove 58 = .ok (.goto (-39), 3) := by decide +kernel
theorem dX1_wouldRatherMove_61 : decode cX1_wouldRatherMove 61 = .ok (.aload_n 0, 1) := by decide +kernel
theorem dX1_wouldRatherMove_62 : decode cX1_wouldRatherMove 62 = .ok (.getfield 26, 3) := by decide +kernel
theorem dX1_wouldRatherMove_65 : decode cX1_wouldRatherMove 65 = .ok (.iload_n 1, 1) := by decide +kernel
theorem dX1_wouldRatherMove_66 : decode cX1_wouldRatherMove 66 = .ok (.iload_n 2, 1) := by decide +kernel
theorem dX1_wouldRatherMove_67 : decode cX1_wouldRatherMove 67 = .ok (.iastore, 1) := by decide +kernel
theorem dX1_wouldRatherMove_68 : decode cX1_wouldRatherMove 68 = .ok (.iload 4, 2) := by decide +kernel
theorem dX1_wouldRatherMove_70 : decode cX1_wouldRatherMove 70 = .ok (.ireturn, 1) := by decide +kernel
theorem dX2_init_0 : decode cX2_init 0 = .ok (.aload_n 0, 1) := by decide +kernel
theorem dX2_init_1 : decode cX2_init 1 = .ok (.invokespecial 3, 3) := by decide +kernel
theorem dX2_init_4 : decode cX2_init 4 = .ok (.aload_n 0, 1) := by decide +kernel
theorem dX2_init_5 : decode cX2_init 5 = .ok (.iconst 0, 1) := by decide +kernel
theorem dX2_init_6 : decode cX2_init 6 = .ok (.putfield 9, 3) := by decide +kernel
theorem dX2_init_9 : decode cX2_init 9 = .ok (.aload_n 0, 1) := by decide +kernel
theorem dX2_init_10 : decode cX2_init 10 = .ok (.iconst 0, 1) := by decide +kernel
theorem dX2_init_11 : decode cX2_init 11 = .ok (.putfield 15, 3) := by decide +kernel
theorem dX2_init_14 : decode cX2_init 14 = .ok (.aload_n 0, 1) := by decide +kernel
theorem dX2_init_15 : decode cX2_init 15 = .ok (.iconst 3, 1) := by decide +kernel
theorem dX2_init_16 : decode cX2_init 16 = .ok (.newarray .int, 2) := by decide +kernel
theorem dX2_init_18 : decode cX2_init 18 = .ok (.putfield 19, 3) := by decide +kernel
theorem dX2_init_21 : decode cX2_init 21 = .ok (.aload_n 0, 1) := by decide +kernel
theorem dX2_init_22 : decode cX2_init 22 = .ok (.iconst 3, 1) := by decide +kernel
theorem dX2_init_23 : decode cX2_init 23 = .ok (.newarray .int, 2) := by decide +kernel
theorem dX2_init_25 : decode cX2_init 25 = .ok (.putfield 23, 3) := by decide +kernel
theorem dX2_init_28 : decode cX2_init 28 = .ok (.return_, 1) := by decide +kernel
theorem dX2_minuteOf_0 : decode cX2_minuteOf 0 = .ok (.aload_n 0, 1) := by decide +kernel
theorem dX2_minuteOf_1 : decode cX2_minuteOf 1 = .ok (.getfield 23, 3) := by decide +kernel
theorem dX2_minuteOf_4 : decode cX2_minuteOf 4 = .ok (.iload_n 1, 1) := by decide +kernel
theorem dX2_minuteOf_5 : decode cX2_minuteOf 5 = .ok (.iaload, 1) := by decide +kernel
theorem dX2_minuteOf_6 : decode cX2_minuteOf 6 = .ok (.ifCond .ne 8, 3) := by decide +kernel
theorem dX2_minuteOf_9 : decode cX2_minuteOf 9 = .ok (.bipush (-4), 2) := by decide +kernel
theorem dX2_minuteOf_11 : decode cX2_minuteOf 11 = .ok (.goto 14, 3) := by decide +kernel
theorem dX2_minuteOf_14 : decode cX2_minuteOf 14 = .ok (.bipush 30, 2) := by decide +kernel
theorem dX2_minuteOf_16 : decode cX2_minuteOf 16 = .ok (.aload_n 0, 1) := by decide +kernel
theorem dX2_minuteOf_17 : decode cX2_minuteOf 17 = .ok (.getfield 23, 3) := by decide +kernel
theorem dX2_minuteOf_20 : decode cX2_minuteOf 20 = .ok (.iload_n 1, 1) := by decide +kernel
theorem dX2_minuteOf_21 : decode cX2_minuteOf 21 = .ok (.iaload, 1) := by decide +kernel
theorem dX2_minuteOf_22 : decode cX2_minuteOf 22 = .ok (.iconst 1, 1) := by decide +kernel
theorem dX2_minuteOf_23 : decode cX2_minuteOf 23 = .ok (.isub, 1) := by decide +kernel
theorem dX2_minuteOf_24 : decode cX2_minuteOf 24 = .ok (.imul, 1) := by decide +kernel
theorem dX2_minuteOf_25 : decode cX2_minuteOf 25 = .ok (.ireturn, 1) := by decide +kernel
theorem dX2_reckon_0 : decode cX2_reckon 0 = .ok (.aload_n 0, 1) := by decide +kernel
theorem dX2_reckon_1 : decode cX2_reckon 1 = .ok (.getfield 9, 3) := by decide +kernel
theorem dX2_reckon_4 : decode cX2_reckon 4 = .ok (.ifCond .eq 4, 3) := by decide +kernel
theorem dX2_reckon_7 : decode cX2_reckon 7 = .ok (.return_, 1) := by decide +kernel
theorem dX2_reckon_8 : decode cX2_reckon 8 = .ok (.iconst 1, 1) := by decide +kernel
theorem dX2_reckon_9 : decode cX2_reckon 9 = .ok (.istore_n 3, 1) := by decide +kernel
theorem dX2_reckon_10 : decode cX2_reckon 10 = .ok (.iconst 0, 1) := by decide +kernel
theorem dX2_reckon_11 : decode cX2_reckon 11 = .ok (.istore 4, 2) := by decide +kernel
theorem dX2_reckon_13 : decode cX2_reckon 13 = .ok (.iload 4, 2) := by decide +kernel
theorem dX2_reckon_15 : decode cX2_reckon 15 = .ok (.aload_n 1, 1) := by decide +kernel
theorem dX2_reckon_16 : decode cX2_reckon 16 = .ok (.getfield 26, 3) := by decide +kernel
theorem dX2_reckon_19 : decode cX2_reckon 19 = .ok (.if_icmp .ge 14, 3) := by decide +kernel
theorem dX2_reckon_22 : decode cX2_reckon 22 = .ok (.iload_n 3, 1) := by decide +kernel
theorem dX2_reckon_23 : decode cX2_reckon 23 = .ok (.bipush 13, 2) := by decide +kernel
theorem dX2_reckon_25 : decode cX2_reckon 25 = .ok (.imul, 1) := by decide +kernel
theorem dX2_reckon_26 : decode cX2_reckon 26 = .ok (.istore_n 3, 1) := by decide +kernel
theorem dX2_reckon_27 : decode cX2_reckon 27 = .ok (.iinc 4 1, 3) := by decide +kernel
theorem dX2_reckon_30 : decode cX2_reckon 30 = .ok (.goto (-17), 3) := by decide +kernel
theorem dX2_reckon_33 : decode cX2_reckon 33 = .ok (.aload_n 0, 1) := by decide +kernel
theorem dX2_reckon_34 : decode cX2_reckon 34 = .ok (.ldc 31, 2) := by decide +kernel
theorem dX2_reckon_36 : decode cX2_reckon 36 = .ok (.putfield 15, 3) := by decide +kernel
theorem dX2_reckon_39 : decode cX2_reckon 39 = .ok (.aload_n 2, 1) := by decide +kernel
theorem dX2_reckon_40 : decode cX2_reckon 40 = .ok (.aload_n 1, 1) := by decide +kernel
theorem dX2_reckon_41 : decode cX2_reckon 41 = .ok (.invokevirtual 32, 3) := by decide +kernel
theorem dX2_reckon_44 : decode cX2_reckon 44 = .ok (.iconst 0, 1) := by decide +kernel
theorem dX2_reckon_45 : decode cX2_reckon 45 = .ok (.istore 4, 2) := by decide +kernel
theorem dX2_reckon_47 : decode cX2_reckon 47 = .ok (.iload 4, 2) := by decide +kernel
theorem dX2_reckon_49 : decode cX2_reckon 49 = .ok (.iload_n 3, 1) := by decide +kernel
theorem dX2_reckon_50 : decode cX2_reckon 50 = .ok (.if_icmp .ge 69, 3) := by decide +kernel
theorem dX2_reckon_53 : decode cX2_reckon 53 = .ok (.aload_n 0, 1) := by decide +kernel
theorem dX2_reckon_54 : decode cX2_reckon 54 = .ok (.iload 4, 2) := by decide +kernel
theorem dX2_reckon_56 : decode cX2_reckon 56 = .ok (.aload_n 1, 1) := by decide +kernel
theorem dX2_reckon_57 : decode cX2_reckon 57 = .ok (.getfield 26, 3) := by decide +kernel
theorem dX2_reckon_60 : decode cX2_reckon 60 = .ok (.invokevirtual 38, 3) := by decide +kernel
theorem dX2_reckon_63 : decode cX2_reckon 63 = .ok (.aload_n 0, 1) := by decide +kernel
theorem dX2_reckon_64 : decode cX2_reckon 64 = .ok (.aload_n 1, 1) := by decide +kernel
theorem dX2_reckon_65 : decode cX2_reckon 65 = .ok (.aload_n 2, 1) := by decide +kernel
theorem dX2_reckon_66 : decode cX2_reckon 66 = .ok (.invokevirtual 42, 3) := by decide +kernel
theorem dX2_reckon_69 : decode cX2_reckon 69 = .ok (.istore 5, 2) := by decide +kernel
theorem dX2_reckon_71 : decode cX2_reckon 71 = .ok (.aload_n 2, 1) := by decide +kernel
theorem dX2_reckon_72 : decode cX2_reckon 72 = .ok (.invokevirtual 46, 3) := by decide +kernel
theorem dX2_reckon_75 : decode cX2_reckon 75 = .ok (.iload 5, 2) := by decide +kernel
theorem dX2_reckon_77 : decode cX2_reckon 77 = .ok (.aload_n 2, 1) := by decide +kernel
theorem dX2_reckon_78 : decode cX2_reckon 78 = .ok (.invokevirtual 49, 3) := by decide +kernel
theorem dX2_reckon_81 : decode cX2_reckon 81 = .ok (.iadd, 1) := by decide +kernel
theorem dX2_reckon_82 : decode cX2_reckon 82 = .ok (.istore 5, 2) := by decide +kernel
theorem dX2_reckon_84 : decode cX2_reckon 84 = .ok (.iload 5, 2) := by decide +kernel
theorem dX2_reckon_86 : decode cX2_reckon 86 = .ok (.aload_n 0, 1) := by decide +kernel
theorem dX2_reckon_87 : decode cX2_reckon 87 = .ok (.getfield 15, 3) := by decide +kernel
theorem dX2_reckon_90 : decode cX2_reckon 90 = .ok (.if_icmp .ge 23, 3) := by decide +kernel
theorem dX2_reckon_93 : decode cX2_reckon 93 = .ok (.aload_n 0, 1) := by decide +kernel
theorem dX2_reckon_94 : decode cX2_reckon 94 = .ok (.iload 5, 2) := by decide +kernel
theorem dX2_reckon_96 : decode cX2_reckon 96 = .ok (.putfield 15, 3) := by decide +kernel
theorem dX2_reckon_99 : decode cX2_reckon 99 = .ok (.aload_n 0, 1) := by decide +kernel
theorem dX2_reckon_100 : decode cX2_reckon 100 = .ok (.getfield 19, 3) := by decide +kernel
theorem dX2_reckon_103 : decode cX2_reckon 103 = .ok (.iconst 0, 1) := by decide +kernel
theorem dX2_reckon_104 : decode cX2_reckon 104 = .ok (.aload_n 0, 1) := by decide +kernel
theorem dX2_reckon_105 : decode cX2_reckon 105 = .ok (.getfield 23, 3) := by decide +kernel
theorem dX2_reckon_108 : decode cX2_reckon 108 = .ok (.iconst 0, 1) := by decide +kernel
theorem dX2_reckon_109 : decode cX2_reckon 109 = .ok (.iconst 3, 1) := by decide +kernel
theorem dX2_reckon_110 : decode cX2_reckon 110 = .ok (.invokestatic 53, 3) := by decide +kernel
theorem dX2_reckon_113 : decode cX2_reckon 113 = .ok (.iinc 4 1, 3) := by decide +kernel
theorem dX2_reckon_116 : decode cX2_reckon 116 = .ok (.goto (-69), 3) := by decide +kernel
theorem dX2_reckon_119 : decode cX2_reckon 119 = .ok (.aload_n 0, 1) := by decide +kernel
theorem dX2_reckon_120 : decode cX2_reckon 120 = .ok (.iconst 1, 1) := by decide +kernel
theorem dX2_reckon_121 : decode cX2_reckon 121 = .ok (.putfield 9, 3) := by decide +kernel
theorem dX2_reckon_124 : decode cX2_reckon 124 = .ok (.return_, 1) := by decide +kernel
theorem dX2_choose_0 : decode cX2_choose 0 = .ok (.iload_n 1, 1) := by decide +kernel
theorem dX2_choose_1 : decode cX2_choose 1 = .ok (.istore_n 3, 1) := by decide +kernel
theorem dX2_choose_2 : decode cX2_choose 2 = .ok (.iload_n 2, 1) := by decide +kernel
theorem dX2_choose_3 : decode cX2_choose 3 = .ok (.iconst 1, 1) := by decide +kernel
theorem dX2_choose_4 : decode cX2_choose 4 = .ok (.isub, 1) := by decide +kernel
theorem dX2_choose_5 : decode cX2_choose 5 = .ok (.istore 4, 2) := by decide +kernel
theorem dX2_choose_7 : decode cX2_choose 7 = .ok (.iload 4, 2) := by decide +kernel
theorem dX2_choose_9 : decode cX2_choose 9 = .ok (.ifCond .lt 25, 3) := by decide +kernel
theorem dX2_choose_12 : decode cX2_choose 12 = .ok (.aload_n 0, 1) := by decide +kernel
theorem dX2_choose_13 : decode cX2_choose 13 = .ok (.getfield 19, 3) := by decide +kernel
theorem dX2_choose_16 : decode cX2_choose 16 = .ok (.iload 4, 2) := by decide +kernel
theorem dX2_choose_18 : decode cX2_choose 18 = .ok (.iload_n 3, 1) := by decide +kernel
theorem dX2_choose_19 : decode cX2_choose 19 = .ok (.bipush 13, 2) := by decide +kernel
theorem dX2_choose_21 : decode cX2_choose 21 = .ok (.irem, 1) := by decide +kernel
theorem dX2_choose_22 : decode cX2_choose 22 = .ok (.iastore, 1) := by decide +kernel
theorem dX2_choose_23 : decode cX2_choose 23 = .ok (.iload_n 3, 1) := by decide +kernel
theorem dX2_choose_24 : decode cX2_choose 24 = .ok (.bipush 13, 2) := by decide +kernel
theorem dX2_choose_26 : decode cX2_choose 26 = .ok (.idiv, 1) := by decide +kernel
theorem dX2_choose_27 : decode cX2_choose 27 = .ok (.istore_n 3, 1) := by decide +kernel
theorem dX2_choose_28 : decode cX2_choose 28 = .ok (.iinc 4 (-1), 3) := by decide +kernel
theorem dX2_choose_31 : decode cX2_choose 31 = .ok (.goto (-24), 3) := by decide +kernel
theorem dX2_choose_34 : decode cX2_choose 34 = .ok (.return_, 1) := by decide +kernel
theorem dX2_giveChosen_0 : decode cX2_giveChosen 0 = .ok (.iconst 0, 1) := by decide +kernel
theorem dX2_giveChosen_1 : decode cX2_giveChosen 1 = .ok (.istore_n 3, 1) := by decide +kernel
theorem dX2_giveChosen_2 : decode cX2_giveChosen 2 = .ok (.aload_n 2, 1) := by decide +kernel
theorem dX2_giveChosen_3 : decode cX2_giveChosen 3 = .ok (.invokevirtual 59, 3) := by decide +kernel
theorem dX2_giveChosen_6 : decode cX2_giveChosen 6 = .ok (.iconst 0, 1) := by decide +kernel
theorem dX2_giveChosen_7 : decode cX2_giveChosen 7 = .ok (.istore 4, 2) := by decide +kernel
theorem dX2_giveChosen_9 : decode cX2_giveChosen 9 = .ok (.iload 4, 2) := by decide +kernel
theorem dX2_giveChosen_11 : decode cX2_giveChosen 11 = .ok (.aload_n 1, 1) := by decide +kernel
theorem dX2_giveChosen_12 : decode cX2_giveChosen 12 = .ok (.getfield 26, 3) := by decide +kernel
theorem dX2_giveChosen_15 : decode cX2_giveChosen 15 = .ok (.if_icmp .ge 52, 3) := by decide +kernel
theorem dX2_giveChosen_18 : decode cX2_giveChosen 18 = .ok (.aload_n 0, 1) := by decide +kernel
theorem dX2_giveChosen_19 : decode cX2_giveChosen 19 = .ok (.getfield 19, 3) := by decide +kernel
theorem dX2_giveChosen_22 : decode cX2_giveChosen 22 = .ok (.iload 4, 2) := by decide +kernel
theorem dX2_giveChosen_24 : decode cX2_giveChosen 24 = .ok (.iaload, 1) := by decide +kernel
theorem dX2_giveChosen_25 : decode cX2_giveChosen 25 = .ok (.ifCond .le 36, 3) := by decide +kernel
theorem dX2_giveChosen_28 : decode cX2_giveChosen 28 = .ok (.aload_n 2, 1) := by decide +kernel
theorem dX2_giveChosen_29 : decode cX2_giveChosen 29 = .ok (.bipush 30, 2) := by decide +kernel
theorem dX2_giveChosen_31 : decode cX2_giveChosen 31 = .ok (.aload_n 0, 1) := by decide +kernel
theorem dX2_giveChosen_32 : decode cX2_giveChosen 32 = .ok (.getfield 19, 3) := by decide +kernel
theorem dX2_giveChosen_35 : decode cX2_giveChosen 35 = .ok (.iload 4, 2) := by decide +kernel
theorem dX2_giveChosen_37 : decode cX2_giveChosen 37 = .ok (.iaload, 1) := by decide +kernel
theorem dX2_giveChosen_38 : decode cX2_giveChosen 38 = .ok (.iconst 1, 1) := by decide +kernel
theorem dX2_giveChosen_39 : decode cX2_giveChosen 39 = .ok (.isub, 1) := by decide +kernel
theorem dX2_giveChosen_40 : decode cX2_giveChosen 40 = .ok (.imul, 1) := by decide +kernel
theorem dX2_giveChosen_41 : decode cX2_giveChosen 41 = .ok (.aload_n 1, 1) := by decide +kernel
theorem dX2_giveChosen_42 : decode cX2_giveChosen 42 = .ok (.getfield 62, 3) := by decide +kernel
theorem dX2_giveChosen_45 : decode cX2_giveChosen 45 = .ok (.iload 4, 2) := by decide +kernel
theorem dX2_giveChosen_47 : decode cX2_giveChosen 47 = .ok (.iaload, 1) := by decide +kernel
theorem dX2_giveChosen_48 : decode cX2_giveChosen 48 = .ok (.invokevirtual 65, 3) := by decide +kernel
theorem dX2_giveChosen_51 : decode cX2_giveChosen 51 = .ok (.iload_n 3, 1) := by decide +kernel
theorem dX2_giveChosen_52 : decode cX2_giveChosen 52 = .ok (.aload_n 1, 1) := by decide +kernel
theorem dX2_giveChosen_53 : decode cX2_giveChosen 53 = .ok (.getfield 68, 3) := by decide +kernel
theorem dX2_giveChosen_56 : decode cX2_giveChosen 56 = .ok (.iload 4, 2) := by decide +kernel
theorem dX2_giveChosen_58 : decode cX2_giveChosen 58 = .ok (.iaload, 1) := by decide +kernel
theorem dX2_giveChosen_59 : decode cX2_giveChosen 59 = .ok (.iadd, 1) := by decide +kernel
theorem dX2_giveChosen_60 : decode cX2_giveChosen 60 = .ok (.istore_n 3, 1) := by decide +kernel
theorem dX2_giveChosen_61 : decode cX2_giveChosen 61 = .ok (.iinc 4 1, 3) := by decide +kernel
theorem dX2_giveChosen_64 : decode cX2_giveChosen 64 = .ok (.goto (-55), 3) := by decide +kernel
theorem dX2_giveChosen_67 : decode cX2_giveChosen 67 = .ok (.iload_n 3, 1) := by decide +kernel
theorem dX2_giveChosen_68 : decode cX2_giveChosen 68 = .ok (.ireturn, 1) := by decide +kernel
theorem dX3_init_0 : decode cX3_init 0 = .ok (.aload_n 0, 1) := by decide +kernel
theorem dX3_init_1 : decode cX3_init 1 = .ok (.invokespecial 3, 3) := by decide +kernel
theorem dX3_init_4 : decode cX3_init 4 = .ok (.aload_n 0, 1) := by decide +kernel
theorem dX3_init_5 : decode cX3_init 5 = .ok (.bipush 8, 2) := by decide +kernel
theorem dX3_init_7 : decode cX3_init 7 = .ok (.newarray .boolean, 2) := by decide +kernel
theorem dX3_init_9 : decode cX3_init 9 = .ok (.putfield 9, 3) := by decide +kernel
theorem dX3_init_12 : decode cX3_init 12 = .ok (.aload_n 0, 1) := by decide +kernel
theorem dX3_init_13 : decode cX3_init 13 = .ok (.iconst 0, 1) := by decide +kernel
theorem dX3_init_14 : decode cX3_init 14 = .ok (.putfield 15, 3) := by decide +kernel
theorem dX3_init_17 : decode cX3_init 17 = .ok (.aload_n 0, 1) := by decide +kernel
theorem dX3_init_18 : decode cX3_init 18 = .ok (.new 19, 3) := by decide +kernel
theorem dX3_init_21 : decode cX3_init 21 = .ok (.dup, 1) := by decide +kernel
theorem dX3_init_22 : decode cX3_init 22 = .ok (.invokespecial 21, 3) := by decide +kernel
theorem dX3_init_25 : decode cX3_init 25 = .ok (.putfield 22, 3) := by decide +kernel
theorem dX3_init_28 : decode cX3_init 28 = .ok (.aload_n 0, 1) := by decide +kernel
theorem dX3_init_29 : decode cX3_init 29 = .ok (.new 19, 3) := by decide +kernel
theorem dX3_init_32 : decode cX3_init 32 = .ok (.dup, 1) := by decide +kernel
theorem dX3_init_33 : decode cX3_init 33 = .ok (.invokespecial 21, 3) := by decide +kernel
theorem dX3_init_36 : decode cX3_init 36 = .ok (.putfield 26, 3) := by decide +kernel
theorem dX3_init_39 : decode cX3_init 39 = .ok (.aload_n 0, 1) := by decide +kernel
theorem dX3_init_40 : decode cX3_init 40 = .ok (.iconst 0, 1) := by decide +kernel
theorem dX3_init_41 : decode cX3_init 41 = .ok (.putfield 29, 3) := by decide +kernel
theorem dX3_init_44 : decode cX3_init 44 = .ok (.return_, 1) := by decide +kernel
theorem dX3_forget_0 : decode cX3_forget 0 = .ok (.aload_n 0, 1) := by decide +kernel
theorem dX3_forget_1 : decode cX3_forget 1 = .ok (.iconst 0, 1) := by decide +kernel
theorem dX3_forget_2 : decode cX3_forget 2 = .ok (.putfield 15, 3) := by decide +kernel
theorem dX3_forget_5 : decode cX3_forget 5 = .ok (.aload_n 0, 1) := by decide +kernel
theorem dX3_forget_6 : decode cX3_forget 6 = .ok (.iconst 0, 1) := by decide +kernel
theorem dX3_forget_7 : decode cX3_forget 7 = .ok (.putfield 29, 3) := by decide +kernel
theorem dX3_forget_10 : decode cX3_forget 10 = .ok (.return_, 1) := by decide +kernel
theorem dX3_note_0 : decode cX3_note 0 = .ok (.aload_n 0, 1) := by decide +kernel
theorem dX3_note_1 : decode cX3_note 1 = .ok (.getfield 15, 3) := by decide +kernel
theorem dX3_note_4 : decode cX3_note 4 = .ok (.bipush 8, 2) := by decide +kernel
theorem dX3_note_6 : decode cX3_note 6 = .ok (.if_icmp .lt 37, 3) := by decide +kernel
theorem dX3_note_9 : decode cX3_note 9 = .ok (.iconst 1, 1) := by decide +kernel
theorem dX3_note_10 : decode cX3_note 10 = .ok (.istore_n 2, 1) := by decide +kernel
theorem dX3_note_11 : decode cX3_note 11 = .ok (.iload_n 2, 1) := by decide +kernel
theorem dX3_note_12 : decode cX3_note 12 = .ok (.bipush 8, 2) := by decide +kernel
theorem dX3_note_14 : decode cX3_note 14 = .ok (.if_icmp .ge 23, 3) := by decide +kernel
theorem dX3_note_17 : decode cX3_note 17 = .ok (.aload_n 0, 1) := by decide +kernel
theorem dX3_note_18 : decode cX3_note 18 = .ok (.getfield 9, 3) := by decide +kernel
theorem dX3_note_21 : decode cX3_note 21 = .ok (.iload_n 2, 1) := by decide +kernel
theorem dX3_note_22 : decode cX3_note 22 = .ok (.iconst 1, 1) := by decide +kernel
theorem dX3_note_23 : decode cX3_note 23 = .ok (.isub, 1) := by decide +kernel
theorem dX3_note_24 : decode cX3_note 24 = .ok (.aload_n 0, 1) := by decide +kernel
theorem dX3_note_25 : decode cX3_note 25 = .ok (.getfield 9, 3) := by decide +kernel
theorem dX3_note_28 : decode cX3_note 28 = .ok (.iload_n 2, 1) := by decide +kernel
theorem dX3_note_29 : decode cX3_note 29 = .ok (.baload, 1) := by decide +kernel
theorem dX3_note_30 : decode cX3_note 30 = .ok (.bastore, 1) := by decide +kernel
theorem dX3_note_31 : decode cX3_note 31 = .ok (.iinc 2 1, 3) := by decide +kernel
theorem dX3_note_34 : decode cX3_note 34 = .ok (.goto (-23), 3) := by decide +kernel
theorem dX3_note_37 : decode cX3_note 37 = .ok (.aload_n 0, 1) := by decide +kernel
theorem dX3_note_38 : decode cX3_note 38 = .ok (.bipush 7, 2) := by decide +kernel
theorem dX3_note_40 : decode cX3_note 40 = .ok (.putfield 15, 3) := by decide +kernel
theorem dX3_note_43 : decode cX3_note 43 = .ok (.aload_n 0, 1) := by decide +kernel
theorem dX3_note_44 : decode cX3_note 44 = .ok (.getfield 9, 3) := by decide +kernel
theorem dX3_note_47 : decode cX3_note 47 = .ok (.aload_n 0, 1) := by decide +kernel
theorem dX3_note_48 : decode cX3_note 48 = .ok (.getfield 15, 3) := by decide +kernel
theorem dX3_note_51 : decode cX3_note 51 = .ok (.iload_n 1, 1) := by decide +kernel
theorem dX3_note_52 : decode cX3_note 52 = .ok (.bastore, 1) := by decide +kernel
theorem dX3_note_53 : decode cX3_note 53 = .ok (.aload_n 0, 1) := by decide +kernel
theorem dX3_note_54 : decode cX3_note 54 = .ok (.dup, 1) := by decide +kernel
theorem dX3_note_55 : decode cX3_note 55 = .ok (.getfield 15, 3) := by decide +kernel
theorem dX3_note_58 : decode cX3_note 58 = .ok (.iconst 1, 1) := by decide +kernel
theorem dX3_note_59 : decode cX3_note 59 = .ok (.iadd, 1) := by decide +kernel
theorem dX3_note_60 : decode cX3_note 60 = .ok (.putfield 15, 3) := by decide +kernel
theorem dX3_note_63 : decode cX3_note 63 = .ok (.return_, 1) := by decide +kernel
theorem dX3_undo_0 : decode cX3_undo 0 = .ok (.aload_n 0, 1) := by decide +kernel
theorem dX3_undo_1 : decode cX3_undo 1 = .ok (.getfield 15, 3) := by decide +kernel
theorem dX3_undo_4 : decode cX3_undo 4 = .ok (.ifCond .ne 4, 3) := by decide +kernel
theorem dX3_undo_7 : decode cX3_undo 7 = .ok (.return_, 1) := by decide +kernel
theorem dX3_undo_8 : decode cX3_undo 8 = .ok (.aload_n 0, 1) := by decide +kernel
theorem dX3_undo_9 : decode cX3_undo 9 = .ok (.dup, 1) := by decide +kernel
theorem dX3_undo_10 : decode cX3_undo 10 = .ok (.getfield 15, 3) := by decide +kernel
theorem dX3_undo_13 : decode cX3_undo 13 = .ok (.iconst 1, 1) := by decide +kernel
theorem dX3_undo_14 : decode cX3_undo 14 = .ok (.isub, 1) := by decide +kernel
