theorem dX0_init_0 : decode cX0_init 0 = .ok (.aload_n 0, 1) := by decide +kernel
theorem dX0_init_1 : decode cX0_init 1 = .ok (.invokespecial 1, 3) := by decide +kernel
theorem dX0_init_4 : decode cX0_init 4 = .ok (.return_, 1) := by decide +kernel
theorem dX0_rowsHitWith_0 : decode cX0_rowsHitWith 0 = .ok (.aload_n 0, 1) := by decide +kernel
theorem dX0_rowsHitWith_1 : decode cX0_rowsHitWith 1 = .ok (.iload_n 1, 1) := by decide +kernel
theorem dX0_rowsHitWith_2 : decode cX0_rowsHitWith 2 = .ok (.iload_n 2, 1) := by decide +kernel
theorem dX0_rowsHitWith_3 : decode cX0_rowsHitWith 3 = .ok (.invokespecial 7, 3) := by decide +kernel
theorem dX0_rowsHitWith_6 : decode cX0_rowsHitWith 6 = .ok (.iconst 1, 1) := by decide +kernel
theorem dX0_rowsHitWith_7 : decode cX0_rowsHitWith 7 = .ok (.iload_n 1, 1) := by decide +kernel
theorem dX0_rowsHitWith_8 : decode cX0_rowsHitWith 8 = .ok (.iload_n 2, 1) := by decide +kernel
theorem dX0_rowsHitWith_9 : decode cX0_rowsHitWith 9 = .ok (.invokestatic 11, 3) := by decide +kernel
theorem dX0_rowsHitWith_12 : decode cX0_rowsHitWith 12 = .ok (.ishl, 1) := by decide +kernel
theorem dX0_rowsHitWith_13 : decode cX0_rowsHitWith 13 = .ok (.ior, 1) := by decide +kernel
theorem dX0_rowsHitWith_14 : decode cX0_rowsHitWith 14 = .ok (.ireturn, 1) := by decide +kernel
theorem dX1_init_0 : decode cX1_init 0 = .ok (.aload_n 0, 1) := by decide +kernel
theorem dX1_init_1 : decode cX1_init 1 = .ok (.invokespecial 3, 3) := by decide +kernel
theorem dX1_init_4 : decode cX1_init 4 = .ok (.aload_n 0, 1) := by decide +kernel
theorem dX1_init_5 : decode cX1_init 5 = .ok (.iconst 4, 1) := by decide +kernel
theorem dX1_init_6 : decode cX1_init 6 = .ok (.newarray .int, 2) := by decide +kernel
theorem dX1_init_8 : decode cX1_init 8 = .ok (.putfield 9, 3) := by decide +kernel
theorem dX1_init_11 : decode cX1_init 11 = .ok (.aload_n 0, 1) := by decide +kernel
theorem dX1_init_12 : decode cX1_init 12 = .ok (.iconst 4, 1) := by decide +kernel
theorem dX1_init_13 : decode cX1_init 13 = .ok (.newarray .int, 2) := by decide +kernel
theorem dX1_init_15 : decode cX1_init 15 = .ok (.putfield 15, 3) := by decide +kernel
theorem dX1_init_18 : decode cX1_init 18 = .ok (.aload_n 0, 1) := by decide +kernel
theorem dX1_init_19 : decode cX1_init 19 = .ok (.iconst 4, 1) := by decide +kernel
theorem dX1_init_20 : decode cX1_init 20 = .ok (.newarray .int, 2) := by decide +kernel
theorem dX1_init_22 : decode cX1_init 22 = .ok (.putfield 18, 3) := by decide +kernel
theorem dX1_init_25 : decode cX1_init 25 = .ok (.aload_n 0, 1) := by decide +kernel
theorem dX1_init_26 : decode cX1_init 26 = .ok (.bipush 6, 2) := by decide +kernel
theorem dX1_init_28 : decode cX1_init 28 = .ok (.newarray .int, 2) := by decide +kernel
theorem dX1_init_30 : decode cX1_init 30 = .ok (.putfield 21, 3) := by decide +kernel
theorem dX1_init_33 : decode cX1_init 33 = .ok (.aload_n 0, 1) := by decide +kernel
theorem dX1_init_34 : decode cX1_init 34 = .ok (.bipush 6, 2) := by decide +kernel
theorem dX1_init_36 : decode cX1_init 36 = .ok (.newarray .int, 2) := by decide +kernel
theorem dX1_init_38 : decode cX1_init 38 = .ok (.putfield 24, 3) := by decide +kernel
theorem dX1_init_41 : decode cX1_init 41 = .ok (.aload_n 0, 1) := by decide +kernel
theorem dX1_init_42 : decode cX1_init 42 = .ok (.bipush 6, 2) := by decide +kernel
theorem dX1_init_44 : decode cX1_init 44 = .ok (.newarray .boolean, 2) := by decide +kernel
theorem dX1_init_46 : decode cX1_init 46 = .ok (.putfield 27, 3) := by decide +kernel
theorem dX1_init_49 : decode cX1_init 49 = .ok (.aload_n 0, 1) := by decide +kernel
theorem dX1_init_50 : decode cX1_init 50 = .ok (.iconst 1, 1) := by decide +kernel
theorem dX1_init_51 : decode cX1_init 51 = .ok (.putfield 31, 3) := by decide +kernel
theorem dX1_init_54 : decode cX1_init 54 = .ok (.return_, 1) := by decide +kernel
theorem dX1_clear_0 : decode cX1_clear 0 = .ok (.aload_n 0, 1) := by decide +kernel
theorem dX1_clear_1 : decode cX1_clear 1 = .ok (.getfield 18, 3) := by decide +kernel
theorem dX1_clear_4 : decode cX1_clear 4 = .ok (.iconst 0, 1) := by decide +kernel
theorem dX1_clear_5 : decode cX1_clear 5 = .ok (.invokestatic 35, 3) := by decide +kernel
theorem dX1_clear_8 : decode cX1_clear 8 = .ok (.aload_n 0, 1) := by decide +kernel
theorem dX1_clear_9 : decode cX1_clear 9 = .ok (.iconst 0, 1) := by decide +kernel
theorem dX1_clear_10 : decode cX1_clear 10 = .ok (.putfield 41, 3) := by decide +kernel
theorem dX1_clear_13 : decode cX1_clear 13 = .ok (.aload_n 0, 1) := by decide +kernel
theorem dX1_clear_14 : decode cX1_clear 14 = .ok (.iconst 0, 1) := by decide +kernel
theorem dX1_clear_15 : decode cX1_clear 15 = .ok (.putfield 44, 3) := by decide +kernel
theorem dX1_clear_18 : decode cX1_clear 18 = .ok (.aload_n 0, 1) := by decide +kernel
theorem dX1_clear_19 : decode cX1_clear 19 = .ok (.invokevirtual 47, 3) := by decide +kernel
theorem dX1_clear_22 : decode cX1_clear 22 = .ok (.return_, 1) := by decide +kernel
theorem dX1_beginGame_0 : decode cX1_beginGame 0 = .ok (.aload_n 0, 1) := by decide +kernel
theorem dX1_beginGame_1 : decode cX1_beginGame 1 = .ok (.iconst 0, 1) := by decide +kernel
theorem dX1_beginGame_2 : decode cX1_beginGame 2 = .ok (.putfield 50, 3) := by decide +kernel
theorem dX1_beginGame_5 : decode cX1_beginGame 5 = .ok (.aload_n 0, 1) := by decide +kernel
theorem dX1_beginGame_6 : decode cX1_beginGame 6 = .ok (.iconst 1, 1) := by decide +kernel
theorem dX1_beginGame_7 : decode cX1_beginGame 7 = .ok (.putfield 31, 3) := by decide +kernel
theorem dX1_beginGame_10 : decode cX1_beginGame 10 = .ok (.return_, 1) := by decide +kernel
theorem dX1_addSeen_0 : decode cX1_addSeen 0 = .ok (.aload_n 0, 1) := by decide +kernel
theorem dX1_addSeen_1 : decode cX1_addSeen 1 = .ok (.getfield 41, 3) := by decide +kernel
theorem dX1_addSeen_4 : decode cX1_addSeen 4 = .ok (.ifCond .lt 52, 3) := by decide +kernel
theorem dX1_addSeen_7 : decode cX1_addSeen 7 = .ok (.aload_n 0, 1) := by decide +kernel
theorem dX1_addSeen_8 : decode cX1_addSeen 8 = .ok (.getfield 41, 3) := by decide +kernel
theorem dX1_addSeen_11 : decode cX1_addSeen 11 = .ok (.bipush 6, 2) := by decide +kernel
theorem dX1_addSeen_13 : decode cX1_addSeen 13 = .ok (.if_icmp .ge 43, 3) := by decide +kernel
theorem dX1_addSeen_16 : decode cX1_addSeen 16 = .ok (.aload_n 0, 1) := by decide +kernel
theorem dX1_addSeen_17 : decode cX1_addSeen 17 = .ok (.getfield 21, 3) := by decide +kernel
theorem dX1_addSeen_20 : decode cX1_addSeen 20 = .ok (.aload_n 0, 1) := by decide +kernel
theorem dX1_addSeen_21 : decode cX1_addSeen 21 = .ok (.getfield 41, 3) := by decide +kernel
theorem dX1_addSeen_24 : decode cX1_addSeen 24 = .ok (.iload_n 1, 1) := by decide +kernel
theorem dX1_addSeen_25 : decode cX1_addSeen 25 = .ok (.iastore, 1) := by decide +kernel
theorem dX1_addSeen_26 : decode cX1_addSeen 26 = .ok (.aload_n 0, 1) := by decide +kernel
theorem dX1_addSeen_27 : decode cX1_addSeen 27 = .ok (.getfield 24, 3) := by decide +kernel
theorem dX1_addSeen_30 : decode cX1_addSeen 30 = .ok (.aload_n 0, 1) := by decide +kernel
theorem dX1_addSeen_31 : decode cX1_addSeen 31 = .ok (.getfield 41, 3) := by decide +kernel
theorem dX1_addSeen_34 : decode cX1_addSeen 34 = .ok (.iload_n 2, 1) := by decide +kernel
theorem dX1_addSeen_35 : decode cX1_addSeen 35 = .ok (.iastore, 1) := by decide +kernel
theorem dX1_addSeen_36 : decode cX1_addSeen 36 = .ok (.aload_n 0, 1) := by decide +kernel
theorem dX1_addSeen_37 : decode cX1_addSeen 37 = .ok (.getfield 27, 3) := by decide +kernel
theorem dX1_addSeen_40 : decode cX1_addSeen 40 = .ok (.aload_n 0, 1) := by decide +kernel
theorem dX1_addSeen_41 : decode cX1_addSeen 41 = .ok (.getfield 41, 3) := by decide +kernel
theorem dX1_addSeen_44 : decode cX1_addSeen 44 = .ok (.iload_n 3, 1) := by decide +kernel
theorem dX1_addSeen_45 : decode cX1_addSeen 45 = .ok (.bastore, 1) := by decide +kernel
theorem dX1_addSeen_46 : decode cX1_addSeen 46 = .ok (.aload_n 0, 1) := by decide +kernel
theorem dX1_addSeen_47 : decode cX1_addSeen 47 = .ok (.dup, 1) := by decide +kernel
theorem dX1_addSeen_48 : decode cX1_addSeen 48 = .ok (.getfield 41, 3) := by decide +kernel
theorem dX1_addSeen_51 : decode cX1_addSeen 51 = .ok (.iconst 1, 1) := by decide +kernel
theorem dX1_addSeen_52 : decode cX1_addSeen 52 = .ok (.iadd, 1) := by decide +kernel
theorem dX1_addSeen_53 : decode cX1_addSeen 53 = .ok (.putfield 41, 3) := by decide +kernel
theorem dX1_addSeen_56 : decode cX1_addSeen 56 = .ok (.return_, 1) := by decide +kernel
theorem dX1_wonByAll_0 : decode cX1_wonByAll 0 = .ok (.iconst 0, 1) := by decide +kernel
theorem dX1_wonByAll_1 : decode cX1_wonByAll 1 = .ok (.istore_n 1, 1) := by decide +kernel
theorem dX1_wonByAll_2 : decode cX1_wonByAll 2 = .ok (.iconst 0, 1) := by decide +kernel
theorem dX1_wonByAll_3 : decode cX1_wonByAll 3 = .ok (.istore_n 2, 1) := by decide +kernel
theorem dX1_wonByAll_4 : decode cX1_wonByAll 4 = .ok (.iload_n 2, 1) := by decide +kernel
theorem dX1_wonByAll_5 : decode cX1_wonByAll 5 = .ok (.aload_n 0, 1) := by decide +kernel
theorem dX1_wonByAll_6 : decode cX1_wonByAll 6 = .ok (.getfield 18, 3) := by decide +kernel
theorem dX1_wonByAll_9 : decode cX1_wonByAll 9 = .ok (.arraylength, 1) := by decide +kernel
theorem dX1_wonByAll_10 : decode cX1_wonByAll 10 = .ok (.if_icmp .ge 18, 3) := by decide +kernel
theorem dX1_wonByAll_13 : decode cX1_wonByAll 13 = .ok (.iload_n 1, 1) := by decide +kernel
theorem dX1_wonByAll_14 : decode cX1_wonByAll 14 = .ok (.aload_n 0, 1) := by decide +kernel
theorem dX1_wonByAll_15 : decode cX1_wonByAll 15 = .ok (.getfield 18, 3) := by decide +kernel
theorem dX1_wonByAll_18 : decode cX1_wonByAll 18 = .ok (.iload_n 2, 1) := by decide +kernel
theorem dX1_wonByAll_19 : decode cX1_wonByAll 19 = .ok (.iaload, 1) := by decide +kernel
theorem dX1_wonByAll_20 : decode cX1_wonByAll 20 = .ok (.iadd, 1) := by decide +kernel
theorem dX1_wonByAll_21 : decode cX1_wonByAll 21 = .ok (.istore_n 1, 1) := by decide +kernel
theorem dX1_wonByAll_22 : decode cX1_wonByAll 22 = .ok (.iinc 2 1, 3) := by decide +kernel
theorem dX1_wonByAll_25 : decode cX1_wonByAll 25 = .ok (.goto (-21), 3) := by decide +kernel
theorem dX1_wonByAll_28 : decode cX1_wonByAll 28 = .ok (.iload_n 1, 1) := by decide +kernel
theorem dX1_wonByAll_29 : decode cX1_wonByAll 29 = .ok (.ireturn, 1) := by decide +kernel
theorem dX1_take_0 : decode cX1_take 0 = .ok (.aload_n 1, 1) := by decide +kernel
theorem dX1_take_1 : decode cX1_take 1 = .ok (.ifnonnull 4, 3) := by decide +kernel
theorem dX1_take_4 : decode cX1_take 4 = .ok (.return_, 1) := by decide +kernel
theorem dX1_take_5 : decode cX1_take 5 = .ok (.aload_n 1, 1) := by decide +kernel
theorem dX1_take_6 : decode cX1_take 6 = .ok (.getfield 9, 3) := by decide +kernel
theorem dX1_take_9 : decode cX1_take 9 = .ok (.iconst 0, 1) := by decide +kernel
theorem dX1_take_10 : decode cX1_take 10 = .ok (.aload_n 0, 1) := by decide +kernel
theorem dX1_take_11 : decode cX1_take 11 = .ok (.getfield 9, 3) := by decide +kernel
theorem dX1_take_14 : decode cX1_take 14 = .ok (.iconst 0, 1) := by decide +kernel
theorem dX1_take_15 : decode cX1_take 15 = .ok (.iconst 4, 1) := by decide +kernel
theorem dX1_take_16 : decode cX1_take 16 = .ok (.invokestatic 53, 3) := by decide +kernel
theorem dX1_take_19 : decode cX1_take 19 = .ok (.aload_n 1, 1) := by decide +kernel
theorem dX1_take_20 : decode cX1_take 20 = .ok (.getfield 15, 3) := by decide +kernel
theorem dX1_take_23 : decode cX1_take 23 = .ok (.iconst 0, 1) := by decide +kernel
theorem dX1_take_24 : decode cX1_take 24 = .ok (.aload_n 0, 1) := by decide +kernel
theorem dX1_take_25 : decode cX1_take 25 = .ok (.getfield 15, 3) := by decide +kernel
theorem dX1_take_28 : decode cX1_take 28 = .ok (.iconst 0, 1) := by decide +kernel
theorem dX1_take_29 : decode cX1_take 29 = .ok (.iconst 4, 1) := by decide +kernel
theorem dX1_take_30 : decode cX1_take 30 = .ok (.invokestatic 53, 3) := by decide +kernel
theorem dX1_take_33 : decode cX1_take 33 = .ok (.aload_n 1, 1) := by decide +kernel
theorem dX1_take_34 : decode cX1_take 34 = .ok (.getfield 18, 3) := by decide +kernel
theorem dX1_take_37 : decode cX1_take 37 = .ok (.iconst 0, 1) := by decide +kernel
theorem dX1_take_38 : decode cX1_take 38 = .ok (.aload_n 0, 1) := by decide +kernel
theorem dX1_take_39 : decode cX1_take 39 = .ok (.getfield 18, 3) := by decide +kernel
theorem dX1_take_42 : decode cX1_take 42 = .ok (.iconst 0, 1) := by decide +kernel
theorem dX1_take_43 : decode cX1_take 43 = .ok (.iconst 4, 1) := by decide +kernel
theorem dX1_take_44 : decode cX1_take 44 = .ok (.invokestatic 53, 3) := by decide +kernel
theorem dX1_take_47 : decode cX1_take 47 = .ok (.aload_n 1, 1) := by decide +kernel
theorem dX1_take_48 : decode cX1_take 48 = .ok (.getfield 21, 3) := by decide +kernel
theorem dX1_take_51 : decode cX1_take 51 = .ok (.iconst 0, 1) := by decide +kernel
theorem dX1_take_52 : decode cX1_take 52 = .ok (.aload_n 0, 1) := by decide +kernel
theorem dX1_take_53 : decode cX1_take 53 = .ok (.getfield 21, 3) := by decide +kernel
theorem dX1_take_56 : decode cX1_take 56 = .ok (.iconst 0, 1) := by decide +kernel
theorem dX1_take_57 : decode cX1_take 57 = .ok (.bipush 6, 2) := by decide +kernel
theorem dX1_take_59 : decode cX1_take 59 = .ok (.invokestatic 53, 3) := by decide +kernel
theorem dX1_take_62 : decode cX1_take 62 = .ok (.aload_n 1, 1) := by decide +kernel
theorem dX1_take_63 : decode cX1_take 63 = .ok (.getfield 24, 3) := by decide +kernel
theorem dX1_take_66 : decode cX1_take 66 = .ok (.iconst 0, 1) := by decide +kernel
theorem dX1_take_67 : decode cX1_take 67 = .ok (.aload_n 0, 1) := by decide +kernel
theorem dX1_take_68 : decode cX1_take 68 = .ok (.getfield 24, 3) := by decide +kernel
theorem dX1_take_71 : decode cX1_take 71 = .ok (.iconst 0, 1) := by decide +kernel
theorem dX1_take_72 : decode cX1_take 72 = .ok (.bipush 6, 2) := by decide +kernel
theorem dX1_take_74 : decode cX1_take 74 = .ok (.invokestatic 53, 3) := by decide +kernel
theorem dX1_take_77 : decode cX1_take 77 = .ok (.iconst 0, 1) := by decide +kernel
theorem dX1_take_78 : decode cX1_take 78 = .ok (.istore_n 2, 1) := by decide +kernel
theorem dX1_take_79 : decode cX1_take 79 = .ok (.iload_n 2, 1) := by decide +kernel
theorem dX1_take_80 : decode cX1_take 80 = .ok (.bipush 6, 2) := by decide +kernel
theorem dX1_take_82 : decode cX1_take 82 = .ok (.if_icmp .ge 21, 3) := by decide +kernel
theorem dX1_take_85 : decode cX1_take 85 = .ok (.aload_n 0, 1) := by decide +kernel
theorem dX1_take_86 : decode cX1_take 86 = .ok (.getfield 27, 3) := by decide +kernel
theorem dX1_take_89 : decode cX1_take 89 = .ok (.iload_n 2, 1) := by decide +kernel
theorem dX1_take_90 : decode cX1_take 90 = .ok (.aload_n 1, 1) := by decide +kernel
theorem dX1_take_91 : decode cX1_take 91 = .ok (.getfield 27, 3) := by decide +kernel
theorem dX1_take_94 : decode cX1_take 94 = .ok (.iload_n 2, 1) := by decide +kernel
theorem dX1_take_95 : decode cX1_take 95 = .ok (.baload, 1) := by decide +kernel
theorem dX1_take_96 : decode cX1_take 96 = .ok (.bastore, 1) := by decide +kernel
theorem dX1_take_97 : decode cX1_take 97 = .ok (.iinc 2 1, 3) := by decide +kernel
theorem dX1_take_100 : decode cX1_take 100 = .ok (.goto (-21), 3) := by decide +kernel
theorem dX1_take_103 : decode cX1_take 103 = .ok (.aload_n 0, 1) := by decide +kernel
theorem dX1_take_104 : decode cX1_take 104 = .ok (.aload_n 1, 1) := by decide +kernel
theorem dX1_take_105 : decode cX1_take 105 = .ok (.getfield 41, 3) := by decide +kernel
theorem dX1_take_108 : decode cX1_take 108 = .ok (.putfield 41, 3) := by decide +kernel
theorem dX1_take_111 : decode cX1_take 111 = .ok (.aload_n 0, 1) := by decide +kernel
theorem dX1_take_112 : decode cX1_take 112 = .ok (.aload_n 1, 1) := by decide +kernel
theorem dX1_take_113 : decode cX1_take 113 = .ok (.getfield 44, 3) := by decide +kernel
theorem dX1_take_116 : decode cX1_take 116 = .ok (.putfield 44, 3) := by decide +kernel
theorem dX1_take_119 : decode cX1_take 119 = .ok (.aload_n 0, 1) := by decide +kernel
theorem dX1_take_120 : decode cX1_take 120 = .ok (.aload_n 1, 1) := by decide +kernel
theorem dX1_take_121 : decode cX1_take 121 = .ok (.getfield 50, 3) := by decide +kernel
theorem dX1_take_124 : decode cX1_take 124 = .ok (.putfield 50, 3) := by decide +kernel
theorem dX1_take_127 : decode cX1_take 127 = .ok (.aload_n 0, 1) := by decide +kernel
theorem dX1_take_128 : decode cX1_take 128 = .ok (.aload_n 1, 1) := by decide +kernel
theorem dX1_take_129 : decode cX1_take 129 = .ok (.getfield 31, 3) := by decide +kernel
theorem dX1_take_132 : decode cX1_take 132 = .ok (.putfield 31, 3) := by decide +kernel
theorem dX1_take_135 : decode cX1_take 135 = .ok (.return_, 1) := by decide +kernel
theorem dX2_init_0 : decode cX2_init 0 = .ok (.aload_n 0, 1) := by decide +kernel
theorem dX2_init_1 : decode cX2_init 1 = .ok (.invokespecial 1, 3) := by decide +kernel
theorem dX2_init_4 : decode cX2_init 4 = .ok (.return_, 1) := by decide +kernel
theorem dX2_rowsHitWith_0 : decode cX2_rowsHitWith 0 = .ok (.iconst 1, 1) := by decide +kernel
theorem dX2_rowsHitWith_1 : decode cX2_rowsHitWith 1 = .ok (.iload_n 1, 1) := by decide +kernel
theorem dX2_rowsHitWith_2 : decode cX2_rowsHitWith 2 = .ok (.ishl, 1) := by decide +kernel
theorem dX2_rowsHitWith_3 : decode cX2_rowsHitWith 3 = .ok (.iconst 1, 1) := by decide +kernel
theorem dX2_rowsHitWith_4 : decode cX2_rowsHitWith 4 = .ok (.iload_n 1, 1) := by decide +kernel
theorem dX2_rowsHitWith_5 : decode cX2_rowsHitWith 5 = .ok (.iload_n 2, 1) := by decide +kernel
theorem dX2_rowsHitWith_6 : decode cX2_rowsHitWith 6 = .ok (.invokestatic 7, 3) := by decide +kernel
theorem dX2_rowsHitWith_9 : decode cX2_rowsHitWith 9 = .ok (.ishl, 1) := by decide +kernel
theorem dX2_rowsHitWith_10 : decode cX2_rowsHitWith 10 = .ok (.ior, 1) := by decide +kernel
theorem dX2_rowsHitWith_11 : decode cX2_rowsHitWith 11 = .ok (.ireturn, 1) := by decide +kernel
theorem dX3_init_0 : decode cX3_init 0 = .ok (.aload_n 0, 1) := by decide +kernel
theorem dX3_init_1 : decode cX3_init 1 = .ok (.invokespecial 1, 3) := by decide +kernel
theorem dX3_init_4 : decode cX3_init 4 = .ok (.return_, 1) := by decide +kernel
theorem dX3_rowsHitWith_0 : decode cX3_rowsHitWith 0 = .ok (.iconst 1, 1) := by decide +kernel
theorem dX3_rowsHitWith_1 : decode cX3_rowsHitWith 1 = .ok (.iload_n 1, 1) := by decide +kernel
theorem dX3_rowsHitWith_2 : decode cX3_rowsHitWith 2 = .ok (.iload_n 2, 1) := by decide +kernel
theorem dX3_rowsHitWith_3 : decode cX3_rowsHitWith 3 = .ok (.invokestatic 7, 3) := by decide +kernel
theorem dX3_rowsHitWith_6 : decode cX3_rowsHitWith 6 = .ok (.ishl, 1) := by decide +kernel
theorem dX3_rowsHitWith_7 : decode cX3_rowsHitWith 7 = .ok (.ireturn, 1) := by decide +kernel
theorem dX4_init_0 : decode cX4_init 0 = .ok (.aload_n 0, 1) := by decide +kernel
theorem dX4_init_1 : decode cX4_init 1 = .ok (.invokespecial 1, 3) := by decide +kernel
theorem dX4_init_4 : decode cX4_init 4 = .ok (.return_, 1) := by decide +kernel
theorem dX4_rowsHitWith_0 : decode cX4_rowsHitWith 0 = .ok (.iconst 1, 1) := by decide +kernel
theorem dX4_rowsHitWith_1 : decode cX4_rowsHitWith 1 = .ok (.iload_n 1, 1) := by decide +kernel
theorem dX4_rowsHitWith_2 : decode cX4_rowsHitWith 2 = .ok (.iload_n 2, 1) := by decide +kernel
theorem dX4_rowsHitWith_3 : decode cX4_rowsHitWith 3 = .ok (.invokestatic 7, 3) := by decide +kernel
theorem dX4_rowsHitWith_6 : decode cX4_rowsHitWith 6 = .ok (.ishl, 1) := by decide +kernel
theorem dX4_rowsHitWith_7 : decode cX4_rowsHitWith 7 = .ok (.ireturn, 1) := by decide +kernel
theorem dX5_init_0 : decode cX5_init 0 = .ok (.aload_n 0, 1) := by decide +kernel
theorem dX5_init_1 : decode cX5_init 1 = .ok (.invokespecial 3, 3) := by decide +kernel
theorem dX5_init_4 : decode cX5_init 4 = .ok (.aload_n 0, 1) := by decide +kernel
theorem dX5_init_5 : decode cX5_init 5 = .ok (.bipush 28, 2) := by decide +kernel
theorem dX5_init_7 : decode cX5_init 7 = .ok (.newarray .char, 2) := by decide +kernel
theorem dX5_init_9 : decode cX5_init 9 = .ok (.putfield 11, 3) := by decide +kernel
theorem dX5_init_12 : decode cX5_init 12 = .ok (.return_, 1) := by decide +kernel
theorem dX5_length_0 : decode cX5_length 0 = .ok (.aload_n 0, 1) := by decide +kernel
theorem dX5_length_1 : decode cX5_length 1 = .ok (.getfield 15, 3) := by decide +kernel
theorem dX5_length_4 : decode cX5_length 4 = .ok (.ireturn, 1) := by decide +kernel
theorem dX5_isFull_0 : decode cX5_isFull 0 = .ok (.aload_n 0, 1) := by decide +kernel
theorem dX5_isFull_1 : decode cX5_isFull 1 = .ok (.getfield 15, 3) := by decide +kernel
theorem dX5_isFull_4 : decode cX5_isFull 4 = .ok (.bipush 28, 2) := by decide +kernel
theorem dX5_isFull_6 : decode cX5_isFull 6 = .ok (.if_icmp .lt 7, 3) := by decide +kernel
theorem dX5_isFull_9 : decode cX5_isFull 9 = .ok (.iconst 1, 1) := by decide +kernel
theorem dX5_isFull_10 : decode cX5_isFull 10 = .ok (.goto 4, 3) := by decide +kernel
theorem dX5_isFull_13 : decode cX5_isFull 13 = .ok (.iconst 0, 1) := by decide +kernel
theorem dX5_isFull_14 : decode cX5_isFull 14 = .ok (.ireturn, 1) := by decide +kernel
theorem dX5_append_0 : decode cX5_append 0 = .ok (.aload_n 0, 1) := by decide +kernel
theorem dX5_append_1 : decode cX5_append 1 = .ok (.getfield 15, 3) := by decide +kernel
theorem dX5_append_4 : decode cX5_append 4 = .ok (.bipush 28, 2) := by decide +kernel
theorem dX5_append_6 : decode cX5_append 6 = .ok (.if_icmp .ge 23, 3) := by decide +kernel
theorem dX5_append_9 : decode cX5_append 9 = .ok (.aload_n 0, 1) := by decide +kernel
theorem dX5_append_10 : decode cX5_append 10 = .ok (.getfield 11, 3) := by decide +kernel
theorem dX5_append_13 : decode cX5_append 13 = .ok (.aload_n 0, 1) := by decide +kernel
theorem dX5_append_14 : decode cX5_append 14 = .ok (.getfield 15, 3) := by decide +kernel
theorem dX5_append_17 : decode cX5_append 17 = .ok (.iload_n 1, 1) := by decide +kernel
theorem dX5_append_18 : decode cX5_append 18 = .ok (.castore, 1) := by decide +kernel
theorem dX5_append_19 : decode cX5_append 19 = .ok (.aload_n 0, 1) := by decide +kernel
theorem dX5_append_20 : decode cX5_append 20 = .ok (.dup, 1) := by decide +kernel
theorem dX5_append_21 : decode cX5_append 21 = .ok (.getfield 15, 3) := by decide +kernel
theorem dX5_append_24 : decode cX5_append 24 = .ok (.iconst 1, 1) := by decide +kernel
theorem dX5_append_25 : decode cX5_append 25 = .ok (.iadd, 1) := by decide +kernel
theorem dX5_append_26 : decode cX5_append 26 = .ok (.putfield 15, 3) := by decide +kernel
theorem dX5_append_29 : decode cX5_append 29 = .ok (.return_, 1) := by decide +kernel
theorem dX5_clear_0 : decode cX5_clear 0 = .ok (.aload_n 0, 1) := by decide +kernel
theorem dX5_clear_1 : decode cX5_clear 1 = .ok (.iconst 0, 1) := by decide +kernel
theorem dX5_clear_2 : decode cX5_clear 2 = .ok (.putfield 15, 3) := by decide +kernel
theorem dX5_clear_5 : decode cX5_clear 5 = .ok (.return_, 1) := by decide +kernel
theorem dX5_at_0 : decode cX5_at 0 = .ok (.iload_n 1, 1) := by decide +kernel
theorem dX5_at_1 : decode cX5_at 1 = .ok (.ifCond .lt 20, 3) := by decide +kernel
theorem dX5_at_4 : decode cX5_at 4 = .ok (.iload_n 1, 1) := by decide +kernel
theorem dX5_at_5 : decode cX5_at 5 = .ok (.aload_n 0, 1) := by decide +kernel
theorem dX5_at_6 : decode cX5_at 6 = .ok (.getfield 15, 3) := by decide +kernel
theorem dX5_at_9 : decode cX5_at 9 = .ok (.if_icmp .ge 12, 3) := by decide +kernel
theorem dX5_at_12 : decode cX5_at 12 = .ok (.aload_n 0, 1) := by decide +kernel
theorem dX5_at_13 : decode cX5_at 13 = .ok (.getfield 11, 3) := by decide +kernel
theorem dX5_at_16 : decode cX5_at 16 = .ok (.iload_n 1, 1) := by decide +kernel
theorem dX5_at_17 : decode cX5_at 17 = .ok (.caload, 1) := by decide +kernel
theorem dX5_at_18 : decode cX5_at 18 = .ok (.goto 5, 3) := by decide +kernel
theorem dX5_at_21 : decode cX5_at 21 = .ok (.bipush 32, 2) := by decide +kernel
theorem dX5_at_23 : decode cX5_at 23 = .ok (.ireturn, 1) := by decide +kernel
theorem dX5_size_0 : decode cX5_size 0 = .ok (.aload_n 0, 1) := by decide +kernel
theorem dX5_size_1 : decode cX5_size 1 = .ok (.iconst 0, 1) := by decide +kernel
theorem dX5_size_2 : decode cX5_size 2 = .ok (.invokevirtual 19, 3) := by decide +kernel
theorem dX5_size_5 : decode cX5_size 5 = .ok (.bipush 48, 2) := by decide +kernel
theorem dX5_size_7 : decode cX5_size 7 = .ok (.isub, 1) := by decide +kernel
theorem dX5_size_8 : decode cX5_size 8 = .ok (.istore_n 1, 1) := by decide +kernel
theorem dX5_size_9 : decode cX5_size 9 = .ok (.iload_n 1, 1) := by decide +kernel
theorem dX5_size_10 : decode cX5_size 10 = .ok (.iconst 2, 1) := by decide +kernel
theorem dX5_size_11 : decode cX5_size 11 = .ok (.if_icmp .lt 12, 3) := by decide +kernel
theorem dX5_size_14 : decode cX5_size 14 = .ok (.iload_n 1, 1) := by decide +kernel
theorem dX5_size_15 : decode cX5_size 15 = .ok (.iconst 4, 1) := by decide +kernel
theorem dX5_size_16 : decode cX5_size 16 = .ok (.if_icmp .gt 7, 3) := by decide +kernel
theorem dX5_size_19 : decode cX5_size 19 = .ok (.iload_n 1, 1) := by decide +kernel
theorem dX5_size_20 : decode cX5_size 20 = .ok (.goto 4, 3) := by decide +kernel
theorem dX5_size_23 : decode cX5_size 23 = .ok (.iconst 0, 1) := by decide +kernel
theorem dX5_size_24 : decode cX5_size 24 = .ok (.ireturn, 1) := by decide +kernel
theorem dX5_firstWrong_0 : decode cX5_firstWrong 0 = .ok (.iconst 0, 1) := by decide +kernel
theorem dX5_firstWrong_1 : decode cX5_firstWrong 1 = .ok (.istore_n 1, 1) := by decide +kernel
theorem dX5_firstWrong_2 : decode cX5_firstWrong 2 = .ok (.iload_n 1, 1) := by decide +kernel
theorem dX5_firstWrong_3 : decode cX5_firstWrong 3 = .ok (.aload_n 0, 1) := by decide +kernel
theorem dX5_firstWrong_4 : decode cX5_firstWrong 4 = .ok (.getfield 15, 3) := by decide +kernel
theorem dX5_firstWrong_7 : decode cX5_firstWrong 7 = .ok (.if_icmp .ge 19, 3) := by decide +kernel
theorem dX5_firstWrong_10 : decode cX5_firstWrong 10 = .ok (.aload_n 0, 1) := by decide +kernel
theorem dX5_firstWrong_11 : decode cX5_firstWrong 11 = .ok (.iload_n 1, 1) := by decide +kernel
theorem dX5_firstWrong_12 : decode cX5_firstWrong 12 = .ok (.invokevirtual 23, 3) := by decide +kernel
theorem dX5_firstWrong_15 : decode cX5_firstWrong 15 = .ok (.ifCond .ne 5, 3) := by decide +kernel
theorem dX5_firstWrong_18 : decode cX5_firstWrong 18 = .ok (.iload_n 1, 1) := by decide +kernel
theorem dX5_firstWrong_19 : decode cX5_firstWrong 19 = .ok (.ireturn, 1) := by decide +kernel
theorem dX5_firstWrong_20 : decode cX5_firstWrong 20 = .ok (.iinc 1 1, 3) := by decide +kernel
theorem dX5_firstWrong_23 : decode cX5_firstWrong 23 = .ok (.goto (-21), 3) := by decide +kernel
theorem dX5_firstWrong_26 : decode cX5_firstWrong 26 = .ok (.aload_n 0, 1) := by decide +kernel
theorem dX5_firstWrong_27 : decode cX5_firstWrong 27 = .ok (.getfield 15, 3) := by decide +kernel
theorem dX5_firstWrong_30 : decode cX5_firstWrong 30 = .ok (.ireturn, 1) := by decide +kernel
theorem dX5_playersOfTable_0 : decode cX5_playersOfTable 0 = .ok (.aload_n 0, 1) := by decide +kernel
theorem dX5_playersOfTable_1 : decode cX5_playersOfTable 1 = .ok (.invokevirtual 27, 3) := by decide +kernel
theorem dX5_playersOfTable_4 : decode cX5_playersOfTable 4 = .ok (.ifCond .eq 14, 3) := by decide +kernel
theorem dX5_playersOfTable_7 : decode cX5_playersOfTable 7 = .ok (.aload_n 0, 1) := by decide +kernel
theorem dX5_playersOfTable_8 : decode cX5_playersOfTable 8 = .ok (.invokevirtual 31, 3) := by decide +kernel
theorem dX5_playersOfTable_11 : decode cX5_playersOfTable 11 = .ok (.aload_n 0, 1) := by decide +kernel
theorem dX5_playersOfTable_12 : decode cX5_playersOfTable 12 = .ok (.getfield 15, 3) := by decide +kernel
theorem dX5_playersOfTable_15 : decode cX5_playersOfTable 15 = .ok (.if_icmp .ge 5, 3) := by decide +kernel
theorem dX5_playersOfTable_18 : decode cX5_playersOfTable 18 = .ok (.iconst 0, 1) := by decide +kernel
theorem dX5_playersOfTable_19 : decode cX5_playersOfTable 19 = .ok (.ireturn, 1) := by decide +kernel
theorem dX5_playersOfTable_20 : decode cX5_playersOfTable 20 = .ok (.aload_n 0, 1) := by decide +kernel
theorem dX5_playersOfTable_21 : decode cX5_playersOfTable 21 = .ok (.getfield 15, 3) := by decide +kernel
theorem dX5_playersOfTable_24 : decode cX5_playersOfTable 24 = .ok (.iconst 1, 1) := by decide +kernel
theorem dX5_playersOfTable_25 : decode cX5_playersOfTable 25 = .ok (.iadd, 1) := by decide +kernel
theorem dX5_playersOfTable_26 : decode cX5_playersOfTable 26 = .ok (.iconst 2, 1) := by decide +kernel
theorem dX5_playersOfTable_27 : decode cX5_playersOfTable 27 = .ok (.isub, 1) := by decide +kernel
theorem dX5_playersOfTable_28 : decode cX5_playersOfTable 28 = .ok (.istore_n 1, 1) := by decide +kernel
theorem dX5_playersOfTable_29 : decode cX5_playersOfTable 29 = .ok (.iload_n 1, 1) := by decide +kernel
theorem dX5_playersOfTable_30 : decode cX5_playersOfTable 30 = .ok (.aload_n 0, 1) := by decide +kernel
theorem dX5_playersOfTable_31 : decode cX5_playersOfTable 31 = .ok (.invokevirtual 34, 3) := by decide +kernel
theorem dX5_playersOfTable_34 : decode cX5_playersOfTable 34 = .ok (.idiv, 1) := by decide +kernel
theorem dX5_playersOfTable_35 : decode cX5_playersOfTable 35 = .ok (.istore_n 2, 1) := by decide +kernel
theorem dX5_playersOfTable_36 : decode cX5_playersOfTable 36 = .ok (.iload_n 1, 1) := by decide +kernel
theorem dX5_playersOfTable_37 : decode cX5_playersOfTable 37 = .ok (.aload_n 0, 1) := by decide +kernel
theorem dX5_playersOfTable_38 : decode cX5_playersOfTable 38 = .ok (.invokevirtual 34, 3) := by decide +kernel
theorem dX5_playersOfTable_41 : decode cX5_playersOfTable 41 = .ok (.irem, 1) := by decide +kernel
theorem dX5_playersOfTable_42 : decode cX5_playersOfTable 42 = .ok (.ifCond .ne 12, 3) := by decide +kernel
theorem dX5_playersOfTable_45 : decode cX5_playersOfTable 45 = .ok (.iload_n 2, 1) := by decide +kernel
theorem dX5_playersOfTable_46 : decode cX5_playersOfTable 46 = .ok (.iconst 2, 1) := by decide +kernel
theorem dX5_playersOfTable_47 : decode cX5_playersOfTable 47 = .ok (.if_icmp .lt 7, 3) := by decide +kernel
theorem dX5_playersOfTable_50 : decode cX5_playersOfTable 50 = .ok (.iload_n 2, 1) := by decide +kernel
theorem dX5_playersOfTable_51 : decode cX5_playersOfTable 51 = .ok (.goto 4, 3) := by decide +kernel
theorem dX5_playersOfTable_54 : decode cX5_playersOfTable 54 = .ok (.iconst 0, 1) := by decide +kernel
theorem dX5_playersOfTable_55 : decode cX5_playersOfTable 55 = .ok (.ireturn, 1) := by decide +kernel
theorem dX5_kindOf_0 : decode cX5_kindOf 0 = .ok (.ldc 37, 2) := by decide +kernel
theorem dX5_kindOf_2 : decode cX5_kindOf 2 = .ok (.aload_n 0, 1) := by decide +kernel
theorem dX5_kindOf_3 : decode cX5_kindOf 3 = .ok (.aload_n 0, 1) := by decide +kernel
theorem dX5_kindOf_4 : decode cX5_kindOf 4 = .ok (.iload_n 1, 1) := by decide +kernel
theorem dX5_kindOf_5 : decode cX5_kindOf 5 = .ok (.invokevirtual 39, 3) := by decide +kernel
theorem dX5_kindOf_8 : decode cX5_kindOf 8 = .ok (.invokevirtual 19, 3) := by decide +kernel
theorem dX5_kindOf_11 : decode cX5_kindOf 11 = .ok (.invokevirtual 43, 3) := by decide +kernel
theorem dX5_kindOf_14 : decode cX5_kindOf 14 = .ok (.iconst 0, 1) := by decide +kernel
theorem dX5_kindOf_15 : decode cX5_kindOf 15 = .ok (.invokestatic 48, 3) := by decide +kernel
theorem dX5_kindOf_18 : decode cX5_kindOf 18 = .ok (.ireturn, 1) := by decide +kernel
theorem dX5_rowOf_0 : decode cX5_rowOf 0 = .ok (.iconst 0, 1) := by decide +kernel
theorem dX5_rowOf_1 : decode cX5_rowOf 1 = .ok (.istore_n 2, 1) := by decide +kernel
theorem dX5_rowOf_2 : decode cX5_rowOf 2 = .ok (.iconst 1, 1) := by decide +kernel
theorem dX5_rowOf_3 : decode cX5_rowOf 3 = .ok (.istore_n 3, 1) := by decide +kernel
theorem dX5_rowOf_4 : decode cX5_rowOf 4 = .ok (.iload_n 3, 1) := by decide +kernel
theorem dX5_rowOf_5 : decode cX5_rowOf 5 = .ok (.aload_n 0, 1) := by decide +kernel
theorem dX5_rowOf_6 : decode cX5_rowOf 6 = .ok (.invokevirtual 27, 3) := by decide +kernel
theorem dX5_rowOf_9 : decode cX5_rowOf 9 = .ok (.if_icmp .gt 35, 3) := by decide +kernel
theorem dX5_rowOf_12 : decode cX5_rowOf 12 = .ok (.iconst 2, 1) := by decide +kernel
theorem dX5_rowOf_13 : decode cX5_rowOf 13 = .ok (.iload_n 2, 1) := by decide +kernel
theorem dX5_rowOf_14 : decode cX5_rowOf 14 = .ok (.imul, 1) := by decide +kernel
theorem dX5_rowOf_15 : decode cX5_rowOf 15 = .ok (.aload_n 0, 1) := by decide +kernel
theorem dX5_rowOf_16 : decode cX5_rowOf 16 = .ok (.aload_n 0, 1) := by decide +kernel
theorem dX5_rowOf_17 : decode cX5_rowOf 17 = .ok (.iload_n 1, 1) := by decide +kernel
theorem dX5_rowOf_18 : decode cX5_rowOf 18 = .ok (.invokevirtual 39, 3) := by decide +kernel
theorem dX5_rowOf_21 : decode cX5_rowOf 21 = .ok (.iload_n 3, 1) := by decide +kernel
theorem dX5_rowOf_22 : decode cX5_rowOf 22 = .ok (.iadd, 1) := by decide +kernel
theorem dX5_rowOf_23 : decode cX5_rowOf 23 = .ok (.invokevirtual 19, 3) := by decide +kernel
theorem dX5_rowOf_26 : decode cX5_rowOf 26 = .ok (.bipush 116, 2) := by decide +kernel
theorem dX5_rowOf_28 : decode cX5_rowOf 28 = .ok (.if_icmp .ne 7, 3) := by decide +kernel
theorem dX5_rowOf_31 : decode cX5_rowOf 31 = .ok (.iconst 1, 1) := by decide +kernel
theorem dX5_rowOf_32 : decode cX5_rowOf 32 = .ok (.goto 4, 3) := by decide +kernel
theorem dX5_rowOf_35 : decode cX5_rowOf 35 = .ok (.iconst 0, 1) := by decide +kernel
theorem dX5_rowOf_36 : decode cX5_rowOf 36 = .ok (.iadd, 1) := by decide +kernel
theorem dX5_rowOf_37 : decode cX5_rowOf 37 = .ok (.istore_n 2, 1) := by decide +kernel
theorem dX5_rowOf_38 : decode cX5_rowOf 38 = .ok (.iinc 3 1, 3) := by decide +kernel
theorem dX5_rowOf_41 : decode cX5_rowOf 41 = .ok (.goto (-37), 3) := by decide +kernel
theorem dX5_rowOf_44 : decode cX5_rowOf 44 = .ok (.iload_n 2, 1) := by decide +kernel
theorem dX5_rowOf_45 : decode cX5_rowOf 45 = .ok (.ireturn, 1) := by decide +kernel
theorem dX5_placeOf_0 : decode cX5_placeOf 0 = .ok (.iconst 2, 1) := by decide +kernel
theorem dX5_placeOf_1 : decode cX5_placeOf 1 = .ok (.iload_n 1, 1) := by decide +kernel
theorem dX5_placeOf_2 : decode cX5_placeOf 2 = .ok (.aload_n 0, 1) := by decide +kernel
theorem dX5_placeOf_3 : decode cX5_placeOf 3 = .ok (.invokevirtual 34, 3) := by decide +kernel
theorem dX5_placeOf_6 : decode cX5_placeOf 6 = .ok (.imul, 1) := by decide +kernel
theorem dX5_placeOf_7 : decode cX5_placeOf 7 = .ok (.iadd, 1) := by decide +kernel
theorem dX5_placeOf_8 : decode cX5_placeOf 8 = .ok (.ireturn, 1) := by decide +kernel
theorem dX5_step_0 : decode cX5_step 0 = .ok (.aload_n 0, 1) := by decide +kernel
theorem dX5_step_1 : decode cX5_step 1 = .ok (.invokevirtual 27, 3) := by decide +kernel
theorem dX5_step_4 : decode cX5_step 4 = .ok (.iconst 2, 1) := by decide +kernel
theorem dX5_step_5 : decode cX5_step 5 = .ok (.iadd, 1) := by decide +kernel
theorem dX5_step_6 : decode cX5_step 6 = .ok (.ireturn, 1) := by decide +kernel
theorem dX5_canStand_0 : decode cX5_canStand 0 = .ok (.aload_n 0, 1) := by decide +kernel
theorem dX5_canStand_1 : decode cX5_canStand 1 = .ok (.invokevirtual 27, 3) := by decide +kernel
theorem dX5_canStand_4 : decode cX5_canStand 4 = .ok (.ifCond .ne 5, 3) := by decide +kernel
theorem dX5_canStand_7 : decode cX5_canStand 7 = .ok (.iconst 0, 1) := by decide +kernel
theorem dX5_canStand_8 : decode cX5_canStand 8 = .ok (.ireturn, 1) := by decide +kernel
theorem dX5_canStand_9 : decode cX5_canStand 9 = .ok (.iload_n 1, 1) := by decide +kernel
theorem dX5_canStand_10 : decode cX5_canStand 10 = .ok (.iconst 2, 1) := by decide +kernel
theorem dX5_canStand_11 : decode cX5_canStand 11 = .ok (.if_icmp .ge 23, 3) := by decide +kernel
theorem dX5_canStand_14 : decode cX5_canStand 14 = .ok (.iload_n 1, 1) := by decide +kernel
theorem dX5_canStand_15 : decode cX5_canStand 15 = .ok (.ifCond .eq 13, 3) := by decide +kernel
theorem dX5_canStand_18 : decode cX5_canStand 18 = .ok (.aload_n 0, 1) := by decide +kernel
theorem dX5_canStand_19 : decode cX5_canStand 19 = .ok (.iload_n 1, 1) := by decide +kernel
theorem dX5_canStand_20 : decode cX5_canStand 20 = .ok (.invokevirtual 19, 3) := by decide +kernel
theorem dX5_canStand_23 : decode cX5_canStand 23 = .ok (.bipush 59, 2) := by decide +kernel
theorem dX5_canStand_25 : decode cX5_canStand 25 = .ok (.if_icmp .ne 7, 3) := by decide +kernel
theorem dX5_canStand_28 : decode cX5_canStand 28 = .ok (.iconst 1, 1) := by decide +kernel
theorem dX5_canStand_29 : decode cX5_canStand 29 = .ok (.goto 4, 3) := by decide +kernel
theorem dX5_canStand_32 : decode cX5_canStand 32 = .ok (.iconst 0, 1) := by decide +kernel
theorem dX5_canStand_33 : decode cX5_canStand 33 = .ok (.ireturn, 1) := by decide +kernel
theorem dX5_canStand_34 : decode cX5_canStand 34 = .ok (.iload_n 1, 1) := by decide +kernel
theorem dX5_canStand_35 : decode cX5_canStand 35 = .ok (.iconst 2, 1) := by decide +kernel
theorem dX5_canStand_36 : decode cX5_canStand 36 = .ok (.isub, 1) := by decide +kernel
theorem dX5_canStand_37 : decode cX5_canStand 37 = .ok (.aload_n 0, 1) := by decide +kernel
theorem dX5_canStand_38 : decode cX5_canStand 38 = .ok (.invokevirtual 34, 3) := by decide +kernel
theorem dX5_canStand_41 : decode cX5_canStand 41 = .ok (.idiv, 1) := by decide +kernel
theorem dX5_canStand_42 : decode cX5_canStand 42 = .ok (.istore_n 2, 1) := by decide +kernel
theorem dX5_canStand_43 : decode cX5_canStand 43 = .ok (.iload_n 1, 1) := by decide +kernel
theorem dX5_canStand_44 : decode cX5_canStand 44 = .ok (.iconst 2, 1) := by decide +kernel
theorem dX5_canStand_45 : decode cX5_canStand 45 = .ok (.isub, 1) := by decide +kernel
theorem dX5_canStand_46 : decode cX5_canStand 46 = .ok (.aload_n 0, 1) := by decide +kernel
theorem dX5_canStand_47 : decode cX5_canStand 47 = .ok (.invokevirtual 34, 3) := by decide +kernel
theorem dX5_canStand_50 : decode cX5_canStand 50 = .ok (.irem, 1) := by decide +kernel
theorem dX5_canStand_51 : decode cX5_canStand 51 = .ok (.istore_n 3, 1) := by decide +kernel
theorem dX5_canStand_52 : decode cX5_canStand 52 = .ok (.iload_n 3, 1) := by decide +kernel
theorem dX5_canStand_53 : decode cX5_canStand 53 = .ok (.ifCond .ne 22, 3) := by decide +kernel
theorem dX5_canStand_56 : decode cX5_canStand 56 = .ok (.ldc 37, 2) := by decide +kernel
theorem dX5_canStand_58 : decode cX5_canStand 58 = .ok (.aload_n 0, 1) := by decide +kernel
theorem dX5_canStand_59 : decode cX5_canStand 59 = .ok (.iload_n 1, 1) := by decide +kernel
theorem dX5_canStand_60 : decode cX5_canStand 60 = .ok (.invokevirtual 19, 3) := by decide +kernel
theorem dX5_canStand_63 : decode cX5_canStand 63 = .ok (.invokevirtual 43, 3) := by decide +kernel
theorem dX5_canStand_66 : decode cX5_canStand 66 = .ok (.ifCond .lt 7, 3) := by decide +kernel
theorem dX5_canStand_69 : decode cX5_canStand 69 = .ok (.iconst 1, 1) := by decide +kernel
theorem dX5_canStand_70 : decode cX5_canStand 70 = .ok (.goto 4, 3) := by decide +kernel
theorem dX5_canStand_73 : decode cX5_canStand 73 = .ok (.iconst 0, 1) := by decide +kernel
theorem dX5_canStand_74 : decode cX5_canStand 74 = .ok (.ireturn, 1) := by decide +kernel
theorem dX5_canStand_75 : decode cX5_canStand 75 = .ok (.iload_n 3, 1) := by decide +kernel
theorem dX5_canStand_76 : decode cX5_canStand 76 = .ok (.aload_n 0, 1) := by decide +kernel
theorem dX5_canStand_77 : decode cX5_canStand 77 = .ok (.invokevirtual 27, 3) := by decide +kernel
theorem dX5_canStand_80 : decode cX5_canStand 80 = .ok (.if_icmp .gt 29, 3) := by decide +kernel
theorem dX5_canStand_83 : decode cX5_canStand 83 = .ok (.aload_n 0, 1) := by decide +kernel
theorem dX5_canStand_84 : decode cX5_canStand 84 = .ok (.iload_n 1, 1) := by decide +kernel
theorem dX5_canStand_85 : decode cX5_canStand 85 = .ok (.invokevirtual 19, 3) := by decide +kernel
theorem dX5_canStand_88 : decode cX5_canStand 88 = .ok (.bipush 104, 2) := by decide +kernel
theorem dX5_canStand_90 : decode cX5_canStand 90 = .ok (.if_icmp .eq 13, 3) := by decide +kernel
theorem dX5_canStand_93 : decode cX5_canStand 93 = .ok (.aload_n 0, 1) := by decide +kernel
theorem dX5_canStand_94 : decode cX5_canStand 94 = .ok (.iload_n 1, 1) := by decide +kernel
theorem dX5_canStand_95 : decode cX5_canStand 95 = .ok (.invokevirtual 19, 3) := by decide +kernel
theorem dX5_canStand_98 : decode cX5_canStand 98 = .ok (.bipush 116, 2) := by decide +kernel
theorem dX5_canStand_100 : decode cX5_canStand 100 = .ok (.if_icmp .ne 7, 3) := by decide +kernel
theorem dX5_canStand_103 : decode cX5_canStand 103 = .ok (.iconst 1, 1) := by decide +kernel
theorem dX5_canStand_104 : decode cX5_canStand 104 = .ok (.goto 4, 3) := by decide +kernel
theorem dX5_canStand_107 : decode cX5_canStand 107 = .ok (.iconst 0, 1) := by decide +kernel
theorem dX5_canStand_108 : decode cX5_canStand 108 = .ok (.ireturn, 1) := by decide +kernel
theorem dX5_canStand_109 : decode cX5_canStand 109 = .ok (.aload_n 0, 1) := by decide +kernel
theorem dX5_canStand_110 : decode cX5_canStand 110 = .ok (.iload_n 1, 1) := by decide +kernel
theorem dX5_canStand_111 : decode cX5_canStand 111 = .ok (.invokevirtual 19, 3) := by decide +kernel
theorem dX5_canStand_114 : decode cX5_canStand 114 = .ok (.bipush 44, 2) := by decide +kernel
theorem dX5_canStand_116 : decode cX5_canStand 116 = .ok (.if_icmp .ne 14, 3) := by decide +kernel
theorem dX5_canStand_119 : decode cX5_canStand 119 = .ok (.iload_n 2, 1) := by decide +kernel
theorem dX5_canStand_120 : decode cX5_canStand 120 = .ok (.iconst 1, 1) := by decide +kernel
theorem dX5_canStand_121 : decode cX5_canStand 121 = .ok (.iadd, 1) := by decide +kernel
theorem dX5_canStand_122 : decode cX5_canStand 122 = .ok (.iconst 4, 1) := by decide +kernel
theorem dX5_canStand_123 : decode cX5_canStand 123 = .ok (.if_icmp .ge 7, 3) := by decide +kernel
theorem dX5_canStand_126 : decode cX5_canStand 126 = .ok (.iconst 1, 1) := by decide +kernel
theorem dX5_canStand_127 : decode cX5_canStand 127 = .ok (.goto 4, 3) := by decide +kernel
theorem dX5_canStand_130 : decode cX5_canStand 130 = .ok (.iconst 0, 1) := by decide +kernel
theorem dX5_canStand_131 : decode cX5_canStand 131 = .ok (.ireturn, 1) := by decide +kernel
theorem dX6_init_0 : decode cX6_init 0 = .ok (.aload_n 0, 1) := by decide +kernel
theorem dX6_init_1 : decode cX6_init 1 = .ok (.invokespecial 1, 3) := by decide +kernel
theorem dX6_init_4 : decode cX6_init 4 = .ok (.return_, 1) := by decide +kernel
theorem dX6_rowsHitWith_0 : decode cX6_rowsHitWith 0 = .ok (.iconst 1, 1) := by decide +kernel
theorem dX6_rowsHitWith_1 : decode cX6_rowsHitWith 1 = .ok (.iload_n 1, 1) := by decide +kernel
theorem dX6_rowsHitWith_2 : decode cX6_rowsHitWith 2 = .ok (.ishl, 1) := by decide +kernel
theorem dX6_rowsHitWith_3 : decode cX6_rowsHitWith 3 = .ok (.ireturn, 1) := by decide +kernel
theorem dX7_init_0 : decode cX7_init 0 = .ok (.aload_n 0, 1) := by decide +kernel
theorem dX7_init_1 : decode cX7_init 1 = .ok (.invokespecial 3, 3) := by decide +kernel
theorem dX7_init_4 : decode cX7_init 4 = .ok (.aload_n 0, 1) := by decide +kernel
theorem dX7_init_5 : decode cX7_init 5 = .ok (.bipush 6, 2) := by decide +kernel
theorem dX7_init_7 : decode cX7_init 7 = .ok (.newarray .int, 2) := by decide +kernel
theorem dX7_init_9 : decode cX7_init 9 = .ok (.putfield 11, 3) := by decide +kernel
theorem dX7_init_12 : decode cX7_init 12 = .ok (.aload_n 0, 1) := by decide +kernel
theorem dX7_init_13 : decode cX7_init 13 = .ok (.bipush 6, 2) := by decide +kernel
theorem dX7_init_15 : decode cX7_init 15 = .ok (.bipush 7, 2) := by decide +kernel
theorem dX7_init_17 : decode cX7_init 17 = .ok (.multianewarray 15 2, 4) := by decide +kernel
theorem dX7_init_21 : decode cX7_init 21 = .ok (.putfield 17, 3) := by decide +kernel
theorem dX7_init_24 : decode cX7_init 24 = .ok (.return_, 1) := by decide +kernel
theorem dX7_waitFor_0 : decode cX7_waitFor 0 = .ok (.aload_n 0, 1) := by decide +kernel
theorem dX7_waitFor_1 : decode cX7_waitFor 1 = .ok (.iload_n 1, 1) := by decide +kernel
theorem dX7_waitFor_2 : decode cX7_waitFor 2 = .ok (.iload_n 2, 1) := by decide +kernel
theorem dX7_waitFor_3 : decode cX7_waitFor 3 = .ok (.invokevirtual 20, 3) := by decide +kernel
theorem dX7_waitFor_6 : decode cX7_waitFor 6 = .ok (.lstore_n 3, 1) := by decide +kernel
theorem dX7_waitFor_7 : decode cX7_waitFor 7 = .ok (.aload_n 0, 1) := by decide +kernel
theorem dX7_waitFor_8 : decode cX7_waitFor 8 = .ok (.iload_n 1, 1) := by decide +kernel
theorem dX7_waitFor_9 : decode cX7_waitFor 9 = .ok (.invokevirtual 24, 3) := by decide +kernel
theorem dX7_waitFor_12 : decode cX7_waitFor 12 = .ok (.lstore 5, 2) := by decide +kernel
theorem dX7_waitFor_14 : decode cX7_waitFor 14 = .ok (.lload 5, 2) := by decide +kernel
theorem dX7_waitFor_16 : decode cX7_waitFor 16 = .ok (.lconst 0, 1) := by decide +kernel
theorem dX7_waitFor_17 : decode cX7_waitFor 17 = .ok (.lcmp, 1) := by decide +kernel
theorem dX7_waitFor_18 : decode cX7_waitFor 18 = .ok (.ifCond .ne 7, 3) := by decide +kernel
theorem dX7_waitFor_21 : decode cX7_waitFor 21 = .ok (.iconst 0, 1) := by decide +kernel
theorem dX7_waitFor_22 : decode cX7_waitFor 22 = .ok (.goto 12, 3) := by decide +kernel
theorem dX7_waitFor_25 : decode cX7_waitFor 25 = .ok (.ldc2_w 28, 3) := by decide +kernel
theorem dX7_waitFor_28 : decode cX7_waitFor 28 = .ok (.lload_n 3, 1) := by decide +kernel
theorem dX7_waitFor_29 : decode cX7_waitFor 29 = .ok (.lmul, 1) := by decide +kernel
theorem dX7_waitFor_30 : decode cX7_waitFor 30 = .ok (.lload 5, 2) := by decide +kernel
theorem dX7_waitFor_32 : decode cX7_waitFor 32 = .ok (.ldiv, 1) := by decide +kernel
theorem dX7_waitFor_33 : decode cX7_waitFor 33 = .ok (.l2i, 1) := by decide +kernel
theorem dX7_waitFor_34 : decode cX7_waitFor 34 = .ok (.ireturn, 1) := by decide +kernel
theorem dX7_chance_0 : decode cX7_chance 0 = .ok (.aload_n 0, 1) := by decide +kernel
theorem dX7_chance_1 : decode cX7_chance 1 = .ok (.iload_n 1, 1) := by decide +kernel
theorem dX7_chance_2 : decode cX7_chance 2 = .ok (.iload_n 2, 1) := by decide +kernel
theorem dX7_chance_3 : decode cX7_chance 3 = .ok (.ior, 1) := by decide +kernel
theorem dX7_chance_4 : decode cX7_chance 4 = .ok (.iload_n 3, 1) := by decide +kernel
theorem dX7_chance_5 : decode cX7_chance 5 = .ok (.invokevirtual 20, 3) := by decide +kernel
theorem dX7_chance_8 : decode cX7_chance 8 = .ok (.pop2, 1) := by decide +kernel
theorem dX7_chance_9 : decode cX7_chance 9 = .ok (.aload_n 0, 1) := by decide +kernel
theorem dX7_chance_10 : decode cX7_chance 10 = .ok (.iload_n 1, 1) := by decide +kernel
theorem dX7_chance_11 : decode cX7_chance 11 = .ok (.iload_n 2, 1) := by decide +kernel
theorem dX7_chance_12 : decode cX7_chance 12 = .ok (.ior, 1) := by decide +kernel
theorem dX7_chance_13 : decode cX7_chance 13 = .ok (.invokevirtual 24, 3) := by decide +kernel
theorem dX7_chance_16 : decode cX7_chance 16 = .ok (.lstore 4, 2) := by decide +kernel
theorem dX7_chance_18 : decode cX7_chance 18 = .ok (.lload 4, 2) := by decide +kernel
theorem dX7_chance_20 : decode cX7_chance 20 = .ok (.lconst 0, 1) := by decide +kernel
theorem dX7_chance_21 : decode cX7_chance 21 = .ok (.lcmp, 1) := by decide +kernel
theorem dX7_chance_22 : decode cX7_chance 22 = .ok (.ifCond .ne 7, 3) := by decide +kernel
theorem dX7_chance_25 : decode cX7_chance 25 = .ok (.iconst 0, 1) := by decide +kernel
theorem dX7_chance_26 : decode cX7_chance 26 = .ok (.goto 16, 3) := by decide +kernel
theorem dX7_chance_29 : decode cX7_chance 29 = .ok (.ldc2_w 30, 3) := by decide +kernel
theorem dX7_chance_32 : decode cX7_chance 32 = .ok (.aload_n 0, 1) := by decide +kernel
theorem dX7_chance_33 : decode cX7_chance 33 = .ok (.iload_n 1, 1) := by decide +kernel
theorem dX7_chance_34 : decode cX7_chance 34 = .ok (.invokevirtual 24, 3) := by decide +kernel
theorem dX7_chance_37 : decode cX7_chance 37 = .ok (.lmul, 1) := by decide +kernel
theorem dX7_chance_38 : decode cX7_chance 38 = .ok (.lload 4, 2) := by decide +kernel
theorem dX7_chance_40 : decode cX7_chance 40 = .ok (.ldiv, 1) := by decide +kernel
theorem dX7_chance_41 : decode cX7_chance 41 = .ok (.l2i, 1) := by decide +kernel
theorem dX7_chance_42 : decode cX7_chance 42 = .ok (.ireturn, 1) := by decide +kernel
theorem dX7_run_0 : decode cX7_run 0 = .ok (.aload_n 0, 1) := by decide +kernel
theorem dX7_run_1 : decode cX7_run 1 = .ok (.iload_n 1, 1) := by decide +kernel
theorem dX7_run_2 : decode cX7_run 2 = .ok (.iload_n 2, 1) := by decide +kernel
theorem dX7_run_3 : decode cX7_run 3 = .ok (.invokevirtual 32, 3) := by decide +kernel
theorem dX7_run_6 : decode cX7_run 6 = .ok (.aload_n 0, 1) := by decide +kernel
theorem dX7_run_7 : decode cX7_run 7 = .ok (.iload_n 2, 1) := by decide +kernel
theorem dX7_run_8 : decode cX7_run 8 = .ok (.invokevirtual 36, 3) := by decide +kernel
theorem dX7_run_11 : decode cX7_run 11 = .ok (.lconst 1, 1) := by decide +kernel
theorem dX7_run_12 : decode cX7_run 12 = .ok (.lstore_n 3, 1) := by decide +kernel
theorem dX7_run_13 : decode cX7_run 13 = .ok (.iconst 0, 1) := by decide +kernel
theorem dX7_run_14 : decode cX7_run 14 = .ok (.istore 5, 2) := by decide +kernel
theorem dX7_run_16 : decode cX7_run 16 = .ok (.iload 5, 2) := by decide +kernel
theorem dX7_run_18 : decode cX7_run 18 = .ok (.aload_n 0, 1) := by decide +kernel
theorem dX7_run_19 : decode cX7_run 19 = .ok (.getfield 40, 3) := by decide +kernel
theorem dX7_run_22 : decode cX7_run 22 = .ok (.if_icmp .ge 85, 3) := by decide +kernel
theorem dX7_run_25 : decode cX7_run 25 = .ok (.aload_n 0, 1) := by decide +kernel
theorem dX7_run_26 : decode cX7_run 26 = .ok (.getfield 17, 3) := by decide +kernel
theorem dX7_run_29 : decode cX7_run 29 = .ok (.iload 5, 2) := by decide +kernel
theorem dX7_run_31 : decode cX7_run 31 = .ok (.aaload, 1) := by decide +kernel
theorem dX7_run_32 : decode cX7_run 32 = .ok (.iload 5, 2) := by decide +kernel
theorem dX7_run_34 : decode cX7_run 34 = .ok (.laload, 1) := by decide +kernel
theorem dX7_run_35 : decode cX7_run 35 = .ok (.lstore 6, 2) := by decide +kernel
theorem dX7_run_37 : decode cX7_run 37 = .ok (.lload_n 3, 1) := by decide +kernel
theorem dX7_run_38 : decode cX7_run 38 = .ok (.lconst 0, 1) := by decide +kernel
theorem dX7_run_39 : decode cX7_run 39 = .ok (.lcmp, 1) := by decide +kernel
theorem dX7_run_40 : decode cX7_run 40 = .ok (.ifCond .eq 10, 3) := by decide +kernel
theorem dX7_run_43 : decode cX7_run 43 = .ok (.lload 6, 2) := by decide +kernel
theorem dX7_run_45 : decode cX7_run 45 = .ok (.lconst 0, 1) := by decide +kernel
theorem dX7_run_46 : decode cX7_run 46 = .ok (.lcmp, 1) := by decide +kernel
theorem dX7_run_47 : decode cX7_run 47 = .ok (.ifCond .ne 5, 3) := by decide +kernel
theorem dX7_run_50 : decode cX7_run 50 = .ok (.lconst 0, 1) := by decide +kernel
theorem dX7_run_51 : decode cX7_run 51 = .ok (.lreturn, 1) := by decide +kernel
theorem dX7_run_52 : decode cX7_run 52 = .ok (.iconst 0, 1) := by decide +kernel
theorem dX7_run_53 : decode cX7_run 53 = .ok (.istore 8, 2) := by decide +kernel
theorem dX7_run_55 : decode cX7_run 55 = .ok (.iload 8, 2) := by decide +kernel
theorem dX7_run_57 : decode cX7_run 57 = .ok (.aload_n 0, 1) := by decide +kernel
theorem dX7_run_58 : decode cX7_run 58 = .ok (.getfield 40, 3) := by decide +kernel
theorem dX7_run_61 : decode cX7_run 61 = .ok (.if_icmp .ge 37, 3) := by decide +kernel
theorem dX7_run_64 : decode cX7_run 64 = .ok (.iload 8, 2) := by decide +kernel
theorem dX7_run_66 : decode cX7_run 66 = .ok (.iload 5, 2) := by decide +kernel
theorem dX7_run_68 : decode cX7_run 68 = .ok (.if_icmp .eq 24, 3) := by decide +kernel
theorem dX7_run_71 : decode cX7_run 71 = .ok (.aload_n 0, 1) := by decide +kernel
theorem dX7_run_72 : decode cX7_run 72 = .ok (.aload_n 0, 1) := by decide +kernel
theorem dX7_run_73 : decode cX7_run 73 = .ok (.getfield 17, 3) := by decide +kernel
theorem dX7_run_76 : decode cX7_run 76 = .ok (.iload 8, 2) := by decide +kernel
theorem dX7_run_78 : decode cX7_run 78 = .ok (.aaload, 1) := by decide +kernel
theorem dX7_run_79 : decode cX7_run 79 = .ok (.aload_n 0, 1) := by decide +kernel
theorem dX7_run_80 : decode cX7_run 80 = .ok (.getfield 17, 3) := by decide +kernel
theorem dX7_run_83 : decode cX7_run 83 = .ok (.iload 5, 2) := by decide +kernel
theorem dX7_run_85 : decode cX7_run 85 = .ok (.aaload, 1) := by decide +kernel
theorem dX7_run_86 : decode cX7_run 86 = .ok (.iload 5, 2) := by decide +kernel
theorem dX7_run_88 : decode cX7_run 88 = .ok (.lload_n 3, 1) := by decide +kernel
theorem dX7_run_89 : decode cX7_run 89 = .ok (.invokevirtual 44, 3) := by decide +kernel
theorem dX7_run_92 : decode cX7_run 92 = .ok (.iinc 8 1, 3) := by decide +kernel
theorem dX7_run_95 : decode cX7_run 95 = .ok (.goto (-40), 3) := by decide +kernel
theorem dX7_run_98 : decode cX7_run 98 = .ok (.lload 6, 2) := by decide +kernel
theorem dX7_run_100 : decode cX7_run 100 = .ok (.lstore_n 3, 1) := by decide +kernel
theorem dX7_run_101 : decode cX7_run 101 = .ok (.iinc 5 1, 3) := by decide +kernel
theorem dX7_run_104 : decode cX7_run 104 = .ok (.goto (-88), 3) := by decide +kernel
theorem dX7_run_107 : decode cX7_run 107 = .ok (.lload_n 3, 1) := by decide +kernel
theorem dX7_run_108 : decode cX7_run 108 = .ok (.lreturn, 1) := by decide +kernel
theorem dX7_eliminate_0 : decode cX7_eliminate 0 = .ok (.aload_n 2, 1) := by decide +kernel
theorem dX7_eliminate_1 : decode cX7_eliminate 1 = .ok (.iload_n 3, 1) := by decide +kernel
theorem dX7_eliminate_2 : decode cX7_eliminate 2 = .ok (.laload, 1) := by decide +kernel
theorem dX7_eliminate_3 : decode cX7_eliminate 3 = .ok (.lstore 6, 2) := by decide +kernel
theorem dX7_eliminate_5 : decode cX7_eliminate 5 = .ok (.aload_n 1, 1) := by decide +kernel
theorem dX7_eliminate_6 : decode cX7_eliminate 6 = .ok (.iload_n 3, 1) := by decide +kernel
theorem dX7_eliminate_7 : decode cX7_eliminate 7 = .ok (.laload, 1) := by decide +kernel
theorem dX7_eliminate_8 : decode cX7_eliminate 8 = .ok (.lstore 8, 2) := by decide +kernel
theorem dX7_eliminate_10 : decode cX7_eliminate 10 = .ok (.iconst 0, 1) := by decide +kernel
theorem dX7_eliminate_11 : decode cX7_eliminate 11 = .ok (.istore 10, 2) := by decide +kernel
theorem dX7_eliminate_13 : decode cX7_eliminate 13 = .ok (.iload 10, 2) := by decide +kernel
theorem dX7_eliminate_15 : decode cX7_eliminate 15 = .ok (.aload_n 0, 1) := by decide +kernel
theorem dX7_eliminate_16 : decode cX7_eliminate 16 = .ok (.getfield 40, 3) := by decide +kernel
theorem dX7_eliminate_19 : decode cX7_eliminate 19 = .ok (.if_icmp .gt 38, 3) := by decide +kernel
theorem dX7_eliminate_22 : decode cX7_eliminate 22 = .ok (.lload 4, 2) := by decide +kernel
theorem dX7_eliminate_24 : decode cX7_eliminate 24 = .ok (.lconst 0, 1) := by decide +kernel
theorem dX7_eliminate_25 : decode cX7_eliminate 25 = .ok (.lcmp, 1) := by decide +kernel
theorem dX7_eliminate_26 : decode cX7_eliminate 26 = .ok (.ifCond .eq 31, 3) := by decide +kernel
theorem dX7_eliminate_29 : decode cX7_eliminate 29 = .ok (.aload_n 1, 1) := by decide +kernel
theorem dX7_eliminate_30 : decode cX7_eliminate 30 = .ok (.iload 10, 2) := by decide +kernel
theorem dX7_eliminate_32 : decode cX7_eliminate 32 = .ok (.lload 6, 2) := by decide +kernel
theorem dX7_eliminate_34 : decode cX7_eliminate 34 = .ok (.aload_n 1, 1) := by decide +kernel
theorem dX7_eliminate_35 : decode cX7_eliminate 35 = .ok (.iload 10, 2) := by decide +kernel
theorem dX7_eliminate_37 : decode cX7_eliminate 37 = .ok (.laload, 1) := by decide +kernel
theorem dX7_eliminate_38 : decode cX7_eliminate 38 = .ok (.lmul, 1) := by decide +kernel
theorem dX7_eliminate_39 : decode cX7_eliminate 39 = .ok (.lload 8, 2) := by decide +kernel
theorem dX7_eliminate_41 : decode cX7_eliminate 41 = .ok (.aload_n 2, 1) := by decide +kernel
theorem dX7_eliminate_42 : decode cX7_eliminate 42 = .ok (.iload 10, 2) := by decide +kernel
theorem dX7_eliminate_44 : decode cX7_eliminate 44 = .ok (.laload, 1) := by decide +kernel
theorem dX7_eliminate_45 : decode cX7_eliminate 45 = .ok (.lmul, 1) := by decide +kernel
theorem dX7_eliminate_46 : decode cX7_eliminate 46 = .ok (.lsub, 1) := by decide +kernel
theorem dX7_eliminate_47 : decode cX7_eliminate 47 = .ok (.lload 4, 2) := by decide +kernel
theorem dX7_eliminate_49 : decode cX7_eliminate 49 = .ok (.ldiv, 1) := by decide +kernel
theorem dX7_eliminate_50 : decode cX7_eliminate 50 = .ok (.lastore, 1) := by decide +kernel
theorem dX7_eliminate_51 : decode cX7_eliminate 51 = .ok (.iinc 10 1, 3) := by decide +kernel
theorem dX7_eliminate_54 : decode cX7_eliminate 54 = .ok (.goto (-41), 3) := by decide +kernel
theorem dX7_eliminate_57 : decode cX7_eliminate 57 = .ok (.return_, 1) := by decide +kernel
theorem dX7_setRows_0 : decode cX7_setRows 0 = .ok (.aload_n 0, 1) := by decide +kernel
theorem dX7_setRows_1 : decode cX7_setRows 1 = .ok (.iconst 0, 1) := by decide +kernel
theorem dX7_setRows_2 : decode cX7_setRows 2 = .ok (.putfield 40, 3) := by decide +kernel
theorem dX7_setRows_5 : decode cX7_setRows 5 = .ok (.iconst 0, 1) := by decide +kernel
theorem dX7_setRows_6 : decode cX7_setRows 6 = .ok (.istore_n 3, 1) := by decide +kernel
theorem dX7_setRows_7 : decode cX7_setRows 7 = .ok (.iload_n 3, 1) := by decide +kernel
theorem dX7_setRows_8 : decode cX7_setRows 8 = .ok (.iconst 1, 1) := by decide +kernel
theorem dX7_setRows_9 : decode cX7_setRows 9 = .ok (.iload_n 2, 1) := by decide +kernel
theorem dX7_setRows_10 : decode cX7_setRows 10 = .ok (.ishl, 1) := by decide +kernel
theorem dX7_setRows_11 : decode cX7_setRows 11 = .ok (.if_icmp .ge 46, 3) := by decide +kernel
theorem dX7_setRows_14 : decode cX7_setRows 14 = .ok (.aload_n 0, 1) := by decide +kernel
theorem dX7_setRows_15 : decode cX7_setRows 15 = .ok (.getfield 40, 3) := by decide +kernel
theorem dX7_setRows_18 : decode cX7_setRows 18 = .ok (.bipush 6, 2) := by decide +kernel
theorem dX7_setRows_20 : decode cX7_setRows 20 = .ok (.if_icmp .ge 37, 3) := by decide +kernel
theorem dX7_setRows_23 : decode cX7_setRows 23 = .ok (.iload_n 1, 1) := by decide +kernel
theorem dX7_setRows_24 : decode cX7_setRows 24 = .ok (.iload_n 3, 1) := by decide +kernel
theorem dX7_setRows_25 : decode cX7_setRows 25 = .ok (.invokestatic 48, 3) := by decide +kernel
theorem dX7_setRows_28 : decode cX7_setRows 28 = .ok (.ifCond .eq 23, 3) := by decide +kernel
theorem dX7_setRows_31 : decode cX7_setRows 31 = .ok (.aload_n 0, 1) := by decide +kernel
theorem dX7_setRows_32 : decode cX7_setRows 32 = .ok (.getfield 11, 3) := by decide +kernel
theorem dX7_setRows_35 : decode cX7_setRows 35 = .ok (.aload_n 0, 1) := by decide +kernel
theorem dX7_setRows_36 : decode cX7_setRows 36 = .ok (.getfield 40, 3) := by decide +kernel
theorem dX7_setRows_39 : decode cX7_setRows 39 = .ok (.iload_n 3, 1) := by decide +kernel
theorem dX7_setRows_40 : decode cX7_setRows 40 = .ok (.iastore, 1) := by decide +kernel
theorem dX7_setRows_41 : decode cX7_setRows 41 = .ok (.aload_n 0, 1) := by decide +kernel
theorem dX7_setRows_42 : decode cX7_setRows 42 = .ok (.dup, 1) := by decide +kernel
theorem dX7_setRows_43 : decode cX7_setRows 43 = .ok (.getfield 40, 3) := by decide +kernel
theorem dX7_setRows_46 : decode cX7_setRows 46 = .ok (.iconst 1, 1) := by decide +kernel
theorem dX7_setRows_47 : decode cX7_setRows 47 = .ok (.iadd, 1) := by decide +kernel
theorem dX7_setRows_48 : decode cX7_setRows 48 = .ok (.putfield 40, 3) := by decide +kernel
theorem dX7_setRows_51 : decode cX7_setRows 51 = .ok (.iinc 3 1, 3) := by decide +kernel
theorem dX7_setRows_54 : decode cX7_setRows 54 = .ok (.goto (-47), 3) := by decide +kernel
theorem dX7_setRows_57 : decode cX7_setRows 57 = .ok (.return_, 1) := by decide +kernel
theorem dX7_setSums_0 : decode cX7_setSums 0 = .ok (.iconst 0, 1) := by decide +kernel
theorem dX7_setSums_1 : decode cX7_setSums 1 = .ok (.istore_n 2, 1) := by decide +kernel
theorem dX7_setSums_2 : decode cX7_setSums 2 = .ok (.iload_n 2, 1) := by decide +kernel
theorem dX7_setSums_3 : decode cX7_setSums 3 = .ok (.aload_n 0, 1) := by decide +kernel
theorem dX7_setSums_4 : decode cX7_setSums 4 = .ok (.getfield 40, 3) := by decide +kernel
theorem dX7_setSums_7 : decode cX7_setSums 7 = .ok (.if_icmp .ge 62, 3) := by decide +kernel
theorem dX7_setSums_10 : decode cX7_setSums 10 = .ok (.iconst 0, 1) := by decide +kernel
theorem dX7_setSums_11 : decode cX7_setSums 11 = .ok (.istore_n 3, 1) := by decide +kernel
theorem dX7_setSums_12 : decode cX7_setSums 12 = .ok (.iload_n 3, 1) := by decide +kernel
theorem dX7_setSums_13 : decode cX7_setSums 13 = .ok (.aload_n 0, 1) := by decide +kernel
theorem dX7_setSums_14 : decode cX7_setSums 14 = .ok (.getfield 40, 3) := by decide +kernel
theorem dX7_setSums_17 : decode cX7_setSums 17 = .ok (.if_icmp .ge 34, 3) := by decide +kernel
theorem dX7_setSums_20 : decode cX7_setSums 20 = .ok (.aload_n 0, 1) := by decide +kernel
theorem dX7_setSums_21 : decode cX7_setSums 21 = .ok (.getfield 17, 3) := by decide +kernel
theorem dX7_setSums_24 : decode cX7_setSums 24 = .ok (.iload_n 2, 1) := by decide +kernel
theorem dX7_setSums_25 : decode cX7_setSums 25 = .ok (.aaload, 1) := by decide +kernel
theorem dX7_setSums_26 : decode cX7_setSums 26 = .ok (.iload_n 3, 1) := by decide +kernel
theorem dX7_setSums_27 : decode cX7_setSums 27 = .ok (.aload_n 0, 1) := by decide +kernel
theorem dX7_setSums_28 : decode cX7_setSums 28 = .ok (.getfield 11, 3) := by decide +kernel
theorem dX7_setSums_31 : decode cX7_setSums 31 = .ok (.iload_n 3, 1) := by decide +kernel
theorem dX7_setSums_32 : decode cX7_setSums 32 = .ok (.iaload, 1) := by decide +kernel
theorem dX7_setSums_33 : decode cX7_setSums 33 = .ok (.aload_n 0, 1) := by decide +kernel
theorem dX7_setSums_34 : decode cX7_setSums 34 = .ok (.getfield 11, 3) := by decide +kernel
theorem dX7_setSums_37 : decode cX7_setSums 37 = .ok (.iload_n 2, 1) := by decide +kernel
theorem dX7_setSums_38 : decode cX7_setSums 38 = .ok (.iaload, 1) := by decide +kernel
theorem dX7_setSums_39 : decode cX7_setSums 39 = .ok (.iload_n 1, 1) := by decide +kernel
theorem dX7_setSums_40 : decode cX7_setSums 40 = .ok (.invokestatic 52, 3) := by decide +kernel
theorem dX7_setSums_43 : decode cX7_setSums 43 = .ok (.i2l, 1) := by decide +kernel
theorem dX7_setSums_44 : decode cX7_setSums 44 = .ok (.lastore, 1) := by decide +kernel
theorem dX7_setSums_45 : decode cX7_setSums 45 = .ok (.iinc 3 1, 3) := by decide +kernel
theorem dX7_setSums_48 : decode cX7_setSums 48 = .ok (.goto (-36), 3) := by decide +kernel
theorem dX7_setSums_51 : decode cX7_setSums 51 = .ok (.aload_n 0, 1) := by decide +kernel
theorem dX7_setSums_52 : decode cX7_setSums 52 = .ok (.getfield 17, 3) := by decide +kernel
theorem dX7_setSums_55 : decode cX7_setSums 55 = .ok (.iload_n 2, 1) := by decide +kernel
theorem dX7_setSums_56 : decode cX7_setSums 56 = .ok (.aaload, 1) := by decide +kernel
theorem dX7_setSums_57 : decode cX7_setSums 57 = .ok (.aload_n 0, 1) := by decide +kernel
theorem dX7_setSums_58 : decode cX7_setSums 58 = .ok (.getfield 40, 3) := by decide +kernel
theorem dX7_setSums_61 : decode cX7_setSums 61 = .ok (.lconst 1, 1) := by decide +kernel
theorem dX7_setSums_62 : decode cX7_setSums 62 = .ok (.lastore, 1) := by decide +kernel
theorem dX7_setSums_63 : decode cX7_setSums 63 = .ok (.iinc 2 1, 3) := by decide +kernel
theorem dX7_setSums_66 : decode cX7_setSums 66 = .ok (.goto (-64), 3) := by decide +kernel
theorem dX7_setSums_69 : decode cX7_setSums 69 = .ok (.return_, 1) := by decide +kernel
theorem dX7_overlap_0 : decode cX7_overlap 0 = .ok (.iconst 0, 1) := by decide +kernel
theorem dX7_overlap_1 : decode cX7_overlap 1 = .ok (.istore_n 3, 1) := by decide +kernel
theorem dX7_overlap_2 : decode cX7_overlap 2 = .ok (.iconst 1, 1) := by decide +kernel
theorem dX7_overlap_3 : decode cX7_overlap 3 = .ok (.istore 4, 2) := by decide +kernel
theorem dX7_overlap_5 : decode cX7_overlap 5 = .ok (.iload 4, 2) := by decide +kernel
theorem dX7_overlap_7 : decode cX7_overlap 7 = .ok (.iload_n 2, 1) := by decide +kernel
theorem dX7_overlap_8 : decode cX7_overlap 8 = .ok (.if_icmp .gt 41, 3) := by decide +kernel
theorem dX7_overlap_11 : decode cX7_overlap 11 = .ok (.iload_n 0, 1) := by decide +kernel
theorem dX7_overlap_12 : decode cX7_overlap 12 = .ok (.iconst 1, 1) := by decide +kernel
theorem dX7_overlap_13 : decode cX7_overlap 13 = .ok (.iload 4, 2) := by decide +kernel
theorem dX7_overlap_15 : decode cX7_overlap 15 = .ok (.ishl, 1) := by decide +kernel
theorem dX7_overlap_16 : decode cX7_overlap 16 = .ok (.iconst 1, 1) := by decide +kernel
theorem dX7_overlap_17 : decode cX7_overlap 17 = .ok (.isub, 1) := by decide +kernel
theorem dX7_overlap_18 : decode cX7_overlap 18 = .ok (.iand, 1) := by decide +kernel
theorem dX7_overlap_19 : decode cX7_overlap 19 = .ok (.istore 5, 2) := by decide +kernel
theorem dX7_overlap_21 : decode cX7_overlap 21 = .ok (.iload_n 1, 1) := by decide +kernel
theorem dX7_overlap_22 : decode cX7_overlap 22 = .ok (.iload_n 2, 1) := by decide +kernel
theorem dX7_overlap_23 : decode cX7_overlap 23 = .ok (.iload 4, 2) := by decide +kernel
theorem dX7_overlap_25 : decode cX7_overlap 25 = .ok (.isub, 1) := by decide +kernel
theorem dX7_overlap_26 : decode cX7_overlap 26 = .ok (.ishr, 1) := by decide +kernel
theorem dX7_overlap_27 : decode cX7_overlap 27 = .ok (.istore 6, 2) := by decide +kernel
theorem dX7_overlap_29 : decode cX7_overlap 29 = .ok (.iload 5, 2) := by decide +kernel
theorem dX7_overlap_31 : decode cX7_overlap 31 = .ok (.iload 6, 2) := by decide +kernel
theorem dX7_overlap_33 : decode cX7_overlap 33 = .ok (.if_icmp .ne 10, 3) := by decide +kernel
theorem dX7_overlap_36 : decode cX7_overlap 36 = .ok (.iload_n 3, 1) := by decide +kernel
theorem dX7_overlap_37 : decode cX7_overlap 37 = .ok (.iconst 1, 1) := by decide +kernel
theorem dX7_overlap_38 : decode cX7_overlap 38 = .ok (.iload 4, 2) := by decide +kernel
theorem dX7_overlap_40 : decode cX7_overlap 40 = .ok (.ishl, 1) := by decide +kernel
theorem dX7_overlap_41 : decode cX7_overlap 41 = .ok (.iadd, 1) := by decide +kernel
theorem dX7_overlap_42 : decode cX7_overlap 42 = .ok (.istore_n 3, 1) := by decide +kernel
theorem dX7_overlap_43 : decode cX7_overlap 43 = .ok (.iinc 4 1, 3) := by decide +kernel
theorem dX7_overlap_46 : decode cX7_overlap 46 = .ok (.goto (-41), 3) := by decide +kernel
theorem dX7_overlap_49 : decode cX7_overlap 49 = .ok (.iload_n 3, 1) := by decide +kernel
theorem dX7_overlap_50 : decode cX7_overlap 50 = .ok (.ireturn, 1) := by decide +kernel
theorem dX7_sharesOf_0 : decode cX7_sharesOf 0 = .ok (.lconst 0, 1) := by decide +kernel
theorem dX7_sharesOf_1 : decode cX7_sharesOf 1 = .ok (.lstore_n 2, 1) := by decide +kernel
theorem dX7_sharesOf_2 : decode cX7_sharesOf 2 = .ok (.iconst 0, 1) := by decide +kernel
theorem dX7_sharesOf_3 : decode cX7_sharesOf 3 = .ok (.istore 4, 2) := by decide +kernel
theorem dX7_sharesOf_5 : decode cX7_sharesOf 5 = .ok (.iload 4, 2) := by decide +kernel
theorem dX7_sharesOf_7 : decode cX7_sharesOf 7 = .ok (.aload_n 0, 1) := by decide +kernel
theorem dX7_sharesOf_8 : decode cX7_sharesOf 8 = .ok (.getfield 40, 3) := by decide +kernel
theorem dX7_sharesOf_11 : decode cX7_sharesOf 11 = .ok (.if_icmp .ge 38, 3) := by decide +kernel
theorem dX7_sharesOf_14 : decode cX7_sharesOf 14 = .ok (.iload_n 1, 1) := by decide +kernel
theorem dX7_sharesOf_15 : decode cX7_sharesOf 15 = .ok (.aload_n 0, 1) := by decide +kernel
theorem dX7_sharesOf_16 : decode cX7_sharesOf 16 = .ok (.getfield 11, 3) := by decide +kernel
theorem dX7_sharesOf_19 : decode cX7_sharesOf 19 = .ok (.iload 4, 2) := by decide +kernel
theorem dX7_sharesOf_21 : decode cX7_sharesOf 21 = .ok (.iaload, 1) := by decide +kernel
theorem dX7_sharesOf_22 : decode cX7_sharesOf 22 = .ok (.invokestatic 48, 3) := by decide +kernel
theorem dX7_sharesOf_25 : decode cX7_sharesOf 25 = .ok (.ifCond .eq 18, 3) := by decide +kernel
theorem dX7_sharesOf_28 : decode cX7_sharesOf 28 = .ok (.lload_n 2, 1) := by decide +kernel
theorem dX7_sharesOf_29 : decode cX7_sharesOf 29 = .ok (.aload_n 0, 1) := by decide +kernel
theorem dX7_sharesOf_30 : decode cX7_sharesOf 30 = .ok (.getfield 17, 3) := by decide +kernel
theorem dX7_sharesOf_33 : decode cX7_sharesOf 33 = .ok (.iload 4, 2) := by decide +kernel
theorem dX7_sharesOf_35 : decode cX7_sharesOf 35 = .ok (.aaload, 1) := by decide +kernel
theorem dX7_sharesOf_36 : decode cX7_sharesOf 36 = .ok (.aload_n 0, 1) := by decide +kernel
theorem dX7_sharesOf_37 : decode cX7_sharesOf 37 = .ok (.getfield 40, 3) := by decide +kernel
theorem dX7_sharesOf_40 : decode cX7_sharesOf 40 = .ok (.laload, 1) := by decide +kernel
theorem dX7_sharesOf_41 : decode cX7_sharesOf 41 = .ok (.ladd, 1) := by decide +kernel
theorem dX7_sharesOf_42 : decode cX7_sharesOf 42 = .ok (.lstore_n 2, 1) := by decide +kernel
theorem dX7_sharesOf_43 : decode cX7_sharesOf 43 = .ok (.iinc 4 1, 3) := by decide +kernel
theorem dX7_sharesOf_46 : decode cX7_sharesOf 46 = .ok (.goto (-41), 3) := by decide +kernel
theorem dX7_sharesOf_49 : decode cX7_sharesOf 49 = .ok (.lload_n 2, 1) := by decide +kernel
theorem dX7_sharesOf_50 : decode cX7_sharesOf 50 = .ok (.lreturn, 1) := by decide +kernel
theorem dX8_init_0 : decode cX8_init 0 = .ok (.aload_n 0, 1) := by decide +kernel
theorem dX8_init_1 : decode cX8_init 1 = .ok (.invokespecial 3, 3) := by decide +kernel
theorem dX8_init_4 : decode cX8_init 4 = .ok (.aload_n 0, 1) := by decide +kernel
theorem dX8_init_5 : decode cX8_init 5 = .ok (.new 9, 3) := by decide +kernel
theorem dX8_init_8 : decode cX8_init 8 = .ok (.dup, 1) := by decide +kernel
theorem dX8_init_9 : decode cX8_init 9 = .ok (.invokespecial 11, 3) := by decide +kernel
theorem dX8_init_12 : decode cX8_init 12 = .ok (.putfield 12, 3) := by decide +kernel
theorem dX8_init_15 : decode cX8_init 15 = .ok (.aload_n 0, 1) := by decide +kernel
theorem dX8_init_16 : decode cX8_init 16 = .ok (.new 16, 3) := by decide +kernel
theorem dX8_init_19 : decode cX8_init 19 = .ok (.dup, 1) := by decide +kernel
theorem dX8_init_20 : decode cX8_init 20 = .ok (.invokespecial 18, 3) := by decide +kernel
theorem dX8_init_23 : decode cX8_init 23 = .ok (.putfield 19, 3) := by decide +kernel
theorem dX8_init_26 : decode cX8_init 26 = .ok (.aload_n 0, 1) := by decide +kernel
theorem dX8_init_27 : decode cX8_init 27 = .ok (.new 16, 3) := by decide +kernel
theorem dX8_init_30 : decode cX8_init 30 = .ok (.dup, 1) := by decide +kernel
theorem dX8_init_31 : decode cX8_init 31 = .ok (.invokespecial 18, 3) := by decide +kernel
theorem dX8_init_34 : decode cX8_init 34 = .ok (.putfield 23, 3) := by decide +kernel
theorem dX8_init_37 : decode cX8_init 37 = .ok (.aload_n 0, 1) := by decide +kernel
theorem dX8_init_38 : decode cX8_init 38 = .ok (.new 26, 3) := by decide +kernel
theorem dX8_init_41 : decode cX8_init 41 = .ok (.dup, 1) := by decide +kernel
theorem dX8_init_42 : decode cX8_init 42 = .ok (.invokespecial 28, 3) := by decide +kernel
theorem dX8_init_45 : decode cX8_init 45 = .ok (.putfield 29, 3) := by decide +kernel
theorem dX8_init_48 : decode cX8_init 48 = .ok (.aload_n 0, 1) := by decide +kernel
theorem dX8_init_49 : decode cX8_init 49 = .ok (.iconst 5, 1) := by decide +kernel
theorem dX8_init_50 : decode cX8_init 50 = .ok (.anewarray 33, 3) := by decide +kernel
theorem dX8_init_53 : decode cX8_init 53 = .ok (.dup, 1) := by decide +kernel
theorem dX8_init_54 : decode cX8_init 54 = .ok (.iconst 0, 1) := by decide +kernel
theorem dX8_init_55 : decode cX8_init 55 = .ok (.new 33, 3) := by decide +kernel
theorem dX8_init_58 : decode cX8_init 58 = .ok (.dup, 1) := by decide +kernel
theorem dX8_init_59 : decode cX8_init 59 = .ok (.invokespecial 35, 3) := by decide +kernel
theorem dX8_init_62 : decode cX8_init 62 = .ok (.aastore, 1) := by decide +kernel
theorem dX8_init_63 : decode cX8_init 63 = .ok (.dup, 1) := by decide +kernel
theorem dX8_init_64 : decode cX8_init 64 = .ok (.iconst 1, 1) := by decide +kernel
theorem dX8_init_65 : decode cX8_init 65 = .ok (.new 36, 3) := by decide +kernel
theorem dX8_init_68 : decode cX8_init 68 = .ok (.dup, 1) := by decide +kernel
theorem dX8_init_69 : decode cX8_init 69 = .ok (.invokespecial 38, 3) := by decide +kernel
theorem dX8_init_72 : decode cX8_init 72 = .ok (.aastore, 1) := by decide +kernel
theorem dX8_init_73 : decode cX8_init 73 = .ok (.dup, 1) := by decide +kernel
theorem dX8_init_74 : decode cX8_init 74 = .ok (.iconst 2, 1) := by decide +kernel
theorem dX8_init_75 : decode cX8_init 75 = .ok (.new 39, 3) := by decide +kernel
theorem dX8_init_78 : decode cX8_init 78 = .ok (.dup, 1) := by decide +kernel
theorem dX8_init_79 : decode cX8_init 79 = .ok (.invokespecial 41, 3) := by decide +kernel
theorem dX8_init_82 : decode cX8_init 82 = .ok (.aastore, 1) := by decide +kernel
theorem dX8_init_83 : decode cX8_init 83 = .ok (.dup, 1) := by decide +kernel
theorem dX8_init_84 : decode cX8_init 84 = .ok (.iconst 3, 1) := by decide +kernel
theorem dX8_init_85 : decode cX8_init 85 = .ok (.new 42, 3) := by decide +kernel
theorem dX8_init_88 : decode cX8_init 88 = .ok (.dup, 1) := by decide +kernel
theorem dX8_init_89 : decode cX8_init 89 = .ok (.invokespecial 44, 3) := by decide +kernel
theorem dX8_init_92 : decode cX8_init 92 = .ok (.aastore, 1) := by decide +kernel
theorem dX8_init_93 : decode cX8_init 93 = .ok (.dup, 1) := by decide +kernel
theorem dX8_init_94 : decode cX8_init 94 = .ok (.iconst 4, 1) := by decide +kernel
theorem dX8_init_95 : decode cX8_init 95 = .ok (.new 45, 3) := by decide +kernel
theorem dX8_init_98 : decode cX8_init 98 = .ok (.dup, 1) := by decide +kernel
theorem dX8_init_99 : decode cX8_init 99 = .ok (.invokespecial 47, 3) := by decide +kernel
theorem dX8_init_102 : decode cX8_init 102 = .ok (.aastore, 1) := by decide +kernel
theorem dX8_init_103 : decode cX8_init 103 = .ok (.putfield 48, 3) := by decide +kernel
theorem dX8_init_106 : decode cX8_init 106 = .ok (.aload_n 0, 1) := by decide +kernel
theorem dX8_init_107 : decode cX8_init 107 = .ok (.iconst 4, 1) := by decide +kernel
theorem dX8_init_108 : decode cX8_init 108 = .ok (.newarray .int, 2) := by decide +kernel
theorem dX8_init_110 : decode cX8_init 110 = .ok (.putfield 52, 3) := by decide +kernel
theorem dX8_init_113 : decode cX8_init 113 = .ok (.aload_n 0, 1) := by decide +kernel
theorem dX8_init_114 : decode cX8_init 114 = .ok (.bipush 32, 2) := by decide +kernel
theorem dX8_init_116 : decode cX8_init 116 = .ok (.newarray .int, 2) := by decide +kernel
theorem dX8_init_118 : decode cX8_init 118 = .ok (.putfield 56, 3) := by decide +kernel
theorem dX8_init_121 : decode cX8_init 121 = .ok (.aload_n 0, 1) := by decide +kernel
theorem dX8_init_122 : decode cX8_init 122 = .ok (.bipush 32, 2) := by decide +kernel
theorem dX8_init_124 : decode cX8_init 124 = .ok (.newarray .int, 2) := by decide +kernel
theorem dX8_init_126 : decode cX8_init 126 = .ok (.putfield 59, 3) := by decide +kernel
theorem dX8_init_129 : decode cX8_init 129 = .ok (.return_, 1) := by decide +kernel
theorem dX8_letter_0 : decode cX8_letter 0 = .ok (.iload_n 1, 1) := by decide +kernel
theorem dX8_letter_1 : decode cX8_letter 1 = .ok (.bipush 32, 2) := by decide +kernel
theorem dX8_letter_3 : decode cX8_letter 3 = .ok (.if_icmp .lt 9, 3) := by decide +kernel
theorem dX8_letter_6 : decode cX8_letter 6 = .ok (.iload_n 1, 1) := by decide +kernel
theorem dX8_letter_7 : decode cX8_letter 7 = .ok (.bipush 126, 2) := by decide +kernel
theorem dX8_letter_9 : decode cX8_letter 9 = .ok (.if_icmp .le 6, 3) := by decide +kernel
theorem dX8_letter_12 : decode cX8_letter 12 = .ok (.bipush (-102), 2) := by decide +kernel
theorem dX8_letter_14 : decode cX8_letter 14 = .ok (.ireturn, 1) := by decide +kernel
theorem dX8_letter_15 : decode cX8_letter 15 = .ok (.aload_n 0, 1) := by decide +kernel
theorem dX8_letter_16 : decode cX8_letter 16 = .ok (.getfield 12, 3) := by decide +kernel
theorem dX8_letter_19 : decode cX8_letter 19 = .ok (.invokevirtual 62, 3) := by decide +kernel
theorem dX8_letter_22 : decode cX8_letter 22 = .ok (.ifCond .eq 6, 3) := by decide +kernel
theorem dX8_letter_25 : decode cX8_letter 25 = .ok (.bipush (-104), 2) := by decide +kernel
theorem dX8_letter_27 : decode cX8_letter 27 = .ok (.ireturn, 1) := by decide +kernel
theorem dX8_letter_28 : decode cX8_letter 28 = .ok (.aload_n 0, 1) := by decide +kernel
theorem dX8_letter_29 : decode cX8_letter 29 = .ok (.getfield 12, 3) := by decide +kernel
theorem dX8_letter_32 : decode cX8_letter 32 = .ok (.iload_n 1, 1) := by decide +kernel
theorem dX8_letter_33 : decode cX8_letter 33 = .ok (.i2c, 1) := by decide +kernel
theorem dX8_letter_34 : decode cX8_letter 34 = .ok (.invokevirtual 66, 3) := by decide +kernel
theorem dX8_letter_37 : decode cX8_letter 37 = .ok (.aload_n 0, 1) := by decide +kernel
theorem dX8_letter_38 : decode cX8_letter 38 = .ok (.getfield 12, 3) := by decide +kernel
theorem dX8_letter_41 : decode cX8_letter 41 = .ok (.invokevirtual 70, 3) := by decide +kernel
theorem dX8_letter_44 : decode cX8_letter 44 = .ok (.ireturn, 1) := by decide +kernel
theorem dX8_blank_0 : decode cX8_blank 0 = .ok (.aload_n 0, 1) := by decide +kernel
theorem dX8_blank_1 : decode cX8_blank 1 = .ok (.getfield 12, 3) := by decide +kernel
theorem dX8_blank_4 : decode cX8_blank 4 = .ok (.invokevirtual 70, 3) := by decide +kernel
theorem dX8_blank_7 : decode cX8_blank 7 = .ok (.istore_n 1, 1) := by decide +kernel
theorem dX8_blank_8 : decode cX8_blank 8 = .ok (.aload_n 0, 1) := by decide +kernel
theorem dX8_blank_9 : decode cX8_blank 9 = .ok (.getfield 12, 3) := by decide +kernel
theorem dX8_blank_12 : decode cX8_blank 12 = .ok (.invokevirtual 74, 3) := by decide +kernel
theorem dX8_blank_15 : decode cX8_blank 15 = .ok (.iload_n 1, 1) := by decide +kernel
theorem dX8_blank_16 : decode cX8_blank 16 = .ok (.ireturn, 1) := by decide +kernel
theorem dX8_fault_0 : decode cX8_fault 0 = .ok (.aload_n 0, 1) := by decide +kernel
theorem dX8_fault_1 : decode cX8_fault 1 = .ok (.getfield 12, 3) := by decide +kernel
theorem dX8_fault_4 : decode cX8_fault 4 = .ok (.invokevirtual 77, 3) := by decide +kernel
theorem dX8_fault_7 : decode cX8_fault 7 = .ok (.ireturn, 1) := by decide +kernel
theorem dX8_table_0 : decode cX8_table 0 = .ok (.aload_n 0, 1) := by decide +kernel
theorem dX8_table_1 : decode cX8_table 1 = .ok (.getfield 12, 3) := by decide +kernel
theorem dX8_table_4 : decode cX8_table 4 = .ok (.invokevirtual 80, 3) := by decide +kernel
theorem dX8_table_7 : decode cX8_table 7 = .ok (.istore_n 1, 1) := by decide +kernel
theorem dX8_table_8 : decode cX8_table 8 = .ok (.iload_n 1, 1) := by decide +kernel
theorem dX8_table_9 : decode cX8_table 9 = .ok (.ifCond .ne 6, 3) := by decide +kernel
theorem dX8_table_12 : decode cX8_table 12 = .ok (.bipush (-103), 2) := by decide +kernel
theorem dX8_table_14 : decode cX8_table 14 = .ok (.ireturn, 1) := by decide +kernel
theorem dX8_table_15 : decode cX8_table 15 = .ok (.aload_n 0, 1) := by decide +kernel
theorem dX8_table_16 : decode cX8_table 16 = .ok (.iload_n 1, 1) := by decide +kernel
theorem dX8_table_17 : decode cX8_table 17 = .ok (.putfield 83, 3) := by decide +kernel
theorem dX8_table_20 : decode cX8_table 20 = .ok (.aload_n 0, 1) := by decide +kernel
theorem dX8_table_21 : decode cX8_table 21 = .ok (.aload_n 0, 1) := by decide +kernel
theorem dX8_table_22 : decode cX8_table 22 = .ok (.getfield 12, 3) := by decide +kernel
theorem dX8_table_25 : decode cX8_table 25 = .ok (.invokevirtual 87, 3) := by decide +kernel
theorem dX8_table_28 : decode cX8_table 28 = .ok (.putfield 90, 3) := by decide +kernel
theorem dX8_table_31 : decode cX8_table 31 = .ok (.aload_n 0, 1) := by decide +kernel
theorem dX8_table_32 : decode cX8_table 32 = .ok (.getfield 19, 3) := by decide +kernel
theorem dX8_table_35 : decode cX8_table 35 = .ok (.invokevirtual 92, 3) := by decide +kernel
theorem dX8_table_38 : decode cX8_table 38 = .ok (.iconst 0, 1) := by decide +kernel
theorem dX8_table_39 : decode cX8_table 39 = .ok (.istore_n 2, 1) := by decide +kernel
theorem dX8_table_40 : decode cX8_table 40 = .ok (.iload_n 2, 1) := by decide +kernel
theorem dX8_table_41 : decode cX8_table 41 = .ok (.aload_n 0, 1) := by decide +kernel
theorem dX8_table_42 : decode cX8_table 42 = .ok (.getfield 83, 3) := by decide +kernel
theorem dX8_table_45 : decode cX8_table 45 = .ok (.if_icmp .ge 48, 3) := by decide +kernel
theorem dX8_table_48 : decode cX8_table 48 = .ok (.iload_n 2, 1) := by decide +kernel
theorem dX8_table_49 : decode cX8_table 49 = .ok (.iconst 4, 1) := by decide +kernel
theorem dX8_table_50 : decode cX8_table 50 = .ok (.if_icmp .ge 43, 3) := by decide +kernel
theorem dX8_table_53 : decode cX8_table 53 = .ok (.aload_n 0, 1) := by decide +kernel
theorem dX8_table_54 : decode cX8_table 54 = .ok (.getfield 19, 3) := by decide +kernel
theorem dX8_table_57 : decode cX8_table 57 = .ok (.getfield 93, 3) := by decide +kernel
theorem dX8_table_60 : decode cX8_table 60 = .ok (.iload_n 2, 1) := by decide +kernel
theorem dX8_table_61 : decode cX8_table 61 = .ok (.aload_n 0, 1) := by decide +kernel
theorem dX8_table_62 : decode cX8_table 62 = .ok (.getfield 12, 3) := by decide +kernel
theorem dX8_table_65 : decode cX8_table 65 = .ok (.iload_n 2, 1) := by decide +kernel
theorem dX8_table_66 : decode cX8_table 66 = .ok (.invokevirtual 96, 3) := by decide +kernel
theorem dX8_table_69 : decode cX8_table 69 = .ok (.iastore, 1) := by decide +kernel
theorem dX8_table_70 : decode cX8_table 70 = .ok (.aload_n 0, 1) := by decide +kernel
theorem dX8_table_71 : decode cX8_table 71 = .ok (.getfield 19, 3) := by decide +kernel
theorem dX8_table_74 : decode cX8_table 74 = .ok (.getfield 100, 3) := by decide +kernel
theorem dX8_table_77 : decode cX8_table 77 = .ok (.iload_n 2, 1) := by decide +kernel
theorem dX8_table_78 : decode cX8_table 78 = .ok (.aload_n 0, 1) := by decide +kernel
theorem dX8_table_79 : decode cX8_table 79 = .ok (.getfield 12, 3) := by decide +kernel
theorem dX8_table_82 : decode cX8_table 82 = .ok (.iload_n 2, 1) := by decide +kernel
theorem dX8_table_83 : decode cX8_table 83 = .ok (.invokevirtual 103, 3) := by decide +kernel
theorem dX8_table_86 : decode cX8_table 86 = .ok (.iastore, 1) := by decide +kernel
theorem dX8_table_87 : decode cX8_table 87 = .ok (.iinc 2 1, 3) := by decide +kernel
theorem dX8_table_90 : decode cX8_table 90 = .ok (.goto (-50), 3) := by decide +kernel
theorem dX8_table_93 : decode cX8_table 93 = .ok (.aload_n 0, 1) := by decide +kernel
theorem dX8_table_94 : decode cX8_table 94 = .ok (.getfield 12, 3) := by decide +kernel
theorem dX8_table_97 : decode cX8_table 97 = .ok (.invokevirtual 74, 3) := by decide +kernel
theorem dX8_table_100 : decode cX8_table 100 = .ok (.aload_n 0, 1) := by decide +kernel
theorem dX8_table_101 : decode cX8_table 101 = .ok (.iconst 0, 1) := by decide +kernel
theorem dX8_table_102 : decode cX8_table 102 = .ok (.putfield 106, 3) := by decide +kernel
theorem dX8_table_105 : decode cX8_table 105 = .ok (.aload_n 0, 1) := by decide +kernel
theorem dX8_table_106 : decode cX8_table 106 = .ok (.dup, 1) := by decide +kernel
theorem dX8_table_107 : decode cX8_table 107 = .ok (.getfield 110, 3) := by decide +kernel
theorem dX8_table_110 : decode cX8_table 110 = .ok (.iconst 1, 1) := by decide +kernel
theorem dX8_table_111 : decode cX8_table 111 = .ok (.iadd, 1) := by decide +kernel
theorem dX8_table_112 : decode cX8_table 112 = .ok (.putfield 110, 3) := by decide +kernel
theorem dX8_table_115 : decode cX8_table 115 = .ok (.aload_n 0, 1) := by decide +kernel
theorem dX8_table_116 : decode cX8_table 116 = .ok (.getfield 83, 3) := by decide +kernel
theorem dX8_table_119 : decode cX8_table 119 = .ok (.ireturn, 1) := by decide +kernel
theorem dX8_player_0 : decode cX8_player 0 = .ok (.aload_n 0, 1) := by decide +kernel
theorem dX8_player_1 : decode cX8_player 1 = .ok (.iload_n 1, 1) := by decide +kernel
theorem dX8_player_2 : decode cX8_player 2 = .ok (.invokevirtual 113, 3) := by decide +kernel
theorem dX8_player_5 : decode cX8_player 5 = .ok (.ifCond .ne 6, 3) := by decide +kernel
theorem dX8_player_8 : decode cX8_player 8 = .ok (.bipush (-101), 2) := by decide +kernel
theorem dX8_player_10 : decode cX8_player 10 = .ok (.ireturn, 1) := by decide +kernel
theorem dX8_player_11 : decode cX8_player 11 = .ok (.iload_n 2, 1) := by decide +kernel
theorem dX8_player_12 : decode cX8_player 12 = .ok (.tableswitch 112 0 6 #[44, 54, 64, 74, 91, 100, 106], 44) := by decide +kernel
theorem dX8_player_56 : decode cX8_player 56 = .ok (.aload_n 0, 1) := by decide +kernel
theorem dX8_player_57 : decode cX8_player 57 = .ok (.getfield 19, 3) := by decide +kernel
theorem dX8_player_60 : decode cX8_player 60 = .ok (.getfield 93, 3) := by decide +kernel
theorem dX8_player_63 : decode cX8_player 63 = .ok (.iload_n 1, 1) := by decide +kernel
theorem dX8_player_64 : decode cX8_player 64 = .ok (.iaload, 1) := by decide +kernel
theorem dX8_player_65 : decode cX8_player 65 = .ok (.ireturn, 1) := by decide +kernel
theorem dX8_player_66 : decode cX8_player 66 = .ok (.aload_n 0, 1) := by decide +kernel
theorem dX8_player_67 : decode cX8_player 67 = .ok (.getfield 19, 3) := by decide +kernel
theorem dX8_player_70 : decode cX8_player 70 = .ok (.getfield 100, 3) := by decide +kernel
theorem dX8_player_73 : decode cX8_player 73 = .ok (.iload_n 1, 1) := by decide +kernel
theorem dX8_player_74 : decode cX8_player 74 = .ok (.iaload, 1) := by decide +kernel
theorem dX8_player_75 : decode cX8_player 75 = .ok (.ireturn, 1) := by decide +kernel
theorem dX8_player_76 : decode cX8_player 76 = .ok (.aload_n 0, 1) := by decide +kernel
theorem dX8_player_77 : decode cX8_player 77 = .ok (.getfield 19, 3) := by decide +kernel
theorem dX8_player_80 : decode cX8_player 80 = .ok (.getfield 117, 3) := by decide +kernel
theorem dX8_player_83 : decode cX8_player 83 = .ok (.iload_n 1, 1) := by decide +kernel
theorem dX8_player_84 : decode cX8_player 84 = .ok (.iaload, 1) := by decide +kernel
theorem dX8_player_85 : decode cX8_player 85 = .ok (.ireturn, 1) := by decide +kernel
theorem dX8_player_86 : decode cX8_player 86 = .ok (.aload_n 0, 1) := by decide +kernel
theorem dX8_player_87 : decode cX8_player 87 = .ok (.getfield 29, 3) := by decide +kernel
theorem dX8_player_90 : decode cX8_player 90 = .ok (.aload_n 0, 1) := by decide +kernel
theorem dX8_player_91 : decode cX8_player 91 = .ok (.iload_n 1, 1) := by decide +kernel
theorem dX8_player_92 : decode cX8_player 92 = .ok (.invokevirtual 120, 3) := by decide +kernel
theorem dX8_player_95 : decode cX8_player 95 = .ok (.aload_n 0, 1) := by decide +kernel
theorem dX8_player_96 : decode cX8_player 96 = .ok (.getfield 90, 3) := by decide +kernel
theorem dX8_player_99 : decode cX8_player 99 = .ok (.invokevirtual 123, 3) := by decide +kernel
theorem dX8_player_102 : decode cX8_player 102 = .ok (.ireturn, 1) := by decide +kernel
theorem dX8_player_103 : decode cX8_player 103 = .ok (.aload_n 0, 1) := by decide +kernel
theorem dX8_player_104 : decode cX8_player 104 = .ok (.iload_n 1, 1) := by decide +kernel
theorem dX8_player_105 : decode cX8_player 105 = .ok (.invokevirtual 120, 3) := by decide +kernel
theorem dX8_player_108 : decode cX8_player 108 = .ok (.invokestatic 127, 3) := by decide +kernel
theorem dX8_player_111 : decode cX8_player 111 = .ok (.ireturn, 1) := by decide +kernel
theorem dX8_player_112 : decode cX8_player 112 = .ok (.aload_n 0, 1) := by decide +kernel
theorem dX8_player_113 : decode cX8_player 113 = .ok (.iload_n 1, 1) := by decide +kernel
theorem dX8_player_114 : decode cX8_player 114 = .ok (.invokevirtual 132, 3) := by decide +kernel
theorem dX8_player_117 : decode cX8_player 117 = .ok (.ireturn, 1) := by decide +kernel
theorem dX8_player_118 : decode cX8_player 118 = .ok (.aload_n 0, 1) := by decide +kernel
theorem dX8_player_119 : decode cX8_player 119 = .ok (.iload_n 1, 1) := by decide +kernel
theorem dX8_player_120 : decode cX8_player 120 = .ok (.invokevirtual 135, 3) := by decide +kernel
theorem dX8_player_123 : decode cX8_player 123 = .ok (.ireturn, 1) := by decide +kernel
theorem dX8_player_124 : decode cX8_player 124 = .ok (.bipush (-102), 2) := by decide +kernel
theorem dX8_player_126 : decode cX8_player 126 = .ok (.ireturn, 1) := by decide +kernel
theorem dX8_as_0 : decode cX8_as 0 = .ok (.aload_n 0, 1) := by decide +kernel
theorem dX8_as_1 : decode cX8_as 1 = .ok (.iload_n 1, 1) := by decide +kernel
theorem dX8_as_2 : decode cX8_as 2 = .ok (.invokevirtual 113, 3) := by decide +kernel
theorem dX8_as_5 : decode cX8_as 5 = .ok (.ifCond .ne 6, 3) := by decide +kernel
theorem dX8_as_8 : decode cX8_as 8 = .ok (.bipush (-101), 2) := by decide +kernel
theorem dX8_as_10 : decode cX8_as 10 = .ok (.ireturn, 1) := by decide +kernel
theorem dX8_as_11 : decode cX8_as 11 = .ok (.aload_n 0, 1) := by decide +kernel
theorem dX8_as_12 : decode cX8_as 12 = .ok (.iload_n 2, 1) := by decide +kernel
theorem dX8_as_13 : decode cX8_as 13 = .ok (.invokevirtual 138, 3) := by decide +kernel
theorem dX8_as_16 : decode cX8_as 16 = .ok (.ifCond .ne 6, 3) := by decide +kernel
theorem dX8_as_19 : decode cX8_as 19 = .ok (.bipush (-102), 2) := by decide +kernel
theorem dX8_as_21 : decode cX8_as 21 = .ok (.ireturn, 1) := by decide +kernel
theorem dX8_as_22 : decode cX8_as 22 = .ok (.aload_n 0, 1) := by decide +kernel
theorem dX8_as_23 : decode cX8_as 23 = .ok (.aload_n 0, 1) := by decide +kernel
theorem dX8_as_24 : decode cX8_as 24 = .ok (.getfield 19, 3) := by decide +kernel
theorem dX8_as_27 : decode cX8_as 27 = .ok (.getfield 93, 3) := by decide +kernel
theorem dX8_as_30 : decode cX8_as 30 = .ok (.iload_n 1, 1) := by decide +kernel
theorem dX8_as_31 : decode cX8_as 31 = .ok (.iaload, 1) := by decide +kernel
theorem dX8_as_32 : decode cX8_as 32 = .ok (.invokevirtual 141, 3) := by decide +kernel
theorem dX8_as_35 : decode cX8_as 35 = .ok (.iload_n 2, 1) := by decide +kernel
theorem dX8_as_36 : decode cX8_as 36 = .ok (.invokestatic 145, 3) := by decide +kernel
theorem dX8_as_39 : decode cX8_as 39 = .ok (.ifCond .eq 7, 3) := by decide +kernel
theorem dX8_as_42 : decode cX8_as 42 = .ok (.iload_n 1, 1) := by decide +kernel
theorem dX8_as_43 : decode cX8_as 43 = .ok (.goto 4, 3) := by decide +kernel
theorem dX8_as_46 : decode cX8_as 46 = .ok (.iconst (-1), 1) := by decide +kernel
theorem dX8_as_47 : decode cX8_as 47 = .ok (.ireturn, 1) := by decide +kernel
theorem dX8_hits_0 : decode cX8_hits 0 = .ok (.aload_n 0, 1) := by decide +kernel
theorem dX8_hits_1 : decode cX8_hits 1 = .ok (.iload_n 1, 1) := by decide +kernel
theorem dX8_hits_2 : decode cX8_hits 2 = .ok (.invokevirtual 113, 3) := by decide +kernel
theorem dX8_hits_5 : decode cX8_hits 5 = .ok (.ifCond .ne 6, 3) := by decide +kernel
theorem dX8_hits_8 : decode cX8_hits 8 = .ok (.bipush (-101), 2) := by decide +kernel
theorem dX8_hits_10 : decode cX8_hits 10 = .ok (.ireturn, 1) := by decide +kernel
theorem dX8_hits_11 : decode cX8_hits 11 = .ok (.aload_n 0, 1) := by decide +kernel
theorem dX8_hits_12 : decode cX8_hits 12 = .ok (.iload_n 2, 1) := by decide +kernel
theorem dX8_hits_13 : decode cX8_hits 13 = .ok (.invokevirtual 149, 3) := by decide +kernel
theorem dX8_hits_16 : decode cX8_hits 16 = .ok (.ifCond .ne 6, 3) := by decide +kernel
theorem dX8_hits_19 : decode cX8_hits 19 = .ok (.bipush (-102), 2) := by decide +kernel
theorem dX8_hits_21 : decode cX8_hits 21 = .ok (.ireturn, 1) := by decide +kernel
theorem dX8_hits_22 : decode cX8_hits 22 = .ok (.aload_n 0, 1) := by decide +kernel
theorem dX8_hits_23 : decode cX8_hits 23 = .ok (.iload_n 1, 1) := by decide +kernel
theorem dX8_hits_24 : decode cX8_hits 24 = .ok (.invokevirtual 120, 3) := by decide +kernel
theorem dX8_hits_27 : decode cX8_hits 27 = .ok (.iload_n 2, 1) := by decide +kernel
theorem dX8_hits_28 : decode cX8_hits 28 = .ok (.invokestatic 152, 3) := by decide +kernel
theorem dX8_hits_31 : decode cX8_hits 31 = .ok (.ifCond .eq 7, 3) := by decide +kernel
theorem dX8_hits_34 : decode cX8_hits 34 = .ok (.iconst 1, 1) := by decide +kernel
theorem dX8_hits_35 : decode cX8_hits 35 = .ok (.goto 4, 3) := by decide +kernel
theorem dX8_hits_38 : decode cX8_hits 38 = .ok (.iconst 0, 1) := by decide +kernel
theorem dX8_hits_39 : decode cX8_hits 39 = .ok (.ireturn, 1) := by decide +kernel
theorem dX8_toss_0 : decode cX8_toss 0 = .ok (.iload_n 1, 1) := by decide +kernel
theorem dX8_toss_1 : decode cX8_toss 1 = .ok (.ifCond .eq 11, 3) := by decide +kernel
theorem dX8_toss_4 : decode cX8_toss 4 = .ok (.iload_n 1, 1) := by decide +kernel
theorem dX8_toss_5 : decode cX8_toss 5 = .ok (.iconst 1, 1) := by decide +kernel
theorem dX8_toss_6 : decode cX8_toss 6 = .ok (.if_icmp .eq 6, 3) := by decide +kernel
theorem dX8_toss_9 : decode cX8_toss 9 = .ok (.bipush (-102), 2) := by decide +kernel
theorem dX8_toss_11 : decode cX8_toss 11 = .ok (.ireturn, 1) := by decide +kernel
theorem dX8_toss_12 : decode cX8_toss 12 = .ok (.aload_n 0, 1) := by decide +kernel
theorem dX8_toss_13 : decode cX8_toss 13 = .ok (.getfield 83, 3) := by decide +kernel
theorem dX8_toss_16 : decode cX8_toss 16 = .ok (.ifCond .ne 6, 3) := by decide +kernel
theorem dX8_toss_19 : decode cX8_toss 19 = .ok (.bipush (-103), 2) := by decide +kernel
theorem dX8_toss_21 : decode cX8_toss 21 = .ok (.ireturn, 1) := by decide +kernel
theorem dX8_toss_22 : decode cX8_toss 22 = .ok (.aload_n 0, 1) := by decide +kernel
theorem dX8_toss_23 : decode cX8_toss 23 = .ok (.getfield 19, 3) := by decide +kernel
theorem dX8_toss_26 : decode cX8_toss 26 = .ok (.getfield 156, 3) := by decide +kernel
theorem dX8_toss_29 : decode cX8_toss 29 = .ok (.sipush 9999, 3) := by decide +kernel
theorem dX8_toss_32 : decode cX8_toss 32 = .ok (.if_icmp .lt 6, 3) := by decide +kernel
theorem dX8_toss_35 : decode cX8_toss 35 = .ok (.bipush (-104), 2) := by decide +kernel
theorem dX8_toss_37 : decode cX8_toss 37 = .ok (.ireturn, 1) := by decide +kernel
theorem dX8_toss_38 : decode cX8_toss 38 = .ok (.aload_n 0, 1) := by decide +kernel
theorem dX8_toss_39 : decode cX8_toss 39 = .ok (.getfield 19, 3) := by decide +kernel
theorem dX8_toss_42 : decode cX8_toss 42 = .ok (.dup, 1) := by decide +kernel
theorem dX8_toss_43 : decode cX8_toss 43 = .ok (.getfield 156, 3) := by decide +kernel
theorem dX8_toss_46 : decode cX8_toss 46 = .ok (.iconst 1, 1) := by decide +kernel
theorem dX8_toss_47 : decode cX8_toss 47 = .ok (.iadd, 1) := by decide +kernel
theorem dX8_toss_48 : decode cX8_toss 48 = .ok (.putfield 156, 3) := by decide +kernel
theorem dX8_toss_51 : decode cX8_toss 51 = .ok (.aload_n 0, 1) := by decide +kernel
theorem dX8_toss_52 : decode cX8_toss 52 = .ok (.getfield 19, 3) := by decide +kernel
theorem dX8_toss_55 : decode cX8_toss 55 = .ok (.dup, 1) := by decide +kernel
theorem dX8_toss_56 : decode cX8_toss 56 = .ok (.getfield 159, 3) := by decide +kernel
theorem dX8_toss_59 : decode cX8_toss 59 = .ok (.iconst 1, 1) := by decide +kernel
theorem dX8_toss_60 : decode cX8_toss 60 = .ok (.iadd, 1) := by decide +kernel
theorem dX8_toss_61 : decode cX8_toss 61 = .ok (.putfield 159, 3) := by decide +kernel
theorem dX8_toss_64 : decode cX8_toss 64 = .ok (.aload_n 0, 1) := by decide +kernel
theorem dX8_toss_65 : decode cX8_toss 65 = .ok (.getfield 19, 3) := by decide +kernel
theorem dX8_toss_68 : decode cX8_toss 68 = .ok (.aload_n 0, 1) := by decide +kernel
theorem dX8_toss_69 : decode cX8_toss 69 = .ok (.aload_n 0, 1) := by decide +kernel
theorem dX8_toss_70 : decode cX8_toss 70 = .ok (.getfield 19, 3) := by decide +kernel
theorem dX8_toss_73 : decode cX8_toss 73 = .ok (.getfield 162, 3) := by decide +kernel
theorem dX8_toss_76 : decode cX8_toss 76 = .ok (.iload_n 1, 1) := by decide +kernel
theorem dX8_toss_77 : decode cX8_toss 77 = .ok (.invokevirtual 165, 3) := by decide +kernel
theorem dX8_toss_80 : decode cX8_toss 80 = .ok (.putfield 162, 3) := by decide +kernel
theorem dX8_toss_83 : decode cX8_toss 83 = .ok (.aload_n 0, 1) := by decide +kernel
theorem dX8_toss_84 : decode cX8_toss 84 = .ok (.aload_n 0, 1) := by decide +kernel
theorem dX8_toss_85 : decode cX8_toss 85 = .ok (.getfield 19, 3) := by decide +kernel
theorem dX8_toss_88 : decode cX8_toss 88 = .ok (.getfield 162, 3) := by decide +kernel
theorem dX8_toss_91 : decode cX8_toss 91 = .ok (.invokevirtual 168, 3) := by decide +kernel
theorem dX8_toss_94 : decode cX8_toss 94 = .ok (.istore_n 2, 1) := by decide +kernel
theorem dX8_toss_95 : decode cX8_toss 95 = .ok (.iload_n 2, 1) := by decide +kernel
theorem dX8_toss_96 : decode cX8_toss 96 = .ok (.ifCond .eq 21, 3) := by decide +kernel
theorem dX8_toss_99 : decode cX8_toss 99 = .ok (.iload_n 2, 1) := by decide +kernel
theorem dX8_toss_100 : decode cX8_toss 100 = .ok (.aload_n 0, 1) := by decide +kernel
theorem dX8_toss_101 : decode cX8_toss 101 = .ok (.getfield 19, 3) := by decide +kernel
theorem dX8_toss_104 : decode cX8_toss 104 = .ok (.getfield 117, 3) := by decide +kernel
theorem dX8_toss_107 : decode cX8_toss 107 = .ok (.invokestatic 171, 3) := by decide +kernel
theorem dX8_toss_110 : decode cX8_toss 110 = .ok (.aload_n 0, 1) := by decide +kernel
theorem dX8_toss_111 : decode cX8_toss 111 = .ok (.getfield 19, 3) := by decide +kernel
theorem dX8_toss_114 : decode cX8_toss 114 = .ok (.invokevirtual 175, 3) := by decide +kernel
theorem dX8_toss_117 : decode cX8_toss 117 = .ok (.iload_n 2, 1) := by decide +kernel
theorem dX8_toss_118 : decode cX8_toss 118 = .ok (.ireturn, 1) := by decide +kernel
theorem dX8_anew_0 : decode cX8_anew 0 = .ok (.aload_n 0, 1) := by decide +kernel
theorem dX8_anew_1 : decode cX8_anew 1 = .ok (.getfield 83, 3) := by decide +kernel
theorem dX8_anew_4 : decode cX8_anew 4 = .ok (.ifCond .ne 6, 3) := by decide +kernel
theorem dX8_anew_7 : decode cX8_anew 7 = .ok (.bipush (-103), 2) := by decide +kernel
theorem dX8_anew_9 : decode cX8_anew 9 = .ok (.ireturn, 1) := by decide +kernel
theorem dX8_anew_10 : decode cX8_anew 10 = .ok (.aload_n 0, 1) := by decide +kernel
theorem dX8_anew_11 : decode cX8_anew 11 = .ok (.getfield 19, 3) := by decide +kernel
theorem dX8_anew_14 : decode cX8_anew 14 = .ok (.getfield 159, 3) := by decide +kernel
theorem dX8_anew_17 : decode cX8_anew 17 = .ok (.istore_n 1, 1) := by decide +kernel
theorem dX8_anew_18 : decode cX8_anew 18 = .ok (.aload_n 0, 1) := by decide +kernel
theorem dX8_anew_19 : decode cX8_anew 19 = .ok (.getfield 19, 3) := by decide +kernel
theorem dX8_anew_22 : decode cX8_anew 22 = .ok (.invokevirtual 175, 3) := by decide +kernel
theorem dX8_anew_25 : decode cX8_anew 25 = .ok (.iload_n 1, 1) := by decide +kernel
theorem dX8_anew_26 : decode cX8_anew 26 = .ok (.ireturn, 1) := by decide +kernel
theorem dX8_bet_0 : decode cX8_bet 0 = .ok (.aload_n 0, 1) := by decide +kernel
theorem dX8_bet_1 : decode cX8_bet 1 = .ok (.iload_n 1, 1) := by decide +kernel
theorem dX8_bet_2 : decode cX8_bet 2 = .ok (.invokevirtual 113, 3) := by decide +kernel
theorem dX8_bet_5 : decode cX8_bet 5 = .ok (.ifCond .ne 6, 3) := by decide +kernel
theorem dX8_bet_8 : decode cX8_bet 8 = .ok (.bipush (-101), 2) := by decide +kernel
theorem dX8_bet_10 : decode cX8_bet 10 = .ok (.ireturn, 1) := by decide +kernel
theorem dX8_bet_11 : decode cX8_bet 11 = .ok (.aload_n 0, 1) := by decide +kernel
theorem dX8_bet_12 : decode cX8_bet 12 = .ok (.iload_n 2, 1) := by decide +kernel
theorem dX8_bet_13 : decode cX8_bet 13 = .ok (.invokevirtual 149, 3) := by decide +kernel
theorem dX8_bet_16 : decode cX8_bet 16 = .ok (.ifCond .ne 6, 3) := by decide +kernel
theorem dX8_bet_19 : decode cX8_bet 19 = .ok (.bipush (-102), 2) := by decide +kernel
theorem dX8_bet_21 : decode cX8_bet 21 = .ok (.ireturn, 1) := by decide +kernel
theorem dX8_bet_22 : decode cX8_bet 22 = .ok (.aload_n 0, 1) := by decide +kernel
theorem dX8_bet_23 : decode cX8_bet 23 = .ok (.getfield 19, 3) := by decide +kernel
theorem dX8_bet_26 : decode cX8_bet 26 = .ok (.getfield 100, 3) := by decide +kernel
theorem dX8_bet_29 : decode cX8_bet 29 = .ok (.iload_n 1, 1) := by decide +kernel
theorem dX8_bet_30 : decode cX8_bet 30 = .ok (.iaload, 1) := by decide +kernel
theorem dX8_bet_31 : decode cX8_bet 31 = .ok (.istore_n 3, 1) := by decide +kernel
theorem dX8_bet_32 : decode cX8_bet 32 = .ok (.aload_n 0, 1) := by decide +kernel
theorem dX8_bet_33 : decode cX8_bet 33 = .ok (.getfield 19, 3) := by decide +kernel
theorem dX8_bet_36 : decode cX8_bet 36 = .ok (.getfield 100, 3) := by decide +kernel
theorem dX8_bet_39 : decode cX8_bet 39 = .ok (.iload_n 1, 1) := by decide +kernel
theorem dX8_bet_40 : decode cX8_bet 40 = .ok (.iload_n 2, 1) := by decide +kernel
theorem dX8_bet_41 : decode cX8_bet 41 = .ok (.iastore, 1) := by decide +kernel
theorem dX8_bet_42 : decode cX8_bet 42 = .ok (.iload_n 3, 1) := by decide +kernel
theorem dX8_bet_43 : decode cX8_bet 43 = .ok (.ireturn, 1) := by decide +kernel
theorem dX8_be_0 : decode cX8_be 0 = .ok (.aload_n 0, 1) := by decide +kernel
theorem dX8_be_1 : decode cX8_be 1 = .ok (.iload_n 1, 1) := by decide +kernel
theorem dX8_be_2 : decode cX8_be 2 = .ok (.invokevirtual 113, 3) := by decide +kernel
theorem dX8_be_5 : decode cX8_be 5 = .ok (.ifCond .ne 6, 3) := by decide +kernel
theorem dX8_be_8 : decode cX8_be 8 = .ok (.bipush (-101), 2) := by decide +kernel
theorem dX8_be_10 : decode cX8_be 10 = .ok (.ireturn, 1) := by decide +kernel
theorem dX8_be_11 : decode cX8_be 11 = .ok (.aload_n 0, 1) := by decide +kernel
theorem dX8_be_12 : decode cX8_be 12 = .ok (.iload_n 2, 1) := by decide +kernel
theorem dX8_be_13 : decode cX8_be 13 = .ok (.invokevirtual 138, 3) := by decide +kernel
theorem dX8_be_16 : decode cX8_be 16 = .ok (.ifCond .ne 6, 3) := by decide +kernel
theorem dX8_be_19 : decode cX8_be 19 = .ok (.bipush (-102), 2) := by decide +kernel
theorem dX8_be_21 : decode cX8_be 21 = .ok (.ireturn, 1) := by decide +kernel
theorem dX8_be_22 : decode cX8_be 22 = .ok (.aload_n 0, 1) := by decide +kernel
theorem dX8_be_23 : decode cX8_be 23 = .ok (.getfield 19, 3) := by decide +kernel
theorem dX8_be_26 : decode cX8_be 26 = .ok (.getfield 93, 3) := by decide +kernel
theorem dX8_be_29 : decode cX8_be 29 = .ok (.iload_n 1, 1) := by decide +kernel
theorem dX8_be_30 : decode cX8_be 30 = .ok (.iaload, 1) := by decide +kernel
theorem dX8_be_31 : decode cX8_be 31 = .ok (.istore_n 3, 1) := by decide +kernel
theorem dX8_be_32 : decode cX8_be 32 = .ok (.aload_n 0, 1) := by decide +kernel
theorem dX8_be_33 : decode cX8_be 33 = .ok (.getfield 19, 3) := by decide +kernel
theorem dX8_be_36 : decode cX8_be 36 = .ok (.getfield 93, 3) := by decide +kernel
theorem dX8_be_39 : decode cX8_be 39 = .ok (.iload_n 1, 1) := by decide +kernel
theorem dX8_be_40 : decode cX8_be 40 = .ok (.iload_n 2, 1) := by decide +kernel
theorem dX8_be_41 : decode cX8_be 41 = .ok (.iastore, 1) := by decide +kernel
theorem dX8_be_42 : decode cX8_be 42 = .ok (.iload_n 3, 1) := by decide +kernel
theorem dX8_be_43 : decode cX8_be 43 = .ok (.ireturn, 1) := by decide +kernel
theorem dX8_duel_0 : decode cX8_duel 0 = .ok (.aload_n 0, 1) := by decide +kernel
theorem dX8_duel_1 : decode cX8_duel 1 = .ok (.iload_n 1, 1) := by decide +kernel
theorem dX8_duel_2 : decode cX8_duel 2 = .ok (.invokevirtual 113, 3) := by decide +kernel
theorem dX8_duel_5 : decode cX8_duel 5 = .ok (.ifCond .eq 16, 3) := by decide +kernel
theorem dX8_duel_8 : decode cX8_duel 8 = .ok (.aload_n 0, 1) := by decide +kernel
theorem dX8_duel_9 : decode cX8_duel 9 = .ok (.iload_n 2, 1) := by decide +kernel
theorem dX8_duel_10 : decode cX8_duel 10 = .ok (.invokevirtual 113, 3) := by decide +kernel
theorem dX8_duel_13 : decode cX8_duel 13 = .ok (.ifCond .eq 8, 3) := by decide +kernel
theorem dX8_duel_16 : decode cX8_duel 16 = .ok (.iload_n 1, 1) := by decide +kernel
theorem dX8_duel_17 : decode cX8_duel 17 = .ok (.iload_n 2, 1) := by decide +kernel
theorem dX8_duel_18 : decode cX8_duel 18 = .ok (.if_icmp .ne 6, 3) := by decide +kernel
theorem dX8_duel_21 : decode cX8_duel 21 = .ok (.bipush (-101), 2) := by decide +kernel
theorem dX8_duel_23 : decode cX8_duel 23 = .ok (.ireturn, 1) := by decide +kernel
theorem dX8_duel_24 : decode cX8_duel 24 = .ok (.aload_n 0, 1) := by decide +kernel
theorem dX8_duel_25 : decode cX8_duel 25 = .ok (.getfield 29, 3) := by decide +kernel
theorem dX8_duel_28 : decode cX8_duel 28 = .ok (.aload_n 0, 1) := by decide +kernel
theorem dX8_duel_29 : decode cX8_duel 29 = .ok (.iload_n 1, 1) := by decide +kernel
theorem dX8_duel_30 : decode cX8_duel 30 = .ok (.invokevirtual 120, 3) := by decide +kernel
theorem dX8_duel_33 : decode cX8_duel 33 = .ok (.aload_n 0, 1) := by decide +kernel
theorem dX8_duel_34 : decode cX8_duel 34 = .ok (.iload_n 2, 1) := by decide +kernel
theorem dX8_duel_35 : decode cX8_duel 35 = .ok (.invokevirtual 120, 3) := by decide +kernel
theorem dX8_duel_38 : decode cX8_duel 38 = .ok (.aload_n 0, 1) := by decide +kernel
theorem dX8_duel_39 : decode cX8_duel 39 = .ok (.getfield 90, 3) := by decide +kernel
theorem dX8_duel_42 : decode cX8_duel 42 = .ok (.invokevirtual 178, 3) := by decide +kernel
theorem dX8_duel_45 : decode cX8_duel 45 = .ok (.ireturn, 1) := by decide +kernel
theorem dX8_answer_0 : decode cX8_answer 0 = .ok (.aload_n 0, 1) := by decide +kernel
theorem dX8_answer_1 : decode cX8_answer 1 = .ok (.iload_n 1, 1) := by decide +kernel
theorem dX8_answer_2 : decode cX8_answer 2 = .ok (.invokevirtual 113, 3) := by decide +kernel
theorem dX8_answer_5 : decode cX8_answer 5 = .ok (.ifCond .ne 6, 3) := by decide +kernel
theorem dX8_answer_8 : decode cX8_answer 8 = .ok (.bipush (-101), 2) := by decide +kernel
theorem dX8_answer_10 : decode cX8_answer 10 = .ok (.ireturn, 1) := by decide +kernel
theorem dX8_answer_11 : decode cX8_answer 11 = .ok (.iload_n 2, 1) := by decide +kernel
theorem dX8_answer_12 : decode cX8_answer 12 = .ok (.ifCond .eq 11, 3) := by decide +kernel
theorem dX8_answer_15 : decode cX8_answer 15 = .ok (.iload_n 2, 1) := by decide +kernel
theorem dX8_answer_16 : decode cX8_answer 16 = .ok (.iconst 1, 1) := by decide +kernel
theorem dX8_answer_17 : decode cX8_answer 17 = .ok (.if_icmp .eq 6, 3) := by decide +kernel
theorem dX8_answer_20 : decode cX8_answer 20 = .ok (.bipush (-102), 2) := by decide +kernel
theorem dX8_answer_22 : decode cX8_answer 22 = .ok (.ireturn, 1) := by decide +kernel
theorem dX8_answer_23 : decode cX8_answer 23 = .ok (.aload_n 0, 1) := by decide +kernel
theorem dX8_answer_24 : decode cX8_answer 24 = .ok (.iload_n 1, 1) := by decide +kernel
theorem dX8_answer_25 : decode cX8_answer 25 = .ok (.invokevirtual 120, 3) := by decide +kernel
theorem dX8_answer_28 : decode cX8_answer 28 = .ok (.istore_n 3, 1) := by decide +kernel
theorem dX8_answer_29 : decode cX8_answer 29 = .ok (.aload_n 0, 1) := by decide +kernel
theorem dX8_answer_30 : decode cX8_answer 30 = .ok (.iload_n 3, 1) := by decide +kernel
theorem dX8_answer_31 : decode cX8_answer 31 = .ok (.invokevirtual 182, 3) := by decide +kernel
theorem dX8_answer_34 : decode cX8_answer 34 = .ok (.istore 4, 2) := by decide +kernel
theorem dX8_answer_36 : decode cX8_answer 36 = .ok (.iload_n 2, 1) := by decide +kernel
theorem dX8_answer_37 : decode cX8_answer 37 = .ok (.ifCond .ne 8, 3) := by decide +kernel
theorem dX8_answer_40 : decode cX8_answer 40 = .ok (.iload 4, 2) := by decide +kernel
theorem dX8_answer_42 : decode cX8_answer 42 = .ok (.goto 19, 3) := by decide +kernel
theorem dX8_answer_45 : decode cX8_answer 45 = .ok (.aload_n 0, 1) := by decide +kernel
theorem dX8_answer_46 : decode cX8_answer 46 = .ok (.getfield 29, 3) := by decide +kernel
theorem dX8_answer_49 : decode cX8_answer 49 = .ok (.iconst 1, 1) := by decide +kernel
theorem dX8_answer_50 : decode cX8_answer 50 = .ok (.iload 4, 2) := by decide +kernel
theorem dX8_answer_52 : decode cX8_answer 52 = .ok (.ishl, 1) := by decide +kernel
theorem dX8_answer_53 : decode cX8_answer 53 = .ok (.iload_n 3, 1) := by decide +kernel
theorem dX8_answer_54 : decode cX8_answer 54 = .ok (.aload_n 0, 1) := by decide +kernel
theorem dX8_answer_55 : decode cX8_answer 55 = .ok (.getfield 90, 3) := by decide +kernel
theorem dX8_answer_58 : decode cX8_answer 58 = .ok (.invokevirtual 178, 3) := by decide +kernel
theorem dX8_answer_61 : decode cX8_answer 61 = .ok (.ireturn, 1) := by decide +kernel
theorem dX8_open_0 : decode cX8_open 0 = .ok (.iload_n 1, 1) := by decide +kernel
theorem dX8_open_1 : decode cX8_open 1 = .ok (.ifCond .eq 11, 3) := by decide +kernel
theorem dX8_open_4 : decode cX8_open 4 = .ok (.iload_n 1, 1) := by decide +kernel
theorem dX8_open_5 : decode cX8_open 5 = .ok (.iconst 1, 1) := by decide +kernel
theorem dX8_open_6 : decode cX8_open 6 = .ok (.if_icmp .eq 6, 3) := by decide +kernel
theorem dX8_open_9 : decode cX8_open 9 = .ok (.bipush (-102), 2) := by decide +kernel
theorem dX8_open_11 : decode cX8_open 11 = .ok (.ireturn, 1) := by decide +kernel
theorem dX8_open_12 : decode cX8_open 12 = .ok (.aload_n 0, 1) := by decide +kernel
theorem dX8_open_13 : decode cX8_open 13 = .ok (.getfield 83, 3) := by decide +kernel
theorem dX8_open_16 : decode cX8_open 16 = .ok (.ifCond .ne 6, 3) := by decide +kernel
theorem dX8_open_19 : decode cX8_open 19 = .ok (.bipush (-103), 2) := by decide +kernel
theorem dX8_open_21 : decode cX8_open 21 = .ok (.ireturn, 1) := by decide +kernel
theorem dX8_open_22 : decode cX8_open 22 = .ok (.aload_n 0, 1) := by decide +kernel
theorem dX8_open_23 : decode cX8_open 23 = .ok (.invokevirtual 185, 3) := by decide +kernel
theorem dX8_open_26 : decode cX8_open 26 = .ok (.istore_n 2, 1) := by decide +kernel
theorem dX8_open_27 : decode cX8_open 27 = .ok (.iload_n 1, 1) := by decide +kernel
theorem dX8_open_28 : decode cX8_open 28 = .ok (.ifCond .ne 7, 3) := by decide +kernel
theorem dX8_open_31 : decode cX8_open 31 = .ok (.iload_n 2, 1) := by decide +kernel
theorem dX8_open_32 : decode cX8_open 32 = .ok (.goto 8, 3) := by decide +kernel
theorem dX8_open_35 : decode cX8_open 35 = .ok (.aload_n 0, 1) := by decide +kernel
theorem dX8_open_36 : decode cX8_open 36 = .ok (.iload_n 2, 1) := by decide +kernel
theorem dX8_open_37 : decode cX8_open 37 = .ok (.invokevirtual 188, 3) := by decide +kernel
theorem dX8_open_40 : decode cX8_open 40 = .ok (.ireturn, 1) := by decide +kernel
theorem dX8_ring_0 : decode cX8_ring 0 = .ok (.aload_n 0, 1) := by decide +kernel
theorem dX8_ring_1 : decode cX8_ring 1 = .ok (.getfield 83, 3) := by decide +kernel
theorem dX8_ring_4 : decode cX8_ring 4 = .ok (.ifCond .ne 6, 3) := by decide +kernel
theorem dX8_ring_7 : decode cX8_ring 7 = .ok (.bipush (-103), 2) := by decide +kernel
theorem dX8_ring_9 : decode cX8_ring 9 = .ok (.ireturn, 1) := by decide +kernel
theorem dX8_ring_10 : decode cX8_ring 10 = .ok (.aload_n 0, 1) := by decide +kernel
theorem dX8_ring_11 : decode cX8_ring 11 = .ok (.invokevirtual 191, 3) := by decide +kernel
theorem dX8_ring_14 : decode cX8_ring 14 = .ok (.istore_n 1, 1) := by decide +kernel
theorem dX8_ring_15 : decode cX8_ring 15 = .ok (.iconst 3, 1) := by decide +kernel
theorem dX8_ring_16 : decode cX8_ring 16 = .ok (.istore_n 2, 1) := by decide +kernel
theorem dX8_ring_17 : decode cX8_ring 17 = .ok (.iload_n 2, 1) := by decide +kernel
theorem dX8_ring_18 : decode cX8_ring 18 = .ok (.aload_n 0, 1) := by decide +kernel
theorem dX8_ring_19 : decode cX8_ring 19 = .ok (.getfield 83, 3) := by decide +kernel
theorem dX8_ring_22 : decode cX8_ring 22 = .ok (.if_icmp .gt 45, 3) := by decide +kernel
theorem dX8_ring_25 : decode cX8_ring 25 = .ok (.iconst 0, 1) := by decide +kernel
theorem dX8_ring_26 : decode cX8_ring 26 = .ok (.istore_n 3, 1) := by decide +kernel
theorem dX8_ring_27 : decode cX8_ring 27 = .ok (.iload_n 3, 1) := by decide +kernel
theorem dX8_ring_28 : decode cX8_ring 28 = .ok (.iconst 1, 1) := by decide +kernel
theorem dX8_ring_29 : decode cX8_ring 29 = .ok (.aload_n 0, 1) := by decide +kernel
theorem dX8_ring_30 : decode cX8_ring 30 = .ok (.getfield 83, 3) := by decide +kernel
theorem dX8_ring_33 : decode cX8_ring 33 = .ok (.ishl, 1) := by decide +kernel
theorem dX8_ring_34 : decode cX8_ring 34 = .ok (.if_icmp .ge 27, 3) := by decide +kernel
theorem dX8_ring_37 : decode cX8_ring 37 = .ok (.iload_n 3, 1) := by decide +kernel
theorem dX8_ring_38 : decode cX8_ring 38 = .ok (.invokestatic 127, 3) := by decide +kernel
theorem dX8_ring_41 : decode cX8_ring 41 = .ok (.iload_n 2, 1) := by decide +kernel
theorem dX8_ring_42 : decode cX8_ring 42 = .ok (.if_icmp .ne 13, 3) := by decide +kernel
theorem dX8_ring_45 : decode cX8_ring 45 = .ok (.iload_n 3, 1) := by decide +kernel
theorem dX8_ring_46 : decode cX8_ring 46 = .ok (.iload_n 1, 1) := by decide +kernel
theorem dX8_ring_47 : decode cX8_ring 47 = .ok (.invokestatic 194, 3) := by decide +kernel
theorem dX8_ring_50 : decode cX8_ring 50 = .ok (.ifCond .eq 5, 3) := by decide +kernel
theorem dX8_ring_53 : decode cX8_ring 53 = .ok (.iload_n 3, 1) := by decide +kernel
theorem dX8_ring_54 : decode cX8_ring 54 = .ok (.ireturn, 1) := by decide +kernel
theorem dX8_ring_55 : decode cX8_ring 55 = .ok (.iinc 3 1, 3) := by decide +kernel
theorem dX8_ring_58 : decode cX8_ring 58 = .ok (.goto (-31), 3) := by decide +kernel
theorem dX8_ring_61 : decode cX8_ring 61 = .ok (.iinc 2 1, 3) := by decide +kernel
theorem dX8_ring_64 : decode cX8_ring 64 = .ok (.goto (-47), 3) := by decide +kernel
theorem dX8_ring_67 : decode cX8_ring 67 = .ok (.iconst 0, 1) := by decide +kernel
theorem dX8_ring_68 : decode cX8_ring 68 = .ok (.ireturn, 1) := by decide +kernel
theorem dX8_odds_0 : decode cX8_odds 0 = .ok (.aload_n 0, 1) := by decide +kernel
theorem dX8_odds_1 : decode cX8_odds 1 = .ok (.iload_n 1, 1) := by decide +kernel
theorem dX8_odds_2 : decode cX8_odds 2 = .ok (.invokevirtual 113, 3) := by decide +kernel
theorem dX8_odds_5 : decode cX8_odds 5 = .ok (.ifCond .ne 6, 3) := by decide +kernel
theorem dX8_odds_8 : decode cX8_odds 8 = .ok (.bipush (-101), 2) := by decide +kernel
theorem dX8_odds_10 : decode cX8_odds 10 = .ok (.ireturn, 1) := by decide +kernel
theorem dX8_odds_11 : decode cX8_odds 11 = .ok (.iload_n 2, 1) := by decide +kernel
theorem dX8_odds_12 : decode cX8_odds 12 = .ok (.iconst 1, 1) := by decide +kernel
theorem dX8_odds_13 : decode cX8_odds 13 = .ok (.if_icmp .lt 18, 3) := by decide +kernel
theorem dX8_odds_16 : decode cX8_odds 16 = .ok (.iload_n 2, 1) := by decide +kernel
theorem dX8_odds_17 : decode cX8_odds 17 = .ok (.bipush 20, 2) := by decide +kernel
theorem dX8_odds_19 : decode cX8_odds 19 = .ok (.if_icmp .gt 12, 3) := by decide +kernel
theorem dX8_odds_22 : decode cX8_odds 22 = .ok (.iload_n 3, 1) := by decide +kernel
theorem dX8_odds_23 : decode cX8_odds 23 = .ok (.ifCond .lt 8, 3) := by decide +kernel
theorem dX8_odds_26 : decode cX8_odds 26 = .ok (.iload_n 3, 1) := by decide +kernel
theorem dX8_odds_27 : decode cX8_odds 27 = .ok (.iconst 1, 1) := by decide +kernel
theorem dX8_odds_28 : decode cX8_odds 28 = .ok (.if_icmp .le 6, 3) := by decide +kernel
theorem dX8_odds_31 : decode cX8_odds 31 = .ok (.bipush (-102), 2) := by decide +kernel
theorem dX8_odds_33 : decode cX8_odds 33 = .ok (.ireturn, 1) := by decide +kernel
theorem dX8_odds_34 : decode cX8_odds 34 = .ok (.aload_n 0, 1) := by decide +kernel
theorem dX8_odds_35 : decode cX8_odds 35 = .ok (.iload_n 1, 1) := by decide +kernel
theorem dX8_odds_36 : decode cX8_odds 36 = .ok (.iload_n 2, 1) := by decide +kernel
theorem dX8_odds_37 : decode cX8_odds 37 = .ok (.invokevirtual 197, 3) := by decide +kernel
theorem dX8_odds_40 : decode cX8_odds 40 = .ok (.istore 4, 2) := by decide +kernel
theorem dX8_odds_42 : decode cX8_odds 42 = .ok (.iload_n 2, 1) := by decide +kernel
theorem dX8_odds_43 : decode cX8_odds 43 = .ok (.istore 5, 2) := by decide +kernel
theorem dX8_odds_45 : decode cX8_odds 45 = .ok (.iload 5, 2) := by decide +kernel
theorem dX8_odds_47 : decode cX8_odds 47 = .ok (.ifCond .le 22, 3) := by decide +kernel
theorem dX8_odds_50 : decode cX8_odds 50 = .ok (.iload 4, 2) := by decide +kernel
theorem dX8_odds_52 : decode cX8_odds 52 = .ok (.iconst 1, 1) := by decide +kernel
theorem dX8_odds_53 : decode cX8_odds 53 = .ok (.iand, 1) := by decide +kernel
theorem dX8_odds_54 : decode cX8_odds 54 = .ok (.ifCond .ne 15, 3) := by decide +kernel
theorem dX8_odds_57 : decode cX8_odds 57 = .ok (.iload 4, 2) := by decide +kernel
theorem dX8_odds_59 : decode cX8_odds 59 = .ok (.iconst 1, 1) := by decide +kernel
theorem dX8_odds_60 : decode cX8_odds 60 = .ok (.ishr, 1) := by decide +kernel
theorem dX8_odds_61 : decode cX8_odds 61 = .ok (.istore 4, 2) := by decide +kernel
theorem dX8_odds_63 : decode cX8_odds 63 = .ok (.iinc 5 (-1), 3) := by decide +kernel
theorem dX8_odds_66 : decode cX8_odds 66 = .ok (.goto (-21), 3) := by decide +kernel
theorem dX8_odds_69 : decode cX8_odds 69 = .ok (.iload_n 3, 1) := by decide +kernel
theorem dX8_odds_70 : decode cX8_odds 70 = .ok (.ifCond .ne 8, 3) := by decide +kernel
theorem dX8_odds_73 : decode cX8_odds 73 = .ok (.iload 4, 2) := by decide +kernel
theorem dX8_odds_75 : decode cX8_odds 75 = .ok (.goto 7, 3) := by decide +kernel
theorem dX8_odds_78 : decode cX8_odds 78 = .ok (.iconst 1, 1) := by decide +kernel
theorem dX8_odds_79 : decode cX8_odds 79 = .ok (.iload 5, 2) := by decide +kernel
theorem dX8_odds_81 : decode cX8_odds 81 = .ok (.ishl, 1) := by decide +kernel
theorem dX8_odds_82 : decode cX8_odds 82 = .ok (.ireturn, 1) := by decide +kernel
theorem dX8_see_0 : decode cX8_see 0 = .ok (.aload_n 0, 1) := by decide +kernel
theorem dX8_see_1 : decode cX8_see 1 = .ok (.iload_n 1, 1) := by decide +kernel
theorem dX8_see_2 : decode cX8_see 2 = .ok (.invokevirtual 113, 3) := by decide +kernel
theorem dX8_see_5 : decode cX8_see 5 = .ok (.ifCond .ne 6, 3) := by decide +kernel
theorem dX8_see_8 : decode cX8_see 8 = .ok (.bipush (-101), 2) := by decide +kernel
theorem dX8_see_10 : decode cX8_see 10 = .ok (.ireturn, 1) := by decide +kernel
theorem dX8_see_11 : decode cX8_see 11 = .ok (.aload_n 0, 1) := by decide +kernel
theorem dX8_see_12 : decode cX8_see 12 = .ok (.iload_n 2, 1) := by decide +kernel
theorem dX8_see_13 : decode cX8_see 13 = .ok (.invokevirtual 149, 3) := by decide +kernel
theorem dX8_see_16 : decode cX8_see 16 = .ok (.ifCond .ne 6, 3) := by decide +kernel
theorem dX8_see_19 : decode cX8_see 19 = .ok (.bipush (-102), 2) := by decide +kernel
theorem dX8_see_21 : decode cX8_see 21 = .ok (.ireturn, 1) := by decide +kernel
theorem dX8_see_22 : decode cX8_see 22 = .ok (.aload_n 0, 1) := by decide +kernel
theorem dX8_see_23 : decode cX8_see 23 = .ok (.getfield 19, 3) := by decide +kernel
theorem dX8_see_26 : decode cX8_see 26 = .ok (.getfield 200, 3) := by decide +kernel
theorem dX8_see_29 : decode cX8_see 29 = .ok (.bipush 6, 2) := by decide +kernel
theorem dX8_see_31 : decode cX8_see 31 = .ok (.if_icmp .lt 6, 3) := by decide +kernel
theorem dX8_see_34 : decode cX8_see 34 = .ok (.bipush (-104), 2) := by decide +kernel
theorem dX8_see_36 : decode cX8_see 36 = .ok (.ireturn, 1) := by decide +kernel
theorem dX8_see_37 : decode cX8_see 37 = .ok (.aload_n 0, 1) := by decide +kernel
theorem dX8_see_38 : decode cX8_see 38 = .ok (.getfield 19, 3) := by decide +kernel
theorem dX8_see_41 : decode cX8_see 41 = .ok (.iload_n 1, 1) := by decide +kernel
theorem dX8_see_42 : decode cX8_see 42 = .ok (.iload_n 2, 1) := by decide +kernel
theorem dX8_see_43 : decode cX8_see 43 = .ok (.iload_n 3, 1) := by decide +kernel
theorem dX8_see_44 : decode cX8_see 44 = .ok (.invokevirtual 203, 3) := by decide +kernel
theorem dX8_see_47 : decode cX8_see 47 = .ok (.aload_n 0, 1) := by decide +kernel
theorem dX8_see_48 : decode cX8_see 48 = .ok (.getfield 19, 3) := by decide +kernel
theorem dX8_see_51 : decode cX8_see 51 = .ok (.getfield 200, 3) := by decide +kernel
theorem dX8_see_54 : decode cX8_see 54 = .ok (.ireturn, 1) := by decide +kernel
theorem dX8_forget_0 : decode cX8_forget 0 = .ok (.aload_n 0, 1) := by decide +kernel
theorem dX8_forget_1 : decode cX8_forget 1 = .ok (.getfield 19, 3) := by decide +kernel
theorem dX8_forget_4 : decode cX8_forget 4 = .ok (.getfield 200, 3) := by decide +kernel
theorem dX8_forget_7 : decode cX8_forget 7 = .ok (.istore_n 1, 1) := by decide +kernel
theorem dX8_forget_8 : decode cX8_forget 8 = .ok (.aload_n 0, 1) := by decide +kernel
theorem dX8_forget_9 : decode cX8_forget 9 = .ok (.getfield 19, 3) := by decide +kernel
theorem dX8_forget_12 : decode cX8_forget 12 = .ok (.iconst 0, 1) := by decide +kernel
theorem dX8_forget_13 : decode cX8_forget 13 = .ok (.putfield 200, 3) := by decide +kernel
theorem dX8_forget_16 : decode cX8_forget 16 = .ok (.iload_n 1, 1) := by decide +kernel
theorem dX8_forget_17 : decode cX8_forget 17 = .ok (.ireturn, 1) := by decide +kernel
theorem dX8_games_0 : decode cX8_games 0 = .ok (.iload_n 1, 1) := by decide +kernel
theorem dX8_games_1 : decode cX8_games 1 = .ok (.iconst 1, 1) := by decide +kernel
theorem dX8_games_2 : decode cX8_games 2 = .ok (.if_icmp .lt 22, 3) := by decide +kernel
theorem dX8_games_5 : decode cX8_games 5 = .ok (.iload_n 1, 1) := by decide +kernel
theorem dX8_games_6 : decode cX8_games 6 = .ok (.bipush 99, 2) := by decide +kernel
theorem dX8_games_8 : decode cX8_games 8 = .ok (.if_icmp .gt 16, 3) := by decide +kernel
theorem dX8_games_11 : decode cX8_games 11 = .ok (.iload_n 2, 1) := by decide +kernel
theorem dX8_games_12 : decode cX8_games 12 = .ok (.ifCond .lt 12, 3) := by decide +kernel
theorem dX8_games_15 : decode cX8_games 15 = .ok (.iload_n 3, 1) := by decide +kernel
theorem dX8_games_16 : decode cX8_games 16 = .ok (.ifCond .lt 8, 3) := by decide +kernel
theorem dX8_games_19 : decode cX8_games 19 = .ok (.iload_n 3, 1) := by decide +kernel
theorem dX8_games_20 : decode cX8_games 20 = .ok (.iconst 2, 1) := by decide +kernel
theorem dX8_games_21 : decode cX8_games 21 = .ok (.if_icmp .le 6, 3) := by decide +kernel
theorem dX8_games_24 : decode cX8_games 24 = .ok (.bipush (-102), 2) := by decide +kernel
theorem dX8_games_26 : decode cX8_games 26 = .ok (.ireturn, 1) := by decide +kernel
theorem dX8_games_27 : decode cX8_games 27 = .ok (.aload_n 0, 1) := by decide +kernel
theorem dX8_games_28 : decode cX8_games 28 = .ok (.getfield 83, 3) := by decide +kernel
theorem dX8_games_31 : decode cX8_games 31 = .ok (.ifCond .ne 6, 3) := by decide +kernel
theorem dX8_games_34 : decode cX8_games 34 = .ok (.bipush (-103), 2) := by decide +kernel
theorem dX8_games_36 : decode cX8_games 36 = .ok (.ireturn, 1) := by decide +kernel
theorem dX8_games_37 : decode cX8_games 37 = .ok (.aload_n 0, 1) := by decide +kernel
theorem dX8_games_38 : decode cX8_games 38 = .ok (.getfield 52, 3) := by decide +kernel
theorem dX8_games_41 : decode cX8_games 41 = .ok (.iconst 0, 1) := by decide +kernel
theorem dX8_games_42 : decode cX8_games 42 = .ok (.invokestatic 207, 3) := by decide +kernel
theorem dX8_games_45 : decode cX8_games 45 = .ok (.iconst 0, 1) := by decide +kernel
theorem dX8_games_46 : decode cX8_games 46 = .ok (.istore 4, 2) := by decide +kernel
theorem dX8_games_48 : decode cX8_games 48 = .ok (.iload_n 2, 1) := by decide +kernel
theorem dX8_games_49 : decode cX8_games 49 = .ok (.istore 5, 2) := by decide +kernel
theorem dX8_games_51 : decode cX8_games 51 = .ok (.aload_n 0, 1) := by decide +kernel
theorem dX8_games_52 : decode cX8_games 52 = .ok (.getfield 19, 3) := by decide +kernel
theorem dX8_games_55 : decode cX8_games 55 = .ok (.getfield 162, 3) := by decide +kernel
theorem dX8_games_58 : decode cX8_games 58 = .ok (.istore 6, 2) := by decide +kernel
theorem dX8_games_60 : decode cX8_games 60 = .ok (.iconst 0, 1) := by decide +kernel
theorem dX8_games_61 : decode cX8_games 61 = .ok (.istore 7, 2) := by decide +kernel
theorem dX8_games_63 : decode cX8_games 63 = .ok (.iload 7, 2) := by decide +kernel
theorem dX8_games_65 : decode cX8_games 65 = .ok (.iload_n 1, 1) := by decide +kernel
theorem dX8_games_66 : decode cX8_games 66 = .ok (.if_icmp .ge 59, 3) := by decide +kernel
theorem dX8_games_69 : decode cX8_games 69 = .ok (.iload 5, 2) := by decide +kernel
theorem dX8_games_71 : decode cX8_games 71 = .ok (.invokestatic 213, 3) := by decide +kernel
theorem dX8_games_74 : decode cX8_games 74 = .ok (.istore 5, 2) := by decide +kernel
theorem dX8_games_76 : decode cX8_games 76 = .ok (.aload_n 0, 1) := by decide +kernel
theorem dX8_games_77 : decode cX8_games 77 = .ok (.iload 6, 2) := by decide +kernel
theorem dX8_games_79 : decode cX8_games 79 = .ok (.iload 5, 2) := by decide +kernel
theorem dX8_games_81 : decode cX8_games 81 = .ok (.ldc 216, 2) := by decide +kernel
theorem dX8_games_83 : decode cX8_games 83 = .ok (.idiv, 1) := by decide +kernel
theorem dX8_games_84 : decode cX8_games 84 = .ok (.iconst 2, 1) := by decide +kernel
theorem dX8_games_85 : decode cX8_games 85 = .ok (.irem, 1) := by decide +kernel
theorem dX8_games_86 : decode cX8_games 86 = .ok (.invokevirtual 165, 3) := by decide +kernel
theorem dX8_games_89 : decode cX8_games 89 = .ok (.istore 6, 2) := by decide +kernel
theorem dX8_games_91 : decode cX8_games 91 = .ok (.aload_n 0, 1) := by decide +kernel
theorem dX8_games_92 : decode cX8_games 92 = .ok (.iload 6, 2) := by decide +kernel
theorem dX8_games_94 : decode cX8_games 94 = .ok (.invokevirtual 168, 3) := by decide +kernel
theorem dX8_games_97 : decode cX8_games 97 = .ok (.istore 8, 2) := by decide +kernel
theorem dX8_games_99 : decode cX8_games 99 = .ok (.iload 8, 2) := by decide +kernel
theorem dX8_games_101 : decode cX8_games 101 = .ok (.ifCond .eq 18, 3) := by decide +kernel
theorem dX8_games_104 : decode cX8_games 104 = .ok (.iinc 4 1, 3) := by decide +kernel
theorem dX8_games_107 : decode cX8_games 107 = .ok (.iload 8, 2) := by decide +kernel
theorem dX8_games_109 : decode cX8_games 109 = .ok (.aload_n 0, 1) := by decide +kernel
theorem dX8_games_110 : decode cX8_games 110 = .ok (.getfield 52, 3) := by decide +kernel
theorem dX8_games_113 : decode cX8_games 113 = .ok (.invokestatic 171, 3) := by decide +kernel
theorem dX8_games_116 : decode cX8_games 116 = .ok (.iconst 1, 1) := by decide +kernel
theorem dX8_games_117 : decode cX8_games 117 = .ok (.istore 6, 2) := by decide +kernel
theorem dX8_games_119 : decode cX8_games 119 = .ok (.iinc 7 1, 3) := by decide +kernel
theorem dX8_games_122 : decode cX8_games 122 = .ok (.goto (-59), 3) := by decide +kernel
theorem dX8_games_125 : decode cX8_games 125 = .ok (.iload_n 3, 1) := by decide +kernel
theorem dX8_games_126 : decode cX8_games 126 = .ok (.ifCond .ne 8, 3) := by decide +kernel
theorem dX8_games_129 : decode cX8_games 129 = .ok (.iload 4, 2) := by decide +kernel
theorem dX8_games_131 : decode cX8_games 131 = .ok (.goto 17, 3) := by decide +kernel
theorem dX8_games_134 : decode cX8_games 134 = .ok (.iload_n 3, 1) := by decide +kernel
theorem dX8_games_135 : decode cX8_games 135 = .ok (.iconst 1, 1) := by decide +kernel
theorem dX8_games_136 : decode cX8_games 136 = .ok (.if_icmp .ne 10, 3) := by decide +kernel
theorem dX8_games_139 : decode cX8_games 139 = .ok (.aload_n 0, 1) := by decide +kernel
theorem dX8_games_140 : decode cX8_games 140 = .ok (.invokevirtual 217, 3) := by decide +kernel
theorem dX8_games_143 : decode cX8_games 143 = .ok (.goto 5, 3) := by decide +kernel
theorem dX8_games_146 : decode cX8_games 146 = .ok (.iload 5, 2) := by decide +kernel
theorem dX8_games_148 : decode cX8_games 148 = .ok (.ireturn, 1) := by decide +kernel
theorem dX8_image_0 : decode cX8_image 0 = .ok (.aload_n 0, 1) := by decide +kernel
theorem dX8_image_1 : decode cX8_image 1 = .ok (.getfield 83, 3) := by decide +kernel
theorem dX8_image_4 : decode cX8_image 4 = .ok (.ifCond .ne 6, 3) := by decide +kernel
theorem dX8_image_7 : decode cX8_image 7 = .ok (.bipush (-103), 2) := by decide +kernel
theorem dX8_image_9 : decode cX8_image 9 = .ok (.ireturn, 1) := by decide +kernel
theorem dX8_image_10 : decode cX8_image 10 = .ok (.aload_n 0, 1) := by decide +kernel
theorem dX8_image_11 : decode cX8_image 11 = .ok (.getfield 23, 3) := by decide +kernel
theorem dX8_image_14 : decode cX8_image 14 = .ok (.aload_n 0, 1) := by decide +kernel
theorem dX8_image_15 : decode cX8_image 15 = .ok (.getfield 19, 3) := by decide +kernel
theorem dX8_image_18 : decode cX8_image 18 = .ok (.invokevirtual 220, 3) := by decide +kernel
theorem dX8_image_21 : decode cX8_image 21 = .ok (.aload_n 0, 1) := by decide +kernel
theorem dX8_image_22 : decode cX8_image 22 = .ok (.iconst 1, 1) := by decide +kernel
theorem dX8_image_23 : decode cX8_image 23 = .ok (.putfield 106, 3) := by decide +kernel
theorem dX8_image_26 : decode cX8_image 26 = .ok (.aload_n 0, 1) := by decide +kernel
theorem dX8_image_27 : decode cX8_image 27 = .ok (.getfield 19, 3) := by decide +kernel
theorem dX8_image_30 : decode cX8_image 30 = .ok (.getfield 156, 3) := by decide +kernel
theorem dX8_image_33 : decode cX8_image 33 = .ok (.ireturn, 1) := by decide +kernel
theorem dX8_restore_0 : decode cX8_restore 0 = .ok (.aload_n 0, 1) := by decide +kernel
theorem dX8_restore_1 : decode cX8_restore 1 = .ok (.getfield 106, 3) := by decide +kernel
theorem dX8_restore_4 : decode cX8_restore 4 = .ok (.ifCond .ne 6, 3) := by decide +kernel
theorem dX8_restore_7 : decode cX8_restore 7 = .ok (.bipush (-103), 2) := by decide +kernel
theorem dX8_restore_9 : decode cX8_restore 9 = .ok (.ireturn, 1) := by decide +kernel
theorem dX8_restore_10 : decode cX8_restore 10 = .ok (.aload_n 0, 1) := by decide +kernel
theorem dX8_restore_11 : decode cX8_restore 11 = .ok (.getfield 19, 3) := by decide +kernel
theorem dX8_restore_14 : decode cX8_restore 14 = .ok (.aload_n 0, 1) := by decide +kernel
theorem dX8_restore_15 : decode cX8_restore 15 = .ok (.getfield 23, 3) := by decide +kernel
theorem dX8_restore_18 : decode cX8_restore 18 = .ok (.invokevirtual 220, 3) := by decide +kernel
theorem dX8_restore_21 : decode cX8_restore 21 = .ok (.aload_n 0, 1) := by decide +kernel
theorem dX8_restore_22 : decode cX8_restore 22 = .ok (.getfield 19, 3) := by decide +kernel
theorem dX8_restore_25 : decode cX8_restore 25 = .ok (.getfield 156, 3) := by decide +kernel
theorem dX8_restore_28 : decode cX8_restore 28 = .ok (.ireturn, 1) := by decide +kernel
theorem dX8_count_0 : decode cX8_count 0 = .ok (.iload_n 1, 1) := by decide +kernel
theorem dX8_count_1 : decode cX8_count 1 = .ok (.tableswitch 118 0 8 #[51, 56, 61, 69, 77, 89, 97, 105, 113], 51) := by decide +kernel
theorem dX8_count_52 : decode cX8_count 52 = .ok (.aload_n 0, 1) := by decide +kernel
theorem dX8_count_53 : decode cX8_count 53 = .ok (.getfield 83, 3) := by decide +kernel
theorem dX8_count_56 : decode cX8_count 56 = .ok (.ireturn, 1) := by decide +kernel
theorem dX8_count_57 : decode cX8_count 57 = .ok (.aload_n 0, 1) := by decide +kernel
theorem dX8_count_58 : decode cX8_count 58 = .ok (.getfield 90, 3) := by decide +kernel
theorem dX8_count_61 : decode cX8_count 61 = .ok (.ireturn, 1) := by decide +kernel
theorem dX8_count_62 : decode cX8_count 62 = .ok (.aload_n 0, 1) := by decide +kernel
theorem dX8_count_63 : decode cX8_count 63 = .ok (.getfield 19, 3) := by decide +kernel
theorem dX8_count_66 : decode cX8_count 66 = .ok (.getfield 159, 3) := by decide +kernel
theorem dX8_count_69 : decode cX8_count 69 = .ok (.ireturn, 1) := by decide +kernel
theorem dX8_count_70 : decode cX8_count 70 = .ok (.aload_n 0, 1) := by decide +kernel
theorem dX8_count_71 : decode cX8_count 71 = .ok (.getfield 19, 3) := by decide +kernel
theorem dX8_count_74 : decode cX8_count 74 = .ok (.getfield 156, 3) := by decide +kernel
theorem dX8_count_77 : decode cX8_count 77 = .ok (.ireturn, 1) := by decide +kernel
theorem dX8_count_78 : decode cX8_count 78 = .ok (.aload_n 0, 1) := by decide +kernel
theorem dX8_count_79 : decode cX8_count 79 = .ok (.aload_n 0, 1) := by decide +kernel
theorem dX8_count_80 : decode cX8_count 80 = .ok (.getfield 19, 3) := by decide +kernel
theorem dX8_count_83 : decode cX8_count 83 = .ok (.getfield 162, 3) := by decide +kernel
theorem dX8_count_86 : decode cX8_count 86 = .ok (.invokevirtual 224, 3) := by decide +kernel
theorem dX8_count_89 : decode cX8_count 89 = .ok (.ireturn, 1) := by decide +kernel
theorem dX8_count_90 : decode cX8_count 90 = .ok (.aload_n 0, 1) := by decide +kernel
theorem dX8_count_91 : decode cX8_count 91 = .ok (.getfield 19, 3) := by decide +kernel
theorem dX8_count_94 : decode cX8_count 94 = .ok (.invokevirtual 227, 3) := by decide +kernel
theorem dX8_count_97 : decode cX8_count 97 = .ok (.ireturn, 1) := by decide +kernel
theorem dX8_count_98 : decode cX8_count 98 = .ok (.aload_n 0, 1) := by decide +kernel
theorem dX8_count_99 : decode cX8_count 99 = .ok (.getfield 19, 3) := by decide +kernel
theorem dX8_count_102 : decode cX8_count 102 = .ok (.getfield 200, 3) := by decide +kernel
theorem dX8_count_105 : decode cX8_count 105 = .ok (.ireturn, 1) := by decide +kernel
theorem dX8_count_106 : decode cX8_count 106 = .ok (.aload_n 0, 1) := by decide +kernel
theorem dX8_count_107 : decode cX8_count 107 = .ok (.getfield 12, 3) := by decide +kernel
theorem dX8_count_110 : decode cX8_count 110 = .ok (.invokevirtual 70, 3) := by decide +kernel
theorem dX8_count_113 : decode cX8_count 113 = .ok (.ireturn, 1) := by decide +kernel
theorem dX8_count_114 : decode cX8_count 114 = .ok (.aload_n 0, 1) := by decide +kernel
theorem dX8_count_115 : decode cX8_count 115 = .ok (.getfield 110, 3) := by decide +kernel
theorem dX8_count_118 : decode cX8_count 118 = .ok (.ireturn, 1) := by decide +kernel
theorem dX8_count_119 : decode cX8_count 119 = .ok (.bipush (-102), 2) := by decide +kernel
theorem dX8_count_121 : decode cX8_count 121 = .ok (.ireturn, 1) := by decide +kernel
theorem dX8_digest_0 : decode cX8_digest 0 = .ok (.ldc2_w 230, 3) := by decide +kernel
theorem dX8_digest_3 : decode cX8_digest 3 = .ok (.lstore_n 1, 1) := by decide +kernel
theorem dX8_digest_4 : decode cX8_digest 4 = .ok (.iconst 0, 1) := by decide +kernel
theorem dX8_digest_5 : decode cX8_digest 5 = .ok (.istore_n 3, 1) := by decide +kernel
theorem dX8_digest_6 : decode cX8_digest 6 = .ok (.iload_n 3, 1) := by decide +kernel
theorem dX8_digest_7 : decode cX8_digest 7 = .ok (.aload_n 0, 1) := by decide +kernel
theorem dX8_digest_8 : decode cX8_digest 8 = .ok (.getfield 83, 3) := by decide +kernel
theorem dX8_digest_11 : decode cX8_digest 11 = .ok (.if_icmp .ge 86, 3) := by decide +kernel
theorem dX8_digest_14 : decode cX8_digest 14 = .ok (.iconst 0, 1) := by decide +kernel
theorem dX8_digest_15 : decode cX8_digest 15 = .ok (.istore 4, 2) := by decide +kernel
theorem dX8_digest_17 : decode cX8_digest 17 = .ok (.iload 4, 2) := by decide +kernel
theorem dX8_digest_19 : decode cX8_digest 19 = .ok (.bipush 6, 2) := by decide +kernel
theorem dX8_digest_21 : decode cX8_digest 21 = .ok (.if_icmp .gt 22, 3) := by decide +kernel
theorem dX8_digest_24 : decode cX8_digest 24 = .ok (.lload_n 1, 1) := by decide +kernel
theorem dX8_digest_25 : decode cX8_digest 25 = .ok (.aload_n 0, 1) := by decide +kernel
theorem dX8_digest_26 : decode cX8_digest 26 = .ok (.iload_n 3, 1) := by decide +kernel
theorem dX8_digest_27 : decode cX8_digest 27 = .ok (.iload 4, 2) := by decide +kernel
theorem dX8_digest_29 : decode cX8_digest 29 = .ok (.invokevirtual 232, 3) := by decide +kernel
theorem dX8_digest_32 : decode cX8_digest 32 = .ok (.i2l, 1) := by decide +kernel
theorem dX8_digest_33 : decode cX8_digest 33 = .ok (.invokestatic 235, 3) := by decide +kernel
theorem dX8_digest_36 : decode cX8_digest 36 = .ok (.lstore_n 1, 1) := by decide +kernel
theorem dX8_digest_37 : decode cX8_digest 37 = .ok (.iinc 4 1, 3) := by decide +kernel
theorem dX8_digest_40 : decode cX8_digest 40 = .ok (.goto (-23), 3) := by decide +kernel
theorem dX8_digest_43 : decode cX8_digest 43 = .ok (.lload_n 1, 1) := by decide +kernel
theorem dX8_digest_44 : decode cX8_digest 44 = .ok (.aload_n 0, 1) := by decide +kernel
theorem dX8_digest_45 : decode cX8_digest 45 = .ok (.iload_n 3, 1) := by decide +kernel
theorem dX8_digest_46 : decode cX8_digest 46 = .ok (.iconst 0, 1) := by decide +kernel
theorem dX8_digest_47 : decode cX8_digest 47 = .ok (.invokevirtual 239, 3) := by decide +kernel
theorem dX8_digest_50 : decode cX8_digest 50 = .ok (.i2l, 1) := by decide +kernel
theorem dX8_digest_51 : decode cX8_digest 51 = .ok (.invokestatic 235, 3) := by decide +kernel
theorem dX8_digest_54 : decode cX8_digest 54 = .ok (.aload_n 0, 1) := by decide +kernel
theorem dX8_digest_55 : decode cX8_digest 55 = .ok (.iload_n 3, 1) := by decide +kernel
theorem dX8_digest_56 : decode cX8_digest 56 = .ok (.iconst 1, 1) := by decide +kernel
theorem dX8_digest_57 : decode cX8_digest 57 = .ok (.invokevirtual 239, 3) := by decide +kernel
theorem dX8_digest_60 : decode cX8_digest 60 = .ok (.i2l, 1) := by decide +kernel
theorem dX8_digest_61 : decode cX8_digest 61 = .ok (.invokestatic 235, 3) := by decide +kernel
theorem dX8_digest_64 : decode cX8_digest 64 = .ok (.lstore_n 1, 1) := by decide +kernel
theorem dX8_digest_65 : decode cX8_digest 65 = .ok (.lload_n 1, 1) := by decide +kernel
theorem dX8_digest_66 : decode cX8_digest 66 = .ok (.aload_n 0, 1) := by decide +kernel
theorem dX8_digest_67 : decode cX8_digest 67 = .ok (.iload_n 3, 1) := by decide +kernel
theorem dX8_digest_68 : decode cX8_digest 68 = .ok (.bipush 9, 2) := by decide +kernel
theorem dX8_digest_70 : decode cX8_digest 70 = .ok (.iconst 0, 1) := by decide +kernel
theorem dX8_digest_71 : decode cX8_digest 71 = .ok (.invokevirtual 242, 3) := by decide +kernel
theorem dX8_digest_74 : decode cX8_digest 74 = .ok (.i2l, 1) := by decide +kernel
theorem dX8_digest_75 : decode cX8_digest 75 = .ok (.invokestatic 235, 3) := by decide +kernel
theorem dX8_digest_78 : decode cX8_digest 78 = .ok (.aload_n 0, 1) := by decide +kernel
theorem dX8_digest_79 : decode cX8_digest 79 = .ok (.iload_n 3, 1) := by decide +kernel
theorem dX8_digest_80 : decode cX8_digest 80 = .ok (.bipush 9, 2) := by decide +kernel
theorem dX8_digest_82 : decode cX8_digest 82 = .ok (.iconst 1, 1) := by decide +kernel
theorem dX8_digest_83 : decode cX8_digest 83 = .ok (.invokevirtual 242, 3) := by decide +kernel
theorem dX8_digest_86 : decode cX8_digest 86 = .ok (.i2l, 1) := by decide +kernel
theorem dX8_digest_87 : decode cX8_digest 87 = .ok (.invokestatic 235, 3) := by decide +kernel
theorem dX8_digest_90 : decode cX8_digest 90 = .ok (.lstore_n 1, 1) := by decide +kernel
theorem dX8_digest_91 : decode cX8_digest 91 = .ok (.iinc 3 1, 3) := by decide +kernel
theorem dX8_digest_94 : decode cX8_digest 94 = .ok (.goto (-88), 3) := by decide +kernel
theorem dX8_digest_97 : decode cX8_digest 97 = .ok (.lload_n 1, 1) := by decide +kernel
theorem dX8_digest_98 : decode cX8_digest 98 = .ok (.aload_n 0, 1) := by decide +kernel
theorem dX8_digest_99 : decode cX8_digest 99 = .ok (.iconst 0, 1) := by decide +kernel
theorem dX8_digest_100 : decode cX8_digest 100 = .ok (.iconst 1, 1) := by decide +kernel
theorem dX8_digest_101 : decode cX8_digest 101 = .ok (.invokevirtual 245, 3) := by decide +kernel
theorem dX8_digest_104 : decode cX8_digest 104 = .ok (.i2l, 1) := by decide +kernel
theorem dX8_digest_105 : decode cX8_digest 105 = .ok (.invokestatic 235, 3) := by decide +kernel
theorem dX8_digest_108 : decode cX8_digest 108 = .ok (.aload_n 0, 1) := by decide +kernel
theorem dX8_digest_109 : decode cX8_digest 109 = .ok (.iconst 1, 1) := by decide +kernel
theorem dX8_digest_110 : decode cX8_digest 110 = .ok (.iconst 0, 1) := by decide +kernel
theorem dX8_digest_111 : decode cX8_digest 111 = .ok (.invokevirtual 245, 3) := by decide +kernel
theorem dX8_digest_114 : decode cX8_digest 114 = .ok (.i2l, 1) := by decide +kernel
theorem dX8_digest_115 : decode cX8_digest 115 = .ok (.invokestatic 235, 3) := by decide +kernel
theorem dX8_digest_118 : decode cX8_digest 118 = .ok (.lstore_n 1, 1) := by decide +kernel
theorem dX8_digest_119 : decode cX8_digest 119 = .ok (.aload_n 0, 1) := by decide +kernel
theorem dX8_digest_120 : decode cX8_digest 120 = .ok (.getfield 83, 3) := by decide +kernel
theorem dX8_digest_123 : decode cX8_digest 123 = .ok (.ifCond .le 13, 3) := by decide +kernel
theorem dX8_digest_126 : decode cX8_digest 126 = .ok (.lload_n 1, 1) := by decide +kernel
theorem dX8_digest_127 : decode cX8_digest 127 = .ok (.aload_n 0, 1) := by decide +kernel
theorem dX8_digest_128 : decode cX8_digest 128 = .ok (.invokevirtual 248, 3) := by decide +kernel
theorem dX8_digest_131 : decode cX8_digest 131 = .ok (.i2l, 1) := by decide +kernel
theorem dX8_digest_132 : decode cX8_digest 132 = .ok (.invokestatic 235, 3) := by decide +kernel
theorem dX8_digest_135 : decode cX8_digest 135 = .ok (.lstore_n 1, 1) := by decide +kernel
theorem dX8_digest_136 : decode cX8_digest 136 = .ok (.iconst 0, 1) := by decide +kernel
theorem dX8_digest_137 : decode cX8_digest 137 = .ok (.istore_n 3, 1) := by decide +kernel
theorem dX8_digest_138 : decode cX8_digest 138 = .ok (.iload_n 3, 1) := by decide +kernel
theorem dX8_digest_139 : decode cX8_digest 139 = .ok (.aload_n 0, 1) := by decide +kernel
theorem dX8_digest_140 : decode cX8_digest 140 = .ok (.getfield 12, 3) := by decide +kernel
theorem dX8_digest_143 : decode cX8_digest 143 = .ok (.invokevirtual 70, 3) := by decide +kernel
theorem dX8_digest_146 : decode cX8_digest 146 = .ok (.if_icmp .ge 23, 3) := by decide +kernel
theorem dX8_digest_149 : decode cX8_digest 149 = .ok (.lload_n 1, 1) := by decide +kernel
theorem dX8_digest_150 : decode cX8_digest 150 = .ok (.aload_n 0, 1) := by decide +kernel
theorem dX8_digest_151 : decode cX8_digest 151 = .ok (.getfield 12, 3) := by decide +kernel
theorem dX8_digest_154 : decode cX8_digest 154 = .ok (.iload_n 3, 1) := by decide +kernel
theorem dX8_digest_155 : decode cX8_digest 155 = .ok (.invokevirtual 251, 3) := by decide +kernel
theorem dX8_digest_158 : decode cX8_digest 158 = .ok (.i2l, 1) := by decide +kernel
theorem dX8_digest_159 : decode cX8_digest 159 = .ok (.invokestatic 235, 3) := by decide +kernel
theorem dX8_digest_162 : decode cX8_digest 162 = .ok (.lstore_n 1, 1) := by decide +kernel
theorem dX8_digest_163 : decode cX8_digest 163 = .ok (.iinc 3 1, 3) := by decide +kernel
theorem dX8_digest_166 : decode cX8_digest 166 = .ok (.goto (-28), 3) := by decide +kernel
theorem dX8_digest_169 : decode cX8_digest 169 = .ok (.iconst 0, 1) := by decide +kernel
theorem dX8_digest_170 : decode cX8_digest 170 = .ok (.istore_n 3, 1) := by decide +kernel
theorem dX8_digest_171 : decode cX8_digest 171 = .ok (.iload_n 3, 1) := by decide +kernel
theorem dX8_digest_172 : decode cX8_digest 172 = .ok (.bipush 8, 2) := by decide +kernel
theorem dX8_digest_174 : decode cX8_digest 174 = .ok (.if_icmp .gt 20, 3) := by decide +kernel
theorem dX8_digest_177 : decode cX8_digest 177 = .ok (.lload_n 1, 1) := by decide +kernel
theorem dX8_digest_178 : decode cX8_digest 178 = .ok (.aload_n 0, 1) := by decide +kernel
theorem dX8_digest_179 : decode cX8_digest 179 = .ok (.iload_n 3, 1) := by decide +kernel
theorem dX8_digest_180 : decode cX8_digest 180 = .ok (.invokevirtual 255, 3) := by decide +kernel
theorem dX8_digest_183 : decode cX8_digest 183 = .ok (.i2l, 1) := by decide +kernel
theorem dX8_digest_184 : decode cX8_digest 184 = .ok (.invokestatic 235, 3) := by decide +kernel
theorem dX8_digest_187 : decode cX8_digest 187 = .ok (.lstore_n 1, 1) := by decide +kernel
theorem dX8_digest_188 : decode cX8_digest 188 = .ok (.iinc 3 1, 3) := by decide +kernel
theorem dX8_digest_191 : decode cX8_digest 191 = .ok (.goto (-20), 3) := by decide +kernel
theorem dX8_digest_194 : decode cX8_digest 194 = .ok (.lload_n 1, 1) := by decide +kernel
theorem dX8_digest_195 : decode cX8_digest 195 = .ok (.lreturn, 1) := by decide +kernel
theorem dX8_with_0 : decode cX8_with 0 = .ok (.ldc2_w 258, 3) := by decide +kernel
theorem dX8_with_3 : decode cX8_with 3 = .ok (.lload_n 0, 1) := by decide +kernel
theorem dX8_with_4 : decode cX8_with 4 = .ok (.lmul, 1) := by decide +kernel
theorem dX8_with_5 : decode cX8_with 5 = .ok (.lload_n 2, 1) := by decide +kernel
theorem dX8_with_6 : decode cX8_with 6 = .ok (.ladd, 1) := by decide +kernel
theorem dX8_with_7 : decode cX8_with 7 = .ok (.lreturn, 1) := by decide +kernel
theorem dX8_isPlayer_0 : decode cX8_isPlayer 0 = .ok (.iload_n 1, 1) := by decide +kernel
theorem dX8_isPlayer_1 : decode cX8_isPlayer 1 = .ok (.ifCond .lt 20, 3) := by decide +kernel
theorem dX8_isPlayer_4 : decode cX8_isPlayer 4 = .ok (.iload_n 1, 1) := by decide +kernel
theorem dX8_isPlayer_5 : decode cX8_isPlayer 5 = .ok (.aload_n 0, 1) := by decide +kernel
theorem dX8_isPlayer_6 : decode cX8_isPlayer 6 = .ok (.getfield 83, 3) := by decide +kernel
theorem dX8_isPlayer_9 : decode cX8_isPlayer 9 = .ok (.if_icmp .ge 12, 3) := by decide +kernel
theorem dX8_isPlayer_12 : decode cX8_isPlayer 12 = .ok (.iload_n 1, 1) := by decide +kernel
theorem dX8_isPlayer_13 : decode cX8_isPlayer 13 = .ok (.iconst 4, 1) := by decide +kernel
theorem dX8_isPlayer_14 : decode cX8_isPlayer 14 = .ok (.if_icmp .ge 7, 3) := by decide +kernel
theorem dX8_isPlayer_17 : decode cX8_isPlayer 17 = .ok (.iconst 1, 1) := by decide +kernel
theorem dX8_isPlayer_18 : decode cX8_isPlayer 18 = .ok (.goto 4, 3) := by decide +kernel
theorem dX8_isPlayer_21 : decode cX8_isPlayer 21 = .ok (.iconst 0, 1) := by decide +kernel
theorem dX8_isPlayer_22 : decode cX8_isPlayer 22 = .ok (.ireturn, 1) := by decide +kernel
theorem dX8_isRow_0 : decode cX8_isRow 0 = .ok (.iload_n 1, 1) := by decide +kernel
theorem dX8_isRow_1 : decode cX8_isRow 1 = .ok (.ifCond .lt 17, 3) := by decide +kernel
theorem dX8_isRow_4 : decode cX8_isRow 4 = .ok (.iload_n 1, 1) := by decide +kernel
theorem dX8_isRow_5 : decode cX8_isRow 5 = .ok (.iconst 1, 1) := by decide +kernel
theorem dX8_isRow_6 : decode cX8_isRow 6 = .ok (.aload_n 0, 1) := by decide +kernel
theorem dX8_isRow_7 : decode cX8_isRow 7 = .ok (.getfield 90, 3) := by decide +kernel
theorem dX8_isRow_10 : decode cX8_isRow 10 = .ok (.ishl, 1) := by decide +kernel
theorem dX8_isRow_11 : decode cX8_isRow 11 = .ok (.if_icmp .ge 7, 3) := by decide +kernel
theorem dX8_isRow_14 : decode cX8_isRow 14 = .ok (.iconst 1, 1) := by decide +kernel
theorem dX8_isRow_15 : decode cX8_isRow 15 = .ok (.goto 4, 3) := by decide +kernel
theorem dX8_isRow_18 : decode cX8_isRow 18 = .ok (.iconst 0, 1) := by decide +kernel
theorem dX8_isRow_19 : decode cX8_isRow 19 = .ok (.ireturn, 1) := by decide +kernel
theorem dX8_isKind_0 : decode cX8_isKind 0 = .ok (.iload_n 1, 1) := by decide +kernel
theorem dX8_isKind_1 : decode cX8_isKind 1 = .ok (.ifCond .lt 16, 3) := by decide +kernel
theorem dX8_isKind_4 : decode cX8_isKind 4 = .ok (.iload_n 1, 1) := by decide +kernel
theorem dX8_isKind_5 : decode cX8_isKind 5 = .ok (.aload_n 0, 1) := by decide +kernel
theorem dX8_isKind_6 : decode cX8_isKind 6 = .ok (.getfield 48, 3) := by decide +kernel
theorem dX8_isKind_9 : decode cX8_isKind 9 = .ok (.arraylength, 1) := by decide +kernel
theorem dX8_isKind_10 : decode cX8_isKind 10 = .ok (.if_icmp .ge 7, 3) := by decide +kernel
theorem dX8_isKind_13 : decode cX8_isKind 13 = .ok (.iconst 1, 1) := by decide +kernel
theorem dX8_isKind_14 : decode cX8_isKind 14 = .ok (.goto 4, 3) := by decide +kernel
theorem dX8_isKind_17 : decode cX8_isKind 17 = .ok (.iconst 0, 1) := by decide +kernel
theorem dX8_isKind_18 : decode cX8_isKind 18 = .ok (.ireturn, 1) := by decide +kernel
theorem dX8_kindAt_0 : decode cX8_kindAt 0 = .ok (.aload_n 0, 1) := by decide +kernel
theorem dX8_kindAt_1 : decode cX8_kindAt 1 = .ok (.iload_n 1, 1) := by decide +kernel
theorem dX8_kindAt_2 : decode cX8_kindAt 2 = .ok (.invokevirtual 138, 3) := by decide +kernel
theorem dX8_kindAt_5 : decode cX8_kindAt 5 = .ok (.ifCond .eq 12, 3) := by decide +kernel
theorem dX8_kindAt_8 : decode cX8_kindAt 8 = .ok (.aload_n 0, 1) := by decide +kernel
theorem dX8_kindAt_9 : decode cX8_kindAt 9 = .ok (.getfield 48, 3) := by decide +kernel
theorem dX8_kindAt_12 : decode cX8_kindAt 12 = .ok (.iload_n 1, 1) := by decide +kernel
theorem dX8_kindAt_13 : decode cX8_kindAt 13 = .ok (.aaload, 1) := by decide +kernel
theorem dX8_kindAt_14 : decode cX8_kindAt 14 = .ok (.goto 9, 3) := by decide +kernel
theorem dX8_kindAt_17 : decode cX8_kindAt 17 = .ok (.aload_n 0, 1) := by decide +kernel
theorem dX8_kindAt_18 : decode cX8_kindAt 18 = .ok (.getfield 48, 3) := by decide +kernel
theorem dX8_kindAt_21 : decode cX8_kindAt 21 = .ok (.iconst 0, 1) := by decide +kernel
theorem dX8_kindAt_22 : decode cX8_kindAt 22 = .ok (.aaload, 1) := by decide +kernel
theorem dX8_kindAt_23 : decode cX8_kindAt 23 = .ok (.areturn, 1) := by decide +kernel
theorem dX8_isSuch_0 : decode cX8_isSuch 0 = .ok (.iload_n 1, 1) := by decide +kernel
theorem dX8_isSuch_1 : decode cX8_isSuch 1 = .ok (.tableswitch 57 0 4 #[35, 37, 42, 47, 52], 35) := by decide +kernel
theorem dX8_isSuch_36 : decode cX8_isSuch 36 = .ok (.iconst 1, 1) := by decide +kernel
theorem dX8_isSuch_37 : decode cX8_isSuch 37 = .ok (.ireturn, 1) := by decide +kernel
theorem dX8_isSuch_38 : decode cX8_isSuch 38 = .ok (.aload_n 0, 1) := by decide +kernel
theorem dX8_isSuch_39 : decode cX8_isSuch 39 = .ok (.instanceof 36, 3) := by decide +kernel
theorem dX8_isSuch_42 : decode cX8_isSuch 42 = .ok (.ireturn, 1) := by decide +kernel
theorem dX8_isSuch_43 : decode cX8_isSuch 43 = .ok (.aload_n 0, 1) := by decide +kernel
theorem dX8_isSuch_44 : decode cX8_isSuch 44 = .ok (.instanceof 39, 3) := by decide +kernel
theorem dX8_isSuch_47 : decode cX8_isSuch 47 = .ok (.ireturn, 1) := by decide +kernel
theorem dX8_isSuch_48 : decode cX8_isSuch 48 = .ok (.aload_n 0, 1) := by decide +kernel
theorem dX8_isSuch_49 : decode cX8_isSuch 49 = .ok (.instanceof 42, 3) := by decide +kernel
theorem dX8_isSuch_52 : decode cX8_isSuch 52 = .ok (.ireturn, 1) := by decide +kernel
theorem dX8_isSuch_53 : decode cX8_isSuch 53 = .ok (.aload_n 0, 1) := by decide +kernel
theorem dX8_isSuch_54 : decode cX8_isSuch 54 = .ok (.instanceof 45, 3) := by decide +kernel
theorem dX8_isSuch_57 : decode cX8_isSuch 57 = .ok (.ireturn, 1) := by decide +kernel
theorem dX8_isSuch_58 : decode cX8_isSuch 58 = .ok (.iconst 0, 1) := by decide +kernel
theorem dX8_isSuch_59 : decode cX8_isSuch 59 = .ok (.ireturn, 1) := by decide +kernel
theorem dX8_rowsHitBy_0 : decode cX8_rowsHitBy 0 = .ok (.aload_n 0, 1) := by decide +kernel
theorem dX8_rowsHitBy_1 : decode cX8_rowsHitBy 1 = .ok (.iload_n 1, 1) := by decide +kernel
theorem dX8_rowsHitBy_2 : decode cX8_rowsHitBy 2 = .ok (.invokevirtual 113, 3) := by decide +kernel
theorem dX8_rowsHitBy_5 : decode cX8_rowsHitBy 5 = .ok (.ifCond .eq 35, 3) := by decide +kernel
theorem dX8_rowsHitBy_8 : decode cX8_rowsHitBy 8 = .ok (.aload_n 0, 1) := by decide +kernel
theorem dX8_rowsHitBy_9 : decode cX8_rowsHitBy 9 = .ok (.aload_n 0, 1) := by decide +kernel
theorem dX8_rowsHitBy_10 : decode cX8_rowsHitBy 10 = .ok (.getfield 19, 3) := by decide +kernel
theorem dX8_rowsHitBy_13 : decode cX8_rowsHitBy 13 = .ok (.getfield 93, 3) := by decide +kernel
theorem dX8_rowsHitBy_16 : decode cX8_rowsHitBy 16 = .ok (.iload_n 1, 1) := by decide +kernel
theorem dX8_rowsHitBy_17 : decode cX8_rowsHitBy 17 = .ok (.iaload, 1) := by decide +kernel
theorem dX8_rowsHitBy_18 : decode cX8_rowsHitBy 18 = .ok (.invokevirtual 141, 3) := by decide +kernel
theorem dX8_rowsHitBy_21 : decode cX8_rowsHitBy 21 = .ok (.aload_n 0, 1) := by decide +kernel
theorem dX8_rowsHitBy_22 : decode cX8_rowsHitBy 22 = .ok (.getfield 19, 3) := by decide +kernel
theorem dX8_rowsHitBy_25 : decode cX8_rowsHitBy 25 = .ok (.getfield 100, 3) := by decide +kernel
theorem dX8_rowsHitBy_28 : decode cX8_rowsHitBy 28 = .ok (.iload_n 1, 1) := by decide +kernel
theorem dX8_rowsHitBy_29 : decode cX8_rowsHitBy 29 = .ok (.iaload, 1) := by decide +kernel
theorem dX8_rowsHitBy_30 : decode cX8_rowsHitBy 30 = .ok (.aload_n 0, 1) := by decide +kernel
theorem dX8_rowsHitBy_31 : decode cX8_rowsHitBy 31 = .ok (.getfield 90, 3) := by decide +kernel
theorem dX8_rowsHitBy_34 : decode cX8_rowsHitBy 34 = .ok (.invokevirtual 260, 3) := by decide +kernel
theorem dX8_rowsHitBy_37 : decode cX8_rowsHitBy 37 = .ok (.goto 4, 3) := by decide +kernel
theorem dX8_rowsHitBy_40 : decode cX8_rowsHitBy 40 = .ok (.iconst 0, 1) := by decide +kernel
theorem dX8_rowsHitBy_41 : decode cX8_rowsHitBy 41 = .ok (.ireturn, 1) := by decide +kernel
theorem dX8_has_0 : decode cX8_has 0 = .ok (.iload_n 0, 1) := by decide +kernel
theorem dX8_has_1 : decode cX8_has 1 = .ok (.iload_n 1, 1) := by decide +kernel
theorem dX8_has_2 : decode cX8_has 2 = .ok (.ishr, 1) := by decide +kernel
theorem dX8_has_3 : decode cX8_has 3 = .ok (.iconst 1, 1) := by decide +kernel
theorem dX8_has_4 : decode cX8_has 4 = .ok (.iand, 1) := by decide +kernel
theorem dX8_has_5 : decode cX8_has 5 = .ok (.iconst 1, 1) := by decide +kernel
theorem dX8_has_6 : decode cX8_has 6 = .ok (.if_icmp .ne 7, 3) := by decide +kernel
theorem dX8_has_9 : decode cX8_has 9 = .ok (.iconst 1, 1) := by decide +kernel
theorem dX8_has_10 : decode cX8_has 10 = .ok (.goto 4, 3) := by decide +kernel
theorem dX8_has_13 : decode cX8_has 13 = .ok (.iconst 0, 1) := by decide +kernel
theorem dX8_has_14 : decode cX8_has 14 = .ok (.ireturn, 1) := by decide +kernel
theorem dX8_trackBehind_0 : decode cX8_trackBehind 0 = .ok (.iconst 2, 1) := by decide +kernel
theorem dX8_trackBehind_1 : decode cX8_trackBehind 1 = .ok (.iload_n 1, 1) := by decide +kernel
theorem dX8_trackBehind_2 : decode cX8_trackBehind 2 = .ok (.imul, 1) := by decide +kernel
theorem dX8_trackBehind_3 : decode cX8_trackBehind 3 = .ok (.iload_n 2, 1) := by decide +kernel
theorem dX8_trackBehind_4 : decode cX8_trackBehind 4 = .ok (.iadd, 1) := by decide +kernel
theorem dX8_trackBehind_5 : decode cX8_trackBehind 5 = .ok (.istore_n 3, 1) := by decide +kernel
theorem dX8_trackBehind_6 : decode cX8_trackBehind 6 = .ok (.iconst 1, 1) := by decide +kernel
theorem dX8_trackBehind_7 : decode cX8_trackBehind 7 = .ok (.aload_n 0, 1) := by decide +kernel
theorem dX8_trackBehind_8 : decode cX8_trackBehind 8 = .ok (.getfield 90, 3) := by decide +kernel
theorem dX8_trackBehind_11 : decode cX8_trackBehind 11 = .ok (.ishl, 1) := by decide +kernel
theorem dX8_trackBehind_12 : decode cX8_trackBehind 12 = .ok (.istore 4, 2) := by decide +kernel
theorem dX8_trackBehind_14 : decode cX8_trackBehind 14 = .ok (.iload_n 3, 1) := by decide +kernel
theorem dX8_trackBehind_15 : decode cX8_trackBehind 15 = .ok (.iconst 2, 1) := by decide +kernel
theorem dX8_trackBehind_16 : decode cX8_trackBehind 16 = .ok (.iload 4, 2) := by decide +kernel
theorem dX8_trackBehind_18 : decode cX8_trackBehind 18 = .ok (.imul, 1) := by decide +kernel
theorem dX8_trackBehind_19 : decode cX8_trackBehind 19 = .ok (.if_icmp .ge 7, 3) := by decide +kernel
theorem dX8_trackBehind_22 : decode cX8_trackBehind 22 = .ok (.iload_n 3, 1) := by decide +kernel
theorem dX8_trackBehind_23 : decode cX8_trackBehind 23 = .ok (.goto 12, 3) := by decide +kernel
theorem dX8_trackBehind_26 : decode cX8_trackBehind 26 = .ok (.iload 4, 2) := by decide +kernel
theorem dX8_trackBehind_28 : decode cX8_trackBehind 28 = .ok (.iload_n 3, 1) := by decide +kernel
theorem dX8_trackBehind_29 : decode cX8_trackBehind 29 = .ok (.iload 4, 2) := by decide +kernel
theorem dX8_trackBehind_31 : decode cX8_trackBehind 31 = .ok (.iconst 1, 1) := by decide +kernel
theorem dX8_trackBehind_32 : decode cX8_trackBehind 32 = .ok (.isub, 1) := by decide +kernel
theorem dX8_trackBehind_33 : decode cX8_trackBehind 33 = .ok (.iand, 1) := by decide +kernel
theorem dX8_trackBehind_34 : decode cX8_trackBehind 34 = .ok (.iadd, 1) := by decide +kernel
theorem dX8_trackBehind_35 : decode cX8_trackBehind 35 = .ok (.ireturn, 1) := by decide +kernel
theorem dX8_tailOf_0 : decode cX8_tailOf 0 = .ok (.iconst 1, 1) := by decide +kernel
theorem dX8_tailOf_1 : decode cX8_tailOf 1 = .ok (.aload_n 0, 1) := by decide +kernel
theorem dX8_tailOf_2 : decode cX8_tailOf 2 = .ok (.getfield 90, 3) := by decide +kernel
theorem dX8_tailOf_5 : decode cX8_tailOf 5 = .ok (.ishl, 1) := by decide +kernel
theorem dX8_tailOf_6 : decode cX8_tailOf 6 = .ok (.istore_n 2, 1) := by decide +kernel
theorem dX8_tailOf_7 : decode cX8_tailOf 7 = .ok (.aload_n 0, 1) := by decide +kernel
theorem dX8_tailOf_8 : decode cX8_tailOf 8 = .ok (.getfield 83, 3) := by decide +kernel
theorem dX8_tailOf_11 : decode cX8_tailOf 11 = .ok (.ifCond .le 14, 3) := by decide +kernel
theorem dX8_tailOf_14 : decode cX8_tailOf 14 = .ok (.iload_n 1, 1) := by decide +kernel
theorem dX8_tailOf_15 : decode cX8_tailOf 15 = .ok (.iload_n 2, 1) := by decide +kernel
theorem dX8_tailOf_16 : decode cX8_tailOf 16 = .ok (.if_icmp .lt 9, 3) := by decide +kernel
theorem dX8_tailOf_19 : decode cX8_tailOf 19 = .ok (.iload_n 1, 1) := by decide +kernel
theorem dX8_tailOf_20 : decode cX8_tailOf 20 = .ok (.iload_n 2, 1) := by decide +kernel
theorem dX8_tailOf_21 : decode cX8_tailOf 21 = .ok (.isub, 1) := by decide +kernel
theorem dX8_tailOf_22 : decode cX8_tailOf 22 = .ok (.goto 4, 3) := by decide +kernel
theorem dX8_tailOf_25 : decode cX8_tailOf 25 = .ok (.iconst (-1), 1) := by decide +kernel
theorem dX8_tailOf_26 : decode cX8_tailOf 26 = .ok (.ireturn, 1) := by decide +kernel
theorem dX8_hittersAt_0 : decode cX8_hittersAt 0 = .ok (.aload_n 0, 1) := by decide +kernel
theorem dX8_hittersAt_1 : decode cX8_hittersAt 1 = .ok (.iload_n 1, 1) := by decide +kernel
theorem dX8_hittersAt_2 : decode cX8_hittersAt 2 = .ok (.invokevirtual 224, 3) := by decide +kernel
theorem dX8_hittersAt_5 : decode cX8_hittersAt 5 = .ok (.istore_n 2, 1) := by decide +kernel
theorem dX8_hittersAt_6 : decode cX8_hittersAt 6 = .ok (.iload_n 2, 1) := by decide +kernel
theorem dX8_hittersAt_7 : decode cX8_hittersAt 7 = .ok (.iconst (-1), 1) := by decide +kernel
theorem dX8_hittersAt_8 : decode cX8_hittersAt 8 = .ok (.if_icmp .ne 5, 3) := by decide +kernel
theorem dX8_hittersAt_11 : decode cX8_hittersAt 11 = .ok (.iconst 0, 1) := by decide +kernel
theorem dX8_hittersAt_12 : decode cX8_hittersAt 12 = .ok (.ireturn, 1) := by decide +kernel
theorem dX8_hittersAt_13 : decode cX8_hittersAt 13 = .ok (.iconst 0, 1) := by decide +kernel
theorem dX8_hittersAt_14 : decode cX8_hittersAt 14 = .ok (.istore_n 3, 1) := by decide +kernel
theorem dX8_hittersAt_15 : decode cX8_hittersAt 15 = .ok (.iconst 0, 1) := by decide +kernel
theorem dX8_hittersAt_16 : decode cX8_hittersAt 16 = .ok (.istore 4, 2) := by decide +kernel
theorem dX8_hittersAt_18 : decode cX8_hittersAt 18 = .ok (.iload 4, 2) := by decide +kernel
theorem dX8_hittersAt_20 : decode cX8_hittersAt 20 = .ok (.aload_n 0, 1) := by decide +kernel
theorem dX8_hittersAt_21 : decode cX8_hittersAt 21 = .ok (.getfield 83, 3) := by decide +kernel
theorem dX8_hittersAt_24 : decode cX8_hittersAt 24 = .ok (.if_icmp .ge 29, 3) := by decide +kernel
theorem dX8_hittersAt_27 : decode cX8_hittersAt 27 = .ok (.aload_n 0, 1) := by decide +kernel
theorem dX8_hittersAt_28 : decode cX8_hittersAt 28 = .ok (.iload 4, 2) := by decide +kernel
theorem dX8_hittersAt_30 : decode cX8_hittersAt 30 = .ok (.invokevirtual 120, 3) := by decide +kernel
theorem dX8_hittersAt_33 : decode cX8_hittersAt 33 = .ok (.iload_n 2, 1) := by decide +kernel
theorem dX8_hittersAt_34 : decode cX8_hittersAt 34 = .ok (.invokestatic 152, 3) := by decide +kernel
theorem dX8_hittersAt_37 : decode cX8_hittersAt 37 = .ok (.ifCond .eq 10, 3) := by decide +kernel
theorem dX8_hittersAt_40 : decode cX8_hittersAt 40 = .ok (.iload_n 3, 1) := by decide +kernel
theorem dX8_hittersAt_41 : decode cX8_hittersAt 41 = .ok (.iconst 1, 1) := by decide +kernel
theorem dX8_hittersAt_42 : decode cX8_hittersAt 42 = .ok (.iload 4, 2) := by decide +kernel
theorem dX8_hittersAt_44 : decode cX8_hittersAt 44 = .ok (.ishl, 1) := by decide +kernel
theorem dX8_hittersAt_45 : decode cX8_hittersAt 45 = .ok (.ior, 1) := by decide +kernel
theorem dX8_hittersAt_46 : decode cX8_hittersAt 46 = .ok (.istore_n 3, 1) := by decide +kernel
theorem dX8_hittersAt_47 : decode cX8_hittersAt 47 = .ok (.iinc 4 1, 3) := by decide +kernel
theorem dX8_hittersAt_50 : decode cX8_hittersAt 50 = .ok (.goto (-32), 3) := by decide +kernel
theorem dX8_hittersAt_53 : decode cX8_hittersAt 53 = .ok (.iload_n 3, 1) := by decide +kernel
theorem dX8_hittersAt_54 : decode cX8_hittersAt 54 = .ok (.ireturn, 1) := by decide +kernel
theorem dX8_addWins_0 : decode cX8_addWins 0 = .ok (.iconst 0, 1) := by decide +kernel
theorem dX8_addWins_1 : decode cX8_addWins 1 = .ok (.istore_n 2, 1) := by decide +kernel
theorem dX8_addWins_2 : decode cX8_addWins 2 = .ok (.iload_n 2, 1) := by decide +kernel
theorem dX8_addWins_3 : decode cX8_addWins 3 = .ok (.aload_n 1, 1) := by decide +kernel
theorem dX8_addWins_4 : decode cX8_addWins 4 = .ok (.arraylength, 1) := by decide +kernel
theorem dX8_addWins_5 : decode cX8_addWins 5 = .ok (.if_icmp .ge 28, 3) := by decide +kernel
theorem dX8_addWins_8 : decode cX8_addWins 8 = .ok (.aload_n 1, 1) := by decide +kernel
theorem dX8_addWins_9 : decode cX8_addWins 9 = .ok (.iload_n 2, 1) := by decide +kernel
theorem dX8_addWins_10 : decode cX8_addWins 10 = .ok (.dup2, 1) := by decide +kernel
theorem dX8_addWins_11 : decode cX8_addWins 11 = .ok (.iaload, 1) := by decide +kernel
theorem dX8_addWins_12 : decode cX8_addWins 12 = .ok (.iload_n 0, 1) := by decide +kernel
theorem dX8_addWins_13 : decode cX8_addWins 13 = .ok (.iload_n 2, 1) := by decide +kernel
theorem dX8_addWins_14 : decode cX8_addWins 14 = .ok (.invokestatic 152, 3) := by decide +kernel
theorem dX8_addWins_17 : decode cX8_addWins 17 = .ok (.ifCond .eq 7, 3) := by decide +kernel
theorem dX8_addWins_20 : decode cX8_addWins 20 = .ok (.iconst 1, 1) := by decide +kernel
theorem dX8_addWins_21 : decode cX8_addWins 21 = .ok (.goto 4, 3) := by decide +kernel
theorem dX8_addWins_24 : decode cX8_addWins 24 = .ok (.iconst 0, 1) := by decide +kernel
theorem dX8_addWins_25 : decode cX8_addWins 25 = .ok (.iadd, 1) := by decide +kernel
theorem dX8_addWins_26 : decode cX8_addWins 26 = .ok (.iastore, 1) := by decide +kernel
theorem dX8_addWins_27 : decode cX8_addWins 27 = .ok (.iinc 2 1, 3) := by decide +kernel
theorem dX8_addWins_30 : decode cX8_addWins 30 = .ok (.goto (-28), 3) := by decide +kernel
theorem dX8_addWins_33 : decode cX8_addWins 33 = .ok (.return_, 1) := by decide +kernel
theorem dX8_mostWins_0 : decode cX8_mostWins 0 = .ok (.iconst 0, 1) := by decide +kernel
theorem dX8_mostWins_1 : decode cX8_mostWins 1 = .ok (.istore_n 1, 1) := by decide +kernel
theorem dX8_mostWins_2 : decode cX8_mostWins 2 = .ok (.iconst 1, 1) := by decide +kernel
theorem dX8_mostWins_3 : decode cX8_mostWins 3 = .ok (.istore_n 2, 1) := by decide +kernel
theorem dX8_mostWins_4 : decode cX8_mostWins 4 = .ok (.iload_n 2, 1) := by decide +kernel
theorem dX8_mostWins_5 : decode cX8_mostWins 5 = .ok (.aload_n 0, 1) := by decide +kernel
theorem dX8_mostWins_6 : decode cX8_mostWins 6 = .ok (.getfield 83, 3) := by decide +kernel
theorem dX8_mostWins_9 : decode cX8_mostWins 9 = .ok (.if_icmp .ge 35, 3) := by decide +kernel
theorem dX8_mostWins_12 : decode cX8_mostWins 12 = .ok (.iload_n 2, 1) := by decide +kernel
theorem dX8_mostWins_13 : decode cX8_mostWins 13 = .ok (.aload_n 0, 1) := by decide +kernel
theorem dX8_mostWins_14 : decode cX8_mostWins 14 = .ok (.getfield 52, 3) := by decide +kernel
theorem dX8_mostWins_17 : decode cX8_mostWins 17 = .ok (.arraylength, 1) := by decide +kernel
theorem dX8_mostWins_18 : decode cX8_mostWins 18 = .ok (.if_icmp .ge 26, 3) := by decide +kernel
theorem dX8_mostWins_21 : decode cX8_mostWins 21 = .ok (.aload_n 0, 1) := by decide +kernel
theorem dX8_mostWins_22 : decode cX8_mostWins 22 = .ok (.getfield 52, 3) := by decide +kernel
theorem dX8_mostWins_25 : decode cX8_mostWins 25 = .ok (.iload_n 2, 1) := by decide +kernel
theorem dX8_mostWins_26 : decode cX8_mostWins 26 = .ok (.iaload, 1) := by decide +kernel
theorem dX8_mostWins_27 : decode cX8_mostWins 27 = .ok (.aload_n 0, 1) := by decide +kernel
theorem dX8_mostWins_28 : decode cX8_mostWins 28 = .ok (.getfield 52, 3) := by decide +kernel
theorem dX8_mostWins_31 : decode cX8_mostWins 31 = .ok (.iload_n 1, 1) := by decide +kernel
theorem dX8_mostWins_32 : decode cX8_mostWins 32 = .ok (.iaload, 1) := by decide +kernel
theorem dX8_mostWins_33 : decode cX8_mostWins 33 = .ok (.if_icmp .le 5, 3) := by decide +kernel
theorem dX8_mostWins_36 : decode cX8_mostWins 36 = .ok (.iload_n 2, 1) := by decide +kernel
theorem dX8_mostWins_37 : decode cX8_mostWins 37 = .ok (.istore_n 1, 1) := by decide +kernel
theorem dX8_mostWins_38 : decode cX8_mostWins 38 = .ok (.iinc 2 1, 3) := by decide +kernel
theorem dX8_mostWins_41 : decode cX8_mostWins 41 = .ok (.goto (-37), 3) := by decide +kernel
theorem dX8_mostWins_44 : decode cX8_mostWins 44 = .ok (.iload_n 1, 1) := by decide +kernel
theorem dX8_mostWins_45 : decode cX8_mostWins 45 = .ok (.ireturn, 1) := by decide +kernel
theorem dX8_nextSeed_0 : decode cX8_nextSeed 0 = .ok (.ldc2_w 263, 3) := by decide +kernel
theorem dX8_nextSeed_3 : decode cX8_nextSeed 3 = .ok (.iload_n 0, 1) := by decide +kernel
theorem dX8_nextSeed_4 : decode cX8_nextSeed 4 = .ok (.i2l, 1) := by decide +kernel
theorem dX8_nextSeed_5 : decode cX8_nextSeed 5 = .ok (.lmul, 1) := by decide +kernel
theorem dX8_nextSeed_6 : decode cX8_nextSeed 6 = .ok (.ldc2_w 265, 3) := by decide +kernel
theorem dX8_nextSeed_9 : decode cX8_nextSeed 9 = .ok (.ladd, 1) := by decide +kernel
theorem dX8_nextSeed_10 : decode cX8_nextSeed 10 = .ok (.ldc2_w 267, 3) := by decide +kernel
theorem dX8_nextSeed_13 : decode cX8_nextSeed 13 = .ok (.land, 1) := by decide +kernel
theorem dX8_nextSeed_14 : decode cX8_nextSeed 14 = .ok (.l2i, 1) := by decide +kernel
theorem dX8_nextSeed_15 : decode cX8_nextSeed 15 = .ok (.ireturn, 1) := by decide +kernel
theorem dX8_bestAgainst_0 : decode cX8_bestAgainst 0 = .ok (.iconst 0, 1) := by decide +kernel
theorem dX8_bestAgainst_1 : decode cX8_bestAgainst 1 = .ok (.istore_n 2, 1) := by decide +kernel
theorem dX8_bestAgainst_2 : decode cX8_bestAgainst 2 = .ok (.iconst (-1), 1) := by decide +kernel
theorem dX8_bestAgainst_3 : decode cX8_bestAgainst 3 = .ok (.istore_n 3, 1) := by decide +kernel
theorem dX8_bestAgainst_4 : decode cX8_bestAgainst 4 = .ok (.iconst 0, 1) := by decide +kernel
theorem dX8_bestAgainst_5 : decode cX8_bestAgainst 5 = .ok (.istore 4, 2) := by decide +kernel
theorem dX8_bestAgainst_7 : decode cX8_bestAgainst 7 = .ok (.iload 4, 2) := by decide +kernel
theorem dX8_bestAgainst_9 : decode cX8_bestAgainst 9 = .ok (.iconst 1, 1) := by decide +kernel
theorem dX8_bestAgainst_10 : decode cX8_bestAgainst 10 = .ok (.aload_n 0, 1) := by decide +kernel
theorem dX8_bestAgainst_11 : decode cX8_bestAgainst 11 = .ok (.getfield 90, 3) := by decide +kernel
theorem dX8_bestAgainst_14 : decode cX8_bestAgainst 14 = .ok (.ishl, 1) := by decide +kernel
theorem dX8_bestAgainst_15 : decode cX8_bestAgainst 15 = .ok (.if_icmp .ge 48, 3) := by decide +kernel
theorem dX8_bestAgainst_18 : decode cX8_bestAgainst 18 = .ok (.iload_n 1, 1) := by decide +kernel
theorem dX8_bestAgainst_19 : decode cX8_bestAgainst 19 = .ok (.iload 4, 2) := by decide +kernel
theorem dX8_bestAgainst_21 : decode cX8_bestAgainst 21 = .ok (.invokestatic 152, 3) := by decide +kernel
theorem dX8_bestAgainst_24 : decode cX8_bestAgainst 24 = .ok (.ifCond .ne 33, 3) := by decide +kernel
theorem dX8_bestAgainst_27 : decode cX8_bestAgainst 27 = .ok (.aload_n 0, 1) := by decide +kernel
theorem dX8_bestAgainst_28 : decode cX8_bestAgainst 28 = .ok (.getfield 29, 3) := by decide +kernel
theorem dX8_bestAgainst_31 : decode cX8_bestAgainst 31 = .ok (.iconst 1, 1) := by decide +kernel
theorem dX8_bestAgainst_32 : decode cX8_bestAgainst 32 = .ok (.iload 4, 2) := by decide +kernel
theorem dX8_bestAgainst_34 : decode cX8_bestAgainst 34 = .ok (.ishl, 1) := by decide +kernel
theorem dX8_bestAgainst_35 : decode cX8_bestAgainst 35 = .ok (.iload_n 1, 1) := by decide +kernel
theorem dX8_bestAgainst_36 : decode cX8_bestAgainst 36 = .ok (.aload_n 0, 1) := by decide +kernel
theorem dX8_bestAgainst_37 : decode cX8_bestAgainst 37 = .ok (.getfield 90, 3) := by decide +kernel
theorem dX8_bestAgainst_40 : decode cX8_bestAgainst 40 = .ok (.invokevirtual 178, 3) := by decide +kernel
theorem dX8_bestAgainst_43 : decode cX8_bestAgainst 43 = .ok (.istore 5, 2) := by decide +kernel
theorem dX8_bestAgainst_45 : decode cX8_bestAgainst 45 = .ok (.iload 5, 2) := by decide +kernel
theorem dX8_bestAgainst_47 : decode cX8_bestAgainst 47 = .ok (.iload_n 3, 1) := by decide +kernel
theorem dX8_bestAgainst_48 : decode cX8_bestAgainst 48 = .ok (.if_icmp .le 9, 3) := by decide +kernel
theorem dX8_bestAgainst_51 : decode cX8_bestAgainst 51 = .ok (.iload 5, 2) := by decide +kernel
theorem dX8_bestAgainst_53 : decode cX8_bestAgainst 53 = .ok (.istore_n 3, 1) := by decide +kernel
theorem dX8_bestAgainst_54 : decode cX8_bestAgainst 54 = .ok (.iload 4, 2) := by decide +kernel
theorem dX8_bestAgainst_56 : decode cX8_bestAgainst 56 = .ok (.istore_n 2, 1) := by decide +kernel
theorem dX8_bestAgainst_57 : decode cX8_bestAgainst 57 = .ok (.iinc 4 1, 3) := by decide +kernel
theorem dX8_bestAgainst_60 : decode cX8_bestAgainst 60 = .ok (.goto (-53), 3) := by decide +kernel
theorem dX8_bestAgainst_63 : decode cX8_bestAgainst 63 = .ok (.iload_n 2, 1) := by decide +kernel
theorem dX8_bestAgainst_64 : decode cX8_bestAgainst 64 = .ok (.ireturn, 1) := by decide +kernel
theorem dX8_dangerOf_0 : decode cX8_dangerOf 0 = .ok (.aload_n 0, 1) := by decide +kernel
theorem dX8_dangerOf_1 : decode cX8_dangerOf 1 = .ok (.getfield 29, 3) := by decide +kernel
theorem dX8_dangerOf_4 : decode cX8_dangerOf 4 = .ok (.iconst 1, 1) := by decide +kernel
theorem dX8_dangerOf_5 : decode cX8_dangerOf 5 = .ok (.aload_n 0, 1) := by decide +kernel
theorem dX8_dangerOf_6 : decode cX8_dangerOf 6 = .ok (.iconst 1, 1) := by decide +kernel
theorem dX8_dangerOf_7 : decode cX8_dangerOf 7 = .ok (.iload_n 1, 1) := by decide +kernel
theorem dX8_dangerOf_8 : decode cX8_dangerOf 8 = .ok (.ishl, 1) := by decide +kernel
theorem dX8_dangerOf_9 : decode cX8_dangerOf 9 = .ok (.invokevirtual 182, 3) := by decide +kernel
theorem dX8_dangerOf_12 : decode cX8_dangerOf 12 = .ok (.ishl, 1) := by decide +kernel
theorem dX8_dangerOf_13 : decode cX8_dangerOf 13 = .ok (.iconst 1, 1) := by decide +kernel
theorem dX8_dangerOf_14 : decode cX8_dangerOf 14 = .ok (.iload_n 1, 1) := by decide +kernel
theorem dX8_dangerOf_15 : decode cX8_dangerOf 15 = .ok (.ishl, 1) := by decide +kernel
theorem dX8_dangerOf_16 : decode cX8_dangerOf 16 = .ok (.aload_n 0, 1) := by decide +kernel
theorem dX8_dangerOf_17 : decode cX8_dangerOf 17 = .ok (.getfield 90, 3) := by decide +kernel
theorem dX8_dangerOf_20 : decode cX8_dangerOf 20 = .ok (.invokevirtual 178, 3) := by decide +kernel
theorem dX8_dangerOf_23 : decode cX8_dangerOf 23 = .ok (.ireturn, 1) := by decide +kernel
theorem dX8_bestToOpen_0 : decode cX8_bestToOpen 0 = .ok (.iconst 0, 1) := by decide +kernel
theorem dX8_bestToOpen_1 : decode cX8_bestToOpen 1 = .ok (.istore_n 1, 1) := by decide +kernel
theorem dX8_bestToOpen_2 : decode cX8_bestToOpen 2 = .ok (.ldc_w 269, 3) := by decide +kernel
theorem dX8_bestToOpen_5 : decode cX8_bestToOpen 5 = .ok (.istore_n 2, 1) := by decide +kernel
theorem dX8_bestToOpen_6 : decode cX8_bestToOpen 6 = .ok (.iconst 0, 1) := by decide +kernel
theorem dX8_bestToOpen_7 : decode cX8_bestToOpen 7 = .ok (.istore_n 3, 1) := by decide +kernel
theorem dX8_bestToOpen_8 : decode cX8_bestToOpen 8 = .ok (.iload_n 3, 1) := by decide +kernel
theorem dX8_bestToOpen_9 : decode cX8_bestToOpen 9 = .ok (.iconst 1, 1) := by decide +kernel
theorem dX8_bestToOpen_10 : decode cX8_bestToOpen 10 = .ok (.aload_n 0, 1) := by decide +kernel
theorem dX8_bestToOpen_11 : decode cX8_bestToOpen 11 = .ok (.getfield 90, 3) := by decide +kernel
theorem dX8_bestToOpen_14 : decode cX8_bestToOpen 14 = .ok (.ishl, 1) := by decide +kernel
theorem dX8_bestToOpen_15 : decode cX8_bestToOpen 15 = .ok (.if_icmp .ge 27, 3) := by decide +kernel
theorem dX8_bestToOpen_18 : decode cX8_bestToOpen 18 = .ok (.aload_n 0, 1) := by decide +kernel
theorem dX8_bestToOpen_19 : decode cX8_bestToOpen 19 = .ok (.iload_n 3, 1) := by decide +kernel
theorem dX8_bestToOpen_20 : decode cX8_bestToOpen 20 = .ok (.invokevirtual 188, 3) := by decide +kernel
theorem dX8_bestToOpen_23 : decode cX8_bestToOpen 23 = .ok (.istore 4, 2) := by decide +kernel
theorem dX8_bestToOpen_25 : decode cX8_bestToOpen 25 = .ok (.iload 4, 2) := by decide +kernel
theorem dX8_bestToOpen_27 : decode cX8_bestToOpen 27 = .ok (.iload_n 2, 1) := by decide +kernel
theorem dX8_bestToOpen_28 : decode cX8_bestToOpen 28 = .ok (.if_icmp .ge 8, 3) := by decide +kernel
theorem dX8_bestToOpen_31 : decode cX8_bestToOpen 31 = .ok (.iload 4, 2) := by decide +kernel
theorem dX8_bestToOpen_33 : decode cX8_bestToOpen 33 = .ok (.istore_n 2, 1) := by decide +kernel
theorem dX8_bestToOpen_34 : decode cX8_bestToOpen 34 = .ok (.iload_n 3, 1) := by decide +kernel
theorem dX8_bestToOpen_35 : decode cX8_bestToOpen 35 = .ok (.istore_n 1, 1) := by decide +kernel
theorem dX8_bestToOpen_36 : decode cX8_bestToOpen 36 = .ok (.iinc 3 1, 3) := by decide +kernel
theorem dX8_bestToOpen_39 : decode cX8_bestToOpen 39 = .ok (.goto (-31), 3) := by decide +kernel
theorem dX8_bestToOpen_42 : decode cX8_bestToOpen 42 = .ok (.iload_n 1, 1) := by decide +kernel
theorem dX8_bestToOpen_43 : decode cX8_bestToOpen 43 = .ok (.ireturn, 1) := by decide +kernel
theorem dX8_beatBit_0 : decode cX8_beatBit 0 = .ok (.iconst 1, 1) := by decide +kernel
theorem dX8_beatBit_1 : decode cX8_beatBit 1 = .ok (.iload_n 0, 1) := by decide +kernel
