theorem dX8_beatBit_2 : decode cX8_beatBit 2 = .ok (.iconst 4, 1) := by decide +kernel
theorem dX8_beatBit_3 : decode cX8_beatBit 3 = .ok (.imul, 1) := by decide +kernel
theorem dX8_beatBit_4 : decode cX8_beatBit 4 = .ok (.iload_n 1, 1) := by decide +kernel
theorem dX8_beatBit_5 : decode cX8_beatBit 5 = .ok (.iadd, 1) := by decide +kernel
theorem dX8_beatBit_6 : decode cX8_beatBit 6 = .ok (.ishl, 1) := by decide +kernel
theorem dX8_beatBit_7 : decode cX8_beatBit 7 = .ok (.ireturn, 1) := by decide +kernel
theorem dX8_whoBeatsWhom_0 : decode cX8_whoBeatsWhom 0 = .ok (.iconst 0, 1) := by decide +kernel
theorem dX8_whoBeatsWhom_1 : decode cX8_whoBeatsWhom 1 = .ok (.istore_n 1, 1) := by decide +kernel
theorem dX8_whoBeatsWhom_2 : decode cX8_whoBeatsWhom 2 = .ok (.iconst 0, 1) := by decide +kernel
theorem dX8_whoBeatsWhom_3 : decode cX8_whoBeatsWhom 3 = .ok (.istore_n 2, 1) := by decide +kernel
theorem dX8_whoBeatsWhom_4 : decode cX8_whoBeatsWhom 4 = .ok (.iload_n 2, 1) := by decide +kernel
theorem dX8_whoBeatsWhom_5 : decode cX8_whoBeatsWhom 5 = .ok (.aload_n 0, 1) := by decide +kernel
theorem dX8_whoBeatsWhom_6 : decode cX8_whoBeatsWhom 6 = .ok (.getfield 83, 3) := by decide +kernel
theorem dX8_whoBeatsWhom_9 : decode cX8_whoBeatsWhom 9 = .ok (.if_icmp .ge 101, 3) := by decide +kernel
theorem dX8_whoBeatsWhom_12 : decode cX8_whoBeatsWhom 12 = .ok (.iconst 0, 1) := by decide +kernel
theorem dX8_whoBeatsWhom_13 : decode cX8_whoBeatsWhom 13 = .ok (.istore_n 3, 1) := by decide +kernel
theorem dX8_whoBeatsWhom_14 : decode cX8_whoBeatsWhom 14 = .ok (.iload_n 3, 1) := by decide +kernel
theorem dX8_whoBeatsWhom_15 : decode cX8_whoBeatsWhom 15 = .ok (.iload_n 2, 1) := by decide +kernel
theorem dX8_whoBeatsWhom_16 : decode cX8_whoBeatsWhom 16 = .ok (.if_icmp .ge 88, 3) := by decide +kernel
theorem dX8_whoBeatsWhom_19 : decode cX8_whoBeatsWhom 19 = .ok (.aload_n 0, 1) := by decide +kernel
theorem dX8_whoBeatsWhom_20 : decode cX8_whoBeatsWhom 20 = .ok (.getfield 29, 3) := by decide +kernel
theorem dX8_whoBeatsWhom_23 : decode cX8_whoBeatsWhom 23 = .ok (.aload_n 0, 1) := by decide +kernel
theorem dX8_whoBeatsWhom_24 : decode cX8_whoBeatsWhom 24 = .ok (.iload_n 2, 1) := by decide +kernel
theorem dX8_whoBeatsWhom_25 : decode cX8_whoBeatsWhom 25 = .ok (.invokevirtual 120, 3) := by decide +kernel
theorem dX8_whoBeatsWhom_28 : decode cX8_whoBeatsWhom 28 = .ok (.aload_n 0, 1) := by decide +kernel
theorem dX8_whoBeatsWhom_29 : decode cX8_whoBeatsWhom 29 = .ok (.iload_n 3, 1) := by decide +kernel
theorem dX8_whoBeatsWhom_30 : decode cX8_whoBeatsWhom 30 = .ok (.invokevirtual 120, 3) := by decide +kernel
theorem dX8_whoBeatsWhom_33 : decode cX8_whoBeatsWhom 33 = .ok (.aload_n 0, 1) := by decide +kernel
theorem dX8_whoBeatsWhom_34 : decode cX8_whoBeatsWhom 34 = .ok (.getfield 90, 3) := by decide +kernel
theorem dX8_whoBeatsWhom_37 : decode cX8_whoBeatsWhom 37 = .ok (.invokevirtual 178, 3) := by decide +kernel
theorem dX8_whoBeatsWhom_40 : decode cX8_whoBeatsWhom 40 = .ok (.istore 4, 2) := by decide +kernel
theorem dX8_whoBeatsWhom_42 : decode cX8_whoBeatsWhom 42 = .ok (.aload_n 0, 1) := by decide +kernel
theorem dX8_whoBeatsWhom_43 : decode cX8_whoBeatsWhom 43 = .ok (.getfield 29, 3) := by decide +kernel
theorem dX8_whoBeatsWhom_46 : decode cX8_whoBeatsWhom 46 = .ok (.aload_n 0, 1) := by decide +kernel
theorem dX8_whoBeatsWhom_47 : decode cX8_whoBeatsWhom 47 = .ok (.iload_n 3, 1) := by decide +kernel
theorem dX8_whoBeatsWhom_48 : decode cX8_whoBeatsWhom 48 = .ok (.invokevirtual 120, 3) := by decide +kernel
theorem dX8_whoBeatsWhom_51 : decode cX8_whoBeatsWhom 51 = .ok (.aload_n 0, 1) := by decide +kernel
theorem dX8_whoBeatsWhom_52 : decode cX8_whoBeatsWhom 52 = .ok (.iload_n 2, 1) := by decide +kernel
theorem dX8_whoBeatsWhom_53 : decode cX8_whoBeatsWhom 53 = .ok (.invokevirtual 120, 3) := by decide +kernel
theorem dX8_whoBeatsWhom_56 : decode cX8_whoBeatsWhom 56 = .ok (.aload_n 0, 1) := by decide +kernel
theorem dX8_whoBeatsWhom_57 : decode cX8_whoBeatsWhom 57 = .ok (.getfield 90, 3) := by decide +kernel
theorem dX8_whoBeatsWhom_60 : decode cX8_whoBeatsWhom 60 = .ok (.invokevirtual 178, 3) := by decide +kernel
theorem dX8_whoBeatsWhom_63 : decode cX8_whoBeatsWhom 63 = .ok (.istore 5, 2) := by decide +kernel
theorem dX8_whoBeatsWhom_65 : decode cX8_whoBeatsWhom 65 = .ok (.iload 4, 2) := by decide +kernel
theorem dX8_whoBeatsWhom_67 : decode cX8_whoBeatsWhom 67 = .ok (.iload 5, 2) := by decide +kernel
theorem dX8_whoBeatsWhom_69 : decode cX8_whoBeatsWhom 69 = .ok (.if_icmp .le 14, 3) := by decide +kernel
theorem dX8_whoBeatsWhom_72 : decode cX8_whoBeatsWhom 72 = .ok (.iload_n 1, 1) := by decide +kernel
theorem dX8_whoBeatsWhom_73 : decode cX8_whoBeatsWhom 73 = .ok (.iload_n 2, 1) := by decide +kernel
theorem dX8_whoBeatsWhom_74 : decode cX8_whoBeatsWhom 74 = .ok (.iload_n 3, 1) := by decide +kernel
theorem dX8_whoBeatsWhom_75 : decode cX8_whoBeatsWhom 75 = .ok (.invokestatic 270, 3) := by decide +kernel
theorem dX8_whoBeatsWhom_78 : decode cX8_whoBeatsWhom 78 = .ok (.ior, 1) := by decide +kernel
theorem dX8_whoBeatsWhom_79 : decode cX8_whoBeatsWhom 79 = .ok (.istore_n 1, 1) := by decide +kernel
theorem dX8_whoBeatsWhom_80 : decode cX8_whoBeatsWhom 80 = .ok (.goto 18, 3) := by decide +kernel
theorem dX8_whoBeatsWhom_83 : decode cX8_whoBeatsWhom 83 = .ok (.iload 5, 2) := by decide +kernel
theorem dX8_whoBeatsWhom_85 : decode cX8_whoBeatsWhom 85 = .ok (.iload 4, 2) := by decide +kernel
theorem dX8_whoBeatsWhom_87 : decode cX8_whoBeatsWhom 87 = .ok (.if_icmp .le 11, 3) := by decide +kernel
theorem dX8_whoBeatsWhom_90 : decode cX8_whoBeatsWhom 90 = .ok (.iload_n 1, 1) := by decide +kernel
theorem dX8_whoBeatsWhom_91 : decode cX8_whoBeatsWhom 91 = .ok (.iload_n 3, 1) := by decide +kernel
theorem dX8_whoBeatsWhom_92 : decode cX8_whoBeatsWhom 92 = .ok (.iload_n 2, 1) := by decide +kernel
theorem dX8_whoBeatsWhom_93 : decode cX8_whoBeatsWhom 93 = .ok (.invokestatic 270, 3) := by decide +kernel
theorem dX8_whoBeatsWhom_96 : decode cX8_whoBeatsWhom 96 = .ok (.ior, 1) := by decide +kernel
theorem dX8_whoBeatsWhom_97 : decode cX8_whoBeatsWhom 97 = .ok (.istore_n 1, 1) := by decide +kernel
theorem dX8_whoBeatsWhom_98 : decode cX8_whoBeatsWhom 98 = .ok (.iinc 3 1, 3) := by decide +kernel
theorem dX8_whoBeatsWhom_101 : decode cX8_whoBeatsWhom 101 = .ok (.goto (-87), 3) := by decide +kernel
theorem dX8_whoBeatsWhom_104 : decode cX8_whoBeatsWhom 104 = .ok (.iinc 2 1, 3) := by decide +kernel
theorem dX8_whoBeatsWhom_107 : decode cX8_whoBeatsWhom 107 = .ok (.goto (-103), 3) := by decide +kernel
theorem dX8_whoBeatsWhom_110 : decode cX8_whoBeatsWhom 110 = .ok (.iload_n 1, 1) := by decide +kernel
theorem dX8_whoBeatsWhom_111 : decode cX8_whoBeatsWhom 111 = .ok (.ireturn, 1) := by decide +kernel
theorem dX8_isRing_0 : decode cX8_isRing 0 = .ok (.iconst 0, 1) := by decide +kernel
theorem dX8_isRing_1 : decode cX8_isRing 1 = .ok (.istore_n 2, 1) := by decide +kernel
theorem dX8_isRing_2 : decode cX8_isRing 2 = .ok (.iload_n 2, 1) := by decide +kernel
theorem dX8_isRing_3 : decode cX8_isRing 3 = .ok (.iconst 4, 1) := by decide +kernel
theorem dX8_isRing_4 : decode cX8_isRing 4 = .ok (.if_icmp .ge 32, 3) := by decide +kernel
theorem dX8_isRing_7 : decode cX8_isRing 7 = .ok (.iload_n 0, 1) := by decide +kernel
theorem dX8_isRing_8 : decode cX8_isRing 8 = .ok (.iload_n 2, 1) := by decide +kernel
theorem dX8_isRing_9 : decode cX8_isRing 9 = .ok (.invokestatic 152, 3) := by decide +kernel
theorem dX8_isRing_12 : decode cX8_isRing 12 = .ok (.ifCond .eq 18, 3) := by decide +kernel
theorem dX8_isRing_15 : decode cX8_isRing 15 = .ok (.iload_n 2, 1) := by decide +kernel
theorem dX8_isRing_16 : decode cX8_isRing 16 = .ok (.iload_n 2, 1) := by decide +kernel
theorem dX8_isRing_17 : decode cX8_isRing 17 = .ok (.iload_n 0, 1) := by decide +kernel
theorem dX8_isRing_18 : decode cX8_isRing 18 = .ok (.iconst 1, 1) := by decide +kernel
theorem dX8_isRing_19 : decode cX8_isRing 19 = .ok (.iload_n 2, 1) := by decide +kernel
theorem dX8_isRing_20 : decode cX8_isRing 20 = .ok (.ishl, 1) := by decide +kernel
theorem dX8_isRing_21 : decode cX8_isRing 21 = .ok (.iconst (-1), 1) := by decide +kernel
theorem dX8_isRing_22 : decode cX8_isRing 22 = .ok (.ixor, 1) := by decide +kernel
theorem dX8_isRing_23 : decode cX8_isRing 23 = .ok (.iand, 1) := by decide +kernel
theorem dX8_isRing_24 : decode cX8_isRing 24 = .ok (.iload_n 1, 1) := by decide +kernel
theorem dX8_isRing_25 : decode cX8_isRing 25 = .ok (.iconst 0, 1) := by decide +kernel
theorem dX8_isRing_26 : decode cX8_isRing 26 = .ok (.invokestatic 273, 3) := by decide +kernel
theorem dX8_isRing_29 : decode cX8_isRing 29 = .ok (.ireturn, 1) := by decide +kernel
theorem dX8_isRing_30 : decode cX8_isRing 30 = .ok (.iinc 2 1, 3) := by decide +kernel
theorem dX8_isRing_33 : decode cX8_isRing 33 = .ok (.goto (-31), 3) := by decide +kernel
theorem dX8_isRing_36 : decode cX8_isRing 36 = .ok (.iconst 0, 1) := by decide +kernel
theorem dX8_isRing_37 : decode cX8_isRing 37 = .ok (.ireturn, 1) := by decide +kernel
theorem dX8_closes_0 : decode cX8_closes 0 = .ok (.iload_n 2, 1) := by decide +kernel
theorem dX8_closes_1 : decode cX8_closes 1 = .ok (.ifCond .ne 19, 3) := by decide +kernel
theorem dX8_closes_4 : decode cX8_closes 4 = .ok (.iload_n 3, 1) := by decide +kernel
theorem dX8_closes_5 : decode cX8_closes 5 = .ok (.iload_n 1, 1) := by decide +kernel
theorem dX8_closes_6 : decode cX8_closes 6 = .ok (.iload_n 0, 1) := by decide +kernel
theorem dX8_closes_7 : decode cX8_closes 7 = .ok (.invokestatic 270, 3) := by decide +kernel
theorem dX8_closes_10 : decode cX8_closes 10 = .ok (.iand, 1) := by decide +kernel
theorem dX8_closes_11 : decode cX8_closes 11 = .ok (.ifCond .eq 7, 3) := by decide +kernel
theorem dX8_closes_14 : decode cX8_closes 14 = .ok (.iconst 1, 1) := by decide +kernel
theorem dX8_closes_15 : decode cX8_closes 15 = .ok (.goto 4, 3) := by decide +kernel
theorem dX8_closes_18 : decode cX8_closes 18 = .ok (.iconst 0, 1) := by decide +kernel
theorem dX8_closes_19 : decode cX8_closes 19 = .ok (.ireturn, 1) := by decide +kernel
theorem dX8_closes_20 : decode cX8_closes 20 = .ok (.iload 4, 2) := by decide +kernel
theorem dX8_closes_22 : decode cX8_closes 22 = .ok (.iconst 4, 1) := by decide +kernel
theorem dX8_closes_23 : decode cX8_closes 23 = .ok (.if_icmp .lt 5, 3) := by decide +kernel
theorem dX8_closes_26 : decode cX8_closes 26 = .ok (.iconst 0, 1) := by decide +kernel
theorem dX8_closes_27 : decode cX8_closes 27 = .ok (.ireturn, 1) := by decide +kernel
theorem dX8_closes_28 : decode cX8_closes 28 = .ok (.iconst 0, 1) := by decide +kernel
theorem dX8_closes_29 : decode cX8_closes 29 = .ok (.istore 5, 2) := by decide +kernel
theorem dX8_closes_31 : decode cX8_closes 31 = .ok (.iload 5, 2) := by decide +kernel
theorem dX8_closes_33 : decode cX8_closes 33 = .ok (.iconst 4, 1) := by decide +kernel
theorem dX8_closes_34 : decode cX8_closes 34 = .ok (.if_icmp .ge 65, 3) := by decide +kernel
theorem dX8_closes_37 : decode cX8_closes 37 = .ok (.iload_n 2, 1) := by decide +kernel
theorem dX8_closes_38 : decode cX8_closes 38 = .ok (.iload 5, 2) := by decide +kernel
theorem dX8_closes_40 : decode cX8_closes 40 = .ok (.invokestatic 152, 3) := by decide +kernel
theorem dX8_closes_43 : decode cX8_closes 43 = .ok (.ifCond .eq 18, 3) := by decide +kernel
theorem dX8_closes_46 : decode cX8_closes 46 = .ok (.iload_n 3, 1) := by decide +kernel
theorem dX8_closes_47 : decode cX8_closes 47 = .ok (.iload_n 1, 1) := by decide +kernel
theorem dX8_closes_48 : decode cX8_closes 48 = .ok (.iload 5, 2) := by decide +kernel
theorem dX8_closes_50 : decode cX8_closes 50 = .ok (.invokestatic 270, 3) := by decide +kernel
theorem dX8_closes_53 : decode cX8_closes 53 = .ok (.iand, 1) := by decide +kernel
theorem dX8_closes_54 : decode cX8_closes 54 = .ok (.ifCond .eq 7, 3) := by decide +kernel
theorem dX8_closes_57 : decode cX8_closes 57 = .ok (.iconst 1, 1) := by decide +kernel
theorem dX8_closes_58 : decode cX8_closes 58 = .ok (.goto 4, 3) := by decide +kernel
theorem dX8_closes_61 : decode cX8_closes 61 = .ok (.iconst 0, 1) := by decide +kernel
theorem dX8_closes_62 : decode cX8_closes 62 = .ok (.istore 6, 2) := by decide +kernel
theorem dX8_closes_64 : decode cX8_closes 64 = .ok (.iload 6, 2) := by decide +kernel
theorem dX8_closes_66 : decode cX8_closes 66 = .ok (.ifCond .eq 27, 3) := by decide +kernel
theorem dX8_closes_69 : decode cX8_closes 69 = .ok (.iload_n 0, 1) := by decide +kernel
theorem dX8_closes_70 : decode cX8_closes 70 = .ok (.iload 5, 2) := by decide +kernel
theorem dX8_closes_72 : decode cX8_closes 72 = .ok (.iload_n 2, 1) := by decide +kernel
theorem dX8_closes_73 : decode cX8_closes 73 = .ok (.iconst 1, 1) := by decide +kernel
theorem dX8_closes_74 : decode cX8_closes 74 = .ok (.iload 5, 2) := by decide +kernel
theorem dX8_closes_76 : decode cX8_closes 76 = .ok (.ishl, 1) := by decide +kernel
theorem dX8_closes_77 : decode cX8_closes 77 = .ok (.iconst (-1), 1) := by decide +kernel
theorem dX8_closes_78 : decode cX8_closes 78 = .ok (.ixor, 1) := by decide +kernel
theorem dX8_closes_79 : decode cX8_closes 79 = .ok (.iand, 1) := by decide +kernel
theorem dX8_closes_80 : decode cX8_closes 80 = .ok (.iload_n 3, 1) := by decide +kernel
theorem dX8_closes_81 : decode cX8_closes 81 = .ok (.iload 4, 2) := by decide +kernel
theorem dX8_closes_83 : decode cX8_closes 83 = .ok (.iconst 1, 1) := by decide +kernel
theorem dX8_closes_84 : decode cX8_closes 84 = .ok (.iadd, 1) := by decide +kernel
theorem dX8_closes_85 : decode cX8_closes 85 = .ok (.invokestatic 273, 3) := by decide +kernel
theorem dX8_closes_88 : decode cX8_closes 88 = .ok (.ifCond .eq 5, 3) := by decide +kernel
theorem dX8_closes_91 : decode cX8_closes 91 = .ok (.iconst 1, 1) := by decide +kernel
theorem dX8_closes_92 : decode cX8_closes 92 = .ok (.ireturn, 1) := by decide +kernel
theorem dX8_closes_93 : decode cX8_closes 93 = .ok (.iinc 5 1, 3) := by decide +kernel
theorem dX8_closes_96 : decode cX8_closes 96 = .ok (.goto (-65), 3) := by decide +kernel
theorem dX8_closes_99 : decode cX8_closes 99 = .ok (.iconst 0, 1) := by decide +kernel
theorem dX8_closes_100 : decode cX8_closes 100 = .ok (.ireturn, 1) := by decide +kernel
theorem dX8_waysToWin_0 : decode cX8_waysToWin 0 = .ok (.aload_n 0, 1) := by decide +kernel
theorem dX8_waysToWin_1 : decode cX8_waysToWin 1 = .ok (.iload_n 1, 1) := by decide +kernel
theorem dX8_waysToWin_2 : decode cX8_waysToWin 2 = .ok (.invokevirtual 120, 3) := by decide +kernel
theorem dX8_waysToWin_5 : decode cX8_waysToWin 5 = .ok (.istore_n 3, 1) := by decide +kernel
theorem dX8_waysToWin_6 : decode cX8_waysToWin 6 = .ok (.iconst 0, 1) := by decide +kernel
theorem dX8_waysToWin_7 : decode cX8_waysToWin 7 = .ok (.istore 4, 2) := by decide +kernel
theorem dX8_waysToWin_9 : decode cX8_waysToWin 9 = .ok (.iconst 0, 1) := by decide +kernel
theorem dX8_waysToWin_10 : decode cX8_waysToWin 10 = .ok (.istore 5, 2) := by decide +kernel
theorem dX8_waysToWin_12 : decode cX8_waysToWin 12 = .ok (.iload 5, 2) := by decide +kernel
theorem dX8_waysToWin_14 : decode cX8_waysToWin 14 = .ok (.aload_n 0, 1) := by decide +kernel
theorem dX8_waysToWin_15 : decode cX8_waysToWin 15 = .ok (.getfield 83, 3) := by decide +kernel
theorem dX8_waysToWin_18 : decode cX8_waysToWin 18 = .ok (.if_icmp .ge 20, 3) := by decide +kernel
theorem dX8_waysToWin_21 : decode cX8_waysToWin 21 = .ok (.iload 4, 2) := by decide +kernel
theorem dX8_waysToWin_23 : decode cX8_waysToWin 23 = .ok (.aload_n 0, 1) := by decide +kernel
theorem dX8_waysToWin_24 : decode cX8_waysToWin 24 = .ok (.iload 5, 2) := by decide +kernel
theorem dX8_waysToWin_26 : decode cX8_waysToWin 26 = .ok (.invokevirtual 120, 3) := by decide +kernel
theorem dX8_waysToWin_29 : decode cX8_waysToWin 29 = .ok (.ior, 1) := by decide +kernel
theorem dX8_waysToWin_30 : decode cX8_waysToWin 30 = .ok (.istore 4, 2) := by decide +kernel
theorem dX8_waysToWin_32 : decode cX8_waysToWin 32 = .ok (.iinc 5 1, 3) := by decide +kernel
theorem dX8_waysToWin_35 : decode cX8_waysToWin 35 = .ok (.goto (-23), 3) := by decide +kernel
theorem dX8_waysToWin_38 : decode cX8_waysToWin 38 = .ok (.aload_n 0, 1) := by decide +kernel
theorem dX8_waysToWin_39 : decode cX8_waysToWin 39 = .ok (.getfield 56, 3) := by decide +kernel
theorem dX8_waysToWin_42 : decode cX8_waysToWin 42 = .ok (.iconst 0, 1) := by decide +kernel
theorem dX8_waysToWin_43 : decode cX8_waysToWin 43 = .ok (.invokestatic 207, 3) := by decide +kernel
theorem dX8_waysToWin_46 : decode cX8_waysToWin 46 = .ok (.aload_n 0, 1) := by decide +kernel
theorem dX8_waysToWin_47 : decode cX8_waysToWin 47 = .ok (.getfield 19, 3) := by decide +kernel
theorem dX8_waysToWin_50 : decode cX8_waysToWin 50 = .ok (.getfield 162, 3) := by decide +kernel
theorem dX8_waysToWin_53 : decode cX8_waysToWin 53 = .ok (.ifCond .lt 31, 3) := by decide +kernel
theorem dX8_waysToWin_56 : decode cX8_waysToWin 56 = .ok (.aload_n 0, 1) := by decide +kernel
theorem dX8_waysToWin_57 : decode cX8_waysToWin 57 = .ok (.getfield 19, 3) := by decide +kernel
theorem dX8_waysToWin_60 : decode cX8_waysToWin 60 = .ok (.getfield 162, 3) := by decide +kernel
theorem dX8_waysToWin_63 : decode cX8_waysToWin 63 = .ok (.aload_n 0, 1) := by decide +kernel
theorem dX8_waysToWin_64 : decode cX8_waysToWin 64 = .ok (.getfield 56, 3) := by decide +kernel
theorem dX8_waysToWin_67 : decode cX8_waysToWin 67 = .ok (.arraylength, 1) := by decide +kernel
theorem dX8_waysToWin_68 : decode cX8_waysToWin 68 = .ok (.if_icmp .ge 16, 3) := by decide +kernel
theorem dX8_waysToWin_71 : decode cX8_waysToWin 71 = .ok (.aload_n 0, 1) := by decide +kernel
theorem dX8_waysToWin_72 : decode cX8_waysToWin 72 = .ok (.getfield 56, 3) := by decide +kernel
theorem dX8_waysToWin_75 : decode cX8_waysToWin 75 = .ok (.aload_n 0, 1) := by decide +kernel
theorem dX8_waysToWin_76 : decode cX8_waysToWin 76 = .ok (.getfield 19, 3) := by decide +kernel
theorem dX8_waysToWin_79 : decode cX8_waysToWin 79 = .ok (.getfield 162, 3) := by decide +kernel
theorem dX8_waysToWin_82 : decode cX8_waysToWin 82 = .ok (.iconst 1, 1) := by decide +kernel
theorem dX8_waysToWin_83 : decode cX8_waysToWin 83 = .ok (.iastore, 1) := by decide +kernel
theorem dX8_waysToWin_84 : decode cX8_waysToWin 84 = .ok (.iconst 0, 1) := by decide +kernel
theorem dX8_waysToWin_85 : decode cX8_waysToWin 85 = .ok (.istore 5, 2) := by decide +kernel
theorem dX8_waysToWin_87 : decode cX8_waysToWin 87 = .ok (.iconst 0, 1) := by decide +kernel
theorem dX8_waysToWin_88 : decode cX8_waysToWin 88 = .ok (.istore 6, 2) := by decide +kernel
theorem dX8_waysToWin_90 : decode cX8_waysToWin 90 = .ok (.iload 6, 2) := by decide +kernel
theorem dX8_waysToWin_92 : decode cX8_waysToWin 92 = .ok (.iload_n 2, 1) := by decide +kernel
theorem dX8_waysToWin_93 : decode cX8_waysToWin 93 = .ok (.if_icmp .ge 38, 3) := by decide +kernel
theorem dX8_waysToWin_96 : decode cX8_waysToWin 96 = .ok (.iconst 2, 1) := by decide +kernel
theorem dX8_waysToWin_97 : decode cX8_waysToWin 97 = .ok (.iload 5, 2) := by decide +kernel
theorem dX8_waysToWin_99 : decode cX8_waysToWin 99 = .ok (.imul, 1) := by decide +kernel
theorem dX8_waysToWin_100 : decode cX8_waysToWin 100 = .ok (.aload_n 0, 1) := by decide +kernel
theorem dX8_waysToWin_101 : decode cX8_waysToWin 101 = .ok (.iload_n 3, 1) := by decide +kernel
theorem dX8_waysToWin_102 : decode cX8_waysToWin 102 = .ok (.iload 4, 2) := by decide +kernel
theorem dX8_waysToWin_104 : decode cX8_waysToWin 104 = .ok (.invokevirtual 277, 3) := by decide +kernel
theorem dX8_waysToWin_107 : decode cX8_waysToWin 107 = .ok (.iadd, 1) := by decide +kernel
theorem dX8_waysToWin_108 : decode cX8_waysToWin 108 = .ok (.istore 5, 2) := by decide +kernel
theorem dX8_waysToWin_110 : decode cX8_waysToWin 110 = .ok (.aload_n 0, 1) := by decide +kernel
theorem dX8_waysToWin_111 : decode cX8_waysToWin 111 = .ok (.getfield 59, 3) := by decide +kernel
theorem dX8_waysToWin_114 : decode cX8_waysToWin 114 = .ok (.iconst 0, 1) := by decide +kernel
theorem dX8_waysToWin_115 : decode cX8_waysToWin 115 = .ok (.aload_n 0, 1) := by decide +kernel
theorem dX8_waysToWin_116 : decode cX8_waysToWin 116 = .ok (.getfield 56, 3) := by decide +kernel
theorem dX8_waysToWin_119 : decode cX8_waysToWin 119 = .ok (.iconst 0, 1) := by decide +kernel
theorem dX8_waysToWin_120 : decode cX8_waysToWin 120 = .ok (.bipush 32, 2) := by decide +kernel
theorem dX8_waysToWin_122 : decode cX8_waysToWin 122 = .ok (.invokestatic 280, 3) := by decide +kernel
theorem dX8_waysToWin_125 : decode cX8_waysToWin 125 = .ok (.iinc 6 1, 3) := by decide +kernel
theorem dX8_waysToWin_128 : decode cX8_waysToWin 128 = .ok (.goto (-38), 3) := by decide +kernel
theorem dX8_waysToWin_131 : decode cX8_waysToWin 131 = .ok (.iload 5, 2) := by decide +kernel
theorem dX8_waysToWin_133 : decode cX8_waysToWin 133 = .ok (.ireturn, 1) := by decide +kernel
theorem dX8_winsByToss_0 : decode cX8_winsByToss 0 = .ok (.aload_n 0, 1) := by decide +kernel
theorem dX8_winsByToss_1 : decode cX8_winsByToss 1 = .ok (.getfield 59, 3) := by decide +kernel
theorem dX8_winsByToss_4 : decode cX8_winsByToss 4 = .ok (.iconst 0, 1) := by decide +kernel
theorem dX8_winsByToss_5 : decode cX8_winsByToss 5 = .ok (.invokestatic 207, 3) := by decide +kernel
theorem dX8_winsByToss_8 : decode cX8_winsByToss 8 = .ok (.iconst 0, 1) := by decide +kernel
theorem dX8_winsByToss_9 : decode cX8_winsByToss 9 = .ok (.istore_n 3, 1) := by decide +kernel
theorem dX8_winsByToss_10 : decode cX8_winsByToss 10 = .ok (.iconst 1, 1) := by decide +kernel
theorem dX8_winsByToss_11 : decode cX8_winsByToss 11 = .ok (.istore 4, 2) := by decide +kernel
theorem dX8_winsByToss_13 : decode cX8_winsByToss 13 = .ok (.iload 4, 2) := by decide +kernel
theorem dX8_winsByToss_15 : decode cX8_winsByToss 15 = .ok (.aload_n 0, 1) := by decide +kernel
theorem dX8_winsByToss_16 : decode cX8_winsByToss 16 = .ok (.getfield 56, 3) := by decide +kernel
theorem dX8_winsByToss_19 : decode cX8_winsByToss 19 = .ok (.arraylength, 1) := by decide +kernel
theorem dX8_winsByToss_20 : decode cX8_winsByToss 20 = .ok (.if_icmp .ge 138, 3) := by decide +kernel
theorem dX8_winsByToss_23 : decode cX8_winsByToss 23 = .ok (.aload_n 0, 1) := by decide +kernel
theorem dX8_winsByToss_24 : decode cX8_winsByToss 24 = .ok (.getfield 56, 3) := by decide +kernel
theorem dX8_winsByToss_27 : decode cX8_winsByToss 27 = .ok (.iload 4, 2) := by decide +kernel
theorem dX8_winsByToss_29 : decode cX8_winsByToss 29 = .ok (.iaload, 1) := by decide +kernel
theorem dX8_winsByToss_30 : decode cX8_winsByToss 30 = .ok (.ifCond .ne 6, 3) := by decide +kernel
theorem dX8_winsByToss_33 : decode cX8_winsByToss 33 = .ok (.goto 119, 3) := by decide +kernel
theorem dX8_winsByToss_36 : decode cX8_winsByToss 36 = .ok (.iconst 0, 1) := by decide +kernel
theorem dX8_winsByToss_37 : decode cX8_winsByToss 37 = .ok (.istore 5, 2) := by decide +kernel
theorem dX8_winsByToss_39 : decode cX8_winsByToss 39 = .ok (.iload 5, 2) := by decide +kernel
theorem dX8_winsByToss_41 : decode cX8_winsByToss 41 = .ok (.iconst 2, 1) := by decide +kernel
theorem dX8_winsByToss_42 : decode cX8_winsByToss 42 = .ok (.if_icmp .ge 110, 3) := by decide +kernel
theorem dX8_winsByToss_45 : decode cX8_winsByToss 45 = .ok (.aload_n 0, 1) := by decide +kernel
theorem dX8_winsByToss_46 : decode cX8_winsByToss 46 = .ok (.iload 4, 2) := by decide +kernel
theorem dX8_winsByToss_48 : decode cX8_winsByToss 48 = .ok (.iload 5, 2) := by decide +kernel
theorem dX8_winsByToss_50 : decode cX8_winsByToss 50 = .ok (.invokevirtual 165, 3) := by decide +kernel
theorem dX8_winsByToss_53 : decode cX8_winsByToss 53 = .ok (.istore 6, 2) := by decide +kernel
theorem dX8_winsByToss_55 : decode cX8_winsByToss 55 = .ok (.aload_n 0, 1) := by decide +kernel
theorem dX8_winsByToss_56 : decode cX8_winsByToss 56 = .ok (.iload 6, 2) := by decide +kernel
theorem dX8_winsByToss_58 : decode cX8_winsByToss 58 = .ok (.invokevirtual 224, 3) := by decide +kernel
theorem dX8_winsByToss_61 : decode cX8_winsByToss 61 = .ok (.istore 7, 2) := by decide +kernel
theorem dX8_winsByToss_63 : decode cX8_winsByToss 63 = .ok (.iload 7, 2) := by decide +kernel
theorem dX8_winsByToss_65 : decode cX8_winsByToss 65 = .ok (.iconst (-1), 1) := by decide +kernel
theorem dX8_winsByToss_66 : decode cX8_winsByToss 66 = .ok (.if_icmp .eq 16, 3) := by decide +kernel
theorem dX8_winsByToss_69 : decode cX8_winsByToss 69 = .ok (.iload_n 2, 1) := by decide +kernel
theorem dX8_winsByToss_70 : decode cX8_winsByToss 70 = .ok (.iload 7, 2) := by decide +kernel
theorem dX8_winsByToss_72 : decode cX8_winsByToss 72 = .ok (.invokestatic 152, 3) := by decide +kernel
theorem dX8_winsByToss_75 : decode cX8_winsByToss 75 = .ok (.ifCond .eq 7, 3) := by decide +kernel
theorem dX8_winsByToss_78 : decode cX8_winsByToss 78 = .ok (.iconst 1, 1) := by decide +kernel
theorem dX8_winsByToss_79 : decode cX8_winsByToss 79 = .ok (.goto 4, 3) := by decide +kernel
theorem dX8_winsByToss_82 : decode cX8_winsByToss 82 = .ok (.iconst 0, 1) := by decide +kernel
theorem dX8_winsByToss_83 : decode cX8_winsByToss 83 = .ok (.istore 8, 2) := by decide +kernel
theorem dX8_winsByToss_85 : decode cX8_winsByToss 85 = .ok (.iload 8, 2) := by decide +kernel
theorem dX8_winsByToss_87 : decode cX8_winsByToss 87 = .ok (.ifCond .eq 22, 3) := by decide +kernel
theorem dX8_winsByToss_90 : decode cX8_winsByToss 90 = .ok (.iload_n 1, 1) := by decide +kernel
theorem dX8_winsByToss_91 : decode cX8_winsByToss 91 = .ok (.iload 7, 2) := by decide +kernel
theorem dX8_winsByToss_93 : decode cX8_winsByToss 93 = .ok (.invokestatic 152, 3) := by decide +kernel
theorem dX8_winsByToss_96 : decode cX8_winsByToss 96 = .ok (.ifCond .eq 13, 3) := by decide +kernel
theorem dX8_winsByToss_99 : decode cX8_winsByToss 99 = .ok (.iload_n 3, 1) := by decide +kernel
theorem dX8_winsByToss_100 : decode cX8_winsByToss 100 = .ok (.aload_n 0, 1) := by decide +kernel
theorem dX8_winsByToss_101 : decode cX8_winsByToss 101 = .ok (.getfield 56, 3) := by decide +kernel
theorem dX8_winsByToss_104 : decode cX8_winsByToss 104 = .ok (.iload 4, 2) := by decide +kernel
theorem dX8_winsByToss_106 : decode cX8_winsByToss 106 = .ok (.iaload, 1) := by decide +kernel
theorem dX8_winsByToss_107 : decode cX8_winsByToss 107 = .ok (.iadd, 1) := by decide +kernel
theorem dX8_winsByToss_108 : decode cX8_winsByToss 108 = .ok (.istore_n 3, 1) := by decide +kernel
theorem dX8_winsByToss_109 : decode cX8_winsByToss 109 = .ok (.iload 8, 2) := by decide +kernel
theorem dX8_winsByToss_111 : decode cX8_winsByToss 111 = .ok (.ifCond .ne 35, 3) := by decide +kernel
theorem dX8_winsByToss_114 : decode cX8_winsByToss 114 = .ok (.iload 6, 2) := by decide +kernel
theorem dX8_winsByToss_116 : decode cX8_winsByToss 116 = .ok (.ifCond .lt 30, 3) := by decide +kernel
theorem dX8_winsByToss_119 : decode cX8_winsByToss 119 = .ok (.iload 6, 2) := by decide +kernel
theorem dX8_winsByToss_121 : decode cX8_winsByToss 121 = .ok (.aload_n 0, 1) := by decide +kernel
theorem dX8_winsByToss_122 : decode cX8_winsByToss 122 = .ok (.getfield 59, 3) := by decide +kernel
theorem dX8_winsByToss_125 : decode cX8_winsByToss 125 = .ok (.arraylength, 1) := by decide +kernel
theorem dX8_winsByToss_126 : decode cX8_winsByToss 126 = .ok (.if_icmp .ge 20, 3) := by decide +kernel
theorem dX8_winsByToss_129 : decode cX8_winsByToss 129 = .ok (.aload_n 0, 1) := by decide +kernel
theorem dX8_winsByToss_130 : decode cX8_winsByToss 130 = .ok (.getfield 59, 3) := by decide +kernel
theorem dX8_winsByToss_133 : decode cX8_winsByToss 133 = .ok (.iload 6, 2) := by decide +kernel
theorem dX8_winsByToss_135 : decode cX8_winsByToss 135 = .ok (.dup2, 1) := by decide +kernel
theorem dX8_winsByToss_136 : decode cX8_winsByToss 136 = .ok (.iaload, 1) := by decide +kernel
theorem dX8_winsByToss_137 : decode cX8_winsByToss 137 = .ok (.aload_n 0, 1) := by decide +kernel
theorem dX8_winsByToss_138 : decode cX8_winsByToss 138 = .ok (.getfield 56, 3) := by decide +kernel
theorem dX8_winsByToss_141 : decode cX8_winsByToss 141 = .ok (.iload 4, 2) := by decide +kernel
theorem dX8_winsByToss_143 : decode cX8_winsByToss 143 = .ok (.iaload, 1) := by decide +kernel
theorem dX8_winsByToss_144 : decode cX8_winsByToss 144 = .ok (.iadd, 1) := by decide +kernel
theorem dX8_winsByToss_145 : decode cX8_winsByToss 145 = .ok (.iastore, 1) := by decide +kernel
theorem dX8_winsByToss_146 : decode cX8_winsByToss 146 = .ok (.iinc 5 1, 3) := by decide +kernel
theorem dX8_winsByToss_149 : decode cX8_winsByToss 149 = .ok (.goto (-110), 3) := by decide +kernel
theorem dX8_winsByToss_152 : decode cX8_winsByToss 152 = .ok (.iinc 4 1, 3) := by decide +kernel
theorem dX8_winsByToss_155 : decode cX8_winsByToss 155 = .ok (.goto (-142), 3) := by decide +kernel
theorem dX8_winsByToss_158 : decode cX8_winsByToss 158 = .ok (.iload_n 3, 1) := by decide +kernel
theorem dX8_winsByToss_159 : decode cX8_winsByToss 159 = .ok (.ireturn, 1) := by decide +kernel
theorem dX8_betsThatHit_0 : decode cX8_betsThatHit 0 = .ok (.iconst 0, 1) := by decide +kernel
theorem dX8_betsThatHit_1 : decode cX8_betsThatHit 1 = .ok (.istore_n 3, 1) := by decide +kernel
theorem dX8_betsThatHit_2 : decode cX8_betsThatHit 2 = .ok (.iconst 0, 1) := by decide +kernel
theorem dX8_betsThatHit_3 : decode cX8_betsThatHit 3 = .ok (.istore 4, 2) := by decide +kernel
theorem dX8_betsThatHit_5 : decode cX8_betsThatHit 5 = .ok (.iload 4, 2) := by decide +kernel
theorem dX8_betsThatHit_7 : decode cX8_betsThatHit 7 = .ok (.iconst 1, 1) := by decide +kernel
theorem dX8_betsThatHit_8 : decode cX8_betsThatHit 8 = .ok (.aload_n 0, 1) := by decide +kernel
theorem dX8_betsThatHit_9 : decode cX8_betsThatHit 9 = .ok (.getfield 90, 3) := by decide +kernel
theorem dX8_betsThatHit_12 : decode cX8_betsThatHit 12 = .ok (.ishl, 1) := by decide +kernel
theorem dX8_betsThatHit_13 : decode cX8_betsThatHit 13 = .ok (.if_icmp .ge 33, 3) := by decide +kernel
theorem dX8_betsThatHit_16 : decode cX8_betsThatHit 16 = .ok (.aload_n 1, 1) := by decide +kernel
theorem dX8_betsThatHit_17 : decode cX8_betsThatHit 17 = .ok (.iload 4, 2) := by decide +kernel
theorem dX8_betsThatHit_19 : decode cX8_betsThatHit 19 = .ok (.aload_n 0, 1) := by decide +kernel
theorem dX8_betsThatHit_20 : decode cX8_betsThatHit 20 = .ok (.getfield 90, 3) := by decide +kernel
theorem dX8_betsThatHit_23 : decode cX8_betsThatHit 23 = .ok (.invokevirtual 260, 3) := by decide +kernel
theorem dX8_betsThatHit_26 : decode cX8_betsThatHit 26 = .ok (.iload_n 2, 1) := by decide +kernel
theorem dX8_betsThatHit_27 : decode cX8_betsThatHit 27 = .ok (.invokestatic 152, 3) := by decide +kernel
theorem dX8_betsThatHit_30 : decode cX8_betsThatHit 30 = .ok (.ifCond .eq 10, 3) := by decide +kernel
theorem dX8_betsThatHit_33 : decode cX8_betsThatHit 33 = .ok (.iload_n 3, 1) := by decide +kernel
theorem dX8_betsThatHit_34 : decode cX8_betsThatHit 34 = .ok (.iconst 1, 1) := by decide +kernel
theorem dX8_betsThatHit_35 : decode cX8_betsThatHit 35 = .ok (.iload 4, 2) := by decide +kernel
theorem dX8_betsThatHit_37 : decode cX8_betsThatHit 37 = .ok (.ishl, 1) := by decide +kernel
theorem dX8_betsThatHit_38 : decode cX8_betsThatHit 38 = .ok (.ior, 1) := by decide +kernel
theorem dX8_betsThatHit_39 : decode cX8_betsThatHit 39 = .ok (.istore_n 3, 1) := by decide +kernel
theorem dX8_betsThatHit_40 : decode cX8_betsThatHit 40 = .ok (.iinc 4 1, 3) := by decide +kernel
theorem dX8_betsThatHit_43 : decode cX8_betsThatHit 43 = .ok (.goto (-38), 3) := by decide +kernel
theorem dX8_betsThatHit_46 : decode cX8_betsThatHit 46 = .ok (.iload_n 3, 1) := by decide +kernel
theorem dX8_betsThatHit_47 : decode cX8_betsThatHit 47 = .ok (.ireturn, 1) := by decide +kernel
theorem dX8_rowsLeft_0 : decode cX8_rowsLeft 0 = .ok (.aload_n 0, 1) := by decide +kernel
theorem dX8_rowsLeft_1 : decode cX8_rowsLeft 1 = .ok (.aload_n 0, 1) := by decide +kernel
theorem dX8_rowsLeft_2 : decode cX8_rowsLeft 2 = .ok (.getfield 19, 3) := by decide +kernel
theorem dX8_rowsLeft_5 : decode cX8_rowsLeft 5 = .ok (.getfield 93, 3) := by decide +kernel
theorem dX8_rowsLeft_8 : decode cX8_rowsLeft 8 = .ok (.iload_n 1, 1) := by decide +kernel
theorem dX8_rowsLeft_9 : decode cX8_rowsLeft 9 = .ok (.iaload, 1) := by decide +kernel
theorem dX8_rowsLeft_10 : decode cX8_rowsLeft 10 = .ok (.invokevirtual 141, 3) := by decide +kernel
theorem dX8_rowsLeft_13 : decode cX8_rowsLeft 13 = .ok (.astore_n 2, 1) := by decide +kernel
theorem dX8_rowsLeft_14 : decode cX8_rowsLeft 14 = .ok (.iconst 1, 1) := by decide +kernel
theorem dX8_rowsLeft_15 : decode cX8_rowsLeft 15 = .ok (.iconst 1, 1) := by decide +kernel
theorem dX8_rowsLeft_16 : decode cX8_rowsLeft 16 = .ok (.aload_n 0, 1) := by decide +kernel
theorem dX8_rowsLeft_17 : decode cX8_rowsLeft 17 = .ok (.getfield 90, 3) := by decide +kernel
theorem dX8_rowsLeft_20 : decode cX8_rowsLeft 20 = .ok (.ishl, 1) := by decide +kernel
theorem dX8_rowsLeft_21 : decode cX8_rowsLeft 21 = .ok (.ishl, 1) := by decide +kernel
theorem dX8_rowsLeft_22 : decode cX8_rowsLeft 22 = .ok (.iconst 1, 1) := by decide +kernel
theorem dX8_rowsLeft_23 : decode cX8_rowsLeft 23 = .ok (.isub, 1) := by decide +kernel
theorem dX8_rowsLeft_24 : decode cX8_rowsLeft 24 = .ok (.istore_n 3, 1) := by decide +kernel
theorem dX8_rowsLeft_25 : decode cX8_rowsLeft 25 = .ok (.iconst 0, 1) := by decide +kernel
theorem dX8_rowsLeft_26 : decode cX8_rowsLeft 26 = .ok (.istore 4, 2) := by decide +kernel
theorem dX8_rowsLeft_28 : decode cX8_rowsLeft 28 = .ok (.iload 4, 2) := by decide +kernel
theorem dX8_rowsLeft_30 : decode cX8_rowsLeft 30 = .ok (.aload_n 0, 1) := by decide +kernel
theorem dX8_rowsLeft_31 : decode cX8_rowsLeft 31 = .ok (.getfield 19, 3) := by decide +kernel
theorem dX8_rowsLeft_34 : decode cX8_rowsLeft 34 = .ok (.getfield 200, 3) := by decide +kernel
theorem dX8_rowsLeft_37 : decode cX8_rowsLeft 37 = .ok (.if_icmp .ge 72, 3) := by decide +kernel
theorem dX8_rowsLeft_40 : decode cX8_rowsLeft 40 = .ok (.iload 4, 2) := by decide +kernel
theorem dX8_rowsLeft_42 : decode cX8_rowsLeft 42 = .ok (.bipush 6, 2) := by decide +kernel
theorem dX8_rowsLeft_44 : decode cX8_rowsLeft 44 = .ok (.if_icmp .ge 65, 3) := by decide +kernel
theorem dX8_rowsLeft_47 : decode cX8_rowsLeft 47 = .ok (.aload_n 0, 1) := by decide +kernel
theorem dX8_rowsLeft_48 : decode cX8_rowsLeft 48 = .ok (.getfield 19, 3) := by decide +kernel
theorem dX8_rowsLeft_51 : decode cX8_rowsLeft 51 = .ok (.getfield 286, 3) := by decide +kernel
theorem dX8_rowsLeft_54 : decode cX8_rowsLeft 54 = .ok (.iload 4, 2) := by decide +kernel
theorem dX8_rowsLeft_56 : decode cX8_rowsLeft 56 = .ok (.iaload, 1) := by decide +kernel
theorem dX8_rowsLeft_57 : decode cX8_rowsLeft 57 = .ok (.iload_n 1, 1) := by decide +kernel
theorem dX8_rowsLeft_58 : decode cX8_rowsLeft 58 = .ok (.if_icmp .ne 45, 3) := by decide +kernel
theorem dX8_rowsLeft_61 : decode cX8_rowsLeft 61 = .ok (.aload_n 0, 1) := by decide +kernel
theorem dX8_rowsLeft_62 : decode cX8_rowsLeft 62 = .ok (.aload_n 2, 1) := by decide +kernel
theorem dX8_rowsLeft_63 : decode cX8_rowsLeft 63 = .ok (.aload_n 0, 1) := by decide +kernel
theorem dX8_rowsLeft_64 : decode cX8_rowsLeft 64 = .ok (.getfield 19, 3) := by decide +kernel
theorem dX8_rowsLeft_67 : decode cX8_rowsLeft 67 = .ok (.getfield 289, 3) := by decide +kernel
theorem dX8_rowsLeft_70 : decode cX8_rowsLeft 70 = .ok (.iload 4, 2) := by decide +kernel
theorem dX8_rowsLeft_72 : decode cX8_rowsLeft 72 = .ok (.iaload, 1) := by decide +kernel
theorem dX8_rowsLeft_73 : decode cX8_rowsLeft 73 = .ok (.invokevirtual 292, 3) := by decide +kernel
theorem dX8_rowsLeft_76 : decode cX8_rowsLeft 76 = .ok (.istore 5, 2) := by decide +kernel
theorem dX8_rowsLeft_78 : decode cX8_rowsLeft 78 = .ok (.iload_n 3, 1) := by decide +kernel
theorem dX8_rowsLeft_79 : decode cX8_rowsLeft 79 = .ok (.aload_n 0, 1) := by decide +kernel
theorem dX8_rowsLeft_80 : decode cX8_rowsLeft 80 = .ok (.getfield 19, 3) := by decide +kernel
theorem dX8_rowsLeft_83 : decode cX8_rowsLeft 83 = .ok (.getfield 296, 3) := by decide +kernel
theorem dX8_rowsLeft_86 : decode cX8_rowsLeft 86 = .ok (.iload 4, 2) := by decide +kernel
theorem dX8_rowsLeft_88 : decode cX8_rowsLeft 88 = .ok (.baload, 1) := by decide +kernel
theorem dX8_rowsLeft_89 : decode cX8_rowsLeft 89 = .ok (.ifCond .eq 8, 3) := by decide +kernel
theorem dX8_rowsLeft_92 : decode cX8_rowsLeft 92 = .ok (.iload 5, 2) := by decide +kernel
theorem dX8_rowsLeft_94 : decode cX8_rowsLeft 94 = .ok (.goto 7, 3) := by decide +kernel
theorem dX8_rowsLeft_97 : decode cX8_rowsLeft 97 = .ok (.iload 5, 2) := by decide +kernel
theorem dX8_rowsLeft_99 : decode cX8_rowsLeft 99 = .ok (.iconst (-1), 1) := by decide +kernel
theorem dX8_rowsLeft_100 : decode cX8_rowsLeft 100 = .ok (.ixor, 1) := by decide +kernel
theorem dX8_rowsLeft_101 : decode cX8_rowsLeft 101 = .ok (.iand, 1) := by decide +kernel
theorem dX8_rowsLeft_102 : decode cX8_rowsLeft 102 = .ok (.istore_n 3, 1) := by decide +kernel
theorem dX8_rowsLeft_103 : decode cX8_rowsLeft 103 = .ok (.iinc 4 1, 3) := by decide +kernel
theorem dX8_rowsLeft_106 : decode cX8_rowsLeft 106 = .ok (.goto (-78), 3) := by decide +kernel
theorem dX8_rowsLeft_109 : decode cX8_rowsLeft 109 = .ok (.iload_n 3, 1) := by decide +kernel
theorem dX8_rowsLeft_110 : decode cX8_rowsLeft 110 = .ok (.ireturn, 1) := by decide +kernel
theorem dX8_nextTry_0 : decode cX8_nextTry 0 = .ok (.aload_n 0, 1) := by decide +kernel
theorem dX8_nextTry_1 : decode cX8_nextTry 1 = .ok (.iload_n 1, 1) := by decide +kernel
theorem dX8_nextTry_2 : decode cX8_nextTry 2 = .ok (.invokevirtual 132, 3) := by decide +kernel
theorem dX8_nextTry_5 : decode cX8_nextTry 5 = .ok (.istore_n 2, 1) := by decide +kernel
theorem dX8_nextTry_6 : decode cX8_nextTry 6 = .ok (.iload_n 2, 1) := by decide +kernel
theorem dX8_nextTry_7 : decode cX8_nextTry 7 = .ok (.ifCond .ne 5, 3) := by decide +kernel
theorem dX8_nextTry_10 : decode cX8_nextTry 10 = .ok (.iconst (-1), 1) := by decide +kernel
theorem dX8_nextTry_11 : decode cX8_nextTry 11 = .ok (.ireturn, 1) := by decide +kernel
theorem dX8_nextTry_12 : decode cX8_nextTry 12 = .ok (.aload_n 0, 1) := by decide +kernel
theorem dX8_nextTry_13 : decode cX8_nextTry 13 = .ok (.aload_n 0, 1) := by decide +kernel
theorem dX8_nextTry_14 : decode cX8_nextTry 14 = .ok (.getfield 19, 3) := by decide +kernel
theorem dX8_nextTry_17 : decode cX8_nextTry 17 = .ok (.getfield 93, 3) := by decide +kernel
theorem dX8_nextTry_20 : decode cX8_nextTry 20 = .ok (.iload_n 1, 1) := by decide +kernel
theorem dX8_nextTry_21 : decode cX8_nextTry 21 = .ok (.iaload, 1) := by decide +kernel
theorem dX8_nextTry_22 : decode cX8_nextTry 22 = .ok (.invokevirtual 141, 3) := by decide +kernel
theorem dX8_nextTry_25 : decode cX8_nextTry 25 = .ok (.astore_n 3, 1) := by decide +kernel
theorem dX8_nextTry_26 : decode cX8_nextTry 26 = .ok (.iload_n 2, 1) := by decide +kernel
theorem dX8_nextTry_27 : decode cX8_nextTry 27 = .ok (.invokestatic 127, 3) := by decide +kernel
theorem dX8_nextTry_30 : decode cX8_nextTry 30 = .ok (.istore 4, 2) := by decide +kernel
theorem dX8_nextTry_32 : decode cX8_nextTry 32 = .ok (.iconst 0, 1) := by decide +kernel
theorem dX8_nextTry_33 : decode cX8_nextTry 33 = .ok (.istore 5, 2) := by decide +kernel
theorem dX8_nextTry_35 : decode cX8_nextTry 35 = .ok (.iload 4, 2) := by decide +kernel
theorem dX8_nextTry_37 : decode cX8_nextTry 37 = .ok (.iconst 1, 1) := by decide +kernel
theorem dX8_nextTry_38 : decode cX8_nextTry 38 = .ok (.iadd, 1) := by decide +kernel
theorem dX8_nextTry_39 : decode cX8_nextTry 39 = .ok (.istore 6, 2) := by decide +kernel
theorem dX8_nextTry_41 : decode cX8_nextTry 41 = .ok (.iconst 0, 1) := by decide +kernel
theorem dX8_nextTry_42 : decode cX8_nextTry 42 = .ok (.istore 7, 2) := by decide +kernel
theorem dX8_nextTry_44 : decode cX8_nextTry 44 = .ok (.iload 7, 2) := by decide +kernel
theorem dX8_nextTry_46 : decode cX8_nextTry 46 = .ok (.iconst 1, 1) := by decide +kernel
theorem dX8_nextTry_47 : decode cX8_nextTry 47 = .ok (.aload_n 0, 1) := by decide +kernel
theorem dX8_nextTry_48 : decode cX8_nextTry 48 = .ok (.getfield 90, 3) := by decide +kernel
theorem dX8_nextTry_51 : decode cX8_nextTry 51 = .ok (.ishl, 1) := by decide +kernel
theorem dX8_nextTry_52 : decode cX8_nextTry 52 = .ok (.if_icmp .ge 50, 3) := by decide +kernel
theorem dX8_nextTry_55 : decode cX8_nextTry 55 = .ok (.iload_n 2, 1) := by decide +kernel
theorem dX8_nextTry_56 : decode cX8_nextTry 56 = .ok (.aload_n 0, 1) := by decide +kernel
theorem dX8_nextTry_57 : decode cX8_nextTry 57 = .ok (.aload_n 3, 1) := by decide +kernel
theorem dX8_nextTry_58 : decode cX8_nextTry 58 = .ok (.iload 7, 2) := by decide +kernel
theorem dX8_nextTry_60 : decode cX8_nextTry 60 = .ok (.invokevirtual 292, 3) := by decide +kernel
theorem dX8_nextTry_63 : decode cX8_nextTry 63 = .ok (.iand, 1) := by decide +kernel
theorem dX8_nextTry_64 : decode cX8_nextTry 64 = .ok (.invokestatic 127, 3) := by decide +kernel
theorem dX8_nextTry_67 : decode cX8_nextTry 67 = .ok (.istore 8, 2) := by decide +kernel
theorem dX8_nextTry_69 : decode cX8_nextTry 69 = .ok (.iload 8, 2) := by decide +kernel
theorem dX8_nextTry_71 : decode cX8_nextTry 71 = .ok (.iload 4, 2) := by decide +kernel
theorem dX8_nextTry_73 : decode cX8_nextTry 73 = .ok (.iload 8, 2) := by decide +kernel
theorem dX8_nextTry_75 : decode cX8_nextTry 75 = .ok (.isub, 1) := by decide +kernel
theorem dX8_nextTry_76 : decode cX8_nextTry 76 = .ok (.invokestatic 300, 3) := by decide +kernel
theorem dX8_nextTry_79 : decode cX8_nextTry 79 = .ok (.istore 9, 2) := by decide +kernel
theorem dX8_nextTry_81 : decode cX8_nextTry 81 = .ok (.iload 9, 2) := by decide +kernel
theorem dX8_nextTry_83 : decode cX8_nextTry 83 = .ok (.iload 6, 2) := by decide +kernel
theorem dX8_nextTry_85 : decode cX8_nextTry 85 = .ok (.if_icmp .ge 11, 3) := by decide +kernel
theorem dX8_nextTry_88 : decode cX8_nextTry 88 = .ok (.iload 9, 2) := by decide +kernel
theorem dX8_nextTry_90 : decode cX8_nextTry 90 = .ok (.istore 6, 2) := by decide +kernel
theorem dX8_nextTry_92 : decode cX8_nextTry 92 = .ok (.iload 7, 2) := by decide +kernel
theorem dX8_nextTry_94 : decode cX8_nextTry 94 = .ok (.istore 5, 2) := by decide +kernel
theorem dX8_nextTry_96 : decode cX8_nextTry 96 = .ok (.iinc 7 1, 3) := by decide +kernel
theorem dX8_nextTry_99 : decode cX8_nextTry 99 = .ok (.goto (-55), 3) := by decide +kernel
theorem dX8_nextTry_102 : decode cX8_nextTry 102 = .ok (.iload 5, 2) := by decide +kernel
theorem dX8_nextTry_104 : decode cX8_nextTry 104 = .ok (.ireturn, 1) := by decide +kernel
theorem dX8_fromItsEnd_0 : decode cX8_fromItsEnd 0 = .ok (.iconst 0, 1) := by decide +kernel
theorem dX8_fromItsEnd_1 : decode cX8_fromItsEnd 1 = .ok (.istore_n 2, 1) := by decide +kernel
theorem dX8_fromItsEnd_2 : decode cX8_fromItsEnd 2 = .ok (.iconst 0, 1) := by decide +kernel
theorem dX8_fromItsEnd_3 : decode cX8_fromItsEnd 3 = .ok (.istore_n 3, 1) := by decide +kernel
theorem dX8_fromItsEnd_4 : decode cX8_fromItsEnd 4 = .ok (.iload_n 3, 1) := by decide +kernel
theorem dX8_fromItsEnd_5 : decode cX8_fromItsEnd 5 = .ok (.iload_n 1, 1) := by decide +kernel
theorem dX8_fromItsEnd_6 : decode cX8_fromItsEnd 6 = .ok (.if_icmp .ge 19, 3) := by decide +kernel
theorem dX8_fromItsEnd_9 : decode cX8_fromItsEnd 9 = .ok (.iconst 2, 1) := by decide +kernel
theorem dX8_fromItsEnd_10 : decode cX8_fromItsEnd 10 = .ok (.iload_n 2, 1) := by decide +kernel
theorem dX8_fromItsEnd_11 : decode cX8_fromItsEnd 11 = .ok (.imul, 1) := by decide +kernel
theorem dX8_fromItsEnd_12 : decode cX8_fromItsEnd 12 = .ok (.iload_n 0, 1) := by decide +kernel
theorem dX8_fromItsEnd_13 : decode cX8_fromItsEnd 13 = .ok (.iload_n 3, 1) := by decide +kernel
theorem dX8_fromItsEnd_14 : decode cX8_fromItsEnd 14 = .ok (.ishr, 1) := by decide +kernel
theorem dX8_fromItsEnd_15 : decode cX8_fromItsEnd 15 = .ok (.iconst 1, 1) := by decide +kernel
theorem dX8_fromItsEnd_16 : decode cX8_fromItsEnd 16 = .ok (.iand, 1) := by decide +kernel
theorem dX8_fromItsEnd_17 : decode cX8_fromItsEnd 17 = .ok (.iadd, 1) := by decide +kernel
theorem dX8_fromItsEnd_18 : decode cX8_fromItsEnd 18 = .ok (.istore_n 2, 1) := by decide +kernel
theorem dX8_fromItsEnd_19 : decode cX8_fromItsEnd 19 = .ok (.iinc 3 1, 3) := by decide +kernel
theorem dX8_fromItsEnd_22 : decode cX8_fromItsEnd 22 = .ok (.goto (-18), 3) := by decide +kernel
theorem dX8_fromItsEnd_25 : decode cX8_fromItsEnd 25 = .ok (.iload_n 2, 1) := by decide +kernel
theorem dX8_fromItsEnd_26 : decode cX8_fromItsEnd 26 = .ok (.ireturn, 1) := by decide +kernel
theorem dX8_withOtherSigns_0 : decode cX8_withOtherSigns 0 = .ok (.iload_n 0, 1) := by decide +kernel
theorem dX8_withOtherSigns_1 : decode cX8_withOtherSigns 1 = .ok (.iconst 1, 1) := by decide +kernel
theorem dX8_withOtherSigns_2 : decode cX8_withOtherSigns 2 = .ok (.iload_n 1, 1) := by decide +kernel
theorem dX8_withOtherSigns_3 : decode cX8_withOtherSigns 3 = .ok (.ishl, 1) := by decide +kernel
theorem dX8_withOtherSigns_4 : decode cX8_withOtherSigns 4 = .ok (.iconst 1, 1) := by decide +kernel
theorem dX8_withOtherSigns_5 : decode cX8_withOtherSigns 5 = .ok (.isub, 1) := by decide +kernel
theorem dX8_withOtherSigns_6 : decode cX8_withOtherSigns 6 = .ok (.ixor, 1) := by decide +kernel
theorem dX8_withOtherSigns_7 : decode cX8_withOtherSigns 7 = .ok (.ireturn, 1) := by decide +kernel
theorem dX9_init_0 : decode cX9_init 0 = .ok (.aload_n 0, 1) := by decide +kernel
theorem dX9_init_1 : decode cX9_init 1 = .ok (.invokespecial 1, 3) := by decide +kernel
theorem dX9_init_4 : decode cX9_init 4 = .ok (.aload_n 0, 1) := by decide +kernel
theorem dX9_init_5 : decode cX9_init 5 = .ok (.iconst 4, 1) := by decide +kernel
theorem dX9_init_6 : decode cX9_init 6 = .ok (.newarray .int, 2) := by decide +kernel
theorem dX9_init_8 : decode cX9_init 8 = .ok (.putfield 7, 3) := by decide +kernel
theorem dX9_init_11 : decode cX9_init 11 = .ok (.aload_n 0, 1) := by decide +kernel
theorem dX9_init_12 : decode cX9_init 12 = .ok (.iconst 4, 1) := by decide +kernel
theorem dX9_init_13 : decode cX9_init 13 = .ok (.newarray .int, 2) := by decide +kernel
theorem dX9_init_15 : decode cX9_init 15 = .ok (.putfield 13, 3) := by decide +kernel
theorem dX9_init_18 : decode cX9_init 18 = .ok (.aload_n 0, 1) := by decide +kernel
theorem dX9_init_19 : decode cX9_init 19 = .ok (.iconst 4, 1) := by decide +kernel
theorem dX9_init_20 : decode cX9_init 20 = .ok (.newarray .int, 2) := by decide +kernel
theorem dX9_init_22 : decode cX9_init 22 = .ok (.putfield 16, 3) := by decide +kernel
theorem dX9_init_25 : decode cX9_init 25 = .ok (.aload_n 0, 1) := by decide +kernel
theorem dX9_init_26 : decode cX9_init 26 = .ok (.bipush 6, 2) := by decide +kernel
theorem dX9_init_28 : decode cX9_init 28 = .ok (.newarray .int, 2) := by decide +kernel
theorem dX9_init_30 : decode cX9_init 30 = .ok (.putfield 19, 3) := by decide +kernel
theorem dX9_init_33 : decode cX9_init 33 = .ok (.aload_n 0, 1) := by decide +kernel
theorem dX9_init_34 : decode cX9_init 34 = .ok (.bipush 6, 2) := by decide +kernel
theorem dX9_init_36 : decode cX9_init 36 = .ok (.newarray .int, 2) := by decide +kernel
theorem dX9_init_38 : decode cX9_init 38 = .ok (.putfield 22, 3) := by decide +kernel
theorem dX9_init_41 : decode cX9_init 41 = .ok (.aload_n 0, 1) := by decide +kernel
theorem dX9_init_42 : decode cX9_init 42 = .ok (.bipush 6, 2) := by decide +kernel
theorem dX9_init_44 : decode cX9_init 44 = .ok (.newarray .int, 2) := by decide +kernel
theorem dX9_init_46 : decode cX9_init 46 = .ok (.putfield 25, 3) := by decide +kernel
theorem dX9_init_49 : decode cX9_init 49 = .ok (.aload_n 0, 1) := by decide +kernel
theorem dX9_init_50 : decode cX9_init 50 = .ok (.bipush 28, 2) := by decide +kernel
theorem dX9_init_52 : decode cX9_init 52 = .ok (.newarray .byte, 2) := by decide +kernel
theorem dX9_init_54 : decode cX9_init 54 = .ok (.putfield 28, 3) := by decide +kernel
theorem dX9_init_57 : decode cX9_init 57 = .ok (.aload_n 0, 1) := by decide +kernel
theorem dX9_init_58 : decode cX9_init 58 = .ok (.bipush 72, 2) := by decide +kernel
theorem dX9_init_60 : decode cX9_init 60 = .ok (.newarray .long, 2) := by decide +kernel
theorem dX9_init_62 : decode cX9_init 62 = .ok (.putfield 32, 3) := by decide +kernel
theorem dX9_init_65 : decode cX9_init 65 = .ok (.aload_n 0, 1) := by decide +kernel
theorem dX9_init_66 : decode cX9_init 66 = .ok (.bipush 16, 2) := by decide +kernel
theorem dX9_init_68 : decode cX9_init 68 = .ok (.newarray .int, 2) := by decide +kernel
theorem dX9_init_70 : decode cX9_init 70 = .ok (.putfield 36, 3) := by decide +kernel
theorem dX9_init_73 : decode cX9_init 73 = .ok (.aload_n 0, 1) := by decide +kernel
theorem dX9_init_74 : decode cX9_init 74 = .ok (.bipush 16, 2) := by decide +kernel
theorem dX9_init_76 : decode cX9_init 76 = .ok (.newarray .int, 2) := by decide +kernel
theorem dX9_init_78 : decode cX9_init 78 = .ok (.putfield 39, 3) := by decide +kernel
theorem dX9_init_81 : decode cX9_init 81 = .ok (.aload_n 0, 1) := by decide +kernel
theorem dX9_init_82 : decode cX9_init 82 = .ok (.bipush 16, 2) := by decide +kernel
theorem dX9_init_84 : decode cX9_init 84 = .ok (.newarray .int, 2) := by decide +kernel
theorem dX9_init_86 : decode cX9_init 86 = .ok (.putfield 42, 3) := by decide +kernel
theorem dX9_init_89 : decode cX9_init 89 = .ok (.aload_n 0, 1) := by decide +kernel
theorem dX9_init_90 : decode cX9_init 90 = .ok (.iconst 4, 1) := by decide +kernel
theorem dX9_init_91 : decode cX9_init 91 = .ok (.newarray .int, 2) := by decide +kernel
theorem dX9_init_93 : decode cX9_init 93 = .ok (.putfield 45, 3) := by decide +kernel
theorem dX9_init_96 : decode cX9_init 96 = .ok (.aload_n 0, 1) := by decide +kernel
theorem dX9_init_97 : decode cX9_init 97 = .ok (.iconst 4, 1) := by decide +kernel
theorem dX9_init_98 : decode cX9_init 98 = .ok (.newarray .int, 2) := by decide +kernel
theorem dX9_init_100 : decode cX9_init 100 = .ok (.putfield 48, 3) := by decide +kernel
theorem dX9_init_103 : decode cX9_init 103 = .ok (.aload_n 0, 1) := by decide +kernel
theorem dX9_init_104 : decode cX9_init 104 = .ok (.iconst 4, 1) := by decide +kernel
theorem dX9_init_105 : decode cX9_init 105 = .ok (.newarray .int, 2) := by decide +kernel
theorem dX9_init_107 : decode cX9_init 107 = .ok (.putfield 51, 3) := by decide +kernel
theorem dX9_init_110 : decode cX9_init 110 = .ok (.aload_n 0, 1) := by decide +kernel
theorem dX9_init_111 : decode cX9_init 111 = .ok (.iconst 4, 1) := by decide +kernel
theorem dX9_init_112 : decode cX9_init 112 = .ok (.newarray .int, 2) := by decide +kernel
theorem dX9_init_114 : decode cX9_init 114 = .ok (.putfield 54, 3) := by decide +kernel
theorem dX9_init_117 : decode cX9_init 117 = .ok (.aload_n 0, 1) := by decide +kernel
theorem dX9_init_118 : decode cX9_init 118 = .ok (.bipush 6, 2) := by decide +kernel
theorem dX9_init_120 : decode cX9_init 120 = .ok (.newarray .int, 2) := by decide +kernel
theorem dX9_init_122 : decode cX9_init 122 = .ok (.putfield 57, 3) := by decide +kernel
theorem dX9_init_125 : decode cX9_init 125 = .ok (.aload_n 0, 1) := by decide +kernel
theorem dX9_init_126 : decode cX9_init 126 = .ok (.bipush 6, 2) := by decide +kernel
theorem dX9_init_128 : decode cX9_init 128 = .ok (.newarray .int, 2) := by decide +kernel
theorem dX9_init_130 : decode cX9_init 130 = .ok (.putfield 60, 3) := by decide +kernel
theorem dX9_init_133 : decode cX9_init 133 = .ok (.aload_n 0, 1) := by decide +kernel
theorem dX9_init_134 : decode cX9_init 134 = .ok (.bipush 6, 2) := by decide +kernel
theorem dX9_init_136 : decode cX9_init 136 = .ok (.newarray .int, 2) := by decide +kernel
theorem dX9_init_138 : decode cX9_init 138 = .ok (.putfield 63, 3) := by decide +kernel
theorem dX9_init_141 : decode cX9_init 141 = .ok (.return_, 1) := by decide +kernel
theorem dX9_within_0 : decode cX9_within 0 = .ok (.iload_n 0, 1) := by decide +kernel
theorem dX9_within_1 : decode cX9_within 1 = .ok (.iload_n 1, 1) := by decide +kernel
theorem dX9_within_2 : decode cX9_within 2 = .ok (.if_icmp .lt 12, 3) := by decide +kernel
theorem dX9_within_5 : decode cX9_within 5 = .ok (.iload_n 0, 1) := by decide +kernel
theorem dX9_within_6 : decode cX9_within 6 = .ok (.iload_n 2, 1) := by decide +kernel
theorem dX9_within_7 : decode cX9_within 7 = .ok (.if_icmp .gt 7, 3) := by decide +kernel
theorem dX9_within_10 : decode cX9_within 10 = .ok (.iconst 1, 1) := by decide +kernel
theorem dX9_within_11 : decode cX9_within 11 = .ok (.goto 4, 3) := by decide +kernel
theorem dX9_within_14 : decode cX9_within 14 = .ok (.iconst 0, 1) := by decide +kernel
theorem dX9_within_15 : decode cX9_within 15 = .ok (.ireturn, 1) := by decide +kernel
theorem dX9_isIn_0 : decode cX9_isIn 0 = .ok (.iload_n 0, 1) := by decide +kernel
theorem dX9_isIn_1 : decode cX9_isIn 1 = .ok (.iload_n 1, 1) := by decide +kernel
theorem dX9_isIn_2 : decode cX9_isIn 2 = .ok (.ishr, 1) := by decide +kernel
theorem dX9_isIn_3 : decode cX9_isIn 3 = .ok (.iconst 1, 1) := by decide +kernel
theorem dX9_isIn_4 : decode cX9_isIn 4 = .ok (.iand, 1) := by decide +kernel
theorem dX9_isIn_5 : decode cX9_isIn 5 = .ok (.iconst 1, 1) := by decide +kernel
theorem dX9_isIn_6 : decode cX9_isIn 6 = .ok (.if_icmp .ne 7, 3) := by decide +kernel
theorem dX9_isIn_9 : decode cX9_isIn 9 = .ok (.iconst 1, 1) := by decide +kernel
theorem dX9_isIn_10 : decode cX9_isIn 10 = .ok (.goto 4, 3) := by decide +kernel
theorem dX9_isIn_13 : decode cX9_isIn 13 = .ok (.iconst 0, 1) := by decide +kernel
theorem dX9_isIn_14 : decode cX9_isIn 14 = .ok (.ireturn, 1) := by decide +kernel
theorem dX9_size_0 : decode cX9_size 0 = .ok (.iconst 0, 1) := by decide +kernel
theorem dX9_size_1 : decode cX9_size 1 = .ok (.istore_n 1, 1) := by decide +kernel
theorem dX9_size_2 : decode cX9_size 2 = .ok (.iconst 0, 1) := by decide +kernel
theorem dX9_size_3 : decode cX9_size 3 = .ok (.istore_n 2, 1) := by decide +kernel
theorem dX9_size_4 : decode cX9_size 4 = .ok (.iload_n 2, 1) := by decide +kernel
theorem dX9_size_5 : decode cX9_size 5 = .ok (.bipush 16, 2) := by decide +kernel
theorem dX9_size_7 : decode cX9_size 7 = .ok (.if_icmp .ge 17, 3) := by decide +kernel
theorem dX9_size_10 : decode cX9_size 10 = .ok (.iload_n 1, 1) := by decide +kernel
theorem dX9_size_11 : decode cX9_size 11 = .ok (.iload_n 0, 1) := by decide +kernel
theorem dX9_size_12 : decode cX9_size 12 = .ok (.iload_n 2, 1) := by decide +kernel
theorem dX9_size_13 : decode cX9_size 13 = .ok (.ishr, 1) := by decide +kernel
theorem dX9_size_14 : decode cX9_size 14 = .ok (.iconst 1, 1) := by decide +kernel
theorem dX9_size_15 : decode cX9_size 15 = .ok (.iand, 1) := by decide +kernel
theorem dX9_size_16 : decode cX9_size 16 = .ok (.iadd, 1) := by decide +kernel
theorem dX9_size_17 : decode cX9_size 17 = .ok (.istore_n 1, 1) := by decide +kernel
theorem dX9_size_18 : decode cX9_size 18 = .ok (.iinc 2 1, 3) := by decide +kernel
theorem dX9_size_21 : decode cX9_size 21 = .ok (.goto (-17), 3) := by decide +kernel
theorem dX9_size_24 : decode cX9_size 24 = .ok (.iload_n 1, 1) := by decide +kernel
theorem dX9_size_25 : decode cX9_size 25 = .ok (.ireturn, 1) := by decide +kernel
theorem dX9_divisor_0 : decode cX9_divisor 0 = .ok (.iload_n 0, 1) := by decide +kernel
theorem dX9_divisor_1 : decode cX9_divisor 1 = .ok (.istore_n 2, 1) := by decide +kernel
theorem dX9_divisor_2 : decode cX9_divisor 2 = .ok (.iload_n 1, 1) := by decide +kernel
theorem dX9_divisor_3 : decode cX9_divisor 3 = .ok (.istore_n 3, 1) := by decide +kernel
theorem dX9_divisor_4 : decode cX9_divisor 4 = .ok (.iload_n 3, 1) := by decide +kernel
theorem dX9_divisor_5 : decode cX9_divisor 5 = .ok (.ifCond .eq 16, 3) := by decide +kernel
theorem dX9_divisor_8 : decode cX9_divisor 8 = .ok (.iload_n 2, 1) := by decide +kernel
theorem dX9_divisor_9 : decode cX9_divisor 9 = .ok (.iload_n 3, 1) := by decide +kernel
theorem dX9_divisor_10 : decode cX9_divisor 10 = .ok (.irem, 1) := by decide +kernel
theorem dX9_divisor_11 : decode cX9_divisor 11 = .ok (.istore 4, 2) := by decide +kernel
theorem dX9_divisor_13 : decode cX9_divisor 13 = .ok (.iload_n 3, 1) := by decide +kernel
theorem dX9_divisor_14 : decode cX9_divisor 14 = .ok (.istore_n 2, 1) := by decide +kernel
theorem dX9_divisor_15 : decode cX9_divisor 15 = .ok (.iload 4, 2) := by decide +kernel
theorem dX9_divisor_17 : decode cX9_divisor 17 = .ok (.istore_n 3, 1) := by decide +kernel
theorem dX9_divisor_18 : decode cX9_divisor 18 = .ok (.goto (-14), 3) := by decide +kernel
theorem dX9_divisor_21 : decode cX9_divisor 21 = .ok (.iload_n 2, 1) := by decide +kernel
theorem dX9_divisor_22 : decode cX9_divisor 22 = .ok (.ireturn, 1) := by decide +kernel
theorem dX9_letter_0 : decode cX9_letter 0 = .ok (.iload_n 1, 1) := by decide +kernel
theorem dX9_letter_1 : decode cX9_letter 1 = .ok (.bipush 32, 2) := by decide +kernel
theorem dX9_letter_3 : decode cX9_letter 3 = .ok (.bipush 126, 2) := by decide +kernel
theorem dX9_letter_5 : decode cX9_letter 5 = .ok (.invokestatic 66, 3) := by decide +kernel
theorem dX9_letter_8 : decode cX9_letter 8 = .ok (.ifCond .ne 6, 3) := by decide +kernel
theorem dX9_letter_11 : decode cX9_letter 11 = .ok (.bipush (-102), 2) := by decide +kernel
theorem dX9_letter_13 : decode cX9_letter 13 = .ok (.ireturn, 1) := by decide +kernel
theorem dX9_letter_14 : decode cX9_letter 14 = .ok (.aload_n 0, 1) := by decide +kernel
theorem dX9_letter_15 : decode cX9_letter 15 = .ok (.getfield 70, 3) := by decide +kernel
theorem dX9_letter_18 : decode cX9_letter 18 = .ok (.bipush 28, 2) := by decide +kernel
theorem dX9_letter_20 : decode cX9_letter 20 = .ok (.if_icmp .ne 6, 3) := by decide +kernel
theorem dX9_letter_23 : decode cX9_letter 23 = .ok (.bipush (-104), 2) := by decide +kernel
theorem dX9_letter_25 : decode cX9_letter 25 = .ok (.ireturn, 1) := by decide +kernel
theorem dX9_letter_26 : decode cX9_letter 26 = .ok (.aload_n 0, 1) := by decide +kernel
theorem dX9_letter_27 : decode cX9_letter 27 = .ok (.getfield 28, 3) := by decide +kernel
theorem dX9_letter_30 : decode cX9_letter 30 = .ok (.aload_n 0, 1) := by decide +kernel
theorem dX9_letter_31 : decode cX9_letter 31 = .ok (.getfield 70, 3) := by decide +kernel
theorem dX9_letter_34 : decode cX9_letter 34 = .ok (.iload_n 1, 1) := by decide +kernel
theorem dX9_letter_35 : decode cX9_letter 35 = .ok (.i2b, 1) := by decide +kernel
theorem dX9_letter_36 : decode cX9_letter 36 = .ok (.bastore, 1) := by decide +kernel
theorem dX9_letter_37 : decode cX9_letter 37 = .ok (.aload_n 0, 1) := by decide +kernel
theorem dX9_letter_38 : decode cX9_letter 38 = .ok (.dup, 1) := by decide +kernel
theorem dX9_letter_39 : decode cX9_letter 39 = .ok (.getfield 70, 3) := by decide +kernel
theorem dX9_letter_42 : decode cX9_letter 42 = .ok (.iconst 1, 1) := by decide +kernel
theorem dX9_letter_43 : decode cX9_letter 43 = .ok (.iadd, 1) := by decide +kernel
theorem dX9_letter_44 : decode cX9_letter 44 = .ok (.putfield 70, 3) := by decide +kernel
theorem dX9_letter_47 : decode cX9_letter 47 = .ok (.aload_n 0, 1) := by decide +kernel
theorem dX9_letter_48 : decode cX9_letter 48 = .ok (.getfield 70, 3) := by decide +kernel
theorem dX9_letter_51 : decode cX9_letter 51 = .ok (.ireturn, 1) := by decide +kernel
theorem dX9_blank_0 : decode cX9_blank 0 = .ok (.aload_n 0, 1) := by decide +kernel
theorem dX9_blank_1 : decode cX9_blank 1 = .ok (.getfield 70, 3) := by decide +kernel
theorem dX9_blank_4 : decode cX9_blank 4 = .ok (.istore_n 1, 1) := by decide +kernel
theorem dX9_blank_5 : decode cX9_blank 5 = .ok (.aload_n 0, 1) := by decide +kernel
theorem dX9_blank_6 : decode cX9_blank 6 = .ok (.iconst 0, 1) := by decide +kernel
theorem dX9_blank_7 : decode cX9_blank 7 = .ok (.putfield 70, 3) := by decide +kernel
theorem dX9_blank_10 : decode cX9_blank 10 = .ok (.iload_n 1, 1) := by decide +kernel
theorem dX9_blank_11 : decode cX9_blank 11 = .ok (.ireturn, 1) := by decide +kernel
theorem dX9_kindBy_0 : decode cX9_kindBy 0 = .ok (.iload_n 0, 1) := by decide +kernel
theorem dX9_kindBy_1 : decode cX9_kindBy 1 = .ok (.tableswitch 85 98 112 #[83, 85, 85, 81, 85, 85, 85, 85, 85, 85, 85, 77, 85, 79, 75], 75) := by decide +kernel
theorem dX9_kindBy_76 : decode cX9_kindBy 76 = .ok (.iconst 0, 1) := by decide +kernel
theorem dX9_kindBy_77 : decode cX9_kindBy 77 = .ok (.ireturn, 1) := by decide +kernel
theorem dX9_kindBy_78 : decode cX9_kindBy 78 = .ok (.iconst 1, 1) := by decide +kernel
theorem dX9_kindBy_79 : decode cX9_kindBy 79 = .ok (.ireturn, 1) := by decide +kernel
theorem dX9_kindBy_80 : decode cX9_kindBy 80 = .ok (.iconst 2, 1) := by decide +kernel
theorem dX9_kindBy_81 : decode cX9_kindBy 81 = .ok (.ireturn, 1) := by decide +kernel
theorem dX9_kindBy_82 : decode cX9_kindBy 82 = .ok (.iconst 3, 1) := by decide +kernel
theorem dX9_kindBy_83 : decode cX9_kindBy 83 = .ok (.ireturn, 1) := by decide +kernel
theorem dX9_kindBy_84 : decode cX9_kindBy 84 = .ok (.iconst 4, 1) := by decide +kernel
theorem dX9_kindBy_85 : decode cX9_kindBy 85 = .ok (.ireturn, 1) := by decide +kernel
theorem dX9_kindBy_86 : decode cX9_kindBy 86 = .ok (.iconst (-1), 1) := by decide +kernel
theorem dX9_kindBy_87 : decode cX9_kindBy 87 = .ok (.ireturn, 1) := by decide +kernel
theorem dX9_at_0 : decode cX9_at 0 = .ok (.iload_n 1, 1) := by decide +kernel
theorem dX9_at_1 : decode cX9_at 1 = .ok (.aload_n 0, 1) := by decide +kernel
theorem dX9_at_2 : decode cX9_at 2 = .ok (.getfield 70, 3) := by decide +kernel
theorem dX9_at_5 : decode cX9_at 5 = .ok (.if_icmp .ge 12, 3) := by decide +kernel
theorem dX9_at_8 : decode cX9_at 8 = .ok (.aload_n 0, 1) := by decide +kernel
theorem dX9_at_9 : decode cX9_at 9 = .ok (.getfield 28, 3) := by decide +kernel
theorem dX9_at_12 : decode cX9_at 12 = .ok (.iload_n 1, 1) := by decide +kernel
theorem dX9_at_13 : decode cX9_at 13 = .ok (.baload, 1) := by decide +kernel
theorem dX9_at_14 : decode cX9_at 14 = .ok (.goto 4, 3) := by decide +kernel
theorem dX9_at_17 : decode cX9_at 17 = .ok (.iconst 0, 1) := by decide +kernel
theorem dX9_at_18 : decode cX9_at 18 = .ok (.ireturn, 1) := by decide +kernel
theorem dX9_readPlayer_0 : decode cX9_readPlayer 0 = .ok (.aload_n 0, 1) := by decide +kernel
theorem dX9_readPlayer_1 : decode cX9_readPlayer 1 = .ok (.iload_n 1, 1) := by decide +kernel
theorem dX9_readPlayer_2 : decode cX9_readPlayer 2 = .ok (.invokevirtual 74, 3) := by decide +kernel
theorem dX9_readPlayer_5 : decode cX9_readPlayer 5 = .ok (.invokestatic 78, 3) := by decide +kernel
theorem dX9_readPlayer_8 : decode cX9_readPlayer 8 = .ok (.iconst (-1), 1) := by decide +kernel
theorem dX9_readPlayer_9 : decode cX9_readPlayer 9 = .ok (.if_icmp .ne 5, 3) := by decide +kernel
theorem dX9_readPlayer_12 : decode cX9_readPlayer 12 = .ok (.iload_n 1, 1) := by decide +kernel
theorem dX9_readPlayer_13 : decode cX9_readPlayer 13 = .ok (.ireturn, 1) := by decide +kernel
theorem dX9_readPlayer_14 : decode cX9_readPlayer 14 = .ok (.iload_n 1, 1) := by decide +kernel
theorem dX9_readPlayer_15 : decode cX9_readPlayer 15 = .ok (.iconst 1, 1) := by decide +kernel
theorem dX9_readPlayer_16 : decode cX9_readPlayer 16 = .ok (.iadd, 1) := by decide +kernel
theorem dX9_readPlayer_17 : decode cX9_readPlayer 17 = .ok (.istore_n 2, 1) := by decide +kernel
theorem dX9_readPlayer_18 : decode cX9_readPlayer 18 = .ok (.iload_n 2, 1) := by decide +kernel
theorem dX9_readPlayer_19 : decode cX9_readPlayer 19 = .ok (.iload_n 1, 1) := by decide +kernel
theorem dX9_readPlayer_20 : decode cX9_readPlayer 20 = .ok (.aload_n 0, 1) := by decide +kernel
theorem dX9_readPlayer_21 : decode cX9_readPlayer 21 = .ok (.getfield 81, 3) := by decide +kernel
theorem dX9_readPlayer_24 : decode cX9_readPlayer 24 = .ok (.iadd, 1) := by decide +kernel
theorem dX9_readPlayer_25 : decode cX9_readPlayer 25 = .ok (.if_icmp .gt 29, 3) := by decide +kernel
theorem dX9_readPlayer_28 : decode cX9_readPlayer 28 = .ok (.aload_n 0, 1) := by decide +kernel
theorem dX9_readPlayer_29 : decode cX9_readPlayer 29 = .ok (.iload_n 2, 1) := by decide +kernel
theorem dX9_readPlayer_30 : decode cX9_readPlayer 30 = .ok (.invokevirtual 74, 3) := by decide +kernel
theorem dX9_readPlayer_33 : decode cX9_readPlayer 33 = .ok (.bipush 104, 2) := by decide +kernel
theorem dX9_readPlayer_35 : decode cX9_readPlayer 35 = .ok (.if_icmp .eq 13, 3) := by decide +kernel
theorem dX9_readPlayer_38 : decode cX9_readPlayer 38 = .ok (.aload_n 0, 1) := by decide +kernel
theorem dX9_readPlayer_39 : decode cX9_readPlayer 39 = .ok (.iload_n 2, 1) := by decide +kernel
theorem dX9_readPlayer_40 : decode cX9_readPlayer 40 = .ok (.invokevirtual 74, 3) := by decide +kernel
theorem dX9_readPlayer_43 : decode cX9_readPlayer 43 = .ok (.bipush 116, 2) := by decide +kernel
theorem dX9_readPlayer_45 : decode cX9_readPlayer 45 = .ok (.if_icmp .ne 9, 3) := by decide +kernel
theorem dX9_readPlayer_48 : decode cX9_readPlayer 48 = .ok (.iinc 2 1, 3) := by decide +kernel
theorem dX9_readPlayer_51 : decode cX9_readPlayer 51 = .ok (.goto (-33), 3) := by decide +kernel
theorem dX9_readPlayer_54 : decode cX9_readPlayer 54 = .ok (.iload_n 2, 1) := by decide +kernel
theorem dX9_readPlayer_55 : decode cX9_readPlayer 55 = .ok (.ireturn, 1) := by decide +kernel
theorem dX9_read_0 : decode cX9_read 0 = .ok (.aload_n 0, 1) := by decide +kernel
theorem dX9_read_1 : decode cX9_read 1 = .ok (.iconst 0, 1) := by decide +kernel
theorem dX9_read_2 : decode cX9_read 2 = .ok (.putfield 84, 3) := by decide +kernel
theorem dX9_read_5 : decode cX9_read 5 = .ok (.aload_n 0, 1) := by decide +kernel
theorem dX9_read_6 : decode cX9_read 6 = .ok (.iconst 0, 1) := by decide +kernel
theorem dX9_read_7 : decode cX9_read 7 = .ok (.putfield 88, 3) := by decide +kernel
theorem dX9_read_10 : decode cX9_read 10 = .ok (.aload_n 0, 1) := by decide +kernel
theorem dX9_read_11 : decode cX9_read 11 = .ok (.aload_n 0, 1) := by decide +kernel
theorem dX9_read_12 : decode cX9_read 12 = .ok (.iconst 0, 1) := by decide +kernel
theorem dX9_read_13 : decode cX9_read 13 = .ok (.invokevirtual 74, 3) := by decide +kernel
theorem dX9_read_16 : decode cX9_read 16 = .ok (.bipush 48, 2) := by decide +kernel
theorem dX9_read_18 : decode cX9_read 18 = .ok (.isub, 1) := by decide +kernel
theorem dX9_read_19 : decode cX9_read 19 = .ok (.putfield 81, 3) := by decide +kernel
theorem dX9_read_22 : decode cX9_read 22 = .ok (.aload_n 0, 1) := by decide +kernel
theorem dX9_read_23 : decode cX9_read 23 = .ok (.getfield 81, 3) := by decide +kernel
theorem dX9_read_26 : decode cX9_read 26 = .ok (.iconst 2, 1) := by decide +kernel
theorem dX9_read_27 : decode cX9_read 27 = .ok (.iconst 4, 1) := by decide +kernel
theorem dX9_read_28 : decode cX9_read 28 = .ok (.invokestatic 66, 3) := by decide +kernel
theorem dX9_read_31 : decode cX9_read 31 = .ok (.ifCond .ne 5, 3) := by decide +kernel
theorem dX9_read_34 : decode cX9_read 34 = .ok (.iconst 0, 1) := by decide +kernel
theorem dX9_read_35 : decode cX9_read 35 = .ok (.ireturn, 1) := by decide +kernel
theorem dX9_read_36 : decode cX9_read 36 = .ok (.aload_n 0, 1) := by decide +kernel
theorem dX9_read_37 : decode cX9_read 37 = .ok (.iconst 1, 1) := by decide +kernel
theorem dX9_read_38 : decode cX9_read 38 = .ok (.invokevirtual 74, 3) := by decide +kernel
theorem dX9_read_41 : decode cX9_read 41 = .ok (.bipush 59, 2) := by decide +kernel
theorem dX9_read_43 : decode cX9_read 43 = .ok (.if_icmp .eq 5, 3) := by decide +kernel
theorem dX9_read_46 : decode cX9_read 46 = .ok (.iconst 1, 1) := by decide +kernel
theorem dX9_read_47 : decode cX9_read 47 = .ok (.ireturn, 1) := by decide +kernel
theorem dX9_read_48 : decode cX9_read 48 = .ok (.iconst 2, 1) := by decide +kernel
theorem dX9_read_49 : decode cX9_read 49 = .ok (.istore_n 1, 1) := by decide +kernel
theorem dX9_read_50 : decode cX9_read 50 = .ok (.aload_n 0, 1) := by decide +kernel
theorem dX9_read_51 : decode cX9_read 51 = .ok (.getfield 88, 3) := by decide +kernel
theorem dX9_read_54 : decode cX9_read 54 = .ok (.iconst 4, 1) := by decide +kernel
theorem dX9_read_55 : decode cX9_read 55 = .ok (.if_icmp .ge 86, 3) := by decide +kernel
theorem dX9_read_58 : decode cX9_read 58 = .ok (.aload_n 0, 1) := by decide +kernel
theorem dX9_read_59 : decode cX9_read 59 = .ok (.iload_n 1, 1) := by decide +kernel
theorem dX9_read_60 : decode cX9_read 60 = .ok (.invokevirtual 91, 3) := by decide +kernel
theorem dX9_read_63 : decode cX9_read 63 = .ok (.istore_n 2, 1) := by decide +kernel
theorem dX9_read_64 : decode cX9_read 64 = .ok (.iload_n 2, 1) := by decide +kernel
theorem dX9_read_65 : decode cX9_read 65 = .ok (.iload_n 1, 1) := by decide +kernel
theorem dX9_read_66 : decode cX9_read 66 = .ok (.iconst 1, 1) := by decide +kernel
theorem dX9_read_67 : decode cX9_read 67 = .ok (.iadd, 1) := by decide +kernel
theorem dX9_read_68 : decode cX9_read 68 = .ok (.aload_n 0, 1) := by decide +kernel
theorem dX9_read_69 : decode cX9_read 69 = .ok (.getfield 81, 3) := by decide +kernel
theorem dX9_read_72 : decode cX9_read 72 = .ok (.iadd, 1) := by decide +kernel
theorem dX9_read_73 : decode cX9_read 73 = .ok (.if_icmp .eq 5, 3) := by decide +kernel
theorem dX9_read_76 : decode cX9_read 76 = .ok (.iload_n 2, 1) := by decide +kernel
theorem dX9_read_77 : decode cX9_read 77 = .ok (.ireturn, 1) := by decide +kernel
theorem dX9_read_78 : decode cX9_read 78 = .ok (.aload_n 0, 1) := by decide +kernel
theorem dX9_read_79 : decode cX9_read 79 = .ok (.dup, 1) := by decide +kernel
theorem dX9_read_80 : decode cX9_read 80 = .ok (.getfield 88, 3) := by decide +kernel
theorem dX9_read_83 : decode cX9_read 83 = .ok (.iconst 1, 1) := by decide +kernel
theorem dX9_read_84 : decode cX9_read 84 = .ok (.iadd, 1) := by decide +kernel
theorem dX9_read_85 : decode cX9_read 85 = .ok (.putfield 88, 3) := by decide +kernel
theorem dX9_read_88 : decode cX9_read 88 = .ok (.iload_n 2, 1) := by decide +kernel
theorem dX9_read_89 : decode cX9_read 89 = .ok (.istore_n 1, 1) := by decide +kernel
theorem dX9_read_90 : decode cX9_read 90 = .ok (.aload_n 0, 1) := by decide +kernel
theorem dX9_read_91 : decode cX9_read 91 = .ok (.iload_n 1, 1) := by decide +kernel
theorem dX9_read_92 : decode cX9_read 92 = .ok (.aload_n 0, 1) := by decide +kernel
theorem dX9_read_93 : decode cX9_read 93 = .ok (.getfield 70, 3) := by decide +kernel
theorem dX9_read_96 : decode cX9_read 96 = .ok (.if_icmp .ne 15, 3) := by decide +kernel
theorem dX9_read_99 : decode cX9_read 99 = .ok (.aload_n 0, 1) := by decide +kernel
theorem dX9_read_100 : decode cX9_read 100 = .ok (.getfield 88, 3) := by decide +kernel
theorem dX9_read_103 : decode cX9_read 103 = .ok (.iconst 1, 1) := by decide +kernel
theorem dX9_read_104 : decode cX9_read 104 = .ok (.if_icmp .le 7, 3) := by decide +kernel
theorem dX9_read_107 : decode cX9_read 107 = .ok (.iconst 1, 1) := by decide +kernel
theorem dX9_read_108 : decode cX9_read 108 = .ok (.goto 4, 3) := by decide +kernel
theorem dX9_read_111 : decode cX9_read 111 = .ok (.iconst 0, 1) := by decide +kernel
theorem dX9_read_112 : decode cX9_read 112 = .ok (.putfield 84, 3) := by decide +kernel
theorem dX9_read_115 : decode cX9_read 115 = .ok (.aload_n 0, 1) := by decide +kernel
theorem dX9_read_116 : decode cX9_read 116 = .ok (.getfield 88, 3) := by decide +kernel
theorem dX9_read_119 : decode cX9_read 119 = .ok (.iconst 4, 1) := by decide +kernel
theorem dX9_read_120 : decode cX9_read 120 = .ok (.if_icmp .eq 13, 3) := by decide +kernel
theorem dX9_read_123 : decode cX9_read 123 = .ok (.aload_n 0, 1) := by decide +kernel
theorem dX9_read_124 : decode cX9_read 124 = .ok (.iload_n 1, 1) := by decide +kernel
theorem dX9_read_125 : decode cX9_read 125 = .ok (.invokevirtual 74, 3) := by decide +kernel
theorem dX9_read_128 : decode cX9_read 128 = .ok (.bipush 44, 2) := by decide +kernel
theorem dX9_read_130 : decode cX9_read 130 = .ok (.if_icmp .eq 5, 3) := by decide +kernel
theorem dX9_read_133 : decode cX9_read 133 = .ok (.iload_n 1, 1) := by decide +kernel
theorem dX9_read_134 : decode cX9_read 134 = .ok (.ireturn, 1) := by decide +kernel
theorem dX9_read_135 : decode cX9_read 135 = .ok (.iinc 1 1, 3) := by decide +kernel
theorem dX9_read_138 : decode cX9_read 138 = .ok (.goto (-88), 3) := by decide +kernel
theorem dX9_read_141 : decode cX9_read 141 = .ok (.iload_n 1, 1) := by decide +kernel
theorem dX9_read_142 : decode cX9_read 142 = .ok (.ireturn, 1) := by decide +kernel
theorem dX9_fault_0 : decode cX9_fault 0 = .ok (.aload_n 0, 1) := by decide +kernel
theorem dX9_fault_1 : decode cX9_fault 1 = .ok (.invokevirtual 94, 3) := by decide +kernel
theorem dX9_fault_4 : decode cX9_fault 4 = .ok (.ireturn, 1) := by decide +kernel
theorem dX9_rowAt_0 : decode cX9_rowAt 0 = .ok (.iconst 0, 1) := by decide +kernel
theorem dX9_rowAt_1 : decode cX9_rowAt 1 = .ok (.istore_n 2, 1) := by decide +kernel
theorem dX9_rowAt_2 : decode cX9_rowAt 2 = .ok (.iconst 0, 1) := by decide +kernel
theorem dX9_rowAt_3 : decode cX9_rowAt 3 = .ok (.istore_n 3, 1) := by decide +kernel
theorem dX9_rowAt_4 : decode cX9_rowAt 4 = .ok (.iload_n 3, 1) := by decide +kernel
theorem dX9_rowAt_5 : decode cX9_rowAt 5 = .ok (.aload_n 0, 1) := by decide +kernel
theorem dX9_rowAt_6 : decode cX9_rowAt 6 = .ok (.getfield 98, 3) := by decide +kernel
theorem dX9_rowAt_9 : decode cX9_rowAt 9 = .ok (.if_icmp .ge 32, 3) := by decide +kernel
theorem dX9_rowAt_12 : decode cX9_rowAt 12 = .ok (.iconst 2, 1) := by decide +kernel
theorem dX9_rowAt_13 : decode cX9_rowAt 13 = .ok (.iload_n 2, 1) := by decide +kernel
theorem dX9_rowAt_14 : decode cX9_rowAt 14 = .ok (.imul, 1) := by decide +kernel
theorem dX9_rowAt_15 : decode cX9_rowAt 15 = .ok (.aload_n 0, 1) := by decide +kernel
theorem dX9_rowAt_16 : decode cX9_rowAt 16 = .ok (.getfield 28, 3) := by decide +kernel
theorem dX9_rowAt_19 : decode cX9_rowAt 19 = .ok (.iload_n 1, 1) := by decide +kernel
theorem dX9_rowAt_20 : decode cX9_rowAt 20 = .ok (.iload_n 3, 1) := by decide +kernel
theorem dX9_rowAt_21 : decode cX9_rowAt 21 = .ok (.iadd, 1) := by decide +kernel
theorem dX9_rowAt_22 : decode cX9_rowAt 22 = .ok (.baload, 1) := by decide +kernel
theorem dX9_rowAt_23 : decode cX9_rowAt 23 = .ok (.bipush 116, 2) := by decide +kernel
theorem dX9_rowAt_25 : decode cX9_rowAt 25 = .ok (.if_icmp .ne 7, 3) := by decide +kernel
theorem dX9_rowAt_28 : decode cX9_rowAt 28 = .ok (.iconst 1, 1) := by decide +kernel
theorem dX9_rowAt_29 : decode cX9_rowAt 29 = .ok (.goto 4, 3) := by decide +kernel
theorem dX9_rowAt_32 : decode cX9_rowAt 32 = .ok (.iconst 0, 1) := by decide +kernel
theorem dX9_rowAt_33 : decode cX9_rowAt 33 = .ok (.iadd, 1) := by decide +kernel
theorem dX9_rowAt_34 : decode cX9_rowAt 34 = .ok (.istore_n 2, 1) := by decide +kernel
theorem dX9_rowAt_35 : decode cX9_rowAt 35 = .ok (.iinc 3 1, 3) := by decide +kernel
theorem dX9_rowAt_38 : decode cX9_rowAt 38 = .ok (.goto (-34), 3) := by decide +kernel
theorem dX9_rowAt_41 : decode cX9_rowAt 41 = .ok (.iload_n 2, 1) := by decide +kernel
theorem dX9_rowAt_42 : decode cX9_rowAt 42 = .ok (.ireturn, 1) := by decide +kernel
theorem dX9_table_0 : decode cX9_table 0 = .ok (.aload_n 0, 1) := by decide +kernel
theorem dX9_table_1 : decode cX9_table 1 = .ok (.invokevirtual 94, 3) := by decide +kernel
theorem dX9_table_4 : decode cX9_table 4 = .ok (.pop, 1) := by decide +kernel
theorem dX9_table_5 : decode cX9_table 5 = .ok (.aload_n 0, 1) := by decide +kernel
theorem dX9_table_6 : decode cX9_table 6 = .ok (.getfield 84, 3) := by decide +kernel
theorem dX9_table_9 : decode cX9_table 9 = .ok (.ifCond .ne 6, 3) := by decide +kernel
theorem dX9_table_12 : decode cX9_table 12 = .ok (.bipush (-103), 2) := by decide +kernel
theorem dX9_table_14 : decode cX9_table 14 = .ok (.ireturn, 1) := by decide +kernel
theorem dX9_table_15 : decode cX9_table 15 = .ok (.aload_n 0, 1) := by decide +kernel
theorem dX9_table_16 : decode cX9_table 16 = .ok (.aload_n 0, 1) := by decide +kernel
theorem dX9_table_17 : decode cX9_table 17 = .ok (.getfield 81, 3) := by decide +kernel
theorem dX9_table_20 : decode cX9_table 20 = .ok (.putfield 98, 3) := by decide +kernel
theorem dX9_table_23 : decode cX9_table 23 = .ok (.aload_n 0, 1) := by decide +kernel
theorem dX9_table_24 : decode cX9_table 24 = .ok (.aload_n 0, 1) := by decide +kernel
theorem dX9_table_25 : decode cX9_table 25 = .ok (.getfield 88, 3) := by decide +kernel
theorem dX9_table_28 : decode cX9_table 28 = .ok (.putfield 101, 3) := by decide +kernel
theorem dX9_table_31 : decode cX9_table 31 = .ok (.iconst 0, 1) := by decide +kernel
theorem dX9_table_32 : decode cX9_table 32 = .ok (.istore_n 1, 1) := by decide +kernel
theorem dX9_table_33 : decode cX9_table 33 = .ok (.iload_n 1, 1) := by decide +kernel
theorem dX9_table_34 : decode cX9_table 34 = .ok (.aload_n 0, 1) := by decide +kernel
theorem dX9_table_35 : decode cX9_table 35 = .ok (.getfield 101, 3) := by decide +kernel
theorem dX9_table_38 : decode cX9_table 38 = .ok (.if_icmp .ge 55, 3) := by decide +kernel
theorem dX9_table_41 : decode cX9_table 41 = .ok (.iconst 2, 1) := by decide +kernel
theorem dX9_table_42 : decode cX9_table 42 = .ok (.aload_n 0, 1) := by decide +kernel
theorem dX9_table_43 : decode cX9_table 43 = .ok (.getfield 98, 3) := by decide +kernel
theorem dX9_table_46 : decode cX9_table 46 = .ok (.iconst 2, 1) := by decide +kernel
theorem dX9_table_47 : decode cX9_table 47 = .ok (.iadd, 1) := by decide +kernel
theorem dX9_table_48 : decode cX9_table 48 = .ok (.iload_n 1, 1) := by decide +kernel
theorem dX9_table_49 : decode cX9_table 49 = .ok (.imul, 1) := by decide +kernel
theorem dX9_table_50 : decode cX9_table 50 = .ok (.iadd, 1) := by decide +kernel
theorem dX9_table_51 : decode cX9_table 51 = .ok (.istore_n 2, 1) := by decide +kernel
theorem dX9_table_52 : decode cX9_table 52 = .ok (.aload_n 0, 1) := by decide +kernel
theorem dX9_table_53 : decode cX9_table 53 = .ok (.getfield 7, 3) := by decide +kernel
theorem dX9_table_56 : decode cX9_table 56 = .ok (.iload_n 1, 1) := by decide +kernel
theorem dX9_table_57 : decode cX9_table 57 = .ok (.aload_n 0, 1) := by decide +kernel
theorem dX9_table_58 : decode cX9_table 58 = .ok (.getfield 28, 3) := by decide +kernel
theorem dX9_table_61 : decode cX9_table 61 = .ok (.iload_n 2, 1) := by decide +kernel
theorem dX9_table_62 : decode cX9_table 62 = .ok (.baload, 1) := by decide +kernel
theorem dX9_table_63 : decode cX9_table 63 = .ok (.invokestatic 78, 3) := by decide +kernel
theorem dX9_table_66 : decode cX9_table 66 = .ok (.iastore, 1) := by decide +kernel
theorem dX9_table_67 : decode cX9_table 67 = .ok (.aload_n 0, 1) := by decide +kernel
theorem dX9_table_68 : decode cX9_table 68 = .ok (.getfield 13, 3) := by decide +kernel
theorem dX9_table_71 : decode cX9_table 71 = .ok (.iload_n 1, 1) := by decide +kernel
theorem dX9_table_72 : decode cX9_table 72 = .ok (.aload_n 0, 1) := by decide +kernel
theorem dX9_table_73 : decode cX9_table 73 = .ok (.iload_n 2, 1) := by decide +kernel
theorem dX9_table_74 : decode cX9_table 74 = .ok (.iconst 1, 1) := by decide +kernel
theorem dX9_table_75 : decode cX9_table 75 = .ok (.iadd, 1) := by decide +kernel
theorem dX9_table_76 : decode cX9_table 76 = .ok (.invokevirtual 104, 3) := by decide +kernel
theorem dX9_table_79 : decode cX9_table 79 = .ok (.iastore, 1) := by decide +kernel
theorem dX9_table_80 : decode cX9_table 80 = .ok (.aload_n 0, 1) := by decide +kernel
theorem dX9_table_81 : decode cX9_table 81 = .ok (.getfield 16, 3) := by decide +kernel
theorem dX9_table_84 : decode cX9_table 84 = .ok (.iload_n 1, 1) := by decide +kernel
theorem dX9_table_85 : decode cX9_table 85 = .ok (.iconst 0, 1) := by decide +kernel
theorem dX9_table_86 : decode cX9_table 86 = .ok (.iastore, 1) := by decide +kernel
theorem dX9_table_87 : decode cX9_table 87 = .ok (.iinc 1 1, 3) := by decide +kernel
theorem dX9_table_90 : decode cX9_table 90 = .ok (.goto (-57), 3) := by decide +kernel
theorem dX9_table_93 : decode cX9_table 93 = .ok (.aload_n 0, 1) := by decide +kernel
theorem dX9_table_94 : decode cX9_table 94 = .ok (.iconst 0, 1) := by decide +kernel
theorem dX9_table_95 : decode cX9_table 95 = .ok (.putfield 107, 3) := by decide +kernel
theorem dX9_table_98 : decode cX9_table 98 = .ok (.aload_n 0, 1) := by decide +kernel
theorem dX9_table_99 : decode cX9_table 99 = .ok (.iconst 0, 1) := by decide +kernel
theorem dX9_table_100 : decode cX9_table 100 = .ok (.putfield 110, 3) := by decide +kernel
theorem dX9_table_103 : decode cX9_table 103 = .ok (.aload_n 0, 1) := by decide +kernel
theorem dX9_table_104 : decode cX9_table 104 = .ok (.iconst 0, 1) := by decide +kernel
theorem dX9_table_105 : decode cX9_table 105 = .ok (.putfield 113, 3) := by decide +kernel
theorem dX9_table_108 : decode cX9_table 108 = .ok (.aload_n 0, 1) := by decide +kernel
theorem dX9_table_109 : decode cX9_table 109 = .ok (.dup, 1) := by decide +kernel
theorem dX9_table_110 : decode cX9_table 110 = .ok (.getfield 116, 3) := by decide +kernel
theorem dX9_table_113 : decode cX9_table 113 = .ok (.iconst 1, 1) := by decide +kernel
theorem dX9_table_114 : decode cX9_table 114 = .ok (.iadd, 1) := by decide +kernel
theorem dX9_table_115 : decode cX9_table 115 = .ok (.putfield 116, 3) := by decide +kernel
theorem dX9_table_118 : decode cX9_table 118 = .ok (.aload_n 0, 1) := by decide +kernel
theorem dX9_table_119 : decode cX9_table 119 = .ok (.iconst 0, 1) := by decide +kernel
theorem dX9_table_120 : decode cX9_table 120 = .ok (.putfield 119, 3) := by decide +kernel
theorem dX9_table_123 : decode cX9_table 123 = .ok (.aload_n 0, 1) := by decide +kernel
theorem dX9_table_124 : decode cX9_table 124 = .ok (.iconst 0, 1) := by decide +kernel
theorem dX9_table_125 : decode cX9_table 125 = .ok (.putfield 70, 3) := by decide +kernel
theorem dX9_table_128 : decode cX9_table 128 = .ok (.aload_n 0, 1) := by decide +kernel
theorem dX9_table_129 : decode cX9_table 129 = .ok (.getfield 101, 3) := by decide +kernel
theorem dX9_table_132 : decode cX9_table 132 = .ok (.ireturn, 1) := by decide +kernel
theorem dX9_isPlayer_0 : decode cX9_isPlayer 0 = .ok (.iload_n 1, 1) := by decide +kernel
theorem dX9_isPlayer_1 : decode cX9_isPlayer 1 = .ok (.iconst 0, 1) := by decide +kernel
theorem dX9_isPlayer_2 : decode cX9_isPlayer 2 = .ok (.aload_n 0, 1) := by decide +kernel
theorem dX9_isPlayer_3 : decode cX9_isPlayer 3 = .ok (.getfield 101, 3) := by decide +kernel
theorem dX9_isPlayer_6 : decode cX9_isPlayer 6 = .ok (.iconst 1, 1) := by decide +kernel
theorem dX9_isPlayer_7 : decode cX9_isPlayer 7 = .ok (.isub, 1) := by decide +kernel
theorem dX9_isPlayer_8 : decode cX9_isPlayer 8 = .ok (.invokestatic 66, 3) := by decide +kernel
theorem dX9_isPlayer_11 : decode cX9_isPlayer 11 = .ok (.ireturn, 1) := by decide +kernel
theorem dX9_rows_0 : decode cX9_rows 0 = .ok (.iconst 1, 1) := by decide +kernel
theorem dX9_rows_1 : decode cX9_rows 1 = .ok (.aload_n 0, 1) := by decide +kernel
theorem dX9_rows_2 : decode cX9_rows 2 = .ok (.getfield 98, 3) := by decide +kernel
theorem dX9_rows_5 : decode cX9_rows 5 = .ok (.ishl, 1) := by decide +kernel
theorem dX9_rows_6 : decode cX9_rows 6 = .ok (.ireturn, 1) := by decide +kernel
theorem dX9_isRow_0 : decode cX9_isRow 0 = .ok (.aload_n 0, 1) := by decide +kernel
theorem dX9_isRow_1 : decode cX9_isRow 1 = .ok (.getfield 101, 3) := by decide +kernel
theorem dX9_isRow_4 : decode cX9_isRow 4 = .ok (.ifCond .le 21, 3) := by decide +kernel
theorem dX9_isRow_7 : decode cX9_isRow 7 = .ok (.iload_n 1, 1) := by decide +kernel
theorem dX9_isRow_8 : decode cX9_isRow 8 = .ok (.iconst 0, 1) := by decide +kernel
theorem dX9_isRow_9 : decode cX9_isRow 9 = .ok (.aload_n 0, 1) := by decide +kernel
theorem dX9_isRow_10 : decode cX9_isRow 10 = .ok (.invokevirtual 122, 3) := by decide +kernel
theorem dX9_isRow_13 : decode cX9_isRow 13 = .ok (.iconst 1, 1) := by decide +kernel
theorem dX9_isRow_14 : decode cX9_isRow 14 = .ok (.isub, 1) := by decide +kernel
theorem dX9_isRow_15 : decode cX9_isRow 15 = .ok (.invokestatic 66, 3) := by decide +kernel
theorem dX9_isRow_18 : decode cX9_isRow 18 = .ok (.ifCond .eq 7, 3) := by decide +kernel
theorem dX9_isRow_21 : decode cX9_isRow 21 = .ok (.iconst 1, 1) := by decide +kernel
theorem dX9_isRow_22 : decode cX9_isRow 22 = .ok (.goto 4, 3) := by decide +kernel
theorem dX9_isRow_25 : decode cX9_isRow 25 = .ok (.iconst 0, 1) := by decide +kernel
theorem dX9_isRow_26 : decode cX9_isRow 26 = .ok (.ireturn, 1) := by decide +kernel
theorem dX9_turned_0 : decode cX9_turned 0 = .ok (.iconst 0, 1) := by decide +kernel
theorem dX9_turned_1 : decode cX9_turned 1 = .ok (.istore_n 2, 1) := by decide +kernel
theorem dX9_turned_2 : decode cX9_turned 2 = .ok (.iconst 0, 1) := by decide +kernel
theorem dX9_turned_3 : decode cX9_turned 3 = .ok (.istore_n 3, 1) := by decide +kernel
theorem dX9_turned_4 : decode cX9_turned 4 = .ok (.iload_n 3, 1) := by decide +kernel
theorem dX9_turned_5 : decode cX9_turned 5 = .ok (.aload_n 0, 1) := by decide +kernel
theorem dX9_turned_6 : decode cX9_turned 6 = .ok (.getfield 98, 3) := by decide +kernel
theorem dX9_turned_9 : decode cX9_turned 9 = .ok (.if_icmp .ge 26, 3) := by decide +kernel
theorem dX9_turned_12 : decode cX9_turned 12 = .ok (.iload_n 2, 1) := by decide +kernel
theorem dX9_turned_13 : decode cX9_turned 13 = .ok (.iload_n 1, 1) := by decide +kernel
theorem dX9_turned_14 : decode cX9_turned 14 = .ok (.iload_n 3, 1) := by decide +kernel
theorem dX9_turned_15 : decode cX9_turned 15 = .ok (.ishr, 1) := by decide +kernel
theorem dX9_turned_16 : decode cX9_turned 16 = .ok (.iconst 1, 1) := by decide +kernel
theorem dX9_turned_17 : decode cX9_turned 17 = .ok (.iand, 1) := by decide +kernel
theorem dX9_turned_18 : decode cX9_turned 18 = .ok (.aload_n 0, 1) := by decide +kernel
theorem dX9_turned_19 : decode cX9_turned 19 = .ok (.getfield 98, 3) := by decide +kernel
theorem dX9_turned_22 : decode cX9_turned 22 = .ok (.iconst 1, 1) := by decide +kernel
theorem dX9_turned_23 : decode cX9_turned 23 = .ok (.isub, 1) := by decide +kernel
theorem dX9_turned_24 : decode cX9_turned 24 = .ok (.iload_n 3, 1) := by decide +kernel
theorem dX9_turned_25 : decode cX9_turned 25 = .ok (.isub, 1) := by decide +kernel
theorem dX9_turned_26 : decode cX9_turned 26 = .ok (.ishl, 1) := by decide +kernel
theorem dX9_turned_27 : decode cX9_turned 27 = .ok (.ior, 1) := by decide +kernel
theorem dX9_turned_28 : decode cX9_turned 28 = .ok (.istore_n 2, 1) := by decide +kernel
theorem dX9_turned_29 : decode cX9_turned 29 = .ok (.iinc 3 1, 3) := by decide +kernel
theorem dX9_turned_32 : decode cX9_turned 32 = .ok (.goto (-28), 3) := by decide +kernel
theorem dX9_turned_35 : decode cX9_turned 35 = .ok (.iload_n 2, 1) := by decide +kernel
theorem dX9_turned_36 : decode cX9_turned 36 = .ok (.ireturn, 1) := by decide +kernel
theorem dX9_hitsBy_0 : decode cX9_hitsBy 0 = .ok (.iconst 1, 1) := by decide +kernel
theorem dX9_hitsBy_1 : decode cX9_hitsBy 1 = .ok (.iload_n 2, 1) := by decide +kernel
theorem dX9_hitsBy_2 : decode cX9_hitsBy 2 = .ok (.ishl, 1) := by decide +kernel
theorem dX9_hitsBy_3 : decode cX9_hitsBy 3 = .ok (.istore_n 3, 1) := by decide +kernel
theorem dX9_hitsBy_4 : decode cX9_hitsBy 4 = .ok (.iconst 1, 1) := by decide +kernel
theorem dX9_hitsBy_5 : decode cX9_hitsBy 5 = .ok (.aload_n 0, 1) := by decide +kernel
theorem dX9_hitsBy_6 : decode cX9_hitsBy 6 = .ok (.invokevirtual 122, 3) := by decide +kernel
theorem dX9_hitsBy_9 : decode cX9_hitsBy 9 = .ok (.iconst 1, 1) := by decide +kernel
theorem dX9_hitsBy_10 : decode cX9_hitsBy 10 = .ok (.isub, 1) := by decide +kernel
theorem dX9_hitsBy_11 : decode cX9_hitsBy 11 = .ok (.iload_n 2, 1) := by decide +kernel
theorem dX9_hitsBy_12 : decode cX9_hitsBy 12 = .ok (.isub, 1) := by decide +kernel
theorem dX9_hitsBy_13 : decode cX9_hitsBy 13 = .ok (.ishl, 1) := by decide +kernel
theorem dX9_hitsBy_14 : decode cX9_hitsBy 14 = .ok (.istore 4, 2) := by decide +kernel
theorem dX9_hitsBy_16 : decode cX9_hitsBy 16 = .ok (.iconst 1, 1) := by decide +kernel
theorem dX9_hitsBy_17 : decode cX9_hitsBy 17 = .ok (.aload_n 0, 1) := by decide +kernel
theorem dX9_hitsBy_18 : decode cX9_hitsBy 18 = .ok (.iload_n 2, 1) := by decide +kernel
theorem dX9_hitsBy_19 : decode cX9_hitsBy 19 = .ok (.invokevirtual 125, 3) := by decide +kernel
theorem dX9_hitsBy_22 : decode cX9_hitsBy 22 = .ok (.ishl, 1) := by decide +kernel
theorem dX9_hitsBy_23 : decode cX9_hitsBy 23 = .ok (.istore 5, 2) := by decide +kernel
theorem dX9_hitsBy_25 : decode cX9_hitsBy 25 = .ok (.iload_n 1, 1) := by decide +kernel
theorem dX9_hitsBy_26 : decode cX9_hitsBy 26 = .ok (.tableswitch 49 1 4 #[30, 33, 36, 41], 30) := by decide +kernel
theorem dX9_hitsBy_56 : decode cX9_hitsBy 56 = .ok (.iload 5, 2) := by decide +kernel
theorem dX9_hitsBy_58 : decode cX9_hitsBy 58 = .ok (.ireturn, 1) := by decide +kernel
theorem dX9_hitsBy_59 : decode cX9_hitsBy 59 = .ok (.iload 4, 2) := by decide +kernel
theorem dX9_hitsBy_61 : decode cX9_hitsBy 61 = .ok (.ireturn, 1) := by decide +kernel
theorem dX9_hitsBy_62 : decode cX9_hitsBy 62 = .ok (.iload_n 3, 1) := by decide +kernel
theorem dX9_hitsBy_63 : decode cX9_hitsBy 63 = .ok (.iload 4, 2) := by decide +kernel
theorem dX9_hitsBy_65 : decode cX9_hitsBy 65 = .ok (.ior, 1) := by decide +kernel
theorem dX9_hitsBy_66 : decode cX9_hitsBy 66 = .ok (.ireturn, 1) := by decide +kernel
theorem dX9_hitsBy_67 : decode cX9_hitsBy 67 = .ok (.iload_n 3, 1) := by decide +kernel
theorem dX9_hitsBy_68 : decode cX9_hitsBy 68 = .ok (.iload 4, 2) := by decide +kernel
theorem dX9_hitsBy_70 : decode cX9_hitsBy 70 = .ok (.ior, 1) := by decide +kernel
theorem dX9_hitsBy_71 : decode cX9_hitsBy 71 = .ok (.iload 5, 2) := by decide +kernel
theorem dX9_hitsBy_73 : decode cX9_hitsBy 73 = .ok (.ior, 1) := by decide +kernel
theorem dX9_hitsBy_74 : decode cX9_hitsBy 74 = .ok (.ireturn, 1) := by decide +kernel
theorem dX9_hitsBy_75 : decode cX9_hitsBy 75 = .ok (.iload_n 3, 1) := by decide +kernel
theorem dX9_hitsBy_76 : decode cX9_hitsBy 76 = .ok (.ireturn, 1) := by decide +kernel
theorem dX9_hitsOf_0 : decode cX9_hitsOf 0 = .ok (.aload_n 0, 1) := by decide +kernel
theorem dX9_hitsOf_1 : decode cX9_hitsOf 1 = .ok (.aload_n 0, 1) := by decide +kernel
theorem dX9_hitsOf_2 : decode cX9_hitsOf 2 = .ok (.getfield 7, 3) := by decide +kernel
theorem dX9_hitsOf_5 : decode cX9_hitsOf 5 = .ok (.iload_n 1, 1) := by decide +kernel
theorem dX9_hitsOf_6 : decode cX9_hitsOf 6 = .ok (.iaload, 1) := by decide +kernel
theorem dX9_hitsOf_7 : decode cX9_hitsOf 7 = .ok (.aload_n 0, 1) := by decide +kernel
theorem dX9_hitsOf_8 : decode cX9_hitsOf 8 = .ok (.getfield 13, 3) := by decide +kernel
theorem dX9_hitsOf_11 : decode cX9_hitsOf 11 = .ok (.iload_n 1, 1) := by decide +kernel
theorem dX9_hitsOf_12 : decode cX9_hitsOf 12 = .ok (.iaload, 1) := by decide +kernel
theorem dX9_hitsOf_13 : decode cX9_hitsOf 13 = .ok (.invokevirtual 128, 3) := by decide +kernel
theorem dX9_hitsOf_16 : decode cX9_hitsOf 16 = .ok (.ireturn, 1) := by decide +kernel
theorem dX9_playerNow_0 : decode cX9_playerNow 0 = .ok (.iload_n 2, 1) := by decide +kernel
theorem dX9_playerNow_1 : decode cX9_playerNow 1 = .ok (.tableswitch 85 0 5 #[39, 46, 53, 60, 70, 79], 39) := by decide +kernel
theorem dX9_playerNow_40 : decode cX9_playerNow 40 = .ok (.aload_n 0, 1) := by decide +kernel
theorem dX9_playerNow_41 : decode cX9_playerNow 41 = .ok (.getfield 7, 3) := by decide +kernel
theorem dX9_playerNow_44 : decode cX9_playerNow 44 = .ok (.iload_n 1, 1) := by decide +kernel
theorem dX9_playerNow_45 : decode cX9_playerNow 45 = .ok (.iaload, 1) := by decide +kernel
theorem dX9_playerNow_46 : decode cX9_playerNow 46 = .ok (.ireturn, 1) := by decide +kernel
theorem dX9_playerNow_47 : decode cX9_playerNow 47 = .ok (.aload_n 0, 1) := by decide +kernel
theorem dX9_playerNow_48 : decode cX9_playerNow 48 = .ok (.getfield 13, 3) := by decide +kernel
theorem dX9_playerNow_51 : decode cX9_playerNow 51 = .ok (.iload_n 1, 1) := by decide +kernel
theorem dX9_playerNow_52 : decode cX9_playerNow 52 = .ok (.iaload, 1) := by decide +kernel
theorem dX9_playerNow_53 : decode cX9_playerNow 53 = .ok (.ireturn, 1) := by decide +kernel
theorem dX9_playerNow_54 : decode cX9_playerNow 54 = .ok (.aload_n 0, 1) := by decide +kernel
theorem dX9_playerNow_55 : decode cX9_playerNow 55 = .ok (.getfield 16, 3) := by decide +kernel
theorem dX9_playerNow_58 : decode cX9_playerNow 58 = .ok (.iload_n 1, 1) := by decide +kernel
theorem dX9_playerNow_59 : decode cX9_playerNow 59 = .ok (.iaload, 1) := by decide +kernel
theorem dX9_playerNow_60 : decode cX9_playerNow 60 = .ok (.ireturn, 1) := by decide +kernel
theorem dX9_playerNow_61 : decode cX9_playerNow 61 = .ok (.aload_n 0, 1) := by decide +kernel
theorem dX9_playerNow_62 : decode cX9_playerNow 62 = .ok (.aload_n 0, 1) := by decide +kernel
theorem dX9_playerNow_63 : decode cX9_playerNow 63 = .ok (.iload_n 1, 1) := by decide +kernel
theorem dX9_playerNow_64 : decode cX9_playerNow 64 = .ok (.invokevirtual 132, 3) := by decide +kernel
theorem dX9_playerNow_67 : decode cX9_playerNow 67 = .ok (.invokevirtual 135, 3) := by decide +kernel
theorem dX9_playerNow_70 : decode cX9_playerNow 70 = .ok (.ireturn, 1) := by decide +kernel
theorem dX9_playerNow_71 : decode cX9_playerNow 71 = .ok (.aload_n 0, 1) := by decide +kernel
theorem dX9_playerNow_72 : decode cX9_playerNow 72 = .ok (.iload_n 1, 1) := by decide +kernel
theorem dX9_playerNow_73 : decode cX9_playerNow 73 = .ok (.invokevirtual 132, 3) := by decide +kernel
theorem dX9_playerNow_76 : decode cX9_playerNow 76 = .ok (.invokestatic 138, 3) := by decide +kernel
theorem dX9_playerNow_79 : decode cX9_playerNow 79 = .ok (.ireturn, 1) := by decide +kernel
theorem dX9_playerNow_80 : decode cX9_playerNow 80 = .ok (.aload_n 0, 1) := by decide +kernel
theorem dX9_playerNow_81 : decode cX9_playerNow 81 = .ok (.iload_n 1, 1) := by decide +kernel
theorem dX9_playerNow_82 : decode cX9_playerNow 82 = .ok (.invokevirtual 141, 3) := by decide +kernel
theorem dX9_playerNow_85 : decode cX9_playerNow 85 = .ok (.ireturn, 1) := by decide +kernel
theorem dX9_playerNow_86 : decode cX9_playerNow 86 = .ok (.aload_n 0, 1) := by decide +kernel
theorem dX9_playerNow_87 : decode cX9_playerNow 87 = .ok (.iload_n 1, 1) := by decide +kernel
theorem dX9_playerNow_88 : decode cX9_playerNow 88 = .ok (.invokevirtual 144, 3) := by decide +kernel
theorem dX9_playerNow_91 : decode cX9_playerNow 91 = .ok (.ireturn, 1) := by decide +kernel
theorem dX9_player_0 : decode cX9_player 0 = .ok (.aload_n 0, 1) := by decide +kernel
theorem dX9_player_1 : decode cX9_player 1 = .ok (.iload_n 1, 1) := by decide +kernel
theorem dX9_player_2 : decode cX9_player 2 = .ok (.invokevirtual 147, 3) := by decide +kernel
theorem dX9_player_5 : decode cX9_player 5 = .ok (.ifCond .ne 8, 3) := by decide +kernel
theorem dX9_player_8 : decode cX9_player 8 = .ok (.bipush (-101), 2) := by decide +kernel
theorem dX9_player_10 : decode cX9_player 10 = .ok (.goto 24, 3) := by decide +kernel
theorem dX9_player_13 : decode cX9_player 13 = .ok (.iload_n 2, 1) := by decide +kernel
theorem dX9_player_14 : decode cX9_player 14 = .ok (.iconst 0, 1) := by decide +kernel
theorem dX9_player_15 : decode cX9_player 15 = .ok (.bipush 6, 2) := by decide +kernel
theorem dX9_player_17 : decode cX9_player 17 = .ok (.invokestatic 66, 3) := by decide +kernel
theorem dX9_player_20 : decode cX9_player 20 = .ok (.ifCond .eq 12, 3) := by decide +kernel
theorem dX9_player_23 : decode cX9_player 23 = .ok (.aload_n 0, 1) := by decide +kernel
theorem dX9_player_24 : decode cX9_player 24 = .ok (.iload_n 1, 1) := by decide +kernel
theorem dX9_player_25 : decode cX9_player 25 = .ok (.iload_n 2, 1) := by decide +kernel
theorem dX9_player_26 : decode cX9_player 26 = .ok (.invokevirtual 151, 3) := by decide +kernel
theorem dX9_player_29 : decode cX9_player 29 = .ok (.goto 5, 3) := by decide +kernel
theorem dX9_player_32 : decode cX9_player 32 = .ok (.bipush (-102), 2) := by decide +kernel
theorem dX9_player_34 : decode cX9_player 34 = .ok (.ireturn, 1) := by decide +kernel
theorem dX9_as_0 : decode cX9_as 0 = .ok (.aload_n 0, 1) := by decide +kernel
theorem dX9_as_1 : decode cX9_as 1 = .ok (.iload_n 1, 1) := by decide +kernel
theorem dX9_as_2 : decode cX9_as 2 = .ok (.invokevirtual 147, 3) := by decide +kernel
theorem dX9_as_5 : decode cX9_as 5 = .ok (.ifCond .ne 6, 3) := by decide +kernel
theorem dX9_as_8 : decode cX9_as 8 = .ok (.bipush (-101), 2) := by decide +kernel
theorem dX9_as_10 : decode cX9_as 10 = .ok (.ireturn, 1) := by decide +kernel
theorem dX9_as_11 : decode cX9_as 11 = .ok (.iload_n 2, 1) := by decide +kernel
theorem dX9_as_12 : decode cX9_as 12 = .ok (.iconst 0, 1) := by decide +kernel
theorem dX9_as_13 : decode cX9_as 13 = .ok (.iconst 4, 1) := by decide +kernel
theorem dX9_as_14 : decode cX9_as 14 = .ok (.invokestatic 66, 3) := by decide +kernel
theorem dX9_as_17 : decode cX9_as 17 = .ok (.ifCond .ne 6, 3) := by decide +kernel
theorem dX9_as_20 : decode cX9_as 20 = .ok (.bipush (-102), 2) := by decide +kernel
theorem dX9_as_22 : decode cX9_as 22 = .ok (.ireturn, 1) := by decide +kernel
theorem dX9_as_23 : decode cX9_as 23 = .ok (.aload_n 0, 1) := by decide +kernel
theorem dX9_as_24 : decode cX9_as 24 = .ok (.getfield 7, 3) := by decide +kernel
theorem dX9_as_27 : decode cX9_as 27 = .ok (.iload_n 1, 1) := by decide +kernel
theorem dX9_as_28 : decode cX9_as 28 = .ok (.iaload, 1) := by decide +kernel
theorem dX9_as_29 : decode cX9_as 29 = .ok (.istore_n 3, 1) := by decide +kernel
theorem dX9_as_30 : decode cX9_as 30 = .ok (.iload_n 2, 1) := by decide +kernel
theorem dX9_as_31 : decode cX9_as 31 = .ok (.ifCond .eq 18, 3) := by decide +kernel
theorem dX9_as_34 : decode cX9_as 34 = .ok (.iload_n 3, 1) := by decide +kernel
theorem dX9_as_35 : decode cX9_as 35 = .ok (.iload_n 2, 1) := by decide +kernel
theorem dX9_as_36 : decode cX9_as 36 = .ok (.if_icmp .eq 13, 3) := by decide +kernel
theorem dX9_as_39 : decode cX9_as 39 = .ok (.iload_n 2, 1) := by decide +kernel
theorem dX9_as_40 : decode cX9_as 40 = .ok (.iconst 3, 1) := by decide +kernel
theorem dX9_as_41 : decode cX9_as 41 = .ok (.if_icmp .ne 12, 3) := by decide +kernel
theorem dX9_as_44 : decode cX9_as 44 = .ok (.iload_n 3, 1) := by decide +kernel
theorem dX9_as_45 : decode cX9_as 45 = .ok (.iconst 4, 1) := by decide +kernel
theorem dX9_as_46 : decode cX9_as 46 = .ok (.if_icmp .ne 7, 3) := by decide +kernel
theorem dX9_as_49 : decode cX9_as 49 = .ok (.iload_n 1, 1) := by decide +kernel
theorem dX9_as_50 : decode cX9_as 50 = .ok (.goto 4, 3) := by decide +kernel
theorem dX9_as_53 : decode cX9_as 53 = .ok (.iconst (-1), 1) := by decide +kernel
theorem dX9_as_54 : decode cX9_as 54 = .ok (.ireturn, 1) := by decide +kernel
theorem dX9_hits_0 : decode cX9_hits 0 = .ok (.aload_n 0, 1) := by decide +kernel
theorem dX9_hits_1 : decode cX9_hits 1 = .ok (.iload_n 1, 1) := by decide +kernel
theorem dX9_hits_2 : decode cX9_hits 2 = .ok (.invokevirtual 147, 3) := by decide +kernel
theorem dX9_hits_5 : decode cX9_hits 5 = .ok (.ifCond .ne 6, 3) := by decide +kernel
theorem dX9_hits_8 : decode cX9_hits 8 = .ok (.bipush (-101), 2) := by decide +kernel
theorem dX9_hits_10 : decode cX9_hits 10 = .ok (.ireturn, 1) := by decide +kernel
theorem dX9_hits_11 : decode cX9_hits 11 = .ok (.aload_n 0, 1) := by decide +kernel
theorem dX9_hits_12 : decode cX9_hits 12 = .ok (.iload_n 2, 1) := by decide +kernel
theorem dX9_hits_13 : decode cX9_hits 13 = .ok (.invokevirtual 154, 3) := by decide +kernel
theorem dX9_hits_16 : decode cX9_hits 16 = .ok (.ifCond .ne 8, 3) := by decide +kernel
theorem dX9_hits_19 : decode cX9_hits 19 = .ok (.bipush (-102), 2) := by decide +kernel
theorem dX9_hits_21 : decode cX9_hits 21 = .ok (.goto 12, 3) := by decide +kernel
theorem dX9_hits_24 : decode cX9_hits 24 = .ok (.aload_n 0, 1) := by decide +kernel
theorem dX9_hits_25 : decode cX9_hits 25 = .ok (.iload_n 1, 1) := by decide +kernel
theorem dX9_hits_26 : decode cX9_hits 26 = .ok (.invokevirtual 132, 3) := by decide +kernel
theorem dX9_hits_29 : decode cX9_hits 29 = .ok (.iload_n 2, 1) := by decide +kernel
theorem dX9_hits_30 : decode cX9_hits 30 = .ok (.ishr, 1) := by decide +kernel
theorem dX9_hits_31 : decode cX9_hits 31 = .ok (.iconst 1, 1) := by decide +kernel
theorem dX9_hits_32 : decode cX9_hits 32 = .ok (.iand, 1) := by decide +kernel
theorem dX9_hits_33 : decode cX9_hits 33 = .ok (.ireturn, 1) := by decide +kernel
theorem dX9_whoHits_0 : decode cX9_whoHits 0 = .ok (.iconst 0, 1) := by decide +kernel
theorem dX9_whoHits_1 : decode cX9_whoHits 1 = .ok (.istore_n 3, 1) := by decide +kernel
theorem dX9_whoHits_2 : decode cX9_whoHits 2 = .ok (.iconst 0, 1) := by decide +kernel
theorem dX9_whoHits_3 : decode cX9_whoHits 3 = .ok (.istore 4, 2) := by decide +kernel
theorem dX9_whoHits_5 : decode cX9_whoHits 5 = .ok (.iload 4, 2) := by decide +kernel
theorem dX9_whoHits_7 : decode cX9_whoHits 7 = .ok (.aload_n 0, 1) := by decide +kernel
theorem dX9_whoHits_8 : decode cX9_whoHits 8 = .ok (.getfield 101, 3) := by decide +kernel
theorem dX9_whoHits_11 : decode cX9_whoHits 11 = .ok (.if_icmp .ge 48, 3) := by decide +kernel
theorem dX9_whoHits_14 : decode cX9_whoHits 14 = .ok (.iload_n 1, 1) := by decide +kernel
theorem dX9_whoHits_15 : decode cX9_whoHits 15 = .ok (.aload_n 0, 1) := by decide +kernel
theorem dX9_whoHits_16 : decode cX9_whoHits 16 = .ok (.getfield 98, 3) := by decide +kernel
theorem dX9_whoHits_19 : decode cX9_whoHits 19 = .ok (.if_icmp .lt 40, 3) := by decide +kernel
theorem dX9_whoHits_22 : decode cX9_whoHits 22 = .ok (.iload_n 3, 1) := by decide +kernel
theorem dX9_whoHits_23 : decode cX9_whoHits 23 = .ok (.aload_n 0, 1) := by decide +kernel
theorem dX9_whoHits_24 : decode cX9_whoHits 24 = .ok (.iload 4, 2) := by decide +kernel
theorem dX9_whoHits_26 : decode cX9_whoHits 26 = .ok (.invokevirtual 132, 3) := by decide +kernel
theorem dX9_whoHits_29 : decode cX9_whoHits 29 = .ok (.iload_n 2, 1) := by decide +kernel
theorem dX9_whoHits_30 : decode cX9_whoHits 30 = .ok (.aload_n 0, 1) := by decide +kernel
theorem dX9_whoHits_31 : decode cX9_whoHits 31 = .ok (.invokevirtual 122, 3) := by decide +kernel
theorem dX9_whoHits_34 : decode cX9_whoHits 34 = .ok (.iconst 1, 1) := by decide +kernel
theorem dX9_whoHits_35 : decode cX9_whoHits 35 = .ok (.isub, 1) := by decide +kernel
theorem dX9_whoHits_36 : decode cX9_whoHits 36 = .ok (.iand, 1) := by decide +kernel
theorem dX9_whoHits_37 : decode cX9_whoHits 37 = .ok (.invokestatic 157, 3) := by decide +kernel
theorem dX9_whoHits_40 : decode cX9_whoHits 40 = .ok (.ifCond .eq 10, 3) := by decide +kernel
theorem dX9_whoHits_43 : decode cX9_whoHits 43 = .ok (.iconst 1, 1) := by decide +kernel
theorem dX9_whoHits_44 : decode cX9_whoHits 44 = .ok (.iload 4, 2) := by decide +kernel
theorem dX9_whoHits_46 : decode cX9_whoHits 46 = .ok (.ishl, 1) := by decide +kernel
theorem dX9_whoHits_47 : decode cX9_whoHits 47 = .ok (.goto 4, 3) := by decide +kernel
theorem dX9_whoHits_50 : decode cX9_whoHits 50 = .ok (.iconst 0, 1) := by decide +kernel
theorem dX9_whoHits_51 : decode cX9_whoHits 51 = .ok (.ior, 1) := by decide +kernel
theorem dX9_whoHits_52 : decode cX9_whoHits 52 = .ok (.istore_n 3, 1) := by decide +kernel
theorem dX9_whoHits_53 : decode cX9_whoHits 53 = .ok (.iinc 4 1, 3) := by decide +kernel
theorem dX9_whoHits_56 : decode cX9_whoHits 56 = .ok (.goto (-51), 3) := by decide +kernel
theorem dX9_whoHits_59 : decode cX9_whoHits 59 = .ok (.iload_n 3, 1) := by decide +kernel
theorem dX9_whoHits_60 : decode cX9_whoHits 60 = .ok (.ireturn, 1) := by decide +kernel
theorem dX9_toss_0 : decode cX9_toss 0 = .ok (.iload_n 1, 1) := by decide +kernel
theorem dX9_toss_1 : decode cX9_toss 1 = .ok (.iconst 0, 1) := by decide +kernel
theorem dX9_toss_2 : decode cX9_toss 2 = .ok (.iconst 1, 1) := by decide +kernel
theorem dX9_toss_3 : decode cX9_toss 3 = .ok (.invokestatic 66, 3) := by decide +kernel
theorem dX9_toss_6 : decode cX9_toss 6 = .ok (.ifCond .ne 6, 3) := by decide +kernel
theorem dX9_toss_9 : decode cX9_toss 9 = .ok (.bipush (-102), 2) := by decide +kernel
theorem dX9_toss_11 : decode cX9_toss 11 = .ok (.ireturn, 1) := by decide +kernel
theorem dX9_toss_12 : decode cX9_toss 12 = .ok (.aload_n 0, 1) := by decide +kernel
theorem dX9_toss_13 : decode cX9_toss 13 = .ok (.getfield 101, 3) := by decide +kernel
theorem dX9_toss_16 : decode cX9_toss 16 = .ok (.ifCond .ne 6, 3) := by decide +kernel
theorem dX9_toss_19 : decode cX9_toss 19 = .ok (.bipush (-103), 2) := by decide +kernel
theorem dX9_toss_21 : decode cX9_toss 21 = .ok (.ireturn, 1) := by decide +kernel
theorem dX9_toss_22 : decode cX9_toss 22 = .ok (.aload_n 0, 1) := by decide +kernel
theorem dX9_toss_23 : decode cX9_toss 23 = .ok (.getfield 113, 3) := by decide +kernel
theorem dX9_toss_26 : decode cX9_toss 26 = .ok (.sipush 9999, 3) := by decide +kernel
theorem dX9_toss_29 : decode cX9_toss 29 = .ok (.if_icmp .ne 6, 3) := by decide +kernel
theorem dX9_toss_32 : decode cX9_toss 32 = .ok (.bipush (-104), 2) := by decide +kernel
theorem dX9_toss_34 : decode cX9_toss 34 = .ok (.ireturn, 1) := by decide +kernel
theorem dX9_toss_35 : decode cX9_toss 35 = .ok (.aload_n 0, 1) := by decide +kernel
theorem dX9_toss_36 : decode cX9_toss 36 = .ok (.dup, 1) := by decide +kernel
theorem dX9_toss_37 : decode cX9_toss 37 = .ok (.getfield 113, 3) := by decide +kernel
theorem dX9_toss_40 : decode cX9_toss 40 = .ok (.iconst 1, 1) := by decide +kernel
theorem dX9_toss_41 : decode cX9_toss 41 = .ok (.iadd, 1) := by decide +kernel
theorem dX9_toss_42 : decode cX9_toss 42 = .ok (.putfield 113, 3) := by decide +kernel
theorem dX9_toss_45 : decode cX9_toss 45 = .ok (.aload_n 0, 1) := by decide +kernel
theorem dX9_toss_46 : decode cX9_toss 46 = .ok (.dup, 1) := by decide +kernel
theorem dX9_toss_47 : decode cX9_toss 47 = .ok (.getfield 107, 3) := by decide +kernel
theorem dX9_toss_50 : decode cX9_toss 50 = .ok (.iconst 1, 1) := by decide +kernel
theorem dX9_toss_51 : decode cX9_toss 51 = .ok (.iadd, 1) := by decide +kernel
theorem dX9_toss_52 : decode cX9_toss 52 = .ok (.putfield 107, 3) := by decide +kernel
theorem dX9_toss_55 : decode cX9_toss 55 = .ok (.aload_n 0, 1) := by decide +kernel
theorem dX9_toss_56 : decode cX9_toss 56 = .ok (.aload_n 0, 1) := by decide +kernel
theorem dX9_toss_57 : decode cX9_toss 57 = .ok (.getfield 110, 3) := by decide +kernel
theorem dX9_toss_60 : decode cX9_toss 60 = .ok (.iconst 1, 1) := by decide +kernel
theorem dX9_toss_61 : decode cX9_toss 61 = .ok (.ishl, 1) := by decide +kernel
theorem dX9_toss_62 : decode cX9_toss 62 = .ok (.iload_n 1, 1) := by decide +kernel
theorem dX9_toss_63 : decode cX9_toss 63 = .ok (.ior, 1) := by decide +kernel
theorem dX9_toss_64 : decode cX9_toss 64 = .ok (.bipush 15, 2) := by decide +kernel
theorem dX9_toss_66 : decode cX9_toss 66 = .ok (.iand, 1) := by decide +kernel
theorem dX9_toss_67 : decode cX9_toss 67 = .ok (.putfield 110, 3) := by decide +kernel
theorem dX9_toss_70 : decode cX9_toss 70 = .ok (.aload_n 0, 1) := by decide +kernel
theorem dX9_toss_71 : decode cX9_toss 71 = .ok (.aload_n 0, 1) := by decide +kernel
theorem dX9_toss_72 : decode cX9_toss 72 = .ok (.getfield 107, 3) := by decide +kernel
theorem dX9_toss_75 : decode cX9_toss 75 = .ok (.aload_n 0, 1) := by decide +kernel
theorem dX9_toss_76 : decode cX9_toss 76 = .ok (.getfield 110, 3) := by decide +kernel
theorem dX9_toss_79 : decode cX9_toss 79 = .ok (.invokevirtual 161, 3) := by decide +kernel
theorem dX9_toss_82 : decode cX9_toss 82 = .ok (.istore_n 2, 1) := by decide +kernel
theorem dX9_toss_83 : decode cX9_toss 83 = .ok (.iconst 0, 1) := by decide +kernel
theorem dX9_toss_84 : decode cX9_toss 84 = .ok (.istore_n 3, 1) := by decide +kernel
theorem dX9_toss_85 : decode cX9_toss 85 = .ok (.iload_n 3, 1) := by decide +kernel
theorem dX9_toss_86 : decode cX9_toss 86 = .ok (.aload_n 0, 1) := by decide +kernel
theorem dX9_toss_87 : decode cX9_toss 87 = .ok (.getfield 101, 3) := by decide +kernel
theorem dX9_toss_90 : decode cX9_toss 90 = .ok (.if_icmp .ge 23, 3) := by decide +kernel
theorem dX9_toss_93 : decode cX9_toss 93 = .ok (.aload_n 0, 1) := by decide +kernel
theorem dX9_toss_94 : decode cX9_toss 94 = .ok (.getfield 16, 3) := by decide +kernel
theorem dX9_toss_97 : decode cX9_toss 97 = .ok (.iload_n 3, 1) := by decide +kernel
theorem dX9_toss_98 : decode cX9_toss 98 = .ok (.dup2, 1) := by decide +kernel
theorem dX9_toss_99 : decode cX9_toss 99 = .ok (.iaload, 1) := by decide +kernel
theorem dX9_toss_100 : decode cX9_toss 100 = .ok (.iload_n 2, 1) := by decide +kernel
theorem dX9_toss_101 : decode cX9_toss 101 = .ok (.iload_n 3, 1) := by decide +kernel
theorem dX9_toss_102 : decode cX9_toss 102 = .ok (.ishr, 1) := by decide +kernel
theorem dX9_toss_103 : decode cX9_toss 103 = .ok (.iconst 1, 1) := by decide +kernel
theorem dX9_toss_104 : decode cX9_toss 104 = .ok (.iand, 1) := by decide +kernel
theorem dX9_toss_105 : decode cX9_toss 105 = .ok (.iadd, 1) := by decide +kernel
theorem dX9_toss_106 : decode cX9_toss 106 = .ok (.iastore, 1) := by decide +kernel
theorem dX9_toss_107 : decode cX9_toss 107 = .ok (.iinc 3 1, 3) := by decide +kernel
theorem dX9_toss_110 : decode cX9_toss 110 = .ok (.goto (-25), 3) := by decide +kernel
theorem dX9_toss_113 : decode cX9_toss 113 = .ok (.iload_n 2, 1) := by decide +kernel
theorem dX9_toss_114 : decode cX9_toss 114 = .ok (.ifCond .eq 13, 3) := by decide +kernel
theorem dX9_toss_117 : decode cX9_toss 117 = .ok (.aload_n 0, 1) := by decide +kernel
theorem dX9_toss_118 : decode cX9_toss 118 = .ok (.iconst 0, 1) := by decide +kernel
theorem dX9_toss_119 : decode cX9_toss 119 = .ok (.putfield 107, 3) := by decide +kernel
theorem dX9_toss_122 : decode cX9_toss 122 = .ok (.aload_n 0, 1) := by decide +kernel
theorem dX9_toss_123 : decode cX9_toss 123 = .ok (.iconst 0, 1) := by decide +kernel
theorem dX9_toss_124 : decode cX9_toss 124 = .ok (.putfield 110, 3) := by decide +kernel
theorem dX9_toss_127 : decode cX9_toss 127 = .ok (.iload_n 2, 1) := by decide +kernel
theorem dX9_toss_128 : decode cX9_toss 128 = .ok (.ireturn, 1) := by decide +kernel
theorem dX9_anew_0 : decode cX9_anew 0 = .ok (.aload_n 0, 1) := by decide +kernel
theorem dX9_anew_1 : decode cX9_anew 1 = .ok (.getfield 101, 3) := by decide +kernel
theorem dX9_anew_4 : decode cX9_anew 4 = .ok (.ifCond .ne 6, 3) := by decide +kernel
theorem dX9_anew_7 : decode cX9_anew 7 = .ok (.bipush (-103), 2) := by decide +kernel
theorem dX9_anew_9 : decode cX9_anew 9 = .ok (.ireturn, 1) := by decide +kernel
theorem dX9_anew_10 : decode cX9_anew 10 = .ok (.aload_n 0, 1) := by decide +kernel
theorem dX9_anew_11 : decode cX9_anew 11 = .ok (.getfield 107, 3) := by decide +kernel
theorem dX9_anew_14 : decode cX9_anew 14 = .ok (.istore_n 1, 1) := by decide +kernel
theorem dX9_anew_15 : decode cX9_anew 15 = .ok (.aload_n 0, 1) := by decide +kernel
theorem dX9_anew_16 : decode cX9_anew 16 = .ok (.iconst 0, 1) := by decide +kernel
theorem dX9_anew_17 : decode cX9_anew 17 = .ok (.putfield 107, 3) := by decide +kernel
theorem dX9_anew_20 : decode cX9_anew 20 = .ok (.aload_n 0, 1) := by decide +kernel
theorem dX9_anew_21 : decode cX9_anew 21 = .ok (.iconst 0, 1) := by decide +kernel
theorem dX9_anew_22 : decode cX9_anew 22 = .ok (.putfield 110, 3) := by decide +kernel
theorem dX9_anew_25 : decode cX9_anew 25 = .ok (.iload_n 1, 1) := by decide +kernel
theorem dX9_anew_26 : decode cX9_anew 26 = .ok (.ireturn, 1) := by decide +kernel
theorem dX9_bet_0 : decode cX9_bet 0 = .ok (.aload_n 0, 1) := by decide +kernel
theorem dX9_bet_1 : decode cX9_bet 1 = .ok (.iload_n 1, 1) := by decide +kernel
theorem dX9_bet_2 : decode cX9_bet 2 = .ok (.invokevirtual 147, 3) := by decide +kernel
theorem dX9_bet_5 : decode cX9_bet 5 = .ok (.ifCond .ne 6, 3) := by decide +kernel
theorem dX9_bet_8 : decode cX9_bet 8 = .ok (.bipush (-101), 2) := by decide +kernel
theorem dX9_bet_10 : decode cX9_bet 10 = .ok (.ireturn, 1) := by decide +kernel
theorem dX9_bet_11 : decode cX9_bet 11 = .ok (.aload_n 0, 1) := by decide +kernel
theorem dX9_bet_12 : decode cX9_bet 12 = .ok (.iload_n 2, 1) := by decide +kernel
theorem dX9_bet_13 : decode cX9_bet 13 = .ok (.invokevirtual 154, 3) := by decide +kernel
theorem dX9_bet_16 : decode cX9_bet 16 = .ok (.ifCond .ne 6, 3) := by decide +kernel
theorem dX9_bet_19 : decode cX9_bet 19 = .ok (.bipush (-102), 2) := by decide +kernel
theorem dX9_bet_21 : decode cX9_bet 21 = .ok (.ireturn, 1) := by decide +kernel
theorem dX9_bet_22 : decode cX9_bet 22 = .ok (.aload_n 0, 1) := by decide +kernel
theorem dX9_bet_23 : decode cX9_bet 23 = .ok (.getfield 13, 3) := by decide +kernel
theorem dX9_bet_26 : decode cX9_bet 26 = .ok (.iload_n 1, 1) := by decide +kernel
theorem dX9_bet_27 : decode cX9_bet 27 = .ok (.iaload, 1) := by decide +kernel
theorem dX9_bet_28 : decode cX9_bet 28 = .ok (.istore_n 3, 1) := by decide +kernel
theorem dX9_bet_29 : decode cX9_bet 29 = .ok (.aload_n 0, 1) := by decide +kernel
theorem dX9_bet_30 : decode cX9_bet 30 = .ok (.getfield 13, 3) := by decide +kernel
theorem dX9_bet_33 : decode cX9_bet 33 = .ok (.iload_n 1, 1) := by decide +kernel
theorem dX9_bet_34 : decode cX9_bet 34 = .ok (.iload_n 2, 1) := by decide +kernel
theorem dX9_bet_35 : decode cX9_bet 35 = .ok (.iastore, 1) := by decide +kernel
theorem dX9_bet_36 : decode cX9_bet 36 = .ok (.iload_n 3, 1) := by decide +kernel
theorem dX9_bet_37 : decode cX9_bet 37 = .ok (.ireturn, 1) := by decide +kernel
theorem dX9_be_0 : decode cX9_be 0 = .ok (.aload_n 0, 1) := by decide +kernel
theorem dX9_be_1 : decode cX9_be 1 = .ok (.iload_n 1, 1) := by decide +kernel
theorem dX9_be_2 : decode cX9_be 2 = .ok (.invokevirtual 147, 3) := by decide +kernel
theorem dX9_be_5 : decode cX9_be 5 = .ok (.ifCond .ne 6, 3) := by decide +kernel
theorem dX9_be_8 : decode cX9_be 8 = .ok (.bipush (-101), 2) := by decide +kernel
theorem dX9_be_10 : decode cX9_be 10 = .ok (.ireturn, 1) := by decide +kernel
theorem dX9_be_11 : decode cX9_be 11 = .ok (.iload_n 2, 1) := by decide +kernel
theorem dX9_be_12 : decode cX9_be 12 = .ok (.iconst 0, 1) := by decide +kernel
theorem dX9_be_13 : decode cX9_be 13 = .ok (.iconst 4, 1) := by decide +kernel
theorem dX9_be_14 : decode cX9_be 14 = .ok (.invokestatic 66, 3) := by decide +kernel
theorem dX9_be_17 : decode cX9_be 17 = .ok (.ifCond .ne 6, 3) := by decide +kernel
theorem dX9_be_20 : decode cX9_be 20 = .ok (.bipush (-102), 2) := by decide +kernel
theorem dX9_be_22 : decode cX9_be 22 = .ok (.ireturn, 1) := by decide +kernel
theorem dX9_be_23 : decode cX9_be 23 = .ok (.aload_n 0, 1) := by decide +kernel
theorem dX9_be_24 : decode cX9_be 24 = .ok (.getfield 7, 3) := by decide +kernel
theorem dX9_be_27 : decode cX9_be 27 = .ok (.iload_n 1, 1) := by decide +kernel
theorem dX9_be_28 : decode cX9_be 28 = .ok (.iaload, 1) := by decide +kernel
theorem dX9_be_29 : decode cX9_be 29 = .ok (.istore_n 3, 1) := by decide +kernel
theorem dX9_be_30 : decode cX9_be 30 = .ok (.aload_n 0, 1) := by decide +kernel
theorem dX9_be_31 : decode cX9_be 31 = .ok (.getfield 7, 3) := by decide +kernel
theorem dX9_be_34 : decode cX9_be 34 = .ok (.iload_n 1, 1) := by decide +kernel
theorem dX9_be_35 : decode cX9_be 35 = .ok (.iload_n 2, 1) := by decide +kernel
theorem dX9_be_36 : decode cX9_be 36 = .ok (.iastore, 1) := by decide +kernel
theorem dX9_be_37 : decode cX9_be 37 = .ok (.iload_n 3, 1) := by decide +kernel
theorem dX9_be_38 : decode cX9_be 38 = .ok (.ireturn, 1) := by decide +kernel
theorem dX9_unknowns_0 : decode cX9_unknowns 0 = .ok (.iconst 1, 1) := by decide +kernel
theorem dX9_unknowns_1 : decode cX9_unknowns 1 = .ok (.aload_n 0, 1) := by decide +kernel
theorem dX9_unknowns_2 : decode cX9_unknowns 2 = .ok (.getfield 98, 3) := by decide +kernel
theorem dX9_unknowns_5 : decode cX9_unknowns 5 = .ok (.iconst 1, 1) := by decide +kernel
theorem dX9_unknowns_6 : decode cX9_unknowns 6 = .ok (.isub, 1) := by decide +kernel
theorem dX9_unknowns_7 : decode cX9_unknowns 7 = .ok (.ishl, 1) := by decide +kernel
theorem dX9_unknowns_8 : decode cX9_unknowns 8 = .ok (.ireturn, 1) := by decide +kernel
theorem dX9_clear_0 : decode cX9_clear 0 = .ok (.iconst 0, 1) := by decide +kernel
theorem dX9_clear_1 : decode cX9_clear 1 = .ok (.istore_n 1, 1) := by decide +kernel
theorem dX9_clear_2 : decode cX9_clear 2 = .ok (.iload_n 1, 1) := by decide +kernel
theorem dX9_clear_3 : decode cX9_clear 3 = .ok (.bipush 72, 2) := by decide +kernel
theorem dX9_clear_5 : decode cX9_clear 5 = .ok (.if_icmp .ge 16, 3) := by decide +kernel
theorem dX9_clear_8 : decode cX9_clear 8 = .ok (.aload_n 0, 1) := by decide +kernel
theorem dX9_clear_9 : decode cX9_clear 9 = .ok (.getfield 32, 3) := by decide +kernel
theorem dX9_clear_12 : decode cX9_clear 12 = .ok (.iload_n 1, 1) := by decide +kernel
theorem dX9_clear_13 : decode cX9_clear 13 = .ok (.lconst 0, 1) := by decide +kernel
theorem dX9_clear_14 : decode cX9_clear 14 = .ok (.lastore, 1) := by decide +kernel
theorem dX9_clear_15 : decode cX9_clear 15 = .ok (.iinc 1 1, 3) := by decide +kernel
theorem dX9_clear_18 : decode cX9_clear 18 = .ok (.goto (-16), 3) := by decide +kernel
theorem dX9_clear_21 : decode cX9_clear 21 = .ok (.return_, 1) := by decide +kernel
theorem dX9_exchange_0 : decode cX9_exchange 0 = .ok (.iconst 0, 1) := by decide +kernel
theorem dX9_exchange_1 : decode cX9_exchange 1 = .ok (.istore_n 3, 1) := by decide +kernel
theorem dX9_exchange_2 : decode cX9_exchange 2 = .ok (.iload_n 3, 1) := by decide +kernel
theorem dX9_exchange_3 : decode cX9_exchange 3 = .ok (.bipush 9, 2) := by decide +kernel
theorem dX9_exchange_5 : decode cX9_exchange 5 = .ok (.if_icmp .ge 57, 3) := by decide +kernel
theorem dX9_exchange_8 : decode cX9_exchange 8 = .ok (.aload_n 0, 1) := by decide +kernel
theorem dX9_exchange_9 : decode cX9_exchange 9 = .ok (.getfield 32, 3) := by decide +kernel
theorem dX9_exchange_12 : decode cX9_exchange 12 = .ok (.bipush 9, 2) := by decide +kernel
theorem dX9_exchange_14 : decode cX9_exchange 14 = .ok (.iload_n 1, 1) := by decide +kernel
theorem dX9_exchange_15 : decode cX9_exchange 15 = .ok (.imul, 1) := by decide +kernel
theorem dX9_exchange_16 : decode cX9_exchange 16 = .ok (.iload_n 3, 1) := by decide +kernel
theorem dX9_exchange_17 : decode cX9_exchange 17 = .ok (.iadd, 1) := by decide +kernel
theorem dX9_exchange_18 : decode cX9_exchange 18 = .ok (.laload, 1) := by decide +kernel
theorem dX9_exchange_19 : decode cX9_exchange 19 = .ok (.lstore 4, 2) := by decide +kernel
theorem dX9_exchange_21 : decode cX9_exchange 21 = .ok (.aload_n 0, 1) := by decide +kernel
theorem dX9_exchange_22 : decode cX9_exchange 22 = .ok (.getfield 32, 3) := by decide +kernel
theorem dX9_exchange_25 : decode cX9_exchange 25 = .ok (.bipush 9, 2) := by decide +kernel
theorem dX9_exchange_27 : decode cX9_exchange 27 = .ok (.iload_n 1, 1) := by decide +kernel
theorem dX9_exchange_28 : decode cX9_exchange 28 = .ok (.imul, 1) := by decide +kernel
theorem dX9_exchange_29 : decode cX9_exchange 29 = .ok (.iload_n 3, 1) := by decide +kernel
theorem dX9_exchange_30 : decode cX9_exchange 30 = .ok (.iadd, 1) := by decide +kernel
theorem dX9_exchange_31 : decode cX9_exchange 31 = .ok (.aload_n 0, 1) := by decide +kernel
theorem dX9_exchange_32 : decode cX9_exchange 32 = .ok (.getfield 32, 3) := by decide +kernel
theorem dX9_exchange_35 : decode cX9_exchange 35 = .ok (.bipush 9, 2) := by decide +kernel
theorem dX9_exchange_37 : decode cX9_exchange 37 = .ok (.iload_n 2, 1) := by decide +kernel
theorem dX9_exchange_38 : decode cX9_exchange 38 = .ok (.imul, 1) := by decide +kernel
theorem dX9_exchange_39 : decode cX9_exchange 39 = .ok (.iload_n 3, 1) := by decide +kernel
theorem dX9_exchange_40 : decode cX9_exchange 40 = .ok (.iadd, 1) := by decide +kernel
theorem dX9_exchange_41 : decode cX9_exchange 41 = .ok (.laload, 1) := by decide +kernel
theorem dX9_exchange_42 : decode cX9_exchange 42 = .ok (.lastore, 1) := by decide +kernel
theorem dX9_exchange_43 : decode cX9_exchange 43 = .ok (.aload_n 0, 1) := by decide +kernel
theorem dX9_exchange_44 : decode cX9_exchange 44 = .ok (.getfield 32, 3) := by decide +kernel
theorem dX9_exchange_47 : decode cX9_exchange 47 = .ok (.bipush 9, 2) := by decide +kernel
theorem dX9_exchange_49 : decode cX9_exchange 49 = .ok (.iload_n 2, 1) := by decide +kernel
theorem dX9_exchange_50 : decode cX9_exchange 50 = .ok (.imul, 1) := by decide +kernel
theorem dX9_exchange_51 : decode cX9_exchange 51 = .ok (.iload_n 3, 1) := by decide +kernel
theorem dX9_exchange_52 : decode cX9_exchange 52 = .ok (.iadd, 1) := by decide +kernel
theorem dX9_exchange_53 : decode cX9_exchange 53 = .ok (.lload 4, 2) := by decide +kernel
theorem dX9_exchange_55 : decode cX9_exchange 55 = .ok (.lastore, 1) := by decide +kernel
theorem dX9_exchange_56 : decode cX9_exchange 56 = .ok (.iinc 3 1, 3) := by decide +kernel
theorem dX9_exchange_59 : decode cX9_exchange 59 = .ok (.goto (-57), 3) := by decide +kernel
theorem dX9_exchange_62 : decode cX9_exchange 62 = .ok (.return_, 1) := by decide +kernel
theorem dX9_eliminate_0 : decode cX9_eliminate 0 = .ok (.aload_n 0, 1) := by decide +kernel
theorem dX9_eliminate_1 : decode cX9_eliminate 1 = .ok (.invokevirtual 164, 3) := by decide +kernel
theorem dX9_eliminate_4 : decode cX9_eliminate 4 = .ok (.istore 4, 2) := by decide +kernel
theorem dX9_eliminate_6 : decode cX9_eliminate 6 = .ok (.iconst 0, 1) := by decide +kernel
theorem dX9_eliminate_7 : decode cX9_eliminate 7 = .ok (.istore 5, 2) := by decide +kernel
theorem dX9_eliminate_9 : decode cX9_eliminate 9 = .ok (.iload 5, 2) := by decide +kernel
theorem dX9_eliminate_11 : decode cX9_eliminate 11 = .ok (.iload 4, 2) := by decide +kernel
theorem dX9_eliminate_13 : decode cX9_eliminate 13 = .ok (.if_icmp .ge 101, 3) := by decide +kernel
theorem dX9_eliminate_16 : decode cX9_eliminate 16 = .ok (.aload_n 0, 1) := by decide +kernel
theorem dX9_eliminate_17 : decode cX9_eliminate 17 = .ok (.getfield 32, 3) := by decide +kernel
theorem dX9_eliminate_20 : decode cX9_eliminate 20 = .ok (.bipush 9, 2) := by decide +kernel
theorem dX9_eliminate_22 : decode cX9_eliminate 22 = .ok (.iload 5, 2) := by decide +kernel
theorem dX9_eliminate_24 : decode cX9_eliminate 24 = .ok (.imul, 1) := by decide +kernel
theorem dX9_eliminate_25 : decode cX9_eliminate 25 = .ok (.iload_n 1, 1) := by decide +kernel
theorem dX9_eliminate_26 : decode cX9_eliminate 26 = .ok (.iadd, 1) := by decide +kernel
theorem dX9_eliminate_27 : decode cX9_eliminate 27 = .ok (.laload, 1) := by decide +kernel
theorem dX9_eliminate_28 : decode cX9_eliminate 28 = .ok (.lstore 6, 2) := by decide +kernel
theorem dX9_eliminate_30 : decode cX9_eliminate 30 = .ok (.iconst 0, 1) := by decide +kernel
theorem dX9_eliminate_31 : decode cX9_eliminate 31 = .ok (.istore 8, 2) := by decide +kernel
theorem dX9_eliminate_33 : decode cX9_eliminate 33 = .ok (.iload 8, 2) := by decide +kernel
theorem dX9_eliminate_35 : decode cX9_eliminate 35 = .ok (.iload 4, 2) := by decide +kernel
theorem dX9_eliminate_37 : decode cX9_eliminate 37 = .ok (.if_icmp .gt 71, 3) := by decide +kernel
theorem dX9_eliminate_40 : decode cX9_eliminate 40 = .ok (.iload 5, 2) := by decide +kernel
theorem dX9_eliminate_42 : decode cX9_eliminate 42 = .ok (.iload_n 1, 1) := by decide +kernel
theorem dX9_eliminate_43 : decode cX9_eliminate 43 = .ok (.if_icmp .eq 65, 3) := by decide +kernel
theorem dX9_eliminate_46 : decode cX9_eliminate 46 = .ok (.aload_n 0, 1) := by decide +kernel
theorem dX9_eliminate_47 : decode cX9_eliminate 47 = .ok (.getfield 32, 3) := by decide +kernel
theorem dX9_eliminate_50 : decode cX9_eliminate 50 = .ok (.bipush 9, 2) := by decide +kernel
theorem dX9_eliminate_52 : decode cX9_eliminate 52 = .ok (.iload 5, 2) := by decide +kernel
theorem dX9_eliminate_54 : decode cX9_eliminate 54 = .ok (.imul, 1) := by decide +kernel
theorem dX9_eliminate_55 : decode cX9_eliminate 55 = .ok (.iload 8, 2) := by decide +kernel
theorem dX9_eliminate_57 : decode cX9_eliminate 57 = .ok (.iadd, 1) := by decide +kernel
theorem dX9_eliminate_58 : decode cX9_eliminate 58 = .ok (.aload_n 0, 1) := by decide +kernel
theorem dX9_eliminate_59 : decode cX9_eliminate 59 = .ok (.getfield 32, 3) := by decide +kernel
theorem dX9_eliminate_62 : decode cX9_eliminate 62 = .ok (.bipush 9, 2) := by decide +kernel
theorem dX9_eliminate_64 : decode cX9_eliminate 64 = .ok (.iload_n 1, 1) := by decide +kernel
theorem dX9_eliminate_65 : decode cX9_eliminate 65 = .ok (.imul, 1) := by decide +kernel
theorem dX9_eliminate_66 : decode cX9_eliminate 66 = .ok (.iload_n 1, 1) := by decide +kernel
theorem dX9_eliminate_67 : decode cX9_eliminate 67 = .ok (.iadd, 1) := by decide +kernel
theorem dX9_eliminate_68 : decode cX9_eliminate 68 = .ok (.laload, 1) := by decide +kernel
theorem dX9_eliminate_69 : decode cX9_eliminate 69 = .ok (.aload_n 0, 1) := by decide +kernel
theorem dX9_eliminate_70 : decode cX9_eliminate 70 = .ok (.getfield 32, 3) := by decide +kernel
theorem dX9_eliminate_73 : decode cX9_eliminate 73 = .ok (.bipush 9, 2) := by decide +kernel
theorem dX9_eliminate_75 : decode cX9_eliminate 75 = .ok (.iload 5, 2) := by decide +kernel
theorem dX9_eliminate_77 : decode cX9_eliminate 77 = .ok (.imul, 1) := by decide +kernel
theorem dX9_eliminate_78 : decode cX9_eliminate 78 = .ok (.iload 8, 2) := by decide +kernel
theorem dX9_eliminate_80 : decode cX9_eliminate 80 = .ok (.iadd, 1) := by decide +kernel
theorem dX9_eliminate_81 : decode cX9_eliminate 81 = .ok (.laload, 1) := by decide +kernel
theorem dX9_eliminate_82 : decode cX9_eliminate 82 = .ok (.lmul, 1) := by decide +kernel
theorem dX9_eliminate_83 : decode cX9_eliminate 83 = .ok (.lload 6, 2) := by decide +kernel
theorem dX9_eliminate_85 : decode cX9_eliminate 85 = .ok (.aload_n 0, 1) := by decide +kernel
theorem dX9_eliminate_86 : decode cX9_eliminate 86 = .ok (.getfield 32, 3) := by decide +kernel
theorem dX9_eliminate_89 : decode cX9_eliminate 89 = .ok (.bipush 9, 2) := by decide +kernel
theorem dX9_eliminate_91 : decode cX9_eliminate 91 = .ok (.iload_n 1, 1) := by decide +kernel
theorem dX9_eliminate_92 : decode cX9_eliminate 92 = .ok (.imul, 1) := by decide +kernel
theorem dX9_eliminate_93 : decode cX9_eliminate 93 = .ok (.iload 8, 2) := by decide +kernel
theorem dX9_eliminate_95 : decode cX9_eliminate 95 = .ok (.iadd, 1) := by decide +kernel
theorem dX9_eliminate_96 : decode cX9_eliminate 96 = .ok (.laload, 1) := by decide +kernel
theorem dX9_eliminate_97 : decode cX9_eliminate 97 = .ok (.lmul, 1) := by decide +kernel
theorem dX9_eliminate_98 : decode cX9_eliminate 98 = .ok (.lsub, 1) := by decide +kernel
theorem dX9_eliminate_99 : decode cX9_eliminate 99 = .ok (.lload_n 2, 1) := by decide +kernel
theorem dX9_eliminate_100 : decode cX9_eliminate 100 = .ok (.ldiv, 1) := by decide +kernel
theorem dX9_eliminate_101 : decode cX9_eliminate 101 = .ok (.lastore, 1) := by decide +kernel
theorem dX9_eliminate_102 : decode cX9_eliminate 102 = .ok (.iinc 8 1, 3) := by decide +kernel
theorem dX9_eliminate_105 : decode cX9_eliminate 105 = .ok (.goto (-72), 3) := by decide +kernel
theorem dX9_eliminate_108 : decode cX9_eliminate 108 = .ok (.iinc 5 1, 3) := by decide +kernel
theorem dX9_eliminate_111 : decode cX9_eliminate 111 = .ok (.goto (-102), 3) := by decide +kernel
theorem dX9_eliminate_114 : decode cX9_eliminate 114 = .ok (.return_, 1) := by decide +kernel
theorem dX9_solve_0 : decode cX9_solve 0 = .ok (.aload_n 0, 1) := by decide +kernel
theorem dX9_solve_1 : decode cX9_solve 1 = .ok (.invokevirtual 164, 3) := by decide +kernel
theorem dX9_solve_4 : decode cX9_solve 4 = .ok (.istore_n 1, 1) := by decide +kernel
theorem dX9_solve_5 : decode cX9_solve 5 = .ok (.lconst 1, 1) := by decide +kernel
theorem dX9_solve_6 : decode cX9_solve 6 = .ok (.lstore_n 2, 1) := by decide +kernel
theorem dX9_solve_7 : decode cX9_solve 7 = .ok (.iconst 0, 1) := by decide +kernel
theorem dX9_solve_8 : decode cX9_solve 8 = .ok (.istore 4, 2) := by decide +kernel
theorem dX9_solve_10 : decode cX9_solve 10 = .ok (.iload 4, 2) := by decide +kernel
theorem dX9_solve_12 : decode cX9_solve 12 = .ok (.iload_n 1, 1) := by decide +kernel
theorem dX9_solve_13 : decode cX9_solve 13 = .ok (.if_icmp .ge 66, 3) := by decide +kernel
theorem dX9_solve_16 : decode cX9_solve 16 = .ok (.iload 4, 2) := by decide +kernel
theorem dX9_solve_18 : decode cX9_solve 18 = .ok (.istore 5, 2) := by decide +kernel
theorem dX9_solve_20 : decode cX9_solve 20 = .ok (.aload_n 0, 1) := by decide +kernel
theorem dX9_solve_21 : decode cX9_solve 21 = .ok (.getfield 32, 3) := by decide +kernel
theorem dX9_solve_24 : decode cX9_solve 24 = .ok (.bipush 9, 2) := by decide +kernel
theorem dX9_solve_26 : decode cX9_solve 26 = .ok (.iload 5, 2) := by decide +kernel
theorem dX9_solve_28 : decode cX9_solve 28 = .ok (.imul, 1) := by decide +kernel
theorem dX9_solve_29 : decode cX9_solve 29 = .ok (.iload 4, 2) := by decide +kernel
theorem dX9_solve_31 : decode cX9_solve 31 = .ok (.iadd, 1) := by decide +kernel
theorem dX9_solve_32 : decode cX9_solve 32 = .ok (.laload, 1) := by decide +kernel
theorem dX9_solve_33 : decode cX9_solve 33 = .ok (.lconst 0, 1) := by decide +kernel
theorem dX9_solve_34 : decode cX9_solve 34 = .ok (.lcmp, 1) := by decide +kernel
theorem dX9_solve_35 : decode cX9_solve 35 = .ok (.ifCond .ne 9, 3) := by decide +kernel
theorem dX9_solve_38 : decode cX9_solve 38 = .ok (.iinc 5 1, 3) := by decide +kernel
theorem dX9_solve_41 : decode cX9_solve 41 = .ok (.goto (-21), 3) := by decide +kernel
theorem dX9_solve_44 : decode cX9_solve 44 = .ok (.aload_n 0, 1) := by decide +kernel
theorem dX9_solve_45 : decode cX9_solve 45 = .ok (.iload 4, 2) := by decide +kernel
theorem dX9_solve_47 : decode cX9_solve 47 = .ok (.iload 5, 2) := by decide +kernel
theorem dX9_solve_49 : decode cX9_solve 49 = .ok (.invokevirtual 167, 3) := by decide +kernel
theorem dX9_solve_52 : decode cX9_solve 52 = .ok (.aload_n 0, 1) := by decide +kernel
theorem dX9_solve_53 : decode cX9_solve 53 = .ok (.iload 4, 2) := by decide +kernel
theorem dX9_solve_55 : decode cX9_solve 55 = .ok (.lload_n 2, 1) := by decide +kernel
theorem dX9_solve_56 : decode cX9_solve 56 = .ok (.invokevirtual 171, 3) := by decide +kernel
theorem dX9_solve_59 : decode cX9_solve 59 = .ok (.aload_n 0, 1) := by decide +kernel
theorem dX9_solve_60 : decode cX9_solve 60 = .ok (.getfield 32, 3) := by decide +kernel
theorem dX9_solve_63 : decode cX9_solve 63 = .ok (.bipush 9, 2) := by decide +kernel
theorem dX9_solve_65 : decode cX9_solve 65 = .ok (.iload 4, 2) := by decide +kernel
theorem dX9_solve_67 : decode cX9_solve 67 = .ok (.imul, 1) := by decide +kernel
theorem dX9_solve_68 : decode cX9_solve 68 = .ok (.iload 4, 2) := by decide +kernel
theorem dX9_solve_70 : decode cX9_solve 70 = .ok (.iadd, 1) := by decide +kernel
theorem dX9_solve_71 : decode cX9_solve 71 = .ok (.laload, 1) := by decide +kernel
theorem dX9_solve_72 : decode cX9_solve 72 = .ok (.lstore_n 2, 1) := by decide +kernel
theorem dX9_solve_73 : decode cX9_solve 73 = .ok (.iinc 4 1, 3) := by decide +kernel
theorem dX9_solve_76 : decode cX9_solve 76 = .ok (.goto (-66), 3) := by decide +kernel
theorem dX9_solve_79 : decode cX9_solve 79 = .ok (.return_, 1) := by decide +kernel
theorem dX9_middle_0 : decode cX9_middle 0 = .ok (.aload_n 0, 1) := by decide +kernel
theorem dX9_middle_1 : decode cX9_middle 1 = .ok (.invokevirtual 164, 3) := by decide +kernel
theorem dX9_middle_4 : decode cX9_middle 4 = .ok (.istore_n 3, 1) := by decide +kernel
theorem dX9_middle_5 : decode cX9_middle 5 = .ok (.lconst 0, 1) := by decide +kernel
theorem dX9_middle_6 : decode cX9_middle 6 = .ok (.lstore 4, 2) := by decide +kernel
theorem dX9_middle_8 : decode cX9_middle 8 = .ok (.iconst 0, 1) := by decide +kernel
theorem dX9_middle_9 : decode cX9_middle 9 = .ok (.istore 6, 2) := by decide +kernel
theorem dX9_middle_11 : decode cX9_middle 11 = .ok (.iload 6, 2) := by decide +kernel
theorem dX9_middle_13 : decode cX9_middle 13 = .ok (.iload_n 3, 1) := by decide +kernel
theorem dX9_middle_14 : decode cX9_middle 14 = .ok (.if_icmp .ge 26, 3) := by decide +kernel
theorem dX9_middle_17 : decode cX9_middle 17 = .ok (.lload 4, 2) := by decide +kernel
theorem dX9_middle_19 : decode cX9_middle 19 = .ok (.aload_n 0, 1) := by decide +kernel
theorem dX9_middle_20 : decode cX9_middle 20 = .ok (.getfield 32, 3) := by decide +kernel
theorem dX9_middle_23 : decode cX9_middle 23 = .ok (.bipush 9, 2) := by decide +kernel
theorem dX9_middle_25 : decode cX9_middle 25 = .ok (.iload 6, 2) := by decide +kernel
theorem dX9_middle_27 : decode cX9_middle 27 = .ok (.imul, 1) := by decide +kernel
theorem dX9_middle_28 : decode cX9_middle 28 = .ok (.iload_n 3, 1) := by decide +kernel
theorem dX9_middle_29 : decode cX9_middle 29 = .ok (.iadd, 1) := by decide +kernel
theorem dX9_middle_30 : decode cX9_middle 30 = .ok (.laload, 1) := by decide +kernel
theorem dX9_middle_31 : decode cX9_middle 31 = .ok (.ladd, 1) := by decide +kernel
theorem dX9_middle_32 : decode cX9_middle 32 = .ok (.lstore 4, 2) := by decide +kernel
theorem dX9_middle_34 : decode cX9_middle 34 = .ok (.iinc 6 1, 3) := by decide +kernel
theorem dX9_middle_37 : decode cX9_middle 37 = .ok (.goto (-26), 3) := by decide +kernel
theorem dX9_middle_40 : decode cX9_middle 40 = .ok (.aload_n 0, 1) := by decide +kernel
theorem dX9_middle_41 : decode cX9_middle 41 = .ok (.getfield 32, 3) := by decide +kernel
theorem dX9_middle_44 : decode cX9_middle 44 = .ok (.iconst 0, 1) := by decide +kernel
theorem dX9_middle_45 : decode cX9_middle 45 = .ok (.laload, 1) := by decide +kernel
theorem dX9_middle_46 : decode cX9_middle 46 = .ok (.iload_n 3, 1) := by decide +kernel
theorem dX9_middle_47 : decode cX9_middle 47 = .ok (.i2l, 1) := by decide +kernel
theorem dX9_middle_48 : decode cX9_middle 48 = .ok (.lmul, 1) := by decide +kernel
theorem dX9_middle_49 : decode cX9_middle 49 = .ok (.lstore 6, 2) := by decide +kernel
theorem dX9_middle_51 : decode cX9_middle 51 = .ok (.lload 6, 2) := by decide +kernel
theorem dX9_middle_53 : decode cX9_middle 53 = .ok (.lconst 0, 1) := by decide +kernel
theorem dX9_middle_54 : decode cX9_middle 54 = .ok (.lcmp, 1) := by decide +kernel
theorem dX9_middle_55 : decode cX9_middle 55 = .ok (.ifCond .ge 13, 3) := by decide +kernel
theorem dX9_middle_58 : decode cX9_middle 58 = .ok (.lload 4, 2) := by decide +kernel
theorem dX9_middle_60 : decode cX9_middle 60 = .ok (.lneg, 1) := by decide +kernel
theorem dX9_middle_61 : decode cX9_middle 61 = .ok (.lstore 4, 2) := by decide +kernel
theorem dX9_middle_63 : decode cX9_middle 63 = .ok (.lload 6, 2) := by decide +kernel
theorem dX9_middle_65 : decode cX9_middle 65 = .ok (.lneg, 1) := by decide +kernel
theorem dX9_middle_66 : decode cX9_middle 66 = .ok (.lstore 6, 2) := by decide +kernel
theorem dX9_middle_68 : decode cX9_middle 68 = .ok (.lload_n 1, 1) := by decide +kernel
theorem dX9_middle_69 : decode cX9_middle 69 = .ok (.lload 4, 2) := by decide +kernel
theorem dX9_middle_71 : decode cX9_middle 71 = .ok (.lmul, 1) := by decide +kernel
theorem dX9_middle_72 : decode cX9_middle 72 = .ok (.lload 6, 2) := by decide +kernel
theorem dX9_middle_74 : decode cX9_middle 74 = .ok (.ldiv, 1) := by decide +kernel
theorem dX9_middle_75 : decode cX9_middle 75 = .ok (.lreturn, 1) := by decide +kernel
theorem dX9_waitOf_0 : decode cX9_waitOf 0 = .ok (.aload_n 0, 1) := by decide +kernel
theorem dX9_waitOf_1 : decode cX9_waitOf 1 = .ok (.invokevirtual 164, 3) := by decide +kernel
theorem dX9_waitOf_4 : decode cX9_waitOf 4 = .ok (.istore_n 2, 1) := by decide +kernel
theorem dX9_waitOf_5 : decode cX9_waitOf 5 = .ok (.aload_n 0, 1) := by decide +kernel
theorem dX9_waitOf_6 : decode cX9_waitOf 6 = .ok (.invokevirtual 175, 3) := by decide +kernel
theorem dX9_waitOf_9 : decode cX9_waitOf 9 = .ok (.iconst 0, 1) := by decide +kernel
theorem dX9_waitOf_10 : decode cX9_waitOf 10 = .ok (.istore_n 3, 1) := by decide +kernel
theorem dX9_waitOf_11 : decode cX9_waitOf 11 = .ok (.iload_n 3, 1) := by decide +kernel
theorem dX9_waitOf_12 : decode cX9_waitOf 12 = .ok (.iload_n 2, 1) := by decide +kernel
theorem dX9_waitOf_13 : decode cX9_waitOf 13 = .ok (.if_icmp .ge 94, 3) := by decide +kernel
theorem dX9_waitOf_16 : decode cX9_waitOf 16 = .ok (.aload_n 0, 1) := by decide +kernel
theorem dX9_waitOf_17 : decode cX9_waitOf 17 = .ok (.getfield 32, 3) := by decide +kernel
theorem dX9_waitOf_20 : decode cX9_waitOf 20 = .ok (.bipush 9, 2) := by decide +kernel
theorem dX9_waitOf_22 : decode cX9_waitOf 22 = .ok (.iload_n 3, 1) := by decide +kernel
theorem dX9_waitOf_23 : decode cX9_waitOf 23 = .ok (.imul, 1) := by decide +kernel
theorem dX9_waitOf_24 : decode cX9_waitOf 24 = .ok (.iload_n 3, 1) := by decide +kernel
theorem dX9_waitOf_25 : decode cX9_waitOf 25 = .ok (.iadd, 1) := by decide +kernel
theorem dX9_waitOf_26 : decode cX9_waitOf 26 = .ok (.dup2, 1) := by decide +kernel
theorem dX9_waitOf_27 : decode cX9_waitOf 27 = .ok (.laload, 1) := by decide +kernel
theorem dX9_waitOf_28 : decode cX9_waitOf 28 = .ok (.ldc2_w 178, 3) := by decide +kernel
theorem dX9_waitOf_31 : decode cX9_waitOf 31 = .ok (.ladd, 1) := by decide +kernel
theorem dX9_waitOf_32 : decode cX9_waitOf 32 = .ok (.lastore, 1) := by decide +kernel
theorem dX9_waitOf_33 : decode cX9_waitOf 33 = .ok (.aload_n 0, 1) := by decide +kernel
theorem dX9_waitOf_34 : decode cX9_waitOf 34 = .ok (.getfield 32, 3) := by decide +kernel
theorem dX9_waitOf_37 : decode cX9_waitOf 37 = .ok (.bipush 9, 2) := by decide +kernel
theorem dX9_waitOf_39 : decode cX9_waitOf 39 = .ok (.iload_n 3, 1) := by decide +kernel
theorem dX9_waitOf_40 : decode cX9_waitOf 40 = .ok (.imul, 1) := by decide +kernel
theorem dX9_waitOf_41 : decode cX9_waitOf 41 = .ok (.iload_n 2, 1) := by decide +kernel
theorem dX9_waitOf_42 : decode cX9_waitOf 42 = .ok (.iadd, 1) := by decide +kernel
theorem dX9_waitOf_43 : decode cX9_waitOf 43 = .ok (.ldc2_w 178, 3) := by decide +kernel
theorem dX9_waitOf_46 : decode cX9_waitOf 46 = .ok (.lastore, 1) := by decide +kernel
theorem dX9_waitOf_47 : decode cX9_waitOf 47 = .ok (.iconst 0, 1) := by decide +kernel
theorem dX9_waitOf_48 : decode cX9_waitOf 48 = .ok (.istore 4, 2) := by decide +kernel
theorem dX9_waitOf_50 : decode cX9_waitOf 50 = .ok (.iload 4, 2) := by decide +kernel
theorem dX9_waitOf_52 : decode cX9_waitOf 52 = .ok (.iconst 2, 1) := by decide +kernel
theorem dX9_waitOf_53 : decode cX9_waitOf 53 = .ok (.if_icmp .ge 48, 3) := by decide +kernel
theorem dX9_waitOf_56 : decode cX9_waitOf 56 = .ok (.iconst 2, 1) := by decide +kernel
theorem dX9_waitOf_57 : decode cX9_waitOf 57 = .ok (.iload_n 3, 1) := by decide +kernel
theorem dX9_waitOf_58 : decode cX9_waitOf 58 = .ok (.imul, 1) := by decide +kernel
theorem dX9_waitOf_59 : decode cX9_waitOf 59 = .ok (.iload 4, 2) := by decide +kernel
theorem dX9_waitOf_61 : decode cX9_waitOf 61 = .ok (.iadd, 1) := by decide +kernel
theorem dX9_waitOf_62 : decode cX9_waitOf 62 = .ok (.istore 5, 2) := by decide +kernel
theorem dX9_waitOf_64 : decode cX9_waitOf 64 = .ok (.aload_n 0, 1) := by decide +kernel
theorem dX9_waitOf_65 : decode cX9_waitOf 65 = .ok (.getfield 32, 3) := by decide +kernel
theorem dX9_waitOf_68 : decode cX9_waitOf 68 = .ok (.bipush 9, 2) := by decide +kernel
theorem dX9_waitOf_70 : decode cX9_waitOf 70 = .ok (.iload_n 3, 1) := by decide +kernel
theorem dX9_waitOf_71 : decode cX9_waitOf 71 = .ok (.imul, 1) := by decide +kernel
theorem dX9_waitOf_72 : decode cX9_waitOf 72 = .ok (.iload 5, 2) := by decide +kernel
theorem dX9_waitOf_74 : decode cX9_waitOf 74 = .ok (.iload_n 2, 1) := by decide +kernel
theorem dX9_waitOf_75 : decode cX9_waitOf 75 = .ok (.irem, 1) := by decide +kernel
theorem dX9_waitOf_76 : decode cX9_waitOf 76 = .ok (.iadd, 1) := by decide +kernel
theorem dX9_waitOf_77 : decode cX9_waitOf 77 = .ok (.dup2, 1) := by decide +kernel
theorem dX9_waitOf_78 : decode cX9_waitOf 78 = .ok (.laload, 1) := by decide +kernel
theorem dX9_waitOf_79 : decode cX9_waitOf 79 = .ok (.iload_n 1, 1) := by decide +kernel
theorem dX9_waitOf_80 : decode cX9_waitOf 80 = .ok (.iload 5, 2) := by decide +kernel
theorem dX9_waitOf_82 : decode cX9_waitOf 82 = .ok (.invokestatic 157, 3) := by decide +kernel
theorem dX9_waitOf_85 : decode cX9_waitOf 85 = .ok (.ifCond .eq 7, 3) := by decide +kernel
theorem dX9_waitOf_88 : decode cX9_waitOf 88 = .ok (.lconst 0, 1) := by decide +kernel
theorem dX9_waitOf_89 : decode cX9_waitOf 89 = .ok (.goto 4, 3) := by decide +kernel
theorem dX9_waitOf_92 : decode cX9_waitOf 92 = .ok (.lconst 1, 1) := by decide +kernel
theorem dX9_waitOf_93 : decode cX9_waitOf 93 = .ok (.lsub, 1) := by decide +kernel
theorem dX9_waitOf_94 : decode cX9_waitOf 94 = .ok (.lastore, 1) := by decide +kernel
theorem dX9_waitOf_95 : decode cX9_waitOf 95 = .ok (.iinc 4 1, 3) := by decide +kernel
theorem dX9_waitOf_98 : decode cX9_waitOf 98 = .ok (.goto (-48), 3) := by decide +kernel
theorem dX9_waitOf_101 : decode cX9_waitOf 101 = .ok (.iinc 3 1, 3) := by decide +kernel
theorem dX9_waitOf_104 : decode cX9_waitOf 104 = .ok (.goto (-93), 3) := by decide +kernel
theorem dX9_waitOf_107 : decode cX9_waitOf 107 = .ok (.aload_n 0, 1) := by decide +kernel
theorem dX9_waitOf_108 : decode cX9_waitOf 108 = .ok (.invokevirtual 180, 3) := by decide +kernel
theorem dX9_waitOf_111 : decode cX9_waitOf 111 = .ok (.sipush 1000, 3) := by decide +kernel
theorem dX9_waitOf_114 : decode cX9_waitOf 114 = .ok (.aload_n 0, 1) := by decide +kernel
theorem dX9_waitOf_115 : decode cX9_waitOf 115 = .ok (.getfield 98, 3) := by decide +kernel
theorem dX9_waitOf_118 : decode cX9_waitOf 118 = .ok (.iconst 1, 1) := by decide +kernel
theorem dX9_waitOf_119 : decode cX9_waitOf 119 = .ok (.isub, 1) := by decide +kernel
theorem dX9_waitOf_120 : decode cX9_waitOf 120 = .ok (.imul, 1) := by decide +kernel
theorem dX9_waitOf_121 : decode cX9_waitOf 121 = .ok (.aload_n 0, 1) := by decide +kernel
theorem dX9_waitOf_122 : decode cX9_waitOf 122 = .ok (.ldc2_w 183, 3) := by decide +kernel
theorem dX9_waitOf_125 : decode cX9_waitOf 125 = .ok (.invokevirtual 185, 3) := by decide +kernel
theorem dX9_waitOf_128 : decode cX9_waitOf 128 = .ok (.l2i, 1) := by decide +kernel
theorem dX9_waitOf_129 : decode cX9_waitOf 129 = .ok (.iadd, 1) := by decide +kernel
theorem dX9_waitOf_130 : decode cX9_waitOf 130 = .ok (.ireturn, 1) := by decide +kernel
theorem dX9_duelOf_0 : decode cX9_duelOf 0 = .ok (.aload_n 0, 1) := by decide +kernel
theorem dX9_duelOf_1 : decode cX9_duelOf 1 = .ok (.invokevirtual 164, 3) := by decide +kernel
theorem dX9_duelOf_4 : decode cX9_duelOf 4 = .ok (.istore_n 3, 1) := by decide +kernel
theorem dX9_duelOf_5 : decode cX9_duelOf 5 = .ok (.aload_n 0, 1) := by decide +kernel
theorem dX9_duelOf_6 : decode cX9_duelOf 6 = .ok (.invokevirtual 175, 3) := by decide +kernel
theorem dX9_duelOf_9 : decode cX9_duelOf 9 = .ok (.iconst 0, 1) := by decide +kernel
theorem dX9_duelOf_10 : decode cX9_duelOf 10 = .ok (.istore 4, 2) := by decide +kernel
theorem dX9_duelOf_12 : decode cX9_duelOf 12 = .ok (.iload 4, 2) := by decide +kernel
theorem dX9_duelOf_14 : decode cX9_duelOf 14 = .ok (.iload_n 3, 1) := by decide +kernel
theorem dX9_duelOf_15 : decode cX9_duelOf 15 = .ok (.if_icmp .ge 115, 3) := by decide +kernel
theorem dX9_duelOf_18 : decode cX9_duelOf 18 = .ok (.aload_n 0, 1) := by decide +kernel
theorem dX9_duelOf_19 : decode cX9_duelOf 19 = .ok (.getfield 32, 3) := by decide +kernel
theorem dX9_duelOf_22 : decode cX9_duelOf 22 = .ok (.bipush 9, 2) := by decide +kernel
theorem dX9_duelOf_24 : decode cX9_duelOf 24 = .ok (.iload 4, 2) := by decide +kernel
theorem dX9_duelOf_26 : decode cX9_duelOf 26 = .ok (.imul, 1) := by decide +kernel
theorem dX9_duelOf_27 : decode cX9_duelOf 27 = .ok (.iload 4, 2) := by decide +kernel
theorem dX9_duelOf_29 : decode cX9_duelOf 29 = .ok (.iadd, 1) := by decide +kernel
theorem dX9_duelOf_30 : decode cX9_duelOf 30 = .ok (.dup2, 1) := by decide +kernel
theorem dX9_duelOf_31 : decode cX9_duelOf 31 = .ok (.laload, 1) := by decide +kernel
theorem dX9_duelOf_32 : decode cX9_duelOf 32 = .ok (.ldc2_w 178, 3) := by decide +kernel
theorem dX9_duelOf_35 : decode cX9_duelOf 35 = .ok (.ladd, 1) := by decide +kernel
theorem dX9_duelOf_36 : decode cX9_duelOf 36 = .ok (.lastore, 1) := by decide +kernel
theorem dX9_duelOf_37 : decode cX9_duelOf 37 = .ok (.iconst 0, 1) := by decide +kernel
theorem dX9_duelOf_38 : decode cX9_duelOf 38 = .ok (.istore 5, 2) := by decide +kernel
theorem dX9_duelOf_40 : decode cX9_duelOf 40 = .ok (.iload 5, 2) := by decide +kernel
theorem dX9_duelOf_42 : decode cX9_duelOf 42 = .ok (.iconst 2, 1) := by decide +kernel
theorem dX9_duelOf_43 : decode cX9_duelOf 43 = .ok (.if_icmp .ge 81, 3) := by decide +kernel
theorem dX9_duelOf_46 : decode cX9_duelOf 46 = .ok (.iconst 2, 1) := by decide +kernel
theorem dX9_duelOf_47 : decode cX9_duelOf 47 = .ok (.iload 4, 2) := by decide +kernel
theorem dX9_duelOf_49 : decode cX9_duelOf 49 = .ok (.imul, 1) := by decide +kernel
theorem dX9_duelOf_50 : decode cX9_duelOf 50 = .ok (.iload 5, 2) := by decide +kernel
theorem dX9_duelOf_52 : decode cX9_duelOf 52 = .ok (.iadd, 1) := by decide +kernel
theorem dX9_duelOf_53 : decode cX9_duelOf 53 = .ok (.istore 6, 2) := by decide +kernel
theorem dX9_duelOf_55 : decode cX9_duelOf 55 = .ok (.aload_n 0, 1) := by decide +kernel
theorem dX9_duelOf_56 : decode cX9_duelOf 56 = .ok (.getfield 32, 3) := by decide +kernel
theorem dX9_duelOf_59 : decode cX9_duelOf 59 = .ok (.bipush 9, 2) := by decide +kernel
theorem dX9_duelOf_61 : decode cX9_duelOf 61 = .ok (.iload 4, 2) := by decide +kernel
theorem dX9_duelOf_63 : decode cX9_duelOf 63 = .ok (.imul, 1) := by decide +kernel
theorem dX9_duelOf_64 : decode cX9_duelOf 64 = .ok (.iload_n 3, 1) := by decide +kernel
theorem dX9_duelOf_65 : decode cX9_duelOf 65 = .ok (.iadd, 1) := by decide +kernel
theorem dX9_duelOf_66 : decode cX9_duelOf 66 = .ok (.dup2, 1) := by decide +kernel
theorem dX9_duelOf_67 : decode cX9_duelOf 67 = .ok (.laload, 1) := by decide +kernel
theorem dX9_duelOf_68 : decode cX9_duelOf 68 = .ok (.iload_n 1, 1) := by decide +kernel
theorem dX9_duelOf_69 : decode cX9_duelOf 69 = .ok (.iload 6, 2) := by decide +kernel
theorem dX9_duelOf_71 : decode cX9_duelOf 71 = .ok (.invokestatic 157, 3) := by decide +kernel
theorem dX9_duelOf_74 : decode cX9_duelOf 74 = .ok (.ifCond .eq 7, 3) := by decide +kernel
theorem dX9_duelOf_77 : decode cX9_duelOf 77 = .ok (.lconst 1, 1) := by decide +kernel
theorem dX9_duelOf_78 : decode cX9_duelOf 78 = .ok (.goto 4, 3) := by decide +kernel
theorem dX9_duelOf_81 : decode cX9_duelOf 81 = .ok (.lconst 0, 1) := by decide +kernel
theorem dX9_duelOf_82 : decode cX9_duelOf 82 = .ok (.ladd, 1) := by decide +kernel
theorem dX9_duelOf_83 : decode cX9_duelOf 83 = .ok (.lastore, 1) := by decide +kernel
theorem dX9_duelOf_84 : decode cX9_duelOf 84 = .ok (.aload_n 0, 1) := by decide +kernel
theorem dX9_duelOf_85 : decode cX9_duelOf 85 = .ok (.getfield 32, 3) := by decide +kernel
theorem dX9_duelOf_88 : decode cX9_duelOf 88 = .ok (.bipush 9, 2) := by decide +kernel
theorem dX9_duelOf_90 : decode cX9_duelOf 90 = .ok (.iload 4, 2) := by decide +kernel
theorem dX9_duelOf_92 : decode cX9_duelOf 92 = .ok (.imul, 1) := by decide +kernel
theorem dX9_duelOf_93 : decode cX9_duelOf 93 = .ok (.iload 6, 2) := by decide +kernel
theorem dX9_duelOf_95 : decode cX9_duelOf 95 = .ok (.iload_n 3, 1) := by decide +kernel
theorem dX9_duelOf_96 : decode cX9_duelOf 96 = .ok (.irem, 1) := by decide +kernel
theorem dX9_duelOf_97 : decode cX9_duelOf 97 = .ok (.iadd, 1) := by decide +kernel
theorem dX9_duelOf_98 : decode cX9_duelOf 98 = .ok (.dup2, 1) := by decide +kernel
theorem dX9_duelOf_99 : decode cX9_duelOf 99 = .ok (.laload, 1) := by decide +kernel
theorem dX9_duelOf_100 : decode cX9_duelOf 100 = .ok (.iload_n 1, 1) := by decide +kernel
theorem dX9_duelOf_101 : decode cX9_duelOf 101 = .ok (.iload_n 2, 1) := by decide +kernel
theorem dX9_duelOf_102 : decode cX9_duelOf 102 = .ok (.ior, 1) := by decide +kernel
theorem dX9_duelOf_103 : decode cX9_duelOf 103 = .ok (.iload 6, 2) := by decide +kernel
theorem dX9_duelOf_105 : decode cX9_duelOf 105 = .ok (.invokestatic 157, 3) := by decide +kernel
theorem dX9_duelOf_108 : decode cX9_duelOf 108 = .ok (.ifCond .eq 7, 3) := by decide +kernel
theorem dX9_duelOf_111 : decode cX9_duelOf 111 = .ok (.lconst 0, 1) := by decide +kernel
theorem dX9_duelOf_112 : decode cX9_duelOf 112 = .ok (.goto 4, 3) := by decide +kernel
theorem dX9_duelOf_115 : decode cX9_duelOf 115 = .ok (.lconst 1, 1) := by decide +kernel
theorem dX9_duelOf_116 : decode cX9_duelOf 116 = .ok (.lsub, 1) := by decide +kernel
theorem dX9_duelOf_117 : decode cX9_duelOf 117 = .ok (.lastore, 1) := by decide +kernel
theorem dX9_duelOf_118 : decode cX9_duelOf 118 = .ok (.iinc 5 1, 3) := by decide +kernel
theorem dX9_duelOf_121 : decode cX9_duelOf 121 = .ok (.goto (-81), 3) := by decide +kernel
theorem dX9_duelOf_124 : decode cX9_duelOf 124 = .ok (.iinc 4 1, 3) := by decide +kernel
theorem dX9_duelOf_127 : decode cX9_duelOf 127 = .ok (.goto (-115), 3) := by decide +kernel
theorem dX9_duelOf_130 : decode cX9_duelOf 130 = .ok (.aload_n 0, 1) := by decide +kernel
theorem dX9_duelOf_131 : decode cX9_duelOf 131 = .ok (.invokevirtual 180, 3) := by decide +kernel
theorem dX9_duelOf_134 : decode cX9_duelOf 134 = .ok (.aload_n 0, 1) := by decide +kernel
theorem dX9_duelOf_135 : decode cX9_duelOf 135 = .ok (.ldc2_w 189, 3) := by decide +kernel
theorem dX9_duelOf_138 : decode cX9_duelOf 138 = .ok (.invokevirtual 185, 3) := by decide +kernel
theorem dX9_duelOf_141 : decode cX9_duelOf 141 = .ok (.l2i, 1) := by decide +kernel
theorem dX9_duelOf_142 : decode cX9_duelOf 142 = .ok (.ireturn, 1) := by decide +kernel
theorem dX9_duelNow_0 : decode cX9_duelNow 0 = .ok (.aload_n 0, 1) := by decide +kernel
theorem dX9_duelNow_1 : decode cX9_duelNow 1 = .ok (.aload_n 0, 1) := by decide +kernel
theorem dX9_duelNow_2 : decode cX9_duelNow 2 = .ok (.iload_n 1, 1) := by decide +kernel
theorem dX9_duelNow_3 : decode cX9_duelNow 3 = .ok (.invokevirtual 132, 3) := by decide +kernel
theorem dX9_duelNow_6 : decode cX9_duelNow 6 = .ok (.aload_n 0, 1) := by decide +kernel
theorem dX9_duelNow_7 : decode cX9_duelNow 7 = .ok (.iload_n 2, 1) := by decide +kernel
theorem dX9_duelNow_8 : decode cX9_duelNow 8 = .ok (.invokevirtual 132, 3) := by decide +kernel
theorem dX9_duelNow_11 : decode cX9_duelNow 11 = .ok (.invokevirtual 191, 3) := by decide +kernel
theorem dX9_duelNow_14 : decode cX9_duelNow 14 = .ok (.ireturn, 1) := by decide +kernel
theorem dX9_duel_0 : decode cX9_duel 0 = .ok (.aload_n 0, 1) := by decide +kernel
theorem dX9_duel_1 : decode cX9_duel 1 = .ok (.iload_n 1, 1) := by decide +kernel
theorem dX9_duel_2 : decode cX9_duel 2 = .ok (.invokevirtual 147, 3) := by decide +kernel
theorem dX9_duel_5 : decode cX9_duel 5 = .ok (.ifCond .eq 25, 3) := by decide +kernel
theorem dX9_duel_8 : decode cX9_duel 8 = .ok (.aload_n 0, 1) := by decide +kernel
theorem dX9_duel_9 : decode cX9_duel 9 = .ok (.iload_n 2, 1) := by decide +kernel
theorem dX9_duel_10 : decode cX9_duel 10 = .ok (.invokevirtual 147, 3) := by decide +kernel
theorem dX9_duel_13 : decode cX9_duel 13 = .ok (.ifCond .eq 17, 3) := by decide +kernel
theorem dX9_duel_16 : decode cX9_duel 16 = .ok (.iload_n 1, 1) := by decide +kernel
theorem dX9_duel_17 : decode cX9_duel 17 = .ok (.iload_n 2, 1) := by decide +kernel
theorem dX9_duel_18 : decode cX9_duel 18 = .ok (.if_icmp .eq 12, 3) := by decide +kernel
theorem dX9_duel_21 : decode cX9_duel 21 = .ok (.aload_n 0, 1) := by decide +kernel
theorem dX9_duel_22 : decode cX9_duel 22 = .ok (.iload_n 1, 1) := by decide +kernel
theorem dX9_duel_23 : decode cX9_duel 23 = .ok (.iload_n 2, 1) := by decide +kernel
theorem dX9_duel_24 : decode cX9_duel 24 = .ok (.invokevirtual 194, 3) := by decide +kernel
theorem dX9_duel_27 : decode cX9_duel 27 = .ok (.goto 5, 3) := by decide +kernel
theorem dX9_duel_30 : decode cX9_duel 30 = .ok (.bipush (-101), 2) := by decide +kernel
theorem dX9_duel_32 : decode cX9_duel 32 = .ok (.ireturn, 1) := by decide +kernel
theorem dX9_answerNow_0 : decode cX9_answerNow 0 = .ok (.aload_n 0, 1) := by decide +kernel
theorem dX9_answerNow_1 : decode cX9_answerNow 1 = .ok (.iload_n 1, 1) := by decide +kernel
theorem dX9_answerNow_2 : decode cX9_answerNow 2 = .ok (.invokevirtual 132, 3) := by decide +kernel
theorem dX9_answerNow_5 : decode cX9_answerNow 5 = .ok (.istore_n 3, 1) := by decide +kernel
theorem dX9_answerNow_6 : decode cX9_answerNow 6 = .ok (.iconst (-1), 1) := by decide +kernel
theorem dX9_answerNow_7 : decode cX9_answerNow 7 = .ok (.istore 4, 2) := by decide +kernel
theorem dX9_answerNow_9 : decode cX9_answerNow 9 = .ok (.iconst (-1), 1) := by decide +kernel
theorem dX9_answerNow_10 : decode cX9_answerNow 10 = .ok (.istore 5, 2) := by decide +kernel
theorem dX9_answerNow_12 : decode cX9_answerNow 12 = .ok (.iconst 0, 1) := by decide +kernel
theorem dX9_answerNow_13 : decode cX9_answerNow 13 = .ok (.istore 6, 2) := by decide +kernel
theorem dX9_answerNow_15 : decode cX9_answerNow 15 = .ok (.iload 6, 2) := by decide +kernel
theorem dX9_answerNow_17 : decode cX9_answerNow 17 = .ok (.aload_n 0, 1) := by decide +kernel
theorem dX9_answerNow_18 : decode cX9_answerNow 18 = .ok (.invokevirtual 122, 3) := by decide +kernel
theorem dX9_answerNow_21 : decode cX9_answerNow 21 = .ok (.if_icmp .ge 65, 3) := by decide +kernel
theorem dX9_answerNow_24 : decode cX9_answerNow 24 = .ok (.iload_n 3, 1) := by decide +kernel
theorem dX9_answerNow_25 : decode cX9_answerNow 25 = .ok (.iload 6, 2) := by decide +kernel
theorem dX9_answerNow_27 : decode cX9_answerNow 27 = .ok (.invokestatic 157, 3) := by decide +kernel
theorem dX9_answerNow_30 : decode cX9_answerNow 30 = .ok (.ifCond .eq 7, 3) := by decide +kernel
theorem dX9_answerNow_33 : decode cX9_answerNow 33 = .ok (.iconst (-1), 1) := by decide +kernel
theorem dX9_answerNow_34 : decode cX9_answerNow 34 = .ok (.goto 12, 3) := by decide +kernel
theorem dX9_answerNow_37 : decode cX9_answerNow 37 = .ok (.aload_n 0, 1) := by decide +kernel
theorem dX9_answerNow_38 : decode cX9_answerNow 38 = .ok (.iconst 1, 1) := by decide +kernel
theorem dX9_answerNow_39 : decode cX9_answerNow 39 = .ok (.iload 6, 2) := by decide +kernel
theorem dX9_answerNow_41 : decode cX9_answerNow 41 = .ok (.ishl, 1) := by decide +kernel
theorem dX9_answerNow_42 : decode cX9_answerNow 42 = .ok (.iload_n 3, 1) := by decide +kernel
theorem dX9_answerNow_43 : decode cX9_answerNow 43 = .ok (.invokevirtual 191, 3) := by decide +kernel
theorem dX9_answerNow_46 : decode cX9_answerNow 46 = .ok (.istore 7, 2) := by decide +kernel
theorem dX9_answerNow_48 : decode cX9_answerNow 48 = .ok (.iload 7, 2) := by decide +kernel
theorem dX9_answerNow_50 : decode cX9_answerNow 50 = .ok (.iload 5, 2) := by decide +kernel
theorem dX9_answerNow_52 : decode cX9_answerNow 52 = .ok (.if_icmp .le 8, 3) := by decide +kernel
theorem dX9_answerNow_55 : decode cX9_answerNow 55 = .ok (.iload 6, 2) := by decide +kernel
theorem dX9_answerNow_57 : decode cX9_answerNow 57 = .ok (.goto 5, 3) := by decide +kernel
theorem dX9_answerNow_60 : decode cX9_answerNow 60 = .ok (.iload 4, 2) := by decide +kernel
theorem dX9_answerNow_62 : decode cX9_answerNow 62 = .ok (.istore 4, 2) := by decide +kernel
theorem dX9_answerNow_64 : decode cX9_answerNow 64 = .ok (.iload 7, 2) := by decide +kernel
theorem dX9_answerNow_66 : decode cX9_answerNow 66 = .ok (.iload 5, 2) := by decide +kernel
theorem dX9_answerNow_68 : decode cX9_answerNow 68 = .ok (.if_icmp .le 8, 3) := by decide +kernel
theorem dX9_answerNow_71 : decode cX9_answerNow 71 = .ok (.iload 7, 2) := by decide +kernel
theorem dX9_answerNow_73 : decode cX9_answerNow 73 = .ok (.goto 5, 3) := by decide +kernel
theorem dX9_answerNow_76 : decode cX9_answerNow 76 = .ok (.iload 5, 2) := by decide +kernel
theorem dX9_answerNow_78 : decode cX9_answerNow 78 = .ok (.istore 5, 2) := by decide +kernel
theorem dX9_answerNow_80 : decode cX9_answerNow 80 = .ok (.iinc 6 1, 3) := by decide +kernel
theorem dX9_answerNow_83 : decode cX9_answerNow 83 = .ok (.goto (-68), 3) := by decide +kernel
theorem dX9_answerNow_86 : decode cX9_answerNow 86 = .ok (.iload_n 2, 1) := by decide +kernel
theorem dX9_answerNow_87 : decode cX9_answerNow 87 = .ok (.ifCond .ne 8, 3) := by decide +kernel
theorem dX9_answerNow_90 : decode cX9_answerNow 90 = .ok (.iload 4, 2) := by decide +kernel
theorem dX9_answerNow_92 : decode cX9_answerNow 92 = .ok (.goto 5, 3) := by decide +kernel
theorem dX9_answerNow_95 : decode cX9_answerNow 95 = .ok (.iload 5, 2) := by decide +kernel
theorem dX9_answerNow_97 : decode cX9_answerNow 97 = .ok (.ireturn, 1) := by decide +kernel
theorem dX9_answer_0 : decode cX9_answer 0 = .ok (.aload_n 0, 1) := by decide +kernel
theorem dX9_answer_1 : decode cX9_answer 1 = .ok (.iload_n 1, 1) := by decide +kernel
theorem dX9_answer_2 : decode cX9_answer 2 = .ok (.invokevirtual 147, 3) := by decide +kernel
theorem dX9_answer_5 : decode cX9_answer 5 = .ok (.ifCond .ne 6, 3) := by decide +kernel
theorem dX9_answer_8 : decode cX9_answer 8 = .ok (.bipush (-101), 2) := by decide +kernel
theorem dX9_answer_10 : decode cX9_answer 10 = .ok (.ireturn, 1) := by decide +kernel
theorem dX9_answer_11 : decode cX9_answer 11 = .ok (.iload_n 2, 1) := by decide +kernel
theorem dX9_answer_12 : decode cX9_answer 12 = .ok (.iconst 0, 1) := by decide +kernel
theorem dX9_answer_13 : decode cX9_answer 13 = .ok (.iconst 1, 1) := by decide +kernel
theorem dX9_answer_14 : decode cX9_answer 14 = .ok (.invokestatic 66, 3) := by decide +kernel
theorem dX9_answer_17 : decode cX9_answer 17 = .ok (.ifCond .eq 12, 3) := by decide +kernel
theorem dX9_answer_20 : decode cX9_answer 20 = .ok (.aload_n 0, 1) := by decide +kernel
theorem dX9_answer_21 : decode cX9_answer 21 = .ok (.iload_n 1, 1) := by decide +kernel
theorem dX9_answer_22 : decode cX9_answer 22 = .ok (.iload_n 2, 1) := by decide +kernel
theorem dX9_answer_23 : decode cX9_answer 23 = .ok (.invokevirtual 197, 3) := by decide +kernel
theorem dX9_answer_26 : decode cX9_answer 26 = .ok (.goto 5, 3) := by decide +kernel
theorem dX9_answer_29 : decode cX9_answer 29 = .ok (.bipush (-102), 2) := by decide +kernel
theorem dX9_answer_31 : decode cX9_answer 31 = .ok (.ireturn, 1) := by decide +kernel
theorem dX9_mostAgainst_0 : decode cX9_mostAgainst 0 = .ok (.iconst 0, 1) := by decide +kernel
theorem dX9_mostAgainst_1 : decode cX9_mostAgainst 1 = .ok (.istore_n 2, 1) := by decide +kernel
theorem dX9_mostAgainst_2 : decode cX9_mostAgainst 2 = .ok (.iconst 0, 1) := by decide +kernel
theorem dX9_mostAgainst_3 : decode cX9_mostAgainst 3 = .ok (.istore_n 3, 1) := by decide +kernel
theorem dX9_mostAgainst_4 : decode cX9_mostAgainst 4 = .ok (.iload_n 3, 1) := by decide +kernel
theorem dX9_mostAgainst_5 : decode cX9_mostAgainst 5 = .ok (.aload_n 0, 1) := by decide +kernel
theorem dX9_mostAgainst_6 : decode cX9_mostAgainst 6 = .ok (.invokevirtual 122, 3) := by decide +kernel
theorem dX9_mostAgainst_9 : decode cX9_mostAgainst 9 = .ok (.if_icmp .ge 43, 3) := by decide +kernel
theorem dX9_mostAgainst_12 : decode cX9_mostAgainst 12 = .ok (.iload_n 3, 1) := by decide +kernel
theorem dX9_mostAgainst_13 : decode cX9_mostAgainst 13 = .ok (.iload_n 1, 1) := by decide +kernel
theorem dX9_mostAgainst_14 : decode cX9_mostAgainst 14 = .ok (.if_icmp .ne 7, 3) := by decide +kernel
theorem dX9_mostAgainst_17 : decode cX9_mostAgainst 17 = .ok (.iconst 0, 1) := by decide +kernel
theorem dX9_mostAgainst_18 : decode cX9_mostAgainst 18 = .ok (.goto 13, 3) := by decide +kernel
theorem dX9_mostAgainst_21 : decode cX9_mostAgainst 21 = .ok (.aload_n 0, 1) := by decide +kernel
theorem dX9_mostAgainst_22 : decode cX9_mostAgainst 22 = .ok (.iconst 1, 1) := by decide +kernel
theorem dX9_mostAgainst_23 : decode cX9_mostAgainst 23 = .ok (.iload_n 3, 1) := by decide +kernel
theorem dX9_mostAgainst_24 : decode cX9_mostAgainst 24 = .ok (.ishl, 1) := by decide +kernel
theorem dX9_mostAgainst_25 : decode cX9_mostAgainst 25 = .ok (.iconst 1, 1) := by decide +kernel
theorem dX9_mostAgainst_26 : decode cX9_mostAgainst 26 = .ok (.iload_n 1, 1) := by decide +kernel
theorem dX9_mostAgainst_27 : decode cX9_mostAgainst 27 = .ok (.ishl, 1) := by decide +kernel
theorem dX9_mostAgainst_28 : decode cX9_mostAgainst 28 = .ok (.invokevirtual 191, 3) := by decide +kernel
theorem dX9_mostAgainst_31 : decode cX9_mostAgainst 31 = .ok (.istore 4, 2) := by decide +kernel
theorem dX9_mostAgainst_33 : decode cX9_mostAgainst 33 = .ok (.iload 4, 2) := by decide +kernel
theorem dX9_mostAgainst_35 : decode cX9_mostAgainst 35 = .ok (.iload_n 2, 1) := by decide +kernel
theorem dX9_mostAgainst_36 : decode cX9_mostAgainst 36 = .ok (.if_icmp .le 8, 3) := by decide +kernel
theorem dX9_mostAgainst_39 : decode cX9_mostAgainst 39 = .ok (.iload 4, 2) := by decide +kernel
theorem dX9_mostAgainst_41 : decode cX9_mostAgainst 41 = .ok (.goto 4, 3) := by decide +kernel
theorem dX9_mostAgainst_44 : decode cX9_mostAgainst 44 = .ok (.iload_n 2, 1) := by decide +kernel
theorem dX9_mostAgainst_45 : decode cX9_mostAgainst 45 = .ok (.istore_n 2, 1) := by decide +kernel
theorem dX9_mostAgainst_46 : decode cX9_mostAgainst 46 = .ok (.iinc 3 1, 3) := by decide +kernel
theorem dX9_mostAgainst_49 : decode cX9_mostAgainst 49 = .ok (.goto (-45), 3) := by decide +kernel
theorem dX9_mostAgainst_52 : decode cX9_mostAgainst 52 = .ok (.iload_n 2, 1) := by decide +kernel
theorem dX9_mostAgainst_53 : decode cX9_mostAgainst 53 = .ok (.ireturn, 1) := by decide +kernel
theorem dX9_openNow_0 : decode cX9_openNow 0 = .ok (.iconst (-1), 1) := by decide +kernel
theorem dX9_openNow_1 : decode cX9_openNow 1 = .ok (.istore_n 2, 1) := by decide +kernel
theorem dX9_openNow_2 : decode cX9_openNow 2 = .ok (.ldc 200, 2) := by decide +kernel
theorem dX9_openNow_4 : decode cX9_openNow 4 = .ok (.istore_n 3, 1) := by decide +kernel
theorem dX9_openNow_5 : decode cX9_openNow 5 = .ok (.iconst 0, 1) := by decide +kernel
theorem dX9_openNow_6 : decode cX9_openNow 6 = .ok (.istore 4, 2) := by decide +kernel
theorem dX9_openNow_8 : decode cX9_openNow 8 = .ok (.iload 4, 2) := by decide +kernel
theorem dX9_openNow_10 : decode cX9_openNow 10 = .ok (.aload_n 0, 1) := by decide +kernel
theorem dX9_openNow_11 : decode cX9_openNow 11 = .ok (.invokevirtual 122, 3) := by decide +kernel
theorem dX9_openNow_14 : decode cX9_openNow 14 = .ok (.if_icmp .ge 43, 3) := by decide +kernel
theorem dX9_openNow_17 : decode cX9_openNow 17 = .ok (.aload_n 0, 1) := by decide +kernel
theorem dX9_openNow_18 : decode cX9_openNow 18 = .ok (.iload 4, 2) := by decide +kernel
theorem dX9_openNow_20 : decode cX9_openNow 20 = .ok (.invokevirtual 201, 3) := by decide +kernel
theorem dX9_openNow_23 : decode cX9_openNow 23 = .ok (.istore 5, 2) := by decide +kernel
theorem dX9_openNow_25 : decode cX9_openNow 25 = .ok (.iload 5, 2) := by decide +kernel
theorem dX9_openNow_27 : decode cX9_openNow 27 = .ok (.iload_n 3, 1) := by decide +kernel
theorem dX9_openNow_28 : decode cX9_openNow 28 = .ok (.if_icmp .ge 8, 3) := by decide +kernel
theorem dX9_openNow_31 : decode cX9_openNow 31 = .ok (.iload 4, 2) := by decide +kernel
theorem dX9_openNow_33 : decode cX9_openNow 33 = .ok (.goto 4, 3) := by decide +kernel
theorem dX9_openNow_36 : decode cX9_openNow 36 = .ok (.iload_n 2, 1) := by decide +kernel
theorem dX9_openNow_37 : decode cX9_openNow 37 = .ok (.istore_n 2, 1) := by decide +kernel
theorem dX9_openNow_38 : decode cX9_openNow 38 = .ok (.iload 5, 2) := by decide +kernel
theorem dX9_openNow_40 : decode cX9_openNow 40 = .ok (.iload_n 3, 1) := by decide +kernel
theorem dX9_openNow_41 : decode cX9_openNow 41 = .ok (.if_icmp .ge 8, 3) := by decide +kernel
theorem dX9_openNow_44 : decode cX9_openNow 44 = .ok (.iload 5, 2) := by decide +kernel
theorem dX9_openNow_46 : decode cX9_openNow 46 = .ok (.goto 4, 3) := by decide +kernel
theorem dX9_openNow_49 : decode cX9_openNow 49 = .ok (.iload_n 3, 1) := by decide +kernel
theorem dX9_openNow_50 : decode cX9_openNow 50 = .ok (.istore_n 3, 1) := by decide +kernel
theorem dX9_openNow_51 : decode cX9_openNow 51 = .ok (.iinc 4 1, 3) := by decide +kernel
theorem dX9_openNow_54 : decode cX9_openNow 54 = .ok (.goto (-46), 3) := by decide +kernel
theorem dX9_openNow_57 : decode cX9_openNow 57 = .ok (.iload_n 1, 1) := by decide +kernel
theorem dX9_openNow_58 : decode cX9_openNow 58 = .ok (.ifCond .ne 7, 3) := by decide +kernel
theorem dX9_openNow_61 : decode cX9_openNow 61 = .ok (.iload_n 2, 1) := by decide +kernel
theorem dX9_openNow_62 : decode cX9_openNow 62 = .ok (.goto 4, 3) := by decide +kernel
theorem dX9_openNow_65 : decode cX9_openNow 65 = .ok (.iload_n 3, 1) := by decide +kernel
theorem dX9_openNow_66 : decode cX9_openNow 66 = .ok (.ireturn, 1) := by decide +kernel
theorem dX9_open_0 : decode cX9_open 0 = .ok (.iload_n 1, 1) := by decide +kernel
theorem dX9_open_1 : decode cX9_open 1 = .ok (.iconst 0, 1) := by decide +kernel
theorem dX9_open_2 : decode cX9_open 2 = .ok (.iconst 1, 1) := by decide +kernel
theorem dX9_open_3 : decode cX9_open 3 = .ok (.invokestatic 66, 3) := by decide +kernel
theorem dX9_open_6 : decode cX9_open 6 = .ok (.ifCond .ne 6, 3) := by decide +kernel
theorem dX9_open_9 : decode cX9_open 9 = .ok (.bipush (-102), 2) := by decide +kernel
theorem dX9_open_11 : decode cX9_open 11 = .ok (.ireturn, 1) := by decide +kernel
theorem dX9_open_12 : decode cX9_open 12 = .ok (.aload_n 0, 1) := by decide +kernel
theorem dX9_open_13 : decode cX9_open 13 = .ok (.getfield 101, 3) := by decide +kernel
theorem dX9_open_16 : decode cX9_open 16 = .ok (.ifCond .ne 8, 3) := by decide +kernel
theorem dX9_open_19 : decode cX9_open 19 = .ok (.bipush (-103), 2) := by decide +kernel
theorem dX9_open_21 : decode cX9_open 21 = .ok (.goto 8, 3) := by decide +kernel
theorem dX9_open_24 : decode cX9_open 24 = .ok (.aload_n 0, 1) := by decide +kernel
theorem dX9_open_25 : decode cX9_open 25 = .ok (.iload_n 1, 1) := by decide +kernel
theorem dX9_open_26 : decode cX9_open 26 = .ok (.invokevirtual 204, 3) := by decide +kernel
theorem dX9_open_29 : decode cX9_open 29 = .ok (.ireturn, 1) := by decide +kernel
theorem dX9_layBeats_0 : decode cX9_layBeats 0 = .ok (.iconst 0, 1) := by decide +kernel
theorem dX9_layBeats_1 : decode cX9_layBeats 1 = .ok (.istore_n 1, 1) := by decide +kernel
theorem dX9_layBeats_2 : decode cX9_layBeats 2 = .ok (.iload_n 1, 1) := by decide +kernel
theorem dX9_layBeats_3 : decode cX9_layBeats 3 = .ok (.bipush 16, 2) := by decide +kernel
theorem dX9_layBeats_5 : decode cX9_layBeats 5 = .ok (.if_icmp .ge 76, 3) := by decide +kernel
theorem dX9_layBeats_8 : decode cX9_layBeats 8 = .ok (.iload_n 1, 1) := by decide +kernel
theorem dX9_layBeats_9 : decode cX9_layBeats 9 = .ok (.iconst 4, 1) := by decide +kernel
theorem dX9_layBeats_10 : decode cX9_layBeats 10 = .ok (.idiv, 1) := by decide +kernel
theorem dX9_layBeats_11 : decode cX9_layBeats 11 = .ok (.istore_n 2, 1) := by decide +kernel
theorem dX9_layBeats_12 : decode cX9_layBeats 12 = .ok (.iload_n 1, 1) := by decide +kernel
theorem dX9_layBeats_13 : decode cX9_layBeats 13 = .ok (.iconst 4, 1) := by decide +kernel
theorem dX9_layBeats_14 : decode cX9_layBeats 14 = .ok (.irem, 1) := by decide +kernel
theorem dX9_layBeats_15 : decode cX9_layBeats 15 = .ok (.istore_n 3, 1) := by decide +kernel
theorem dX9_layBeats_16 : decode cX9_layBeats 16 = .ok (.iload_n 2, 1) := by decide +kernel
theorem dX9_layBeats_17 : decode cX9_layBeats 17 = .ok (.aload_n 0, 1) := by decide +kernel
theorem dX9_layBeats_18 : decode cX9_layBeats 18 = .ok (.getfield 101, 3) := by decide +kernel
theorem dX9_layBeats_21 : decode cX9_layBeats 21 = .ok (.if_icmp .ge 20, 3) := by decide +kernel
theorem dX9_layBeats_24 : decode cX9_layBeats 24 = .ok (.iload_n 3, 1) := by decide +kernel
theorem dX9_layBeats_25 : decode cX9_layBeats 25 = .ok (.aload_n 0, 1) := by decide +kernel
theorem dX9_layBeats_26 : decode cX9_layBeats 26 = .ok (.getfield 101, 3) := by decide +kernel
theorem dX9_layBeats_29 : decode cX9_layBeats 29 = .ok (.if_icmp .ge 12, 3) := by decide +kernel
theorem dX9_layBeats_32 : decode cX9_layBeats 32 = .ok (.iload_n 2, 1) := by decide +kernel
theorem dX9_layBeats_33 : decode cX9_layBeats 33 = .ok (.iload_n 3, 1) := by decide +kernel
theorem dX9_layBeats_34 : decode cX9_layBeats 34 = .ok (.if_icmp .eq 7, 3) := by decide +kernel
theorem dX9_layBeats_37 : decode cX9_layBeats 37 = .ok (.iconst 1, 1) := by decide +kernel
theorem dX9_layBeats_38 : decode cX9_layBeats 38 = .ok (.goto 4, 3) := by decide +kernel
theorem dX9_layBeats_41 : decode cX9_layBeats 41 = .ok (.iconst 0, 1) := by decide +kernel
theorem dX9_layBeats_42 : decode cX9_layBeats 42 = .ok (.istore 4, 2) := by decide +kernel
theorem dX9_layBeats_44 : decode cX9_layBeats 44 = .ok (.aload_n 0, 1) := by decide +kernel
theorem dX9_layBeats_45 : decode cX9_layBeats 45 = .ok (.getfield 36, 3) := by decide +kernel
theorem dX9_layBeats_48 : decode cX9_layBeats 48 = .ok (.iload_n 1, 1) := by decide +kernel
theorem dX9_layBeats_49 : decode cX9_layBeats 49 = .ok (.iload 4, 2) := by decide +kernel
theorem dX9_layBeats_51 : decode cX9_layBeats 51 = .ok (.ifCond .eq 22, 3) := by decide +kernel
theorem dX9_layBeats_54 : decode cX9_layBeats 54 = .ok (.aload_n 0, 1) := by decide +kernel
theorem dX9_layBeats_55 : decode cX9_layBeats 55 = .ok (.iload_n 2, 1) := by decide +kernel
theorem dX9_layBeats_56 : decode cX9_layBeats 56 = .ok (.iload_n 3, 1) := by decide +kernel
theorem dX9_layBeats_57 : decode cX9_layBeats 57 = .ok (.invokevirtual 194, 3) := by decide +kernel
theorem dX9_layBeats_60 : decode cX9_layBeats 60 = .ok (.aload_n 0, 1) := by decide +kernel
theorem dX9_layBeats_61 : decode cX9_layBeats 61 = .ok (.iload_n 3, 1) := by decide +kernel
theorem dX9_layBeats_62 : decode cX9_layBeats 62 = .ok (.iload_n 2, 1) := by decide +kernel
theorem dX9_layBeats_63 : decode cX9_layBeats 63 = .ok (.invokevirtual 194, 3) := by decide +kernel
theorem dX9_layBeats_66 : decode cX9_layBeats 66 = .ok (.if_icmp .le 7, 3) := by decide +kernel
theorem dX9_layBeats_69 : decode cX9_layBeats 69 = .ok (.iconst 1, 1) := by decide +kernel
theorem dX9_layBeats_70 : decode cX9_layBeats 70 = .ok (.goto 4, 3) := by decide +kernel
theorem dX9_layBeats_73 : decode cX9_layBeats 73 = .ok (.iconst 0, 1) := by decide +kernel
theorem dX9_layBeats_74 : decode cX9_layBeats 74 = .ok (.iastore, 1) := by decide +kernel
theorem dX9_layBeats_75 : decode cX9_layBeats 75 = .ok (.iinc 1 1, 3) := by decide +kernel
theorem dX9_layBeats_78 : decode cX9_layBeats 78 = .ok (.goto (-76), 3) := by decide +kernel
theorem dX9_layBeats_81 : decode cX9_layBeats 81 = .ok (.return_, 1) := by decide +kernel
theorem dX9_isRound_0 : decode cX9_isRound 0 = .ok (.aload_n 0, 1) := by decide +kernel
theorem dX9_isRound_1 : decode cX9_isRound 1 = .ok (.getfield 36, 3) := by decide +kernel
theorem dX9_isRound_4 : decode cX9_isRound 4 = .ok (.iconst 4, 1) := by decide +kernel
theorem dX9_isRound_5 : decode cX9_isRound 5 = .ok (.iload_n 1, 1) := by decide +kernel
theorem dX9_isRound_6 : decode cX9_isRound 6 = .ok (.imul, 1) := by decide +kernel
theorem dX9_isRound_7 : decode cX9_isRound 7 = .ok (.iload_n 2, 1) := by decide +kernel
theorem dX9_isRound_8 : decode cX9_isRound 8 = .ok (.iadd, 1) := by decide +kernel
theorem dX9_isRound_9 : decode cX9_isRound 9 = .ok (.iaload, 1) := by decide +kernel
theorem dX9_isRound_10 : decode cX9_isRound 10 = .ok (.aload_n 0, 1) := by decide +kernel
theorem dX9_isRound_11 : decode cX9_isRound 11 = .ok (.getfield 36, 3) := by decide +kernel
theorem dX9_isRound_14 : decode cX9_isRound 14 = .ok (.iconst 4, 1) := by decide +kernel
theorem dX9_isRound_15 : decode cX9_isRound 15 = .ok (.iload_n 2, 1) := by decide +kernel
theorem dX9_isRound_16 : decode cX9_isRound 16 = .ok (.imul, 1) := by decide +kernel
theorem dX9_isRound_17 : decode cX9_isRound 17 = .ok (.iload_n 3, 1) := by decide +kernel
theorem dX9_isRound_18 : decode cX9_isRound 18 = .ok (.iadd, 1) := by decide +kernel
theorem dX9_isRound_19 : decode cX9_isRound 19 = .ok (.iaload, 1) := by decide +kernel
theorem dX9_isRound_20 : decode cX9_isRound 20 = .ok (.iadd, 1) := by decide +kernel
theorem dX9_isRound_21 : decode cX9_isRound 21 = .ok (.aload_n 0, 1) := by decide +kernel
theorem dX9_isRound_22 : decode cX9_isRound 22 = .ok (.getfield 36, 3) := by decide +kernel
theorem dX9_isRound_25 : decode cX9_isRound 25 = .ok (.iconst 4, 1) := by decide +kernel
theorem dX9_isRound_26 : decode cX9_isRound 26 = .ok (.iload_n 3, 1) := by decide +kernel
theorem dX9_isRound_27 : decode cX9_isRound 27 = .ok (.imul, 1) := by decide +kernel
theorem dX9_isRound_28 : decode cX9_isRound 28 = .ok (.iload_n 1, 1) := by decide +kernel
theorem dX9_isRound_29 : decode cX9_isRound 29 = .ok (.iadd, 1) := by decide +kernel
theorem dX9_isRound_30 : decode cX9_isRound 30 = .ok (.iaload, 1) := by decide +kernel
theorem dX9_isRound_31 : decode cX9_isRound 31 = .ok (.iadd, 1) := by decide +kernel
theorem dX9_isRound_32 : decode cX9_isRound 32 = .ok (.iconst 3, 1) := by decide +kernel
theorem dX9_isRound_33 : decode cX9_isRound 33 = .ok (.if_icmp .ne 7, 3) := by decide +kernel
theorem dX9_isRound_36 : decode cX9_isRound 36 = .ok (.iconst 1, 1) := by decide +kernel
theorem dX9_isRound_37 : decode cX9_isRound 37 = .ok (.goto 4, 3) := by decide +kernel
theorem dX9_isRound_40 : decode cX9_isRound 40 = .ok (.iconst 0, 1) := by decide +kernel
theorem dX9_isRound_41 : decode cX9_isRound 41 = .ok (.ireturn, 1) := by decide +kernel
theorem dX9_isRoundOfFour_0 : decode cX9_isRoundOfFour 0 = .ok (.aload_n 0, 1) := by decide +kernel
theorem dX9_isRoundOfFour_1 : decode cX9_isRoundOfFour 1 = .ok (.getfield 36, 3) := by decide +kernel
theorem dX9_isRoundOfFour_4 : decode cX9_isRoundOfFour 4 = .ok (.iconst 4, 1) := by decide +kernel
theorem dX9_isRoundOfFour_5 : decode cX9_isRoundOfFour 5 = .ok (.iload_n 1, 1) := by decide +kernel
theorem dX9_isRoundOfFour_6 : decode cX9_isRoundOfFour 6 = .ok (.imul, 1) := by decide +kernel
theorem dX9_isRoundOfFour_7 : decode cX9_isRoundOfFour 7 = .ok (.iload_n 2, 1) := by decide +kernel
theorem dX9_isRoundOfFour_8 : decode cX9_isRoundOfFour 8 = .ok (.iadd, 1) := by decide +kernel
theorem dX9_isRoundOfFour_9 : decode cX9_isRoundOfFour 9 = .ok (.iaload, 1) := by decide +kernel
theorem dX9_isRoundOfFour_10 : decode cX9_isRoundOfFour 10 = .ok (.aload_n 0, 1) := by decide +kernel
theorem dX9_isRoundOfFour_11 : decode cX9_isRoundOfFour 11 = .ok (.getfield 36, 3) := by decide +kernel
theorem dX9_isRoundOfFour_14 : decode cX9_isRoundOfFour 14 = .ok (.iconst 4, 1) := by decide +kernel
theorem dX9_isRoundOfFour_15 : decode cX9_isRoundOfFour 15 = .ok (.iload_n 2, 1) := by decide +kernel
theorem dX9_isRoundOfFour_16 : decode cX9_isRoundOfFour 16 = .ok (.imul, 1) := by decide +kernel
theorem dX9_isRoundOfFour_17 : decode cX9_isRoundOfFour 17 = .ok (.iload_n 3, 1) := by decide +kernel
theorem dX9_isRoundOfFour_18 : decode cX9_isRoundOfFour 18 = .ok (.iadd, 1) := by decide +kernel
theorem dX9_isRoundOfFour_19 : decode cX9_isRoundOfFour 19 = .ok (.iaload, 1) := by decide +kernel
theorem dX9_isRoundOfFour_20 : decode cX9_isRoundOfFour 20 = .ok (.iadd, 1) := by decide +kernel
theorem dX9_isRoundOfFour_21 : decode cX9_isRoundOfFour 21 = .ok (.aload_n 0, 1) := by decide +kernel
