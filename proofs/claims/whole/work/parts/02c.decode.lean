theorem dX9_isRoundOfFour_22 : decode cX9_isRoundOfFour 22 = .ok (.getfield 36, 3) := by decide +kernel
theorem dX9_isRoundOfFour_25 : decode cX9_isRoundOfFour 25 = .ok (.iconst 4, 1) := by decide +kernel
theorem dX9_isRoundOfFour_26 : decode cX9_isRoundOfFour 26 = .ok (.iload_n 3, 1) := by decide +kernel
theorem dX9_isRoundOfFour_27 : decode cX9_isRoundOfFour 27 = .ok (.imul, 1) := by decide +kernel
theorem dX9_isRoundOfFour_28 : decode cX9_isRoundOfFour 28 = .ok (.iload 4, 2) := by decide +kernel
theorem dX9_isRoundOfFour_30 : decode cX9_isRoundOfFour 30 = .ok (.iadd, 1) := by decide +kernel
theorem dX9_isRoundOfFour_31 : decode cX9_isRoundOfFour 31 = .ok (.iaload, 1) := by decide +kernel
theorem dX9_isRoundOfFour_32 : decode cX9_isRoundOfFour 32 = .ok (.iadd, 1) := by decide +kernel
theorem dX9_isRoundOfFour_33 : decode cX9_isRoundOfFour 33 = .ok (.aload_n 0, 1) := by decide +kernel
theorem dX9_isRoundOfFour_34 : decode cX9_isRoundOfFour 34 = .ok (.getfield 36, 3) := by decide +kernel
theorem dX9_isRoundOfFour_37 : decode cX9_isRoundOfFour 37 = .ok (.iconst 4, 1) := by decide +kernel
theorem dX9_isRoundOfFour_38 : decode cX9_isRoundOfFour 38 = .ok (.iload 4, 2) := by decide +kernel
theorem dX9_isRoundOfFour_40 : decode cX9_isRoundOfFour 40 = .ok (.imul, 1) := by decide +kernel
theorem dX9_isRoundOfFour_41 : decode cX9_isRoundOfFour 41 = .ok (.iload_n 1, 1) := by decide +kernel
theorem dX9_isRoundOfFour_42 : decode cX9_isRoundOfFour 42 = .ok (.iadd, 1) := by decide +kernel
theorem dX9_isRoundOfFour_43 : decode cX9_isRoundOfFour 43 = .ok (.iaload, 1) := by decide +kernel
theorem dX9_isRoundOfFour_44 : decode cX9_isRoundOfFour 44 = .ok (.iadd, 1) := by decide +kernel
theorem dX9_isRoundOfFour_45 : decode cX9_isRoundOfFour 45 = .ok (.iconst 4, 1) := by decide +kernel
theorem dX9_isRoundOfFour_46 : decode cX9_isRoundOfFour 46 = .ok (.if_icmp .ne 7, 3) := by decide +kernel
theorem dX9_isRoundOfFour_49 : decode cX9_isRoundOfFour 49 = .ok (.iconst 1, 1) := by decide +kernel
theorem dX9_isRoundOfFour_50 : decode cX9_isRoundOfFour 50 = .ok (.goto 4, 3) := by decide +kernel
theorem dX9_isRoundOfFour_53 : decode cX9_isRoundOfFour 53 = .ok (.iconst 0, 1) := by decide +kernel
theorem dX9_isRoundOfFour_54 : decode cX9_isRoundOfFour 54 = .ok (.ireturn, 1) := by decide +kernel
theorem dX9_ringNow_0 : decode cX9_ringNow 0 = .ok (.aload_n 0, 1) := by decide +kernel
theorem dX9_ringNow_1 : decode cX9_ringNow 1 = .ok (.invokevirtual 207, 3) := by decide +kernel
theorem dX9_ringNow_4 : decode cX9_ringNow 4 = .ok (.iconst 0, 1) := by decide +kernel
theorem dX9_ringNow_5 : decode cX9_ringNow 5 = .ok (.istore_n 1, 1) := by decide +kernel
theorem dX9_ringNow_6 : decode cX9_ringNow 6 = .ok (.iconst 2, 1) := by decide +kernel
theorem dX9_ringNow_7 : decode cX9_ringNow 7 = .ok (.istore_n 2, 1) := by decide +kernel
theorem dX9_ringNow_8 : decode cX9_ringNow 8 = .ok (.iload_n 2, 1) := by decide +kernel
theorem dX9_ringNow_9 : decode cX9_ringNow 9 = .ok (.aload_n 0, 1) := by decide +kernel
theorem dX9_ringNow_10 : decode cX9_ringNow 10 = .ok (.getfield 101, 3) := by decide +kernel
theorem dX9_ringNow_13 : decode cX9_ringNow 13 = .ok (.if_icmp .ge 102, 3) := by decide +kernel
theorem dX9_ringNow_16 : decode cX9_ringNow 16 = .ok (.iconst 1, 1) := by decide +kernel
theorem dX9_ringNow_17 : decode cX9_ringNow 17 = .ok (.istore_n 3, 1) := by decide +kernel
theorem dX9_ringNow_18 : decode cX9_ringNow 18 = .ok (.iload_n 3, 1) := by decide +kernel
theorem dX9_ringNow_19 : decode cX9_ringNow 19 = .ok (.iload_n 2, 1) := by decide +kernel
theorem dX9_ringNow_20 : decode cX9_ringNow 20 = .ok (.if_icmp .ge 89, 3) := by decide +kernel
theorem dX9_ringNow_23 : decode cX9_ringNow 23 = .ok (.iconst 0, 1) := by decide +kernel
theorem dX9_ringNow_24 : decode cX9_ringNow 24 = .ok (.istore 4, 2) := by decide +kernel
theorem dX9_ringNow_26 : decode cX9_ringNow 26 = .ok (.iload 4, 2) := by decide +kernel
theorem dX9_ringNow_28 : decode cX9_ringNow 28 = .ok (.iload_n 3, 1) := by decide +kernel
theorem dX9_ringNow_29 : decode cX9_ringNow 29 = .ok (.if_icmp .ge 74, 3) := by decide +kernel
theorem dX9_ringNow_32 : decode cX9_ringNow 32 = .ok (.iconst 1, 1) := by decide +kernel
theorem dX9_ringNow_33 : decode cX9_ringNow 33 = .ok (.iload 4, 2) := by decide +kernel
theorem dX9_ringNow_35 : decode cX9_ringNow 35 = .ok (.ishl, 1) := by decide +kernel
theorem dX9_ringNow_36 : decode cX9_ringNow 36 = .ok (.iconst 1, 1) := by decide +kernel
theorem dX9_ringNow_37 : decode cX9_ringNow 37 = .ok (.iload_n 3, 1) := by decide +kernel
theorem dX9_ringNow_38 : decode cX9_ringNow 38 = .ok (.ishl, 1) := by decide +kernel
theorem dX9_ringNow_39 : decode cX9_ringNow 39 = .ok (.ior, 1) := by decide +kernel
theorem dX9_ringNow_40 : decode cX9_ringNow 40 = .ok (.iconst 1, 1) := by decide +kernel
theorem dX9_ringNow_41 : decode cX9_ringNow 41 = .ok (.iload_n 2, 1) := by decide +kernel
theorem dX9_ringNow_42 : decode cX9_ringNow 42 = .ok (.ishl, 1) := by decide +kernel
theorem dX9_ringNow_43 : decode cX9_ringNow 43 = .ok (.ior, 1) := by decide +kernel
theorem dX9_ringNow_44 : decode cX9_ringNow 44 = .ok (.istore 5, 2) := by decide +kernel
theorem dX9_ringNow_46 : decode cX9_ringNow 46 = .ok (.aload_n 0, 1) := by decide +kernel
theorem dX9_ringNow_47 : decode cX9_ringNow 47 = .ok (.iload 4, 2) := by decide +kernel
theorem dX9_ringNow_49 : decode cX9_ringNow 49 = .ok (.iload_n 3, 1) := by decide +kernel
theorem dX9_ringNow_50 : decode cX9_ringNow 50 = .ok (.iload_n 2, 1) := by decide +kernel
theorem dX9_ringNow_51 : decode cX9_ringNow 51 = .ok (.invokevirtual 210, 3) := by decide +kernel
theorem dX9_ringNow_54 : decode cX9_ringNow 54 = .ok (.ifCond .ne 14, 3) := by decide +kernel
theorem dX9_ringNow_57 : decode cX9_ringNow 57 = .ok (.aload_n 0, 1) := by decide +kernel
theorem dX9_ringNow_58 : decode cX9_ringNow 58 = .ok (.iload 4, 2) := by decide +kernel
theorem dX9_ringNow_60 : decode cX9_ringNow 60 = .ok (.iload_n 2, 1) := by decide +kernel
theorem dX9_ringNow_61 : decode cX9_ringNow 61 = .ok (.iload_n 3, 1) := by decide +kernel
theorem dX9_ringNow_62 : decode cX9_ringNow 62 = .ok (.invokevirtual 210, 3) := by decide +kernel
theorem dX9_ringNow_65 : decode cX9_ringNow 65 = .ok (.ifCond .eq 7, 3) := by decide +kernel
theorem dX9_ringNow_68 : decode cX9_ringNow 68 = .ok (.iconst 1, 1) := by decide +kernel
theorem dX9_ringNow_69 : decode cX9_ringNow 69 = .ok (.goto 4, 3) := by decide +kernel
theorem dX9_ringNow_72 : decode cX9_ringNow 72 = .ok (.iconst 0, 1) := by decide +kernel
theorem dX9_ringNow_73 : decode cX9_ringNow 73 = .ok (.istore 6, 2) := by decide +kernel
theorem dX9_ringNow_75 : decode cX9_ringNow 75 = .ok (.iload 6, 2) := by decide +kernel
theorem dX9_ringNow_77 : decode cX9_ringNow 77 = .ok (.ifCond .eq 18, 3) := by decide +kernel
theorem dX9_ringNow_80 : decode cX9_ringNow 80 = .ok (.iload_n 1, 1) := by decide +kernel
theorem dX9_ringNow_81 : decode cX9_ringNow 81 = .ok (.ifCond .eq 9, 3) := by decide +kernel
theorem dX9_ringNow_84 : decode cX9_ringNow 84 = .ok (.iload 5, 2) := by decide +kernel
theorem dX9_ringNow_86 : decode cX9_ringNow 86 = .ok (.iload_n 1, 1) := by decide +kernel
theorem dX9_ringNow_87 : decode cX9_ringNow 87 = .ok (.if_icmp .ge 8, 3) := by decide +kernel
theorem dX9_ringNow_90 : decode cX9_ringNow 90 = .ok (.iload 5, 2) := by decide +kernel
theorem dX9_ringNow_92 : decode cX9_ringNow 92 = .ok (.goto 4, 3) := by decide +kernel
theorem dX9_ringNow_95 : decode cX9_ringNow 95 = .ok (.iload_n 1, 1) := by decide +kernel
theorem dX9_ringNow_96 : decode cX9_ringNow 96 = .ok (.istore_n 1, 1) := by decide +kernel
theorem dX9_ringNow_97 : decode cX9_ringNow 97 = .ok (.iinc 4 1, 3) := by decide +kernel
theorem dX9_ringNow_100 : decode cX9_ringNow 100 = .ok (.goto (-74), 3) := by decide +kernel
theorem dX9_ringNow_103 : decode cX9_ringNow 103 = .ok (.iinc 3 1, 3) := by decide +kernel
theorem dX9_ringNow_106 : decode cX9_ringNow 106 = .ok (.goto (-88), 3) := by decide +kernel
theorem dX9_ringNow_109 : decode cX9_ringNow 109 = .ok (.iinc 2 1, 3) := by decide +kernel
theorem dX9_ringNow_112 : decode cX9_ringNow 112 = .ok (.goto (-104), 3) := by decide +kernel
theorem dX9_ringNow_115 : decode cX9_ringNow 115 = .ok (.iload_n 1, 1) := by decide +kernel
theorem dX9_ringNow_116 : decode cX9_ringNow 116 = .ok (.ifCond .ne 11, 3) := by decide +kernel
theorem dX9_ringNow_119 : decode cX9_ringNow 119 = .ok (.aload_n 0, 1) := by decide +kernel
theorem dX9_ringNow_120 : decode cX9_ringNow 120 = .ok (.getfield 101, 3) := by decide +kernel
theorem dX9_ringNow_123 : decode cX9_ringNow 123 = .ok (.iconst 4, 1) := by decide +kernel
theorem dX9_ringNow_124 : decode cX9_ringNow 124 = .ok (.if_icmp .ge 5, 3) := by decide +kernel
theorem dX9_ringNow_127 : decode cX9_ringNow 127 = .ok (.iload_n 1, 1) := by decide +kernel
theorem dX9_ringNow_128 : decode cX9_ringNow 128 = .ok (.ireturn, 1) := by decide +kernel
theorem dX9_ringNow_129 : decode cX9_ringNow 129 = .ok (.aload_n 0, 1) := by decide +kernel
theorem dX9_ringNow_130 : decode cX9_ringNow 130 = .ok (.iconst 0, 1) := by decide +kernel
theorem dX9_ringNow_131 : decode cX9_ringNow 131 = .ok (.iconst 1, 1) := by decide +kernel
theorem dX9_ringNow_132 : decode cX9_ringNow 132 = .ok (.iconst 2, 1) := by decide +kernel
theorem dX9_ringNow_133 : decode cX9_ringNow 133 = .ok (.iconst 3, 1) := by decide +kernel
theorem dX9_ringNow_134 : decode cX9_ringNow 134 = .ok (.invokevirtual 213, 3) := by decide +kernel
theorem dX9_ringNow_137 : decode cX9_ringNow 137 = .ok (.ifCond .ne 58, 3) := by decide +kernel
theorem dX9_ringNow_140 : decode cX9_ringNow 140 = .ok (.aload_n 0, 1) := by decide +kernel
theorem dX9_ringNow_141 : decode cX9_ringNow 141 = .ok (.iconst 0, 1) := by decide +kernel
theorem dX9_ringNow_142 : decode cX9_ringNow 142 = .ok (.iconst 1, 1) := by decide +kernel
theorem dX9_ringNow_143 : decode cX9_ringNow 143 = .ok (.iconst 3, 1) := by decide +kernel
theorem dX9_ringNow_144 : decode cX9_ringNow 144 = .ok (.iconst 2, 1) := by decide +kernel
theorem dX9_ringNow_145 : decode cX9_ringNow 145 = .ok (.invokevirtual 213, 3) := by decide +kernel
theorem dX9_ringNow_148 : decode cX9_ringNow 148 = .ok (.ifCond .ne 47, 3) := by decide +kernel
theorem dX9_ringNow_151 : decode cX9_ringNow 151 = .ok (.aload_n 0, 1) := by decide +kernel
theorem dX9_ringNow_152 : decode cX9_ringNow 152 = .ok (.iconst 0, 1) := by decide +kernel
theorem dX9_ringNow_153 : decode cX9_ringNow 153 = .ok (.iconst 2, 1) := by decide +kernel
theorem dX9_ringNow_154 : decode cX9_ringNow 154 = .ok (.iconst 1, 1) := by decide +kernel
theorem dX9_ringNow_155 : decode cX9_ringNow 155 = .ok (.iconst 3, 1) := by decide +kernel
theorem dX9_ringNow_156 : decode cX9_ringNow 156 = .ok (.invokevirtual 213, 3) := by decide +kernel
theorem dX9_ringNow_159 : decode cX9_ringNow 159 = .ok (.ifCond .ne 36, 3) := by decide +kernel
theorem dX9_ringNow_162 : decode cX9_ringNow 162 = .ok (.aload_n 0, 1) := by decide +kernel
theorem dX9_ringNow_163 : decode cX9_ringNow 163 = .ok (.iconst 0, 1) := by decide +kernel
theorem dX9_ringNow_164 : decode cX9_ringNow 164 = .ok (.iconst 2, 1) := by decide +kernel
theorem dX9_ringNow_165 : decode cX9_ringNow 165 = .ok (.iconst 3, 1) := by decide +kernel
theorem dX9_ringNow_166 : decode cX9_ringNow 166 = .ok (.iconst 1, 1) := by decide +kernel
theorem dX9_ringNow_167 : decode cX9_ringNow 167 = .ok (.invokevirtual 213, 3) := by decide +kernel
theorem dX9_ringNow_170 : decode cX9_ringNow 170 = .ok (.ifCond .ne 25, 3) := by decide +kernel
theorem dX9_ringNow_173 : decode cX9_ringNow 173 = .ok (.aload_n 0, 1) := by decide +kernel
theorem dX9_ringNow_174 : decode cX9_ringNow 174 = .ok (.iconst 0, 1) := by decide +kernel
theorem dX9_ringNow_175 : decode cX9_ringNow 175 = .ok (.iconst 3, 1) := by decide +kernel
theorem dX9_ringNow_176 : decode cX9_ringNow 176 = .ok (.iconst 1, 1) := by decide +kernel
theorem dX9_ringNow_177 : decode cX9_ringNow 177 = .ok (.iconst 2, 1) := by decide +kernel
theorem dX9_ringNow_178 : decode cX9_ringNow 178 = .ok (.invokevirtual 213, 3) := by decide +kernel
theorem dX9_ringNow_181 : decode cX9_ringNow 181 = .ok (.ifCond .ne 14, 3) := by decide +kernel
theorem dX9_ringNow_184 : decode cX9_ringNow 184 = .ok (.aload_n 0, 1) := by decide +kernel
theorem dX9_ringNow_185 : decode cX9_ringNow 185 = .ok (.iconst 0, 1) := by decide +kernel
theorem dX9_ringNow_186 : decode cX9_ringNow 186 = .ok (.iconst 3, 1) := by decide +kernel
theorem dX9_ringNow_187 : decode cX9_ringNow 187 = .ok (.iconst 2, 1) := by decide +kernel
theorem dX9_ringNow_188 : decode cX9_ringNow 188 = .ok (.iconst 1, 1) := by decide +kernel
theorem dX9_ringNow_189 : decode cX9_ringNow 189 = .ok (.invokevirtual 213, 3) := by decide +kernel
theorem dX9_ringNow_192 : decode cX9_ringNow 192 = .ok (.ifCond .eq 7, 3) := by decide +kernel
theorem dX9_ringNow_195 : decode cX9_ringNow 195 = .ok (.iconst 1, 1) := by decide +kernel
theorem dX9_ringNow_196 : decode cX9_ringNow 196 = .ok (.goto 4, 3) := by decide +kernel
theorem dX9_ringNow_199 : decode cX9_ringNow 199 = .ok (.iconst 0, 1) := by decide +kernel
theorem dX9_ringNow_200 : decode cX9_ringNow 200 = .ok (.istore_n 2, 1) := by decide +kernel
theorem dX9_ringNow_201 : decode cX9_ringNow 201 = .ok (.iload_n 2, 1) := by decide +kernel
theorem dX9_ringNow_202 : decode cX9_ringNow 202 = .ok (.ifCond .eq 8, 3) := by decide +kernel
theorem dX9_ringNow_205 : decode cX9_ringNow 205 = .ok (.bipush 15, 2) := by decide +kernel
theorem dX9_ringNow_207 : decode cX9_ringNow 207 = .ok (.goto 4, 3) := by decide +kernel
theorem dX9_ringNow_210 : decode cX9_ringNow 210 = .ok (.iconst 0, 1) := by decide +kernel
theorem dX9_ringNow_211 : decode cX9_ringNow 211 = .ok (.ireturn, 1) := by decide +kernel
theorem dX9_ring_0 : decode cX9_ring 0 = .ok (.aload_n 0, 1) := by decide +kernel
theorem dX9_ring_1 : decode cX9_ring 1 = .ok (.getfield 101, 3) := by decide +kernel
theorem dX9_ring_4 : decode cX9_ring 4 = .ok (.ifCond .ne 8, 3) := by decide +kernel
theorem dX9_ring_7 : decode cX9_ring 7 = .ok (.bipush (-103), 2) := by decide +kernel
theorem dX9_ring_9 : decode cX9_ring 9 = .ok (.goto 7, 3) := by decide +kernel
theorem dX9_ring_12 : decode cX9_ring 12 = .ok (.aload_n 0, 1) := by decide +kernel
theorem dX9_ring_13 : decode cX9_ring 13 = .ok (.invokevirtual 217, 3) := by decide +kernel
theorem dX9_ring_16 : decode cX9_ring 16 = .ok (.ireturn, 1) := by decide +kernel
theorem dX9_behind_0 : decode cX9_behind 0 = .ok (.iconst 2, 1) := by decide +kernel
theorem dX9_behind_1 : decode cX9_behind 1 = .ok (.iload_n 1, 1) := by decide +kernel
theorem dX9_behind_2 : decode cX9_behind 2 = .ok (.imul, 1) := by decide +kernel
theorem dX9_behind_3 : decode cX9_behind 3 = .ok (.iload_n 2, 1) := by decide +kernel
theorem dX9_behind_4 : decode cX9_behind 4 = .ok (.iadd, 1) := by decide +kernel
theorem dX9_behind_5 : decode cX9_behind 5 = .ok (.istore_n 3, 1) := by decide +kernel
theorem dX9_behind_6 : decode cX9_behind 6 = .ok (.iload_n 3, 1) := by decide +kernel
theorem dX9_behind_7 : decode cX9_behind 7 = .ok (.aload_n 0, 1) := by decide +kernel
theorem dX9_behind_8 : decode cX9_behind 8 = .ok (.invokevirtual 122, 3) := by decide +kernel
theorem dX9_behind_11 : decode cX9_behind 11 = .ok (.if_icmp .ge 7, 3) := by decide +kernel
theorem dX9_behind_14 : decode cX9_behind 14 = .ok (.iload_n 3, 1) := by decide +kernel
theorem dX9_behind_15 : decode cX9_behind 15 = .ok (.goto 16, 3) := by decide +kernel
theorem dX9_behind_18 : decode cX9_behind 18 = .ok (.iload_n 3, 1) := by decide +kernel
theorem dX9_behind_19 : decode cX9_behind 19 = .ok (.aload_n 0, 1) := by decide +kernel
theorem dX9_behind_20 : decode cX9_behind 20 = .ok (.invokevirtual 164, 3) := by decide +kernel
theorem dX9_behind_23 : decode cX9_behind 23 = .ok (.iconst 1, 1) := by decide +kernel
theorem dX9_behind_24 : decode cX9_behind 24 = .ok (.isub, 1) := by decide +kernel
theorem dX9_behind_25 : decode cX9_behind 25 = .ok (.iand, 1) := by decide +kernel
theorem dX9_behind_26 : decode cX9_behind 26 = .ok (.aload_n 0, 1) := by decide +kernel
theorem dX9_behind_27 : decode cX9_behind 27 = .ok (.invokevirtual 164, 3) := by decide +kernel
theorem dX9_behind_30 : decode cX9_behind 30 = .ok (.ior, 1) := by decide +kernel
theorem dX9_behind_31 : decode cX9_behind 31 = .ok (.ireturn, 1) := by decide +kernel
theorem dX9_tossWays_0 : decode cX9_tossWays 0 = .ok (.iconst 0, 1) := by decide +kernel
theorem dX9_tossWays_1 : decode cX9_tossWays 1 = .ok (.istore_n 3, 1) := by decide +kernel
theorem dX9_tossWays_2 : decode cX9_tossWays 2 = .ok (.iconst 0, 1) := by decide +kernel
theorem dX9_tossWays_3 : decode cX9_tossWays 3 = .ok (.istore 4, 2) := by decide +kernel
theorem dX9_tossWays_5 : decode cX9_tossWays 5 = .ok (.iload 4, 2) := by decide +kernel
theorem dX9_tossWays_7 : decode cX9_tossWays 7 = .ok (.iconst 2, 1) := by decide +kernel
theorem dX9_tossWays_8 : decode cX9_tossWays 8 = .ok (.if_icmp .ge 96, 3) := by decide +kernel
theorem dX9_tossWays_11 : decode cX9_tossWays 11 = .ok (.iconst 2, 1) := by decide +kernel
theorem dX9_tossWays_12 : decode cX9_tossWays 12 = .ok (.iload_n 1, 1) := by decide +kernel
theorem dX9_tossWays_13 : decode cX9_tossWays 13 = .ok (.imul, 1) := by decide +kernel
theorem dX9_tossWays_14 : decode cX9_tossWays 14 = .ok (.iload 4, 2) := by decide +kernel
theorem dX9_tossWays_16 : decode cX9_tossWays 16 = .ok (.iadd, 1) := by decide +kernel
theorem dX9_tossWays_17 : decode cX9_tossWays 17 = .ok (.istore 5, 2) := by decide +kernel
theorem dX9_tossWays_19 : decode cX9_tossWays 19 = .ok (.iload 5, 2) := by decide +kernel
theorem dX9_tossWays_21 : decode cX9_tossWays 21 = .ok (.aload_n 0, 1) := by decide +kernel
theorem dX9_tossWays_22 : decode cX9_tossWays 22 = .ok (.invokevirtual 122, 3) := by decide +kernel
theorem dX9_tossWays_25 : decode cX9_tossWays 25 = .ok (.if_icmp .ge 7, 3) := by decide +kernel
theorem dX9_tossWays_28 : decode cX9_tossWays 28 = .ok (.iconst 0, 1) := by decide +kernel
theorem dX9_tossWays_29 : decode cX9_tossWays 29 = .ok (.goto 13, 3) := by decide +kernel
theorem dX9_tossWays_32 : decode cX9_tossWays 32 = .ok (.aload_n 0, 1) := by decide +kernel
theorem dX9_tossWays_33 : decode cX9_tossWays 33 = .ok (.aload_n 0, 1) := by decide +kernel
theorem dX9_tossWays_34 : decode cX9_tossWays 34 = .ok (.getfield 98, 3) := by decide +kernel
theorem dX9_tossWays_37 : decode cX9_tossWays 37 = .ok (.iload 5, 2) := by decide +kernel
theorem dX9_tossWays_39 : decode cX9_tossWays 39 = .ok (.invokevirtual 161, 3) := by decide +kernel
theorem dX9_tossWays_42 : decode cX9_tossWays 42 = .ok (.istore 6, 2) := by decide +kernel
theorem dX9_tossWays_44 : decode cX9_tossWays 44 = .ok (.iload 6, 2) := by decide +kernel
theorem dX9_tossWays_46 : decode cX9_tossWays 46 = .ok (.ifCond .ne 27, 3) := by decide +kernel
theorem dX9_tossWays_49 : decode cX9_tossWays 49 = .ok (.aload_n 0, 1) := by decide +kernel
theorem dX9_tossWays_50 : decode cX9_tossWays 50 = .ok (.getfield 42, 3) := by decide +kernel
theorem dX9_tossWays_53 : decode cX9_tossWays 53 = .ok (.aload_n 0, 1) := by decide +kernel
theorem dX9_tossWays_54 : decode cX9_tossWays 54 = .ok (.iload_n 1, 1) := by decide +kernel
theorem dX9_tossWays_55 : decode cX9_tossWays 55 = .ok (.iload 4, 2) := by decide +kernel
theorem dX9_tossWays_57 : decode cX9_tossWays 57 = .ok (.invokevirtual 220, 3) := by decide +kernel
theorem dX9_tossWays_60 : decode cX9_tossWays 60 = .ok (.dup2, 1) := by decide +kernel
theorem dX9_tossWays_61 : decode cX9_tossWays 61 = .ok (.iaload, 1) := by decide +kernel
theorem dX9_tossWays_62 : decode cX9_tossWays 62 = .ok (.aload_n 0, 1) := by decide +kernel
theorem dX9_tossWays_63 : decode cX9_tossWays 63 = .ok (.getfield 39, 3) := by decide +kernel
theorem dX9_tossWays_66 : decode cX9_tossWays 66 = .ok (.iload_n 1, 1) := by decide +kernel
theorem dX9_tossWays_67 : decode cX9_tossWays 67 = .ok (.iaload, 1) := by decide +kernel
theorem dX9_tossWays_68 : decode cX9_tossWays 68 = .ok (.iadd, 1) := by decide +kernel
theorem dX9_tossWays_69 : decode cX9_tossWays 69 = .ok (.iastore, 1) := by decide +kernel
theorem dX9_tossWays_70 : decode cX9_tossWays 70 = .ok (.goto 28, 3) := by decide +kernel
theorem dX9_tossWays_73 : decode cX9_tossWays 73 = .ok (.iload_n 2, 1) := by decide +kernel
theorem dX9_tossWays_74 : decode cX9_tossWays 74 = .ok (.iload 5, 2) := by decide +kernel
theorem dX9_tossWays_76 : decode cX9_tossWays 76 = .ok (.aload_n 0, 1) := by decide +kernel
theorem dX9_tossWays_77 : decode cX9_tossWays 77 = .ok (.invokevirtual 122, 3) := by decide +kernel
theorem dX9_tossWays_80 : decode cX9_tossWays 80 = .ok (.iconst 1, 1) := by decide +kernel
theorem dX9_tossWays_81 : decode cX9_tossWays 81 = .ok (.isub, 1) := by decide +kernel
theorem dX9_tossWays_82 : decode cX9_tossWays 82 = .ok (.iand, 1) := by decide +kernel
theorem dX9_tossWays_83 : decode cX9_tossWays 83 = .ok (.invokestatic 157, 3) := by decide +kernel
theorem dX9_tossWays_86 : decode cX9_tossWays 86 = .ok (.ifCond .eq 12, 3) := by decide +kernel
theorem dX9_tossWays_89 : decode cX9_tossWays 89 = .ok (.iload_n 3, 1) := by decide +kernel
theorem dX9_tossWays_90 : decode cX9_tossWays 90 = .ok (.aload_n 0, 1) := by decide +kernel
theorem dX9_tossWays_91 : decode cX9_tossWays 91 = .ok (.getfield 39, 3) := by decide +kernel
theorem dX9_tossWays_94 : decode cX9_tossWays 94 = .ok (.iload_n 1, 1) := by decide +kernel
theorem dX9_tossWays_95 : decode cX9_tossWays 95 = .ok (.iaload, 1) := by decide +kernel
theorem dX9_tossWays_96 : decode cX9_tossWays 96 = .ok (.iadd, 1) := by decide +kernel
theorem dX9_tossWays_97 : decode cX9_tossWays 97 = .ok (.istore_n 3, 1) := by decide +kernel
theorem dX9_tossWays_98 : decode cX9_tossWays 98 = .ok (.iinc 4 1, 3) := by decide +kernel
theorem dX9_tossWays_101 : decode cX9_tossWays 101 = .ok (.goto (-96), 3) := by decide +kernel
theorem dX9_tossWays_104 : decode cX9_tossWays 104 = .ok (.iload_n 3, 1) := by decide +kernel
theorem dX9_tossWays_105 : decode cX9_tossWays 105 = .ok (.ireturn, 1) := by decide +kernel
theorem dX9_stateNow_0 : decode cX9_stateNow 0 = .ok (.aload_n 0, 1) := by decide +kernel
theorem dX9_stateNow_1 : decode cX9_stateNow 1 = .ok (.getfield 107, 3) := by decide +kernel
theorem dX9_stateNow_4 : decode cX9_stateNow 4 = .ok (.aload_n 0, 1) := by decide +kernel
theorem dX9_stateNow_5 : decode cX9_stateNow 5 = .ok (.getfield 98, 3) := by decide +kernel
theorem dX9_stateNow_8 : decode cX9_stateNow 8 = .ok (.iconst 1, 1) := by decide +kernel
theorem dX9_stateNow_9 : decode cX9_stateNow 9 = .ok (.isub, 1) := by decide +kernel
theorem dX9_stateNow_10 : decode cX9_stateNow 10 = .ok (.if_icmp .ge 10, 3) := by decide +kernel
theorem dX9_stateNow_13 : decode cX9_stateNow 13 = .ok (.aload_n 0, 1) := by decide +kernel
theorem dX9_stateNow_14 : decode cX9_stateNow 14 = .ok (.getfield 107, 3) := by decide +kernel
theorem dX9_stateNow_17 : decode cX9_stateNow 17 = .ok (.goto 9, 3) := by decide +kernel
theorem dX9_stateNow_20 : decode cX9_stateNow 20 = .ok (.aload_n 0, 1) := by decide +kernel
theorem dX9_stateNow_21 : decode cX9_stateNow 21 = .ok (.getfield 98, 3) := by decide +kernel
theorem dX9_stateNow_24 : decode cX9_stateNow 24 = .ok (.iconst 1, 1) := by decide +kernel
theorem dX9_stateNow_25 : decode cX9_stateNow 25 = .ok (.isub, 1) := by decide +kernel
theorem dX9_stateNow_26 : decode cX9_stateNow 26 = .ok (.istore_n 1, 1) := by decide +kernel
theorem dX9_stateNow_27 : decode cX9_stateNow 27 = .ok (.iconst 1, 1) := by decide +kernel
theorem dX9_stateNow_28 : decode cX9_stateNow 28 = .ok (.iload_n 1, 1) := by decide +kernel
theorem dX9_stateNow_29 : decode cX9_stateNow 29 = .ok (.ishl, 1) := by decide +kernel
theorem dX9_stateNow_30 : decode cX9_stateNow 30 = .ok (.aload_n 0, 1) := by decide +kernel
theorem dX9_stateNow_31 : decode cX9_stateNow 31 = .ok (.getfield 110, 3) := by decide +kernel
theorem dX9_stateNow_34 : decode cX9_stateNow 34 = .ok (.iconst 1, 1) := by decide +kernel
theorem dX9_stateNow_35 : decode cX9_stateNow 35 = .ok (.iload_n 1, 1) := by decide +kernel
theorem dX9_stateNow_36 : decode cX9_stateNow 36 = .ok (.ishl, 1) := by decide +kernel
theorem dX9_stateNow_37 : decode cX9_stateNow 37 = .ok (.iconst 1, 1) := by decide +kernel
theorem dX9_stateNow_38 : decode cX9_stateNow 38 = .ok (.isub, 1) := by decide +kernel
theorem dX9_stateNow_39 : decode cX9_stateNow 39 = .ok (.iand, 1) := by decide +kernel
theorem dX9_stateNow_40 : decode cX9_stateNow 40 = .ok (.ior, 1) := by decide +kernel
theorem dX9_stateNow_41 : decode cX9_stateNow 41 = .ok (.ireturn, 1) := by decide +kernel
theorem dX9_oddsNow_0 : decode cX9_oddsNow 0 = .ok (.iconst 0, 1) := by decide +kernel
theorem dX9_oddsNow_1 : decode cX9_oddsNow 1 = .ok (.istore 4, 2) := by decide +kernel
theorem dX9_oddsNow_3 : decode cX9_oddsNow 3 = .ok (.iload 4, 2) := by decide +kernel
theorem dX9_oddsNow_5 : decode cX9_oddsNow 5 = .ok (.bipush 16, 2) := by decide +kernel
theorem dX9_oddsNow_7 : decode cX9_oddsNow 7 = .ok (.if_icmp .ge 17, 3) := by decide +kernel
theorem dX9_oddsNow_10 : decode cX9_oddsNow 10 = .ok (.aload_n 0, 1) := by decide +kernel
theorem dX9_oddsNow_11 : decode cX9_oddsNow 11 = .ok (.getfield 39, 3) := by decide +kernel
theorem dX9_oddsNow_14 : decode cX9_oddsNow 14 = .ok (.iload 4, 2) := by decide +kernel
theorem dX9_oddsNow_16 : decode cX9_oddsNow 16 = .ok (.iconst 0, 1) := by decide +kernel
theorem dX9_oddsNow_17 : decode cX9_oddsNow 17 = .ok (.iastore, 1) := by decide +kernel
theorem dX9_oddsNow_18 : decode cX9_oddsNow 18 = .ok (.iinc 4 1, 3) := by decide +kernel
theorem dX9_oddsNow_21 : decode cX9_oddsNow 21 = .ok (.goto (-18), 3) := by decide +kernel
theorem dX9_oddsNow_24 : decode cX9_oddsNow 24 = .ok (.aload_n 0, 1) := by decide +kernel
theorem dX9_oddsNow_25 : decode cX9_oddsNow 25 = .ok (.getfield 39, 3) := by decide +kernel
theorem dX9_oddsNow_28 : decode cX9_oddsNow 28 = .ok (.aload_n 0, 1) := by decide +kernel
theorem dX9_oddsNow_29 : decode cX9_oddsNow 29 = .ok (.invokevirtual 223, 3) := by decide +kernel
theorem dX9_oddsNow_32 : decode cX9_oddsNow 32 = .ok (.iconst 1, 1) := by decide +kernel
theorem dX9_oddsNow_33 : decode cX9_oddsNow 33 = .ok (.iastore, 1) := by decide +kernel
theorem dX9_oddsNow_34 : decode cX9_oddsNow 34 = .ok (.iconst 0, 1) := by decide +kernel
theorem dX9_oddsNow_35 : decode cX9_oddsNow 35 = .ok (.istore 4, 2) := by decide +kernel
theorem dX9_oddsNow_37 : decode cX9_oddsNow 37 = .ok (.iload_n 2, 1) := by decide +kernel
theorem dX9_oddsNow_38 : decode cX9_oddsNow 38 = .ok (.iconst 1, 1) := by decide +kernel
theorem dX9_oddsNow_39 : decode cX9_oddsNow 39 = .ok (.isub, 1) := by decide +kernel
theorem dX9_oddsNow_40 : decode cX9_oddsNow 40 = .ok (.istore 5, 2) := by decide +kernel
theorem dX9_oddsNow_42 : decode cX9_oddsNow 42 = .ok (.iload 5, 2) := by decide +kernel
theorem dX9_oddsNow_44 : decode cX9_oddsNow 44 = .ok (.ifCond .lt 114, 3) := by decide +kernel
theorem dX9_oddsNow_47 : decode cX9_oddsNow 47 = .ok (.iconst 0, 1) := by decide +kernel
theorem dX9_oddsNow_48 : decode cX9_oddsNow 48 = .ok (.istore 6, 2) := by decide +kernel
theorem dX9_oddsNow_50 : decode cX9_oddsNow 50 = .ok (.iload 6, 2) := by decide +kernel
theorem dX9_oddsNow_52 : decode cX9_oddsNow 52 = .ok (.bipush 16, 2) := by decide +kernel
theorem dX9_oddsNow_54 : decode cX9_oddsNow 54 = .ok (.if_icmp .ge 17, 3) := by decide +kernel
theorem dX9_oddsNow_57 : decode cX9_oddsNow 57 = .ok (.aload_n 0, 1) := by decide +kernel
theorem dX9_oddsNow_58 : decode cX9_oddsNow 58 = .ok (.getfield 42, 3) := by decide +kernel
theorem dX9_oddsNow_61 : decode cX9_oddsNow 61 = .ok (.iload 6, 2) := by decide +kernel
theorem dX9_oddsNow_63 : decode cX9_oddsNow 63 = .ok (.iconst 0, 1) := by decide +kernel
theorem dX9_oddsNow_64 : decode cX9_oddsNow 64 = .ok (.iastore, 1) := by decide +kernel
theorem dX9_oddsNow_65 : decode cX9_oddsNow 65 = .ok (.iinc 6 1, 3) := by decide +kernel
theorem dX9_oddsNow_68 : decode cX9_oddsNow 68 = .ok (.goto (-18), 3) := by decide +kernel
theorem dX9_oddsNow_71 : decode cX9_oddsNow 71 = .ok (.iconst 1, 1) := by decide +kernel
theorem dX9_oddsNow_72 : decode cX9_oddsNow 72 = .ok (.istore 6, 2) := by decide +kernel
theorem dX9_oddsNow_74 : decode cX9_oddsNow 74 = .ok (.iload 6, 2) := by decide +kernel
theorem dX9_oddsNow_76 : decode cX9_oddsNow 76 = .ok (.aload_n 0, 1) := by decide +kernel
theorem dX9_oddsNow_77 : decode cX9_oddsNow 77 = .ok (.invokevirtual 122, 3) := by decide +kernel
theorem dX9_oddsNow_80 : decode cX9_oddsNow 80 = .ok (.if_icmp .ge 42, 3) := by decide +kernel
theorem dX9_oddsNow_83 : decode cX9_oddsNow 83 = .ok (.iload 4, 2) := by decide +kernel
theorem dX9_oddsNow_85 : decode cX9_oddsNow 85 = .ok (.aload_n 0, 1) := by decide +kernel
theorem dX9_oddsNow_86 : decode cX9_oddsNow 86 = .ok (.getfield 39, 3) := by decide +kernel
theorem dX9_oddsNow_89 : decode cX9_oddsNow 89 = .ok (.iload 6, 2) := by decide +kernel
theorem dX9_oddsNow_91 : decode cX9_oddsNow 91 = .ok (.iaload, 1) := by decide +kernel
theorem dX9_oddsNow_92 : decode cX9_oddsNow 92 = .ok (.ifCond .le 20, 3) := by decide +kernel
theorem dX9_oddsNow_95 : decode cX9_oddsNow 95 = .ok (.aload_n 0, 1) := by decide +kernel
theorem dX9_oddsNow_96 : decode cX9_oddsNow 96 = .ok (.iload 6, 2) := by decide +kernel
theorem dX9_oddsNow_98 : decode cX9_oddsNow 98 = .ok (.aload_n 0, 1) := by decide +kernel
theorem dX9_oddsNow_99 : decode cX9_oddsNow 99 = .ok (.iload_n 1, 1) := by decide +kernel
theorem dX9_oddsNow_100 : decode cX9_oddsNow 100 = .ok (.invokevirtual 132, 3) := by decide +kernel
theorem dX9_oddsNow_103 : decode cX9_oddsNow 103 = .ok (.invokevirtual 226, 3) := by decide +kernel
theorem dX9_oddsNow_106 : decode cX9_oddsNow 106 = .ok (.iload 5, 2) := by decide +kernel
theorem dX9_oddsNow_108 : decode cX9_oddsNow 108 = .ok (.ishl, 1) := by decide +kernel
theorem dX9_oddsNow_109 : decode cX9_oddsNow 109 = .ok (.goto 4, 3) := by decide +kernel
theorem dX9_oddsNow_112 : decode cX9_oddsNow 112 = .ok (.iconst 0, 1) := by decide +kernel
theorem dX9_oddsNow_113 : decode cX9_oddsNow 113 = .ok (.iadd, 1) := by decide +kernel
theorem dX9_oddsNow_114 : decode cX9_oddsNow 114 = .ok (.istore 4, 2) := by decide +kernel
theorem dX9_oddsNow_116 : decode cX9_oddsNow 116 = .ok (.iinc 6 1, 3) := by decide +kernel
theorem dX9_oddsNow_119 : decode cX9_oddsNow 119 = .ok (.goto (-45), 3) := by decide +kernel
theorem dX9_oddsNow_122 : decode cX9_oddsNow 122 = .ok (.iconst 0, 1) := by decide +kernel
theorem dX9_oddsNow_123 : decode cX9_oddsNow 123 = .ok (.istore 6, 2) := by decide +kernel
theorem dX9_oddsNow_125 : decode cX9_oddsNow 125 = .ok (.iload 6, 2) := by decide +kernel
theorem dX9_oddsNow_127 : decode cX9_oddsNow 127 = .ok (.bipush 16, 2) := by decide +kernel
theorem dX9_oddsNow_129 : decode cX9_oddsNow 129 = .ok (.if_icmp .ge 23, 3) := by decide +kernel
theorem dX9_oddsNow_132 : decode cX9_oddsNow 132 = .ok (.aload_n 0, 1) := by decide +kernel
theorem dX9_oddsNow_133 : decode cX9_oddsNow 133 = .ok (.getfield 39, 3) := by decide +kernel
theorem dX9_oddsNow_136 : decode cX9_oddsNow 136 = .ok (.iload 6, 2) := by decide +kernel
theorem dX9_oddsNow_138 : decode cX9_oddsNow 138 = .ok (.aload_n 0, 1) := by decide +kernel
theorem dX9_oddsNow_139 : decode cX9_oddsNow 139 = .ok (.getfield 42, 3) := by decide +kernel
theorem dX9_oddsNow_142 : decode cX9_oddsNow 142 = .ok (.iload 6, 2) := by decide +kernel
theorem dX9_oddsNow_144 : decode cX9_oddsNow 144 = .ok (.iaload, 1) := by decide +kernel
theorem dX9_oddsNow_145 : decode cX9_oddsNow 145 = .ok (.iastore, 1) := by decide +kernel
theorem dX9_oddsNow_146 : decode cX9_oddsNow 146 = .ok (.iinc 6 1, 3) := by decide +kernel
theorem dX9_oddsNow_149 : decode cX9_oddsNow 149 = .ok (.goto (-24), 3) := by decide +kernel
theorem dX9_oddsNow_152 : decode cX9_oddsNow 152 = .ok (.iinc 5 (-1), 3) := by decide +kernel
theorem dX9_oddsNow_155 : decode cX9_oddsNow 155 = .ok (.goto (-113), 3) := by decide +kernel
theorem dX9_oddsNow_158 : decode cX9_oddsNow 158 = .ok (.iconst 1, 1) := by decide +kernel
theorem dX9_oddsNow_159 : decode cX9_oddsNow 159 = .ok (.iload_n 2, 1) := by decide +kernel
theorem dX9_oddsNow_160 : decode cX9_oddsNow 160 = .ok (.ishl, 1) := by decide +kernel
theorem dX9_oddsNow_161 : decode cX9_oddsNow 161 = .ok (.istore 5, 2) := by decide +kernel
theorem dX9_oddsNow_163 : decode cX9_oddsNow 163 = .ok (.iload 4, 2) := by decide +kernel
theorem dX9_oddsNow_165 : decode cX9_oddsNow 165 = .ok (.iload 5, 2) := by decide +kernel
theorem dX9_oddsNow_167 : decode cX9_oddsNow 167 = .ok (.invokestatic 229, 3) := by decide +kernel
theorem dX9_oddsNow_170 : decode cX9_oddsNow 170 = .ok (.istore 6, 2) := by decide +kernel
theorem dX9_oddsNow_172 : decode cX9_oddsNow 172 = .ok (.iload_n 3, 1) := by decide +kernel
theorem dX9_oddsNow_173 : decode cX9_oddsNow 173 = .ok (.ifCond .ne 11, 3) := by decide +kernel
theorem dX9_oddsNow_176 : decode cX9_oddsNow 176 = .ok (.iload 4, 2) := by decide +kernel
theorem dX9_oddsNow_178 : decode cX9_oddsNow 178 = .ok (.iload 6, 2) := by decide +kernel
theorem dX9_oddsNow_180 : decode cX9_oddsNow 180 = .ok (.idiv, 1) := by decide +kernel
theorem dX9_oddsNow_181 : decode cX9_oddsNow 181 = .ok (.goto 8, 3) := by decide +kernel
theorem dX9_oddsNow_184 : decode cX9_oddsNow 184 = .ok (.iload 5, 2) := by decide +kernel
theorem dX9_oddsNow_186 : decode cX9_oddsNow 186 = .ok (.iload 6, 2) := by decide +kernel
theorem dX9_oddsNow_188 : decode cX9_oddsNow 188 = .ok (.idiv, 1) := by decide +kernel
theorem dX9_oddsNow_189 : decode cX9_oddsNow 189 = .ok (.ireturn, 1) := by decide +kernel
theorem dX9_odds_0 : decode cX9_odds 0 = .ok (.aload_n 0, 1) := by decide +kernel
theorem dX9_odds_1 : decode cX9_odds 1 = .ok (.iload_n 1, 1) := by decide +kernel
theorem dX9_odds_2 : decode cX9_odds 2 = .ok (.invokevirtual 147, 3) := by decide +kernel
theorem dX9_odds_5 : decode cX9_odds 5 = .ok (.ifCond .ne 6, 3) := by decide +kernel
theorem dX9_odds_8 : decode cX9_odds 8 = .ok (.bipush (-101), 2) := by decide +kernel
theorem dX9_odds_10 : decode cX9_odds 10 = .ok (.ireturn, 1) := by decide +kernel
theorem dX9_odds_11 : decode cX9_odds 11 = .ok (.iload_n 2, 1) := by decide +kernel
theorem dX9_odds_12 : decode cX9_odds 12 = .ok (.iconst 1, 1) := by decide +kernel
theorem dX9_odds_13 : decode cX9_odds 13 = .ok (.bipush 20, 2) := by decide +kernel
theorem dX9_odds_15 : decode cX9_odds 15 = .ok (.invokestatic 66, 3) := by decide +kernel
theorem dX9_odds_18 : decode cX9_odds 18 = .ok (.ifCond .eq 22, 3) := by decide +kernel
theorem dX9_odds_21 : decode cX9_odds 21 = .ok (.iload_n 3, 1) := by decide +kernel
theorem dX9_odds_22 : decode cX9_odds 22 = .ok (.iconst 0, 1) := by decide +kernel
theorem dX9_odds_23 : decode cX9_odds 23 = .ok (.iconst 1, 1) := by decide +kernel
theorem dX9_odds_24 : decode cX9_odds 24 = .ok (.invokestatic 66, 3) := by decide +kernel
theorem dX9_odds_27 : decode cX9_odds 27 = .ok (.ifCond .eq 13, 3) := by decide +kernel
theorem dX9_odds_30 : decode cX9_odds 30 = .ok (.aload_n 0, 1) := by decide +kernel
theorem dX9_odds_31 : decode cX9_odds 31 = .ok (.iload_n 1, 1) := by decide +kernel
theorem dX9_odds_32 : decode cX9_odds 32 = .ok (.iload_n 2, 1) := by decide +kernel
theorem dX9_odds_33 : decode cX9_odds 33 = .ok (.iload_n 3, 1) := by decide +kernel
theorem dX9_odds_34 : decode cX9_odds 34 = .ok (.invokevirtual 232, 3) := by decide +kernel
theorem dX9_odds_37 : decode cX9_odds 37 = .ok (.goto 5, 3) := by decide +kernel
theorem dX9_odds_40 : decode cX9_odds 40 = .ok (.bipush (-102), 2) := by decide +kernel
theorem dX9_odds_42 : decode cX9_odds 42 = .ok (.ireturn, 1) := by decide +kernel
theorem dX9_see_0 : decode cX9_see 0 = .ok (.aload_n 0, 1) := by decide +kernel
theorem dX9_see_1 : decode cX9_see 1 = .ok (.iload_n 1, 1) := by decide +kernel
theorem dX9_see_2 : decode cX9_see 2 = .ok (.invokevirtual 147, 3) := by decide +kernel
theorem dX9_see_5 : decode cX9_see 5 = .ok (.ifCond .ne 6, 3) := by decide +kernel
theorem dX9_see_8 : decode cX9_see 8 = .ok (.bipush (-101), 2) := by decide +kernel
theorem dX9_see_10 : decode cX9_see 10 = .ok (.ireturn, 1) := by decide +kernel
theorem dX9_see_11 : decode cX9_see 11 = .ok (.aload_n 0, 1) := by decide +kernel
theorem dX9_see_12 : decode cX9_see 12 = .ok (.iload_n 2, 1) := by decide +kernel
theorem dX9_see_13 : decode cX9_see 13 = .ok (.invokevirtual 154, 3) := by decide +kernel
theorem dX9_see_16 : decode cX9_see 16 = .ok (.ifCond .ne 6, 3) := by decide +kernel
theorem dX9_see_19 : decode cX9_see 19 = .ok (.bipush (-102), 2) := by decide +kernel
theorem dX9_see_21 : decode cX9_see 21 = .ok (.ireturn, 1) := by decide +kernel
theorem dX9_see_22 : decode cX9_see 22 = .ok (.aload_n 0, 1) := by decide +kernel
theorem dX9_see_23 : decode cX9_see 23 = .ok (.getfield 119, 3) := by decide +kernel
theorem dX9_see_26 : decode cX9_see 26 = .ok (.bipush 6, 2) := by decide +kernel
theorem dX9_see_28 : decode cX9_see 28 = .ok (.if_icmp .ne 6, 3) := by decide +kernel
theorem dX9_see_31 : decode cX9_see 31 = .ok (.bipush (-104), 2) := by decide +kernel
theorem dX9_see_33 : decode cX9_see 33 = .ok (.ireturn, 1) := by decide +kernel
theorem dX9_see_34 : decode cX9_see 34 = .ok (.aload_n 0, 1) := by decide +kernel
theorem dX9_see_35 : decode cX9_see 35 = .ok (.getfield 19, 3) := by decide +kernel
theorem dX9_see_38 : decode cX9_see 38 = .ok (.aload_n 0, 1) := by decide +kernel
theorem dX9_see_39 : decode cX9_see 39 = .ok (.getfield 119, 3) := by decide +kernel
theorem dX9_see_42 : decode cX9_see 42 = .ok (.iload_n 1, 1) := by decide +kernel
theorem dX9_see_43 : decode cX9_see 43 = .ok (.iastore, 1) := by decide +kernel
theorem dX9_see_44 : decode cX9_see 44 = .ok (.aload_n 0, 1) := by decide +kernel
theorem dX9_see_45 : decode cX9_see 45 = .ok (.getfield 22, 3) := by decide +kernel
theorem dX9_see_48 : decode cX9_see 48 = .ok (.aload_n 0, 1) := by decide +kernel
theorem dX9_see_49 : decode cX9_see 49 = .ok (.getfield 119, 3) := by decide +kernel
theorem dX9_see_52 : decode cX9_see 52 = .ok (.iload_n 2, 1) := by decide +kernel
theorem dX9_see_53 : decode cX9_see 53 = .ok (.iastore, 1) := by decide +kernel
theorem dX9_see_54 : decode cX9_see 54 = .ok (.aload_n 0, 1) := by decide +kernel
theorem dX9_see_55 : decode cX9_see 55 = .ok (.getfield 25, 3) := by decide +kernel
theorem dX9_see_58 : decode cX9_see 58 = .ok (.aload_n 0, 1) := by decide +kernel
theorem dX9_see_59 : decode cX9_see 59 = .ok (.getfield 119, 3) := by decide +kernel
theorem dX9_see_62 : decode cX9_see 62 = .ok (.iload_n 3, 1) := by decide +kernel
theorem dX9_see_63 : decode cX9_see 63 = .ok (.ifCond .eq 7, 3) := by decide +kernel
theorem dX9_see_66 : decode cX9_see 66 = .ok (.iconst 1, 1) := by decide +kernel
theorem dX9_see_67 : decode cX9_see 67 = .ok (.goto 4, 3) := by decide +kernel
theorem dX9_see_70 : decode cX9_see 70 = .ok (.iconst 0, 1) := by decide +kernel
theorem dX9_see_71 : decode cX9_see 71 = .ok (.iastore, 1) := by decide +kernel
theorem dX9_see_72 : decode cX9_see 72 = .ok (.aload_n 0, 1) := by decide +kernel
theorem dX9_see_73 : decode cX9_see 73 = .ok (.dup, 1) := by decide +kernel
theorem dX9_see_74 : decode cX9_see 74 = .ok (.getfield 119, 3) := by decide +kernel
theorem dX9_see_77 : decode cX9_see 77 = .ok (.iconst 1, 1) := by decide +kernel
theorem dX9_see_78 : decode cX9_see 78 = .ok (.iadd, 1) := by decide +kernel
theorem dX9_see_79 : decode cX9_see 79 = .ok (.putfield 119, 3) := by decide +kernel
theorem dX9_see_82 : decode cX9_see 82 = .ok (.aload_n 0, 1) := by decide +kernel
theorem dX9_see_83 : decode cX9_see 83 = .ok (.getfield 119, 3) := by decide +kernel
theorem dX9_see_86 : decode cX9_see 86 = .ok (.ireturn, 1) := by decide +kernel
theorem dX9_forget_0 : decode cX9_forget 0 = .ok (.aload_n 0, 1) := by decide +kernel
theorem dX9_forget_1 : decode cX9_forget 1 = .ok (.getfield 119, 3) := by decide +kernel
theorem dX9_forget_4 : decode cX9_forget 4 = .ok (.istore_n 1, 1) := by decide +kernel
theorem dX9_forget_5 : decode cX9_forget 5 = .ok (.aload_n 0, 1) := by decide +kernel
theorem dX9_forget_6 : decode cX9_forget 6 = .ok (.iconst 0, 1) := by decide +kernel
theorem dX9_forget_7 : decode cX9_forget 7 = .ok (.putfield 119, 3) := by decide +kernel
theorem dX9_forget_10 : decode cX9_forget 10 = .ok (.iload_n 1, 1) := by decide +kernel
theorem dX9_forget_11 : decode cX9_forget 11 = .ok (.ireturn, 1) := by decide +kernel
theorem dX9_rowsOf_0 : decode cX9_rowsOf 0 = .ok (.iconst 0, 1) := by decide +kernel
theorem dX9_rowsOf_1 : decode cX9_rowsOf 1 = .ok (.istore_n 2, 1) := by decide +kernel
theorem dX9_rowsOf_2 : decode cX9_rowsOf 2 = .ok (.iconst 0, 1) := by decide +kernel
theorem dX9_rowsOf_3 : decode cX9_rowsOf 3 = .ok (.istore_n 3, 1) := by decide +kernel
theorem dX9_rowsOf_4 : decode cX9_rowsOf 4 = .ok (.iload_n 3, 1) := by decide +kernel
theorem dX9_rowsOf_5 : decode cX9_rowsOf 5 = .ok (.aload_n 0, 1) := by decide +kernel
theorem dX9_rowsOf_6 : decode cX9_rowsOf 6 = .ok (.invokevirtual 122, 3) := by decide +kernel
theorem dX9_rowsOf_9 : decode cX9_rowsOf 9 = .ok (.if_icmp .ge 99, 3) := by decide +kernel
theorem dX9_rowsOf_12 : decode cX9_rowsOf 12 = .ok (.iconst 1, 1) := by decide +kernel
theorem dX9_rowsOf_13 : decode cX9_rowsOf 13 = .ok (.istore 4, 2) := by decide +kernel
theorem dX9_rowsOf_15 : decode cX9_rowsOf 15 = .ok (.iconst 0, 1) := by decide +kernel
theorem dX9_rowsOf_16 : decode cX9_rowsOf 16 = .ok (.istore 5, 2) := by decide +kernel
theorem dX9_rowsOf_18 : decode cX9_rowsOf 18 = .ok (.iload 5, 2) := by decide +kernel
theorem dX9_rowsOf_20 : decode cX9_rowsOf 20 = .ok (.aload_n 0, 1) := by decide +kernel
theorem dX9_rowsOf_21 : decode cX9_rowsOf 21 = .ok (.getfield 119, 3) := by decide +kernel
theorem dX9_rowsOf_24 : decode cX9_rowsOf 24 = .ok (.if_icmp .ge 63, 3) := by decide +kernel
theorem dX9_rowsOf_27 : decode cX9_rowsOf 27 = .ok (.iload 4, 2) := by decide +kernel
theorem dX9_rowsOf_29 : decode cX9_rowsOf 29 = .ok (.ifCond .eq 49, 3) := by decide +kernel
theorem dX9_rowsOf_32 : decode cX9_rowsOf 32 = .ok (.aload_n 0, 1) := by decide +kernel
theorem dX9_rowsOf_33 : decode cX9_rowsOf 33 = .ok (.getfield 19, 3) := by decide +kernel
theorem dX9_rowsOf_36 : decode cX9_rowsOf 36 = .ok (.iload 5, 2) := by decide +kernel
theorem dX9_rowsOf_38 : decode cX9_rowsOf 38 = .ok (.iaload, 1) := by decide +kernel
theorem dX9_rowsOf_39 : decode cX9_rowsOf 39 = .ok (.iload_n 1, 1) := by decide +kernel
theorem dX9_rowsOf_40 : decode cX9_rowsOf 40 = .ok (.if_icmp .ne 34, 3) := by decide +kernel
theorem dX9_rowsOf_43 : decode cX9_rowsOf 43 = .ok (.aload_n 0, 1) := by decide +kernel
theorem dX9_rowsOf_44 : decode cX9_rowsOf 44 = .ok (.aload_n 0, 1) := by decide +kernel
theorem dX9_rowsOf_45 : decode cX9_rowsOf 45 = .ok (.getfield 7, 3) := by decide +kernel
theorem dX9_rowsOf_48 : decode cX9_rowsOf 48 = .ok (.iload_n 1, 1) := by decide +kernel
theorem dX9_rowsOf_49 : decode cX9_rowsOf 49 = .ok (.iaload, 1) := by decide +kernel
theorem dX9_rowsOf_50 : decode cX9_rowsOf 50 = .ok (.iload_n 3, 1) := by decide +kernel
theorem dX9_rowsOf_51 : decode cX9_rowsOf 51 = .ok (.invokevirtual 128, 3) := by decide +kernel
theorem dX9_rowsOf_54 : decode cX9_rowsOf 54 = .ok (.aload_n 0, 1) := by decide +kernel
theorem dX9_rowsOf_55 : decode cX9_rowsOf 55 = .ok (.getfield 22, 3) := by decide +kernel
theorem dX9_rowsOf_58 : decode cX9_rowsOf 58 = .ok (.iload 5, 2) := by decide +kernel
theorem dX9_rowsOf_60 : decode cX9_rowsOf 60 = .ok (.iaload, 1) := by decide +kernel
theorem dX9_rowsOf_61 : decode cX9_rowsOf 61 = .ok (.ishr, 1) := by decide +kernel
theorem dX9_rowsOf_62 : decode cX9_rowsOf 62 = .ok (.iconst 1, 1) := by decide +kernel
theorem dX9_rowsOf_63 : decode cX9_rowsOf 63 = .ok (.iand, 1) := by decide +kernel
theorem dX9_rowsOf_64 : decode cX9_rowsOf 64 = .ok (.aload_n 0, 1) := by decide +kernel
theorem dX9_rowsOf_65 : decode cX9_rowsOf 65 = .ok (.getfield 25, 3) := by decide +kernel
theorem dX9_rowsOf_68 : decode cX9_rowsOf 68 = .ok (.iload 5, 2) := by decide +kernel
theorem dX9_rowsOf_70 : decode cX9_rowsOf 70 = .ok (.iaload, 1) := by decide +kernel
theorem dX9_rowsOf_71 : decode cX9_rowsOf 71 = .ok (.if_icmp .ne 7, 3) := by decide +kernel
theorem dX9_rowsOf_74 : decode cX9_rowsOf 74 = .ok (.iconst 1, 1) := by decide +kernel
theorem dX9_rowsOf_75 : decode cX9_rowsOf 75 = .ok (.goto 4, 3) := by decide +kernel
theorem dX9_rowsOf_78 : decode cX9_rowsOf 78 = .ok (.iconst 0, 1) := by decide +kernel
theorem dX9_rowsOf_79 : decode cX9_rowsOf 79 = .ok (.istore 4, 2) := by decide +kernel
theorem dX9_rowsOf_81 : decode cX9_rowsOf 81 = .ok (.iinc 5 1, 3) := by decide +kernel
theorem dX9_rowsOf_84 : decode cX9_rowsOf 84 = .ok (.goto (-66), 3) := by decide +kernel
theorem dX9_rowsOf_87 : decode cX9_rowsOf 87 = .ok (.iload_n 2, 1) := by decide +kernel
theorem dX9_rowsOf_88 : decode cX9_rowsOf 88 = .ok (.iload 4, 2) := by decide +kernel
theorem dX9_rowsOf_90 : decode cX9_rowsOf 90 = .ok (.ifCond .eq 9, 3) := by decide +kernel
theorem dX9_rowsOf_93 : decode cX9_rowsOf 93 = .ok (.iconst 1, 1) := by decide +kernel
theorem dX9_rowsOf_94 : decode cX9_rowsOf 94 = .ok (.iload_n 3, 1) := by decide +kernel
theorem dX9_rowsOf_95 : decode cX9_rowsOf 95 = .ok (.ishl, 1) := by decide +kernel
theorem dX9_rowsOf_96 : decode cX9_rowsOf 96 = .ok (.goto 4, 3) := by decide +kernel
theorem dX9_rowsOf_99 : decode cX9_rowsOf 99 = .ok (.iconst 0, 1) := by decide +kernel
theorem dX9_rowsOf_100 : decode cX9_rowsOf 100 = .ok (.ior, 1) := by decide +kernel
theorem dX9_rowsOf_101 : decode cX9_rowsOf 101 = .ok (.istore_n 2, 1) := by decide +kernel
theorem dX9_rowsOf_102 : decode cX9_rowsOf 102 = .ok (.iinc 3 1, 3) := by decide +kernel
theorem dX9_rowsOf_105 : decode cX9_rowsOf 105 = .ok (.goto (-101), 3) := by decide +kernel
theorem dX9_rowsOf_108 : decode cX9_rowsOf 108 = .ok (.iload_n 2, 1) := by decide +kernel
theorem dX9_rowsOf_109 : decode cX9_rowsOf 109 = .ok (.ireturn, 1) := by decide +kernel
theorem dX9_tryFor_0 : decode cX9_tryFor 0 = .ok (.aload_n 0, 1) := by decide +kernel
theorem dX9_tryFor_1 : decode cX9_tryFor 1 = .ok (.iload_n 1, 1) := by decide +kernel
theorem dX9_tryFor_2 : decode cX9_tryFor 2 = .ok (.invokevirtual 141, 3) := by decide +kernel
theorem dX9_tryFor_5 : decode cX9_tryFor 5 = .ok (.istore_n 2, 1) := by decide +kernel
theorem dX9_tryFor_6 : decode cX9_tryFor 6 = .ok (.iconst (-1), 1) := by decide +kernel
theorem dX9_tryFor_7 : decode cX9_tryFor 7 = .ok (.istore_n 3, 1) := by decide +kernel
theorem dX9_tryFor_8 : decode cX9_tryFor 8 = .ok (.ldc 200, 2) := by decide +kernel
theorem dX9_tryFor_10 : decode cX9_tryFor 10 = .ok (.istore 4, 2) := by decide +kernel
theorem dX9_tryFor_12 : decode cX9_tryFor 12 = .ok (.iconst 0, 1) := by decide +kernel
theorem dX9_tryFor_13 : decode cX9_tryFor 13 = .ok (.istore 5, 2) := by decide +kernel
theorem dX9_tryFor_15 : decode cX9_tryFor 15 = .ok (.iload 5, 2) := by decide +kernel
theorem dX9_tryFor_17 : decode cX9_tryFor 17 = .ok (.aload_n 0, 1) := by decide +kernel
theorem dX9_tryFor_18 : decode cX9_tryFor 18 = .ok (.invokevirtual 122, 3) := by decide +kernel
theorem dX9_tryFor_21 : decode cX9_tryFor 21 = .ok (.if_icmp .ge 124, 3) := by decide +kernel
theorem dX9_tryFor_24 : decode cX9_tryFor 24 = .ok (.iload_n 2, 1) := by decide +kernel
theorem dX9_tryFor_25 : decode cX9_tryFor 25 = .ok (.ifCond .eq 120, 3) := by decide +kernel
theorem dX9_tryFor_28 : decode cX9_tryFor 28 = .ok (.iconst 0, 1) := by decide +kernel
theorem dX9_tryFor_29 : decode cX9_tryFor 29 = .ok (.istore 6, 2) := by decide +kernel
theorem dX9_tryFor_31 : decode cX9_tryFor 31 = .ok (.iconst 0, 1) := by decide +kernel
theorem dX9_tryFor_32 : decode cX9_tryFor 32 = .ok (.istore 7, 2) := by decide +kernel
theorem dX9_tryFor_34 : decode cX9_tryFor 34 = .ok (.iload 7, 2) := by decide +kernel
theorem dX9_tryFor_36 : decode cX9_tryFor 36 = .ok (.aload_n 0, 1) := by decide +kernel
theorem dX9_tryFor_37 : decode cX9_tryFor 37 = .ok (.invokevirtual 122, 3) := by decide +kernel
theorem dX9_tryFor_40 : decode cX9_tryFor 40 = .ok (.if_icmp .ge 44, 3) := by decide +kernel
theorem dX9_tryFor_43 : decode cX9_tryFor 43 = .ok (.iload 6, 2) := by decide +kernel
theorem dX9_tryFor_45 : decode cX9_tryFor 45 = .ok (.iload_n 2, 1) := by decide +kernel
theorem dX9_tryFor_46 : decode cX9_tryFor 46 = .ok (.iload 7, 2) := by decide +kernel
theorem dX9_tryFor_48 : decode cX9_tryFor 48 = .ok (.invokestatic 157, 3) := by decide +kernel
theorem dX9_tryFor_51 : decode cX9_tryFor 51 = .ok (.ifCond .eq 23, 3) := by decide +kernel
theorem dX9_tryFor_54 : decode cX9_tryFor 54 = .ok (.aload_n 0, 1) := by decide +kernel
theorem dX9_tryFor_55 : decode cX9_tryFor 55 = .ok (.aload_n 0, 1) := by decide +kernel
theorem dX9_tryFor_56 : decode cX9_tryFor 56 = .ok (.getfield 7, 3) := by decide +kernel
theorem dX9_tryFor_59 : decode cX9_tryFor 59 = .ok (.iload_n 1, 1) := by decide +kernel
theorem dX9_tryFor_60 : decode cX9_tryFor 60 = .ok (.iaload, 1) := by decide +kernel
theorem dX9_tryFor_61 : decode cX9_tryFor 61 = .ok (.iload 7, 2) := by decide +kernel
theorem dX9_tryFor_63 : decode cX9_tryFor 63 = .ok (.invokevirtual 128, 3) := by decide +kernel
theorem dX9_tryFor_66 : decode cX9_tryFor 66 = .ok (.iload 5, 2) := by decide +kernel
theorem dX9_tryFor_68 : decode cX9_tryFor 68 = .ok (.ishr, 1) := by decide +kernel
theorem dX9_tryFor_69 : decode cX9_tryFor 69 = .ok (.iconst 1, 1) := by decide +kernel
theorem dX9_tryFor_70 : decode cX9_tryFor 70 = .ok (.iand, 1) := by decide +kernel
theorem dX9_tryFor_71 : decode cX9_tryFor 71 = .ok (.goto 4, 3) := by decide +kernel
theorem dX9_tryFor_74 : decode cX9_tryFor 74 = .ok (.iconst 0, 1) := by decide +kernel
theorem dX9_tryFor_75 : decode cX9_tryFor 75 = .ok (.iadd, 1) := by decide +kernel
theorem dX9_tryFor_76 : decode cX9_tryFor 76 = .ok (.istore 6, 2) := by decide +kernel
theorem dX9_tryFor_78 : decode cX9_tryFor 78 = .ok (.iinc 7 1, 3) := by decide +kernel
theorem dX9_tryFor_81 : decode cX9_tryFor 81 = .ok (.goto (-47), 3) := by decide +kernel
theorem dX9_tryFor_84 : decode cX9_tryFor 84 = .ok (.iload_n 2, 1) := by decide +kernel
theorem dX9_tryFor_85 : decode cX9_tryFor 85 = .ok (.invokestatic 138, 3) := by decide +kernel
theorem dX9_tryFor_88 : decode cX9_tryFor 88 = .ok (.iload 6, 2) := by decide +kernel
theorem dX9_tryFor_90 : decode cX9_tryFor 90 = .ok (.isub, 1) := by decide +kernel
theorem dX9_tryFor_91 : decode cX9_tryFor 91 = .ok (.istore 7, 2) := by decide +kernel
theorem dX9_tryFor_93 : decode cX9_tryFor 93 = .ok (.iload 6, 2) := by decide +kernel
theorem dX9_tryFor_95 : decode cX9_tryFor 95 = .ok (.iload 7, 2) := by decide +kernel
theorem dX9_tryFor_97 : decode cX9_tryFor 97 = .ok (.if_icmp .le 8, 3) := by decide +kernel
theorem dX9_tryFor_100 : decode cX9_tryFor 100 = .ok (.iload 6, 2) := by decide +kernel
theorem dX9_tryFor_102 : decode cX9_tryFor 102 = .ok (.goto 5, 3) := by decide +kernel
theorem dX9_tryFor_105 : decode cX9_tryFor 105 = .ok (.iload 7, 2) := by decide +kernel
theorem dX9_tryFor_107 : decode cX9_tryFor 107 = .ok (.istore 8, 2) := by decide +kernel
theorem dX9_tryFor_109 : decode cX9_tryFor 109 = .ok (.iload 8, 2) := by decide +kernel
theorem dX9_tryFor_111 : decode cX9_tryFor 111 = .ok (.iload 4, 2) := by decide +kernel
theorem dX9_tryFor_113 : decode cX9_tryFor 113 = .ok (.if_icmp .ge 8, 3) := by decide +kernel
theorem dX9_tryFor_116 : decode cX9_tryFor 116 = .ok (.iload 5, 2) := by decide +kernel
theorem dX9_tryFor_118 : decode cX9_tryFor 118 = .ok (.goto 4, 3) := by decide +kernel
theorem dX9_tryFor_121 : decode cX9_tryFor 121 = .ok (.iload_n 3, 1) := by decide +kernel
theorem dX9_tryFor_122 : decode cX9_tryFor 122 = .ok (.istore_n 3, 1) := by decide +kernel
theorem dX9_tryFor_123 : decode cX9_tryFor 123 = .ok (.iload 8, 2) := by decide +kernel
theorem dX9_tryFor_125 : decode cX9_tryFor 125 = .ok (.iload 4, 2) := by decide +kernel
theorem dX9_tryFor_127 : decode cX9_tryFor 127 = .ok (.if_icmp .ge 8, 3) := by decide +kernel
theorem dX9_tryFor_130 : decode cX9_tryFor 130 = .ok (.iload 8, 2) := by decide +kernel
theorem dX9_tryFor_132 : decode cX9_tryFor 132 = .ok (.goto 5, 3) := by decide +kernel
theorem dX9_tryFor_135 : decode cX9_tryFor 135 = .ok (.iload 4, 2) := by decide +kernel
theorem dX9_tryFor_137 : decode cX9_tryFor 137 = .ok (.istore 4, 2) := by decide +kernel
theorem dX9_tryFor_139 : decode cX9_tryFor 139 = .ok (.iinc 5 1, 3) := by decide +kernel
theorem dX9_tryFor_142 : decode cX9_tryFor 142 = .ok (.goto (-127), 3) := by decide +kernel
theorem dX9_tryFor_145 : decode cX9_tryFor 145 = .ok (.iload_n 3, 1) := by decide +kernel
theorem dX9_tryFor_146 : decode cX9_tryFor 146 = .ok (.ireturn, 1) := by decide +kernel
theorem dX9_draw_0 : decode cX9_draw 0 = .ok (.aload_n 0, 1) := by decide +kernel
theorem dX9_draw_1 : decode cX9_draw 1 = .ok (.ldc2_w 236, 3) := by decide +kernel
theorem dX9_draw_4 : decode cX9_draw 4 = .ok (.aload_n 0, 1) := by decide +kernel
theorem dX9_draw_5 : decode cX9_draw 5 = .ok (.getfield 238, 3) := by decide +kernel
theorem dX9_draw_8 : decode cX9_draw 8 = .ok (.lmul, 1) := by decide +kernel
theorem dX9_draw_9 : decode cX9_draw 9 = .ok (.ldc2_w 242, 3) := by decide +kernel
theorem dX9_draw_12 : decode cX9_draw 12 = .ok (.ladd, 1) := by decide +kernel
theorem dX9_draw_13 : decode cX9_draw 13 = .ok (.ldc2_w 244, 3) := by decide +kernel
theorem dX9_draw_16 : decode cX9_draw 16 = .ok (.land, 1) := by decide +kernel
theorem dX9_draw_17 : decode cX9_draw 17 = .ok (.putfield 238, 3) := by decide +kernel
theorem dX9_draw_20 : decode cX9_draw 20 = .ok (.aload_n 0, 1) := by decide +kernel
theorem dX9_draw_21 : decode cX9_draw 21 = .ok (.getfield 238, 3) := by decide +kernel
theorem dX9_draw_24 : decode cX9_draw 24 = .ok (.ldc2_w 246, 3) := by decide +kernel
theorem dX9_draw_27 : decode cX9_draw 27 = .ok (.ldiv, 1) := by decide +kernel
theorem dX9_draw_28 : decode cX9_draw 28 = .ok (.iload_n 1, 1) := by decide +kernel
theorem dX9_draw_29 : decode cX9_draw 29 = .ok (.i2l, 1) := by decide +kernel
theorem dX9_draw_30 : decode cX9_draw 30 = .ok (.lrem, 1) := by decide +kernel
theorem dX9_draw_31 : decode cX9_draw 31 = .ok (.l2i, 1) := by decide +kernel
theorem dX9_draw_32 : decode cX9_draw 32 = .ok (.ireturn, 1) := by decide +kernel
theorem dX9_mostWon_0 : decode cX9_mostWon 0 = .ok (.iconst 0, 1) := by decide +kernel
theorem dX9_mostWon_1 : decode cX9_mostWon 1 = .ok (.istore_n 1, 1) := by decide +kernel
theorem dX9_mostWon_2 : decode cX9_mostWon 2 = .ok (.iconst 1, 1) := by decide +kernel
theorem dX9_mostWon_3 : decode cX9_mostWon 3 = .ok (.istore_n 2, 1) := by decide +kernel
theorem dX9_mostWon_4 : decode cX9_mostWon 4 = .ok (.iload_n 2, 1) := by decide +kernel
theorem dX9_mostWon_5 : decode cX9_mostWon 5 = .ok (.aload_n 0, 1) := by decide +kernel
theorem dX9_mostWon_6 : decode cX9_mostWon 6 = .ok (.getfield 101, 3) := by decide +kernel
theorem dX9_mostWon_9 : decode cX9_mostWon 9 = .ok (.if_icmp .ge 30, 3) := by decide +kernel
theorem dX9_mostWon_12 : decode cX9_mostWon 12 = .ok (.aload_n 0, 1) := by decide +kernel
theorem dX9_mostWon_13 : decode cX9_mostWon 13 = .ok (.getfield 45, 3) := by decide +kernel
theorem dX9_mostWon_16 : decode cX9_mostWon 16 = .ok (.iload_n 2, 1) := by decide +kernel
theorem dX9_mostWon_17 : decode cX9_mostWon 17 = .ok (.iaload, 1) := by decide +kernel
theorem dX9_mostWon_18 : decode cX9_mostWon 18 = .ok (.aload_n 0, 1) := by decide +kernel
theorem dX9_mostWon_19 : decode cX9_mostWon 19 = .ok (.getfield 45, 3) := by decide +kernel
theorem dX9_mostWon_22 : decode cX9_mostWon 22 = .ok (.iload_n 1, 1) := by decide +kernel
theorem dX9_mostWon_23 : decode cX9_mostWon 23 = .ok (.iaload, 1) := by decide +kernel
theorem dX9_mostWon_24 : decode cX9_mostWon 24 = .ok (.if_icmp .le 7, 3) := by decide +kernel
theorem dX9_mostWon_27 : decode cX9_mostWon 27 = .ok (.iload_n 2, 1) := by decide +kernel
theorem dX9_mostWon_28 : decode cX9_mostWon 28 = .ok (.goto 4, 3) := by decide +kernel
theorem dX9_mostWon_31 : decode cX9_mostWon 31 = .ok (.iload_n 1, 1) := by decide +kernel
theorem dX9_mostWon_32 : decode cX9_mostWon 32 = .ok (.istore_n 1, 1) := by decide +kernel
theorem dX9_mostWon_33 : decode cX9_mostWon 33 = .ok (.iinc 2 1, 3) := by decide +kernel
theorem dX9_mostWon_36 : decode cX9_mostWon 36 = .ok (.goto (-32), 3) := by decide +kernel
theorem dX9_mostWon_39 : decode cX9_mostWon 39 = .ok (.iload_n 1, 1) := by decide +kernel
theorem dX9_mostWon_40 : decode cX9_mostWon 40 = .ok (.ireturn, 1) := by decide +kernel
theorem dX9_gamesNow_0 : decode cX9_gamesNow 0 = .ok (.aload_n 0, 1) := by decide +kernel
theorem dX9_gamesNow_1 : decode cX9_gamesNow 1 = .ok (.iload_n 2, 1) := by decide +kernel
theorem dX9_gamesNow_2 : decode cX9_gamesNow 2 = .ok (.i2l, 1) := by decide +kernel
theorem dX9_gamesNow_3 : decode cX9_gamesNow 3 = .ok (.putfield 238, 3) := by decide +kernel
theorem dX9_gamesNow_6 : decode cX9_gamesNow 6 = .ok (.aload_n 0, 1) := by decide +kernel
theorem dX9_gamesNow_7 : decode cX9_gamesNow 7 = .ok (.getfield 107, 3) := by decide +kernel
theorem dX9_gamesNow_10 : decode cX9_gamesNow 10 = .ok (.istore 4, 2) := by decide +kernel
theorem dX9_gamesNow_12 : decode cX9_gamesNow 12 = .ok (.aload_n 0, 1) := by decide +kernel
theorem dX9_gamesNow_13 : decode cX9_gamesNow 13 = .ok (.getfield 110, 3) := by decide +kernel
theorem dX9_gamesNow_16 : decode cX9_gamesNow 16 = .ok (.istore 5, 2) := by decide +kernel
theorem dX9_gamesNow_18 : decode cX9_gamesNow 18 = .ok (.iconst 0, 1) := by decide +kernel
theorem dX9_gamesNow_19 : decode cX9_gamesNow 19 = .ok (.istore 6, 2) := by decide +kernel
theorem dX9_gamesNow_21 : decode cX9_gamesNow 21 = .ok (.iconst 0, 1) := by decide +kernel
theorem dX9_gamesNow_22 : decode cX9_gamesNow 22 = .ok (.istore 7, 2) := by decide +kernel
theorem dX9_gamesNow_24 : decode cX9_gamesNow 24 = .ok (.iload 7, 2) := by decide +kernel
theorem dX9_gamesNow_26 : decode cX9_gamesNow 26 = .ok (.iconst 4, 1) := by decide +kernel
theorem dX9_gamesNow_27 : decode cX9_gamesNow 27 = .ok (.if_icmp .ge 17, 3) := by decide +kernel
theorem dX9_gamesNow_30 : decode cX9_gamesNow 30 = .ok (.aload_n 0, 1) := by decide +kernel
theorem dX9_gamesNow_31 : decode cX9_gamesNow 31 = .ok (.getfield 45, 3) := by decide +kernel
theorem dX9_gamesNow_34 : decode cX9_gamesNow 34 = .ok (.iload 7, 2) := by decide +kernel
theorem dX9_gamesNow_36 : decode cX9_gamesNow 36 = .ok (.iconst 0, 1) := by decide +kernel
theorem dX9_gamesNow_37 : decode cX9_gamesNow 37 = .ok (.iastore, 1) := by decide +kernel
theorem dX9_gamesNow_38 : decode cX9_gamesNow 38 = .ok (.iinc 7 1, 3) := by decide +kernel
theorem dX9_gamesNow_41 : decode cX9_gamesNow 41 = .ok (.goto (-17), 3) := by decide +kernel
theorem dX9_gamesNow_44 : decode cX9_gamesNow 44 = .ok (.iconst 0, 1) := by decide +kernel
theorem dX9_gamesNow_45 : decode cX9_gamesNow 45 = .ok (.istore 7, 2) := by decide +kernel
theorem dX9_gamesNow_47 : decode cX9_gamesNow 47 = .ok (.iload 7, 2) := by decide +kernel
theorem dX9_gamesNow_49 : decode cX9_gamesNow 49 = .ok (.iload_n 1, 1) := by decide +kernel
theorem dX9_gamesNow_50 : decode cX9_gamesNow 50 = .ok (.if_icmp .ge 100, 3) := by decide +kernel
theorem dX9_gamesNow_53 : decode cX9_gamesNow 53 = .ok (.iload 5, 2) := by decide +kernel
theorem dX9_gamesNow_55 : decode cX9_gamesNow 55 = .ok (.iconst 1, 1) := by decide +kernel
theorem dX9_gamesNow_56 : decode cX9_gamesNow 56 = .ok (.ishl, 1) := by decide +kernel
theorem dX9_gamesNow_57 : decode cX9_gamesNow 57 = .ok (.aload_n 0, 1) := by decide +kernel
theorem dX9_gamesNow_58 : decode cX9_gamesNow 58 = .ok (.iconst 2, 1) := by decide +kernel
theorem dX9_gamesNow_59 : decode cX9_gamesNow 59 = .ok (.invokevirtual 248, 3) := by decide +kernel
theorem dX9_gamesNow_62 : decode cX9_gamesNow 62 = .ok (.ior, 1) := by decide +kernel
theorem dX9_gamesNow_63 : decode cX9_gamesNow 63 = .ok (.bipush 15, 2) := by decide +kernel
theorem dX9_gamesNow_65 : decode cX9_gamesNow 65 = .ok (.iand, 1) := by decide +kernel
theorem dX9_gamesNow_66 : decode cX9_gamesNow 66 = .ok (.istore 5, 2) := by decide +kernel
theorem dX9_gamesNow_68 : decode cX9_gamesNow 68 = .ok (.iinc 4 1, 3) := by decide +kernel
theorem dX9_gamesNow_71 : decode cX9_gamesNow 71 = .ok (.aload_n 0, 1) := by decide +kernel
theorem dX9_gamesNow_72 : decode cX9_gamesNow 72 = .ok (.iload 4, 2) := by decide +kernel
theorem dX9_gamesNow_74 : decode cX9_gamesNow 74 = .ok (.iload 5, 2) := by decide +kernel
theorem dX9_gamesNow_76 : decode cX9_gamesNow 76 = .ok (.invokevirtual 161, 3) := by decide +kernel
theorem dX9_gamesNow_79 : decode cX9_gamesNow 79 = .ok (.istore 8, 2) := by decide +kernel
theorem dX9_gamesNow_81 : decode cX9_gamesNow 81 = .ok (.iconst 0, 1) := by decide +kernel
theorem dX9_gamesNow_82 : decode cX9_gamesNow 82 = .ok (.istore 9, 2) := by decide +kernel
theorem dX9_gamesNow_84 : decode cX9_gamesNow 84 = .ok (.iload 9, 2) := by decide +kernel
theorem dX9_gamesNow_86 : decode cX9_gamesNow 86 = .ok (.aload_n 0, 1) := by decide +kernel
theorem dX9_gamesNow_87 : decode cX9_gamesNow 87 = .ok (.getfield 101, 3) := by decide +kernel
theorem dX9_gamesNow_90 : decode cX9_gamesNow 90 = .ok (.if_icmp .ge 26, 3) := by decide +kernel
theorem dX9_gamesNow_93 : decode cX9_gamesNow 93 = .ok (.aload_n 0, 1) := by decide +kernel
theorem dX9_gamesNow_94 : decode cX9_gamesNow 94 = .ok (.getfield 45, 3) := by decide +kernel
theorem dX9_gamesNow_97 : decode cX9_gamesNow 97 = .ok (.iload 9, 2) := by decide +kernel
theorem dX9_gamesNow_99 : decode cX9_gamesNow 99 = .ok (.dup2, 1) := by decide +kernel
theorem dX9_gamesNow_100 : decode cX9_gamesNow 100 = .ok (.iaload, 1) := by decide +kernel
theorem dX9_gamesNow_101 : decode cX9_gamesNow 101 = .ok (.iload 8, 2) := by decide +kernel
theorem dX9_gamesNow_103 : decode cX9_gamesNow 103 = .ok (.iload 9, 2) := by decide +kernel
theorem dX9_gamesNow_105 : decode cX9_gamesNow 105 = .ok (.ishr, 1) := by decide +kernel
theorem dX9_gamesNow_106 : decode cX9_gamesNow 106 = .ok (.iconst 1, 1) := by decide +kernel
theorem dX9_gamesNow_107 : decode cX9_gamesNow 107 = .ok (.iand, 1) := by decide +kernel
theorem dX9_gamesNow_108 : decode cX9_gamesNow 108 = .ok (.iadd, 1) := by decide +kernel
theorem dX9_gamesNow_109 : decode cX9_gamesNow 109 = .ok (.iastore, 1) := by decide +kernel
theorem dX9_gamesNow_110 : decode cX9_gamesNow 110 = .ok (.iinc 9 1, 3) := by decide +kernel
theorem dX9_gamesNow_113 : decode cX9_gamesNow 113 = .ok (.goto (-29), 3) := by decide +kernel
theorem dX9_gamesNow_116 : decode cX9_gamesNow 116 = .ok (.iload 6, 2) := by decide +kernel
theorem dX9_gamesNow_118 : decode cX9_gamesNow 118 = .ok (.iload 8, 2) := by decide +kernel
theorem dX9_gamesNow_120 : decode cX9_gamesNow 120 = .ok (.ifCond .ne 7, 3) := by decide +kernel
theorem dX9_gamesNow_123 : decode cX9_gamesNow 123 = .ok (.iconst 0, 1) := by decide +kernel
theorem dX9_gamesNow_124 : decode cX9_gamesNow 124 = .ok (.goto 4, 3) := by decide +kernel
theorem dX9_gamesNow_127 : decode cX9_gamesNow 127 = .ok (.iconst 1, 1) := by decide +kernel
theorem dX9_gamesNow_128 : decode cX9_gamesNow 128 = .ok (.iadd, 1) := by decide +kernel
theorem dX9_gamesNow_129 : decode cX9_gamesNow 129 = .ok (.istore 6, 2) := by decide +kernel
theorem dX9_gamesNow_131 : decode cX9_gamesNow 131 = .ok (.iload 8, 2) := by decide +kernel
theorem dX9_gamesNow_133 : decode cX9_gamesNow 133 = .ok (.ifCond .ne 8, 3) := by decide +kernel
theorem dX9_gamesNow_136 : decode cX9_gamesNow 136 = .ok (.iload 4, 2) := by decide +kernel
theorem dX9_gamesNow_138 : decode cX9_gamesNow 138 = .ok (.goto 4, 3) := by decide +kernel
theorem dX9_gamesNow_141 : decode cX9_gamesNow 141 = .ok (.iconst 0, 1) := by decide +kernel
theorem dX9_gamesNow_142 : decode cX9_gamesNow 142 = .ok (.istore 4, 2) := by decide +kernel
theorem dX9_gamesNow_144 : decode cX9_gamesNow 144 = .ok (.iinc 7 1, 3) := by decide +kernel
theorem dX9_gamesNow_147 : decode cX9_gamesNow 147 = .ok (.goto (-100), 3) := by decide +kernel
theorem dX9_gamesNow_150 : decode cX9_gamesNow 150 = .ok (.iload_n 3, 1) := by decide +kernel
theorem dX9_gamesNow_151 : decode cX9_gamesNow 151 = .ok (.ifCond .ne 8, 3) := by decide +kernel
theorem dX9_gamesNow_154 : decode cX9_gamesNow 154 = .ok (.iload 6, 2) := by decide +kernel
theorem dX9_gamesNow_156 : decode cX9_gamesNow 156 = .ok (.goto 20, 3) := by decide +kernel
theorem dX9_gamesNow_159 : decode cX9_gamesNow 159 = .ok (.iload_n 3, 1) := by decide +kernel
theorem dX9_gamesNow_160 : decode cX9_gamesNow 160 = .ok (.iconst 1, 1) := by decide +kernel
theorem dX9_gamesNow_161 : decode cX9_gamesNow 161 = .ok (.if_icmp .ne 10, 3) := by decide +kernel
theorem dX9_gamesNow_164 : decode cX9_gamesNow 164 = .ok (.aload_n 0, 1) := by decide +kernel
theorem dX9_gamesNow_165 : decode cX9_gamesNow 165 = .ok (.invokevirtual 251, 3) := by decide +kernel
theorem dX9_gamesNow_168 : decode cX9_gamesNow 168 = .ok (.goto 8, 3) := by decide +kernel
theorem dX9_gamesNow_171 : decode cX9_gamesNow 171 = .ok (.aload_n 0, 1) := by decide +kernel
theorem dX9_gamesNow_172 : decode cX9_gamesNow 172 = .ok (.getfield 238, 3) := by decide +kernel
theorem dX9_gamesNow_175 : decode cX9_gamesNow 175 = .ok (.l2i, 1) := by decide +kernel
theorem dX9_gamesNow_176 : decode cX9_gamesNow 176 = .ok (.ireturn, 1) := by decide +kernel
theorem dX9_games_0 : decode cX9_games 0 = .ok (.iload_n 1, 1) := by decide +kernel
theorem dX9_games_1 : decode cX9_games 1 = .ok (.iconst 1, 1) := by decide +kernel
theorem dX9_games_2 : decode cX9_games 2 = .ok (.bipush 99, 2) := by decide +kernel
theorem dX9_games_4 : decode cX9_games 4 = .ok (.invokestatic 66, 3) := by decide +kernel
theorem dX9_games_7 : decode cX9_games 7 = .ok (.ifCond .eq 16, 3) := by decide +kernel
theorem dX9_games_10 : decode cX9_games 10 = .ok (.iload_n 2, 1) := by decide +kernel
theorem dX9_games_11 : decode cX9_games 11 = .ok (.ifCond .lt 12, 3) := by decide +kernel
theorem dX9_games_14 : decode cX9_games 14 = .ok (.iload_n 3, 1) := by decide +kernel
theorem dX9_games_15 : decode cX9_games 15 = .ok (.iconst 0, 1) := by decide +kernel
theorem dX9_games_16 : decode cX9_games 16 = .ok (.iconst 2, 1) := by decide +kernel
theorem dX9_games_17 : decode cX9_games 17 = .ok (.invokestatic 66, 3) := by decide +kernel
theorem dX9_games_20 : decode cX9_games 20 = .ok (.ifCond .ne 6, 3) := by decide +kernel
theorem dX9_games_23 : decode cX9_games 23 = .ok (.bipush (-102), 2) := by decide +kernel
theorem dX9_games_25 : decode cX9_games 25 = .ok (.ireturn, 1) := by decide +kernel
theorem dX9_games_26 : decode cX9_games 26 = .ok (.aload_n 0, 1) := by decide +kernel
theorem dX9_games_27 : decode cX9_games 27 = .ok (.getfield 101, 3) := by decide +kernel
theorem dX9_games_30 : decode cX9_games 30 = .ok (.ifCond .ne 8, 3) := by decide +kernel
theorem dX9_games_33 : decode cX9_games 33 = .ok (.bipush (-103), 2) := by decide +kernel
theorem dX9_games_35 : decode cX9_games 35 = .ok (.goto 10, 3) := by decide +kernel
theorem dX9_games_38 : decode cX9_games 38 = .ok (.aload_n 0, 1) := by decide +kernel
theorem dX9_games_39 : decode cX9_games 39 = .ok (.iload_n 1, 1) := by decide +kernel
theorem dX9_games_40 : decode cX9_games 40 = .ok (.iload_n 2, 1) := by decide +kernel
theorem dX9_games_41 : decode cX9_games 41 = .ok (.iload_n 3, 1) := by decide +kernel
theorem dX9_games_42 : decode cX9_games 42 = .ok (.invokevirtual 254, 3) := by decide +kernel
theorem dX9_games_45 : decode cX9_games 45 = .ok (.ireturn, 1) := by decide +kernel
theorem dX9_image_0 : decode cX9_image 0 = .ok (.aload_n 0, 1) := by decide +kernel
theorem dX9_image_1 : decode cX9_image 1 = .ok (.getfield 101, 3) := by decide +kernel
theorem dX9_image_4 : decode cX9_image 4 = .ok (.ifCond .ne 6, 3) := by decide +kernel
theorem dX9_image_7 : decode cX9_image 7 = .ok (.bipush (-103), 2) := by decide +kernel
theorem dX9_image_9 : decode cX9_image 9 = .ok (.ireturn, 1) := by decide +kernel
theorem dX9_image_10 : decode cX9_image 10 = .ok (.aload_n 0, 1) := by decide +kernel
theorem dX9_image_11 : decode cX9_image 11 = .ok (.iconst 1, 1) := by decide +kernel
theorem dX9_image_12 : decode cX9_image 12 = .ok (.putfield 257, 3) := by decide +kernel
theorem dX9_image_15 : decode cX9_image 15 = .ok (.aload_n 0, 1) := by decide +kernel
theorem dX9_image_16 : decode cX9_image 16 = .ok (.aload_n 0, 1) := by decide +kernel
theorem dX9_image_17 : decode cX9_image 17 = .ok (.getfield 116, 3) := by decide +kernel
theorem dX9_image_20 : decode cX9_image 20 = .ok (.putfield 260, 3) := by decide +kernel
theorem dX9_image_23 : decode cX9_image 23 = .ok (.aload_n 0, 1) := by decide +kernel
theorem dX9_image_24 : decode cX9_image 24 = .ok (.aload_n 0, 1) := by decide +kernel
theorem dX9_image_25 : decode cX9_image 25 = .ok (.getfield 107, 3) := by decide +kernel
theorem dX9_image_28 : decode cX9_image 28 = .ok (.putfield 263, 3) := by decide +kernel
theorem dX9_image_31 : decode cX9_image 31 = .ok (.aload_n 0, 1) := by decide +kernel
theorem dX9_image_32 : decode cX9_image 32 = .ok (.aload_n 0, 1) := by decide +kernel
theorem dX9_image_33 : decode cX9_image 33 = .ok (.getfield 110, 3) := by decide +kernel
theorem dX9_image_36 : decode cX9_image 36 = .ok (.putfield 266, 3) := by decide +kernel
theorem dX9_image_39 : decode cX9_image 39 = .ok (.aload_n 0, 1) := by decide +kernel
theorem dX9_image_40 : decode cX9_image 40 = .ok (.aload_n 0, 1) := by decide +kernel
theorem dX9_image_41 : decode cX9_image 41 = .ok (.getfield 113, 3) := by decide +kernel
theorem dX9_image_44 : decode cX9_image 44 = .ok (.putfield 269, 3) := by decide +kernel
theorem dX9_image_47 : decode cX9_image 47 = .ok (.aload_n 0, 1) := by decide +kernel
theorem dX9_image_48 : decode cX9_image 48 = .ok (.aload_n 0, 1) := by decide +kernel
theorem dX9_image_49 : decode cX9_image 49 = .ok (.getfield 119, 3) := by decide +kernel
theorem dX9_image_52 : decode cX9_image 52 = .ok (.putfield 272, 3) := by decide +kernel
theorem dX9_image_55 : decode cX9_image 55 = .ok (.iconst 0, 1) := by decide +kernel
theorem dX9_image_56 : decode cX9_image 56 = .ok (.istore_n 1, 1) := by decide +kernel
theorem dX9_image_57 : decode cX9_image 57 = .ok (.iload_n 1, 1) := by decide +kernel
theorem dX9_image_58 : decode cX9_image 58 = .ok (.iconst 4, 1) := by decide +kernel
theorem dX9_image_59 : decode cX9_image 59 = .ok (.if_icmp .ge 45, 3) := by decide +kernel
theorem dX9_image_62 : decode cX9_image 62 = .ok (.aload_n 0, 1) := by decide +kernel
theorem dX9_image_63 : decode cX9_image 63 = .ok (.getfield 48, 3) := by decide +kernel
theorem dX9_image_66 : decode cX9_image 66 = .ok (.iload_n 1, 1) := by decide +kernel
theorem dX9_image_67 : decode cX9_image 67 = .ok (.aload_n 0, 1) := by decide +kernel
theorem dX9_image_68 : decode cX9_image 68 = .ok (.getfield 7, 3) := by decide +kernel
theorem dX9_image_71 : decode cX9_image 71 = .ok (.iload_n 1, 1) := by decide +kernel
theorem dX9_image_72 : decode cX9_image 72 = .ok (.iaload, 1) := by decide +kernel
theorem dX9_image_73 : decode cX9_image 73 = .ok (.iastore, 1) := by decide +kernel
theorem dX9_image_74 : decode cX9_image 74 = .ok (.aload_n 0, 1) := by decide +kernel
theorem dX9_image_75 : decode cX9_image 75 = .ok (.getfield 51, 3) := by decide +kernel
theorem dX9_image_78 : decode cX9_image 78 = .ok (.iload_n 1, 1) := by decide +kernel
theorem dX9_image_79 : decode cX9_image 79 = .ok (.aload_n 0, 1) := by decide +kernel
theorem dX9_image_80 : decode cX9_image 80 = .ok (.getfield 13, 3) := by decide +kernel
theorem dX9_image_83 : decode cX9_image 83 = .ok (.iload_n 1, 1) := by decide +kernel
theorem dX9_image_84 : decode cX9_image 84 = .ok (.iaload, 1) := by decide +kernel
theorem dX9_image_85 : decode cX9_image 85 = .ok (.iastore, 1) := by decide +kernel
theorem dX9_image_86 : decode cX9_image 86 = .ok (.aload_n 0, 1) := by decide +kernel
theorem dX9_image_87 : decode cX9_image 87 = .ok (.getfield 54, 3) := by decide +kernel
theorem dX9_image_90 : decode cX9_image 90 = .ok (.iload_n 1, 1) := by decide +kernel
theorem dX9_image_91 : decode cX9_image 91 = .ok (.aload_n 0, 1) := by decide +kernel
theorem dX9_image_92 : decode cX9_image 92 = .ok (.getfield 16, 3) := by decide +kernel
theorem dX9_image_95 : decode cX9_image 95 = .ok (.iload_n 1, 1) := by decide +kernel
theorem dX9_image_96 : decode cX9_image 96 = .ok (.iaload, 1) := by decide +kernel
theorem dX9_image_97 : decode cX9_image 97 = .ok (.iastore, 1) := by decide +kernel
theorem dX9_image_98 : decode cX9_image 98 = .ok (.iinc 1 1, 3) := by decide +kernel
theorem dX9_image_101 : decode cX9_image 101 = .ok (.goto (-44), 3) := by decide +kernel
theorem dX9_image_104 : decode cX9_image 104 = .ok (.iconst 0, 1) := by decide +kernel
theorem dX9_image_105 : decode cX9_image 105 = .ok (.istore_n 1, 1) := by decide +kernel
theorem dX9_image_106 : decode cX9_image 106 = .ok (.iload_n 1, 1) := by decide +kernel
theorem dX9_image_107 : decode cX9_image 107 = .ok (.bipush 6, 2) := by decide +kernel
theorem dX9_image_109 : decode cX9_image 109 = .ok (.if_icmp .ge 45, 3) := by decide +kernel
theorem dX9_image_112 : decode cX9_image 112 = .ok (.aload_n 0, 1) := by decide +kernel
theorem dX9_image_113 : decode cX9_image 113 = .ok (.getfield 57, 3) := by decide +kernel
theorem dX9_image_116 : decode cX9_image 116 = .ok (.iload_n 1, 1) := by decide +kernel
theorem dX9_image_117 : decode cX9_image 117 = .ok (.aload_n 0, 1) := by decide +kernel
theorem dX9_image_118 : decode cX9_image 118 = .ok (.getfield 19, 3) := by decide +kernel
theorem dX9_image_121 : decode cX9_image 121 = .ok (.iload_n 1, 1) := by decide +kernel
theorem dX9_image_122 : decode cX9_image 122 = .ok (.iaload, 1) := by decide +kernel
theorem dX9_image_123 : decode cX9_image 123 = .ok (.iastore, 1) := by decide +kernel
theorem dX9_image_124 : decode cX9_image 124 = .ok (.aload_n 0, 1) := by decide +kernel
theorem dX9_image_125 : decode cX9_image 125 = .ok (.getfield 60, 3) := by decide +kernel
theorem dX9_image_128 : decode cX9_image 128 = .ok (.iload_n 1, 1) := by decide +kernel
theorem dX9_image_129 : decode cX9_image 129 = .ok (.aload_n 0, 1) := by decide +kernel
theorem dX9_image_130 : decode cX9_image 130 = .ok (.getfield 22, 3) := by decide +kernel
theorem dX9_image_133 : decode cX9_image 133 = .ok (.iload_n 1, 1) := by decide +kernel
theorem dX9_image_134 : decode cX9_image 134 = .ok (.iaload, 1) := by decide +kernel
theorem dX9_image_135 : decode cX9_image 135 = .ok (.iastore, 1) := by decide +kernel
theorem dX9_image_136 : decode cX9_image 136 = .ok (.aload_n 0, 1) := by decide +kernel
theorem dX9_image_137 : decode cX9_image 137 = .ok (.getfield 63, 3) := by decide +kernel
theorem dX9_image_140 : decode cX9_image 140 = .ok (.iload_n 1, 1) := by decide +kernel
theorem dX9_image_141 : decode cX9_image 141 = .ok (.aload_n 0, 1) := by decide +kernel
theorem dX9_image_142 : decode cX9_image 142 = .ok (.getfield 25, 3) := by decide +kernel
theorem dX9_image_145 : decode cX9_image 145 = .ok (.iload_n 1, 1) := by decide +kernel
theorem dX9_image_146 : decode cX9_image 146 = .ok (.iaload, 1) := by decide +kernel
theorem dX9_image_147 : decode cX9_image 147 = .ok (.iastore, 1) := by decide +kernel
theorem dX9_image_148 : decode cX9_image 148 = .ok (.iinc 1 1, 3) := by decide +kernel
theorem dX9_image_151 : decode cX9_image 151 = .ok (.goto (-45), 3) := by decide +kernel
theorem dX9_image_154 : decode cX9_image 154 = .ok (.aload_n 0, 1) := by decide +kernel
theorem dX9_image_155 : decode cX9_image 155 = .ok (.getfield 113, 3) := by decide +kernel
theorem dX9_image_158 : decode cX9_image 158 = .ok (.ireturn, 1) := by decide +kernel
theorem dX9_restore_0 : decode cX9_restore 0 = .ok (.aload_n 0, 1) := by decide +kernel
theorem dX9_restore_1 : decode cX9_restore 1 = .ok (.getfield 257, 3) := by decide +kernel
theorem dX9_restore_4 : decode cX9_restore 4 = .ok (.ifCond .eq 14, 3) := by decide +kernel
theorem dX9_restore_7 : decode cX9_restore 7 = .ok (.aload_n 0, 1) := by decide +kernel
theorem dX9_restore_8 : decode cX9_restore 8 = .ok (.getfield 260, 3) := by decide +kernel
theorem dX9_restore_11 : decode cX9_restore 11 = .ok (.aload_n 0, 1) := by decide +kernel
theorem dX9_restore_12 : decode cX9_restore 12 = .ok (.getfield 116, 3) := by decide +kernel
theorem dX9_restore_15 : decode cX9_restore 15 = .ok (.if_icmp .eq 6, 3) := by decide +kernel
theorem dX9_restore_18 : decode cX9_restore 18 = .ok (.bipush (-103), 2) := by decide +kernel
theorem dX9_restore_20 : decode cX9_restore 20 = .ok (.ireturn, 1) := by decide +kernel
theorem dX9_restore_21 : decode cX9_restore 21 = .ok (.aload_n 0, 1) := by decide +kernel
theorem dX9_restore_22 : decode cX9_restore 22 = .ok (.aload_n 0, 1) := by decide +kernel
theorem dX9_restore_23 : decode cX9_restore 23 = .ok (.getfield 263, 3) := by decide +kernel
theorem dX9_restore_26 : decode cX9_restore 26 = .ok (.putfield 107, 3) := by decide +kernel
theorem dX9_restore_29 : decode cX9_restore 29 = .ok (.aload_n 0, 1) := by decide +kernel
theorem dX9_restore_30 : decode cX9_restore 30 = .ok (.aload_n 0, 1) := by decide +kernel
theorem dX9_restore_31 : decode cX9_restore 31 = .ok (.getfield 266, 3) := by decide +kernel
theorem dX9_restore_34 : decode cX9_restore 34 = .ok (.putfield 110, 3) := by decide +kernel
theorem dX9_restore_37 : decode cX9_restore 37 = .ok (.aload_n 0, 1) := by decide +kernel
theorem dX9_restore_38 : decode cX9_restore 38 = .ok (.aload_n 0, 1) := by decide +kernel
theorem dX9_restore_39 : decode cX9_restore 39 = .ok (.getfield 269, 3) := by decide +kernel
theorem dX9_restore_42 : decode cX9_restore 42 = .ok (.putfield 113, 3) := by decide +kernel
theorem dX9_restore_45 : decode cX9_restore 45 = .ok (.aload_n 0, 1) := by decide +kernel
theorem dX9_restore_46 : decode cX9_restore 46 = .ok (.aload_n 0, 1) := by decide +kernel
theorem dX9_restore_47 : decode cX9_restore 47 = .ok (.getfield 272, 3) := by decide +kernel
theorem dX9_restore_50 : decode cX9_restore 50 = .ok (.putfield 119, 3) := by decide +kernel
theorem dX9_restore_53 : decode cX9_restore 53 = .ok (.iconst 0, 1) := by decide +kernel
theorem dX9_restore_54 : decode cX9_restore 54 = .ok (.istore_n 1, 1) := by decide +kernel
theorem dX9_restore_55 : decode cX9_restore 55 = .ok (.iload_n 1, 1) := by decide +kernel
theorem dX9_restore_56 : decode cX9_restore 56 = .ok (.iconst 4, 1) := by decide +kernel
theorem dX9_restore_57 : decode cX9_restore 57 = .ok (.if_icmp .ge 45, 3) := by decide +kernel
theorem dX9_restore_60 : decode cX9_restore 60 = .ok (.aload_n 0, 1) := by decide +kernel
theorem dX9_restore_61 : decode cX9_restore 61 = .ok (.getfield 7, 3) := by decide +kernel
theorem dX9_restore_64 : decode cX9_restore 64 = .ok (.iload_n 1, 1) := by decide +kernel
theorem dX9_restore_65 : decode cX9_restore 65 = .ok (.aload_n 0, 1) := by decide +kernel
theorem dX9_restore_66 : decode cX9_restore 66 = .ok (.getfield 48, 3) := by decide +kernel
theorem dX9_restore_69 : decode cX9_restore 69 = .ok (.iload_n 1, 1) := by decide +kernel
theorem dX9_restore_70 : decode cX9_restore 70 = .ok (.iaload, 1) := by decide +kernel
theorem dX9_restore_71 : decode cX9_restore 71 = .ok (.iastore, 1) := by decide +kernel
theorem dX9_restore_72 : decode cX9_restore 72 = .ok (.aload_n 0, 1) := by decide +kernel
theorem dX9_restore_73 : decode cX9_restore 73 = .ok (.getfield 13, 3) := by decide +kernel
theorem dX9_restore_76 : decode cX9_restore 76 = .ok (.iload_n 1, 1) := by decide +kernel
theorem dX9_restore_77 : decode cX9_restore 77 = .ok (.aload_n 0, 1) := by decide +kernel
theorem dX9_restore_78 : decode cX9_restore 78 = .ok (.getfield 51, 3) := by decide +kernel
theorem dX9_restore_81 : decode cX9_restore 81 = .ok (.iload_n 1, 1) := by decide +kernel
theorem dX9_restore_82 : decode cX9_restore 82 = .ok (.iaload, 1) := by decide +kernel
theorem dX9_restore_83 : decode cX9_restore 83 = .ok (.iastore, 1) := by decide +kernel
theorem dX9_restore_84 : decode cX9_restore 84 = .ok (.aload_n 0, 1) := by decide +kernel
theorem dX9_restore_85 : decode cX9_restore 85 = .ok (.getfield 16, 3) := by decide +kernel
theorem dX9_restore_88 : decode cX9_restore 88 = .ok (.iload_n 1, 1) := by decide +kernel
theorem dX9_restore_89 : decode cX9_restore 89 = .ok (.aload_n 0, 1) := by decide +kernel
theorem dX9_restore_90 : decode cX9_restore 90 = .ok (.getfield 54, 3) := by decide +kernel
theorem dX9_restore_93 : decode cX9_restore 93 = .ok (.iload_n 1, 1) := by decide +kernel
theorem dX9_restore_94 : decode cX9_restore 94 = .ok (.iaload, 1) := by decide +kernel
theorem dX9_restore_95 : decode cX9_restore 95 = .ok (.iastore, 1) := by decide +kernel
theorem dX9_restore_96 : decode cX9_restore 96 = .ok (.iinc 1 1, 3) := by decide +kernel
theorem dX9_restore_99 : decode cX9_restore 99 = .ok (.goto (-44), 3) := by decide +kernel
theorem dX9_restore_102 : decode cX9_restore 102 = .ok (.iconst 0, 1) := by decide +kernel
theorem dX9_restore_103 : decode cX9_restore 103 = .ok (.istore_n 1, 1) := by decide +kernel
theorem dX9_restore_104 : decode cX9_restore 104 = .ok (.iload_n 1, 1) := by decide +kernel
theorem dX9_restore_105 : decode cX9_restore 105 = .ok (.bipush 6, 2) := by decide +kernel
theorem dX9_restore_107 : decode cX9_restore 107 = .ok (.if_icmp .ge 45, 3) := by decide +kernel
theorem dX9_restore_110 : decode cX9_restore 110 = .ok (.aload_n 0, 1) := by decide +kernel
theorem dX9_restore_111 : decode cX9_restore 111 = .ok (.getfield 19, 3) := by decide +kernel
theorem dX9_restore_114 : decode cX9_restore 114 = .ok (.iload_n 1, 1) := by decide +kernel
theorem dX9_restore_115 : decode cX9_restore 115 = .ok (.aload_n 0, 1) := by decide +kernel
theorem dX9_restore_116 : decode cX9_restore 116 = .ok (.getfield 57, 3) := by decide +kernel
theorem dX9_restore_119 : decode cX9_restore 119 = .ok (.iload_n 1, 1) := by decide +kernel
theorem dX9_restore_120 : decode cX9_restore 120 = .ok (.iaload, 1) := by decide +kernel
theorem dX9_restore_121 : decode cX9_restore 121 = .ok (.iastore, 1) := by decide +kernel
theorem dX9_restore_122 : decode cX9_restore 122 = .ok (.aload_n 0, 1) := by decide +kernel
theorem dX9_restore_123 : decode cX9_restore 123 = .ok (.getfield 22, 3) := by decide +kernel
theorem dX9_restore_126 : decode cX9_restore 126 = .ok (.iload_n 1, 1) := by decide +kernel
theorem dX9_restore_127 : decode cX9_restore 127 = .ok (.aload_n 0, 1) := by decide +kernel
theorem dX9_restore_128 : decode cX9_restore 128 = .ok (.getfield 60, 3) := by decide +kernel
theorem dX9_restore_131 : decode cX9_restore 131 = .ok (.iload_n 1, 1) := by decide +kernel
theorem dX9_restore_132 : decode cX9_restore 132 = .ok (.iaload, 1) := by decide +kernel
theorem dX9_restore_133 : decode cX9_restore 133 = .ok (.iastore, 1) := by decide +kernel
theorem dX9_restore_134 : decode cX9_restore 134 = .ok (.aload_n 0, 1) := by decide +kernel
theorem dX9_restore_135 : decode cX9_restore 135 = .ok (.getfield 25, 3) := by decide +kernel
theorem dX9_restore_138 : decode cX9_restore 138 = .ok (.iload_n 1, 1) := by decide +kernel
theorem dX9_restore_139 : decode cX9_restore 139 = .ok (.aload_n 0, 1) := by decide +kernel
theorem dX9_restore_140 : decode cX9_restore 140 = .ok (.getfield 63, 3) := by decide +kernel
theorem dX9_restore_143 : decode cX9_restore 143 = .ok (.iload_n 1, 1) := by decide +kernel
theorem dX9_restore_144 : decode cX9_restore 144 = .ok (.iaload, 1) := by decide +kernel
theorem dX9_restore_145 : decode cX9_restore 145 = .ok (.iastore, 1) := by decide +kernel
theorem dX9_restore_146 : decode cX9_restore 146 = .ok (.iinc 1 1, 3) := by decide +kernel
theorem dX9_restore_149 : decode cX9_restore 149 = .ok (.goto (-45), 3) := by decide +kernel
theorem dX9_restore_152 : decode cX9_restore 152 = .ok (.aload_n 0, 1) := by decide +kernel
theorem dX9_restore_153 : decode cX9_restore 153 = .ok (.getfield 113, 3) := by decide +kernel
theorem dX9_restore_156 : decode cX9_restore 156 = .ok (.ireturn, 1) := by decide +kernel
theorem dX9_wonByAll_0 : decode cX9_wonByAll 0 = .ok (.iconst 0, 1) := by decide +kernel
theorem dX9_wonByAll_1 : decode cX9_wonByAll 1 = .ok (.istore_n 1, 1) := by decide +kernel
theorem dX9_wonByAll_2 : decode cX9_wonByAll 2 = .ok (.iconst 0, 1) := by decide +kernel
theorem dX9_wonByAll_3 : decode cX9_wonByAll 3 = .ok (.istore_n 2, 1) := by decide +kernel
theorem dX9_wonByAll_4 : decode cX9_wonByAll 4 = .ok (.iload_n 2, 1) := by decide +kernel
theorem dX9_wonByAll_5 : decode cX9_wonByAll 5 = .ok (.aload_n 0, 1) := by decide +kernel
theorem dX9_wonByAll_6 : decode cX9_wonByAll 6 = .ok (.getfield 101, 3) := by decide +kernel
theorem dX9_wonByAll_9 : decode cX9_wonByAll 9 = .ok (.if_icmp .ge 18, 3) := by decide +kernel
theorem dX9_wonByAll_12 : decode cX9_wonByAll 12 = .ok (.iload_n 1, 1) := by decide +kernel
theorem dX9_wonByAll_13 : decode cX9_wonByAll 13 = .ok (.aload_n 0, 1) := by decide +kernel
theorem dX9_wonByAll_14 : decode cX9_wonByAll 14 = .ok (.getfield 16, 3) := by decide +kernel
theorem dX9_wonByAll_17 : decode cX9_wonByAll 17 = .ok (.iload_n 2, 1) := by decide +kernel
theorem dX9_wonByAll_18 : decode cX9_wonByAll 18 = .ok (.iaload, 1) := by decide +kernel
theorem dX9_wonByAll_19 : decode cX9_wonByAll 19 = .ok (.iadd, 1) := by decide +kernel
theorem dX9_wonByAll_20 : decode cX9_wonByAll 20 = .ok (.istore_n 1, 1) := by decide +kernel
theorem dX9_wonByAll_21 : decode cX9_wonByAll 21 = .ok (.iinc 2 1, 3) := by decide +kernel
theorem dX9_wonByAll_24 : decode cX9_wonByAll 24 = .ok (.goto (-20), 3) := by decide +kernel
theorem dX9_wonByAll_27 : decode cX9_wonByAll 27 = .ok (.iload_n 1, 1) := by decide +kernel
theorem dX9_wonByAll_28 : decode cX9_wonByAll 28 = .ok (.ireturn, 1) := by decide +kernel
theorem dX9_tailNow_0 : decode cX9_tailNow 0 = .ok (.aload_n 0, 1) := by decide +kernel
theorem dX9_tailNow_1 : decode cX9_tailNow 1 = .ok (.getfield 101, 3) := by decide +kernel
theorem dX9_tailNow_4 : decode cX9_tailNow 4 = .ok (.ifCond .eq 14, 3) := by decide +kernel
theorem dX9_tailNow_7 : decode cX9_tailNow 7 = .ok (.aload_n 0, 1) := by decide +kernel
theorem dX9_tailNow_8 : decode cX9_tailNow 8 = .ok (.getfield 107, 3) := by decide +kernel
theorem dX9_tailNow_11 : decode cX9_tailNow 11 = .ok (.aload_n 0, 1) := by decide +kernel
theorem dX9_tailNow_12 : decode cX9_tailNow 12 = .ok (.getfield 98, 3) := by decide +kernel
theorem dX9_tailNow_15 : decode cX9_tailNow 15 = .ok (.if_icmp .ge 7, 3) := by decide +kernel
theorem dX9_tailNow_18 : decode cX9_tailNow 18 = .ok (.iconst (-1), 1) := by decide +kernel
theorem dX9_tailNow_19 : decode cX9_tailNow 19 = .ok (.goto 14, 3) := by decide +kernel
theorem dX9_tailNow_22 : decode cX9_tailNow 22 = .ok (.aload_n 0, 1) := by decide +kernel
theorem dX9_tailNow_23 : decode cX9_tailNow 23 = .ok (.getfield 110, 3) := by decide +kernel
theorem dX9_tailNow_26 : decode cX9_tailNow 26 = .ok (.aload_n 0, 1) := by decide +kernel
theorem dX9_tailNow_27 : decode cX9_tailNow 27 = .ok (.invokevirtual 122, 3) := by decide +kernel
theorem dX9_tailNow_30 : decode cX9_tailNow 30 = .ok (.iconst 1, 1) := by decide +kernel
theorem dX9_tailNow_31 : decode cX9_tailNow 31 = .ok (.isub, 1) := by decide +kernel
theorem dX9_tailNow_32 : decode cX9_tailNow 32 = .ok (.iand, 1) := by decide +kernel
theorem dX9_tailNow_33 : decode cX9_tailNow 33 = .ok (.ireturn, 1) := by decide +kernel
theorem dX9_howMany_0 : decode cX9_howMany 0 = .ok (.iload_n 1, 1) := by decide +kernel
theorem dX9_howMany_1 : decode cX9_howMany 1 = .ok (.tableswitch 96 0 8 #[51, 56, 61, 66, 71, 76, 81, 86, 91], 51) := by decide +kernel
theorem dX9_howMany_52 : decode cX9_howMany 52 = .ok (.aload_n 0, 1) := by decide +kernel
theorem dX9_howMany_53 : decode cX9_howMany 53 = .ok (.getfield 101, 3) := by decide +kernel
theorem dX9_howMany_56 : decode cX9_howMany 56 = .ok (.ireturn, 1) := by decide +kernel
theorem dX9_howMany_57 : decode cX9_howMany 57 = .ok (.aload_n 0, 1) := by decide +kernel
theorem dX9_howMany_58 : decode cX9_howMany 58 = .ok (.getfield 98, 3) := by decide +kernel
theorem dX9_howMany_61 : decode cX9_howMany 61 = .ok (.ireturn, 1) := by decide +kernel
theorem dX9_howMany_62 : decode cX9_howMany 62 = .ok (.aload_n 0, 1) := by decide +kernel
theorem dX9_howMany_63 : decode cX9_howMany 63 = .ok (.getfield 107, 3) := by decide +kernel
theorem dX9_howMany_66 : decode cX9_howMany 66 = .ok (.ireturn, 1) := by decide +kernel
theorem dX9_howMany_67 : decode cX9_howMany 67 = .ok (.aload_n 0, 1) := by decide +kernel
theorem dX9_howMany_68 : decode cX9_howMany 68 = .ok (.getfield 113, 3) := by decide +kernel
theorem dX9_howMany_71 : decode cX9_howMany 71 = .ok (.ireturn, 1) := by decide +kernel
theorem dX9_howMany_72 : decode cX9_howMany 72 = .ok (.aload_n 0, 1) := by decide +kernel
theorem dX9_howMany_73 : decode cX9_howMany 73 = .ok (.invokevirtual 275, 3) := by decide +kernel
theorem dX9_howMany_76 : decode cX9_howMany 76 = .ok (.ireturn, 1) := by decide +kernel
theorem dX9_howMany_77 : decode cX9_howMany 77 = .ok (.aload_n 0, 1) := by decide +kernel
theorem dX9_howMany_78 : decode cX9_howMany 78 = .ok (.invokevirtual 278, 3) := by decide +kernel
theorem dX9_howMany_81 : decode cX9_howMany 81 = .ok (.ireturn, 1) := by decide +kernel
theorem dX9_howMany_82 : decode cX9_howMany 82 = .ok (.aload_n 0, 1) := by decide +kernel
theorem dX9_howMany_83 : decode cX9_howMany 83 = .ok (.getfield 119, 3) := by decide +kernel
theorem dX9_howMany_86 : decode cX9_howMany 86 = .ok (.ireturn, 1) := by decide +kernel
theorem dX9_howMany_87 : decode cX9_howMany 87 = .ok (.aload_n 0, 1) := by decide +kernel
theorem dX9_howMany_88 : decode cX9_howMany 88 = .ok (.getfield 70, 3) := by decide +kernel
theorem dX9_howMany_91 : decode cX9_howMany 91 = .ok (.ireturn, 1) := by decide +kernel
theorem dX9_howMany_92 : decode cX9_howMany 92 = .ok (.aload_n 0, 1) := by decide +kernel
theorem dX9_howMany_93 : decode cX9_howMany 93 = .ok (.getfield 116, 3) := by decide +kernel
theorem dX9_howMany_96 : decode cX9_howMany 96 = .ok (.ireturn, 1) := by decide +kernel
theorem dX9_howMany_97 : decode cX9_howMany 97 = .ok (.bipush (-102), 2) := by decide +kernel
theorem dX9_howMany_99 : decode cX9_howMany 99 = .ok (.ireturn, 1) := by decide +kernel
theorem dX9_count_0 : decode cX9_count 0 = .ok (.aload_n 0, 1) := by decide +kernel
theorem dX9_count_1 : decode cX9_count 1 = .ok (.iload_n 1, 1) := by decide +kernel
theorem dX9_count_2 : decode cX9_count 2 = .ok (.invokevirtual 281, 3) := by decide +kernel
theorem dX9_count_5 : decode cX9_count 5 = .ok (.ireturn, 1) := by decide +kernel
theorem dX9_mix_0 : decode cX9_mix 0 = .ok (.aload_n 0, 1) := by decide +kernel
theorem dX9_mix_1 : decode cX9_mix 1 = .ok (.ldc2_w 284, 3) := by decide +kernel
theorem dX9_mix_4 : decode cX9_mix 4 = .ok (.aload_n 0, 1) := by decide +kernel
theorem dX9_mix_5 : decode cX9_mix 5 = .ok (.getfield 286, 3) := by decide +kernel
theorem dX9_mix_8 : decode cX9_mix 8 = .ok (.lmul, 1) := by decide +kernel
theorem dX9_mix_9 : decode cX9_mix 9 = .ok (.lload_n 1, 1) := by decide +kernel
theorem dX9_mix_10 : decode cX9_mix 10 = .ok (.ladd, 1) := by decide +kernel
theorem dX9_mix_11 : decode cX9_mix 11 = .ok (.putfield 286, 3) := by decide +kernel
theorem dX9_mix_14 : decode cX9_mix 14 = .ok (.return_, 1) := by decide +kernel
theorem dX9_mixPlayer_0 : decode cX9_mixPlayer 0 = .ok (.iconst 0, 1) := by decide +kernel
theorem dX9_mixPlayer_1 : decode cX9_mixPlayer 1 = .ok (.istore_n 2, 1) := by decide +kernel
theorem dX9_mixPlayer_2 : decode cX9_mixPlayer 2 = .ok (.iload_n 2, 1) := by decide +kernel
theorem dX9_mixPlayer_3 : decode cX9_mixPlayer 3 = .ok (.bipush 7, 2) := by decide +kernel
theorem dX9_mixPlayer_5 : decode cX9_mixPlayer 5 = .ok (.if_icmp .ge 20, 3) := by decide +kernel
theorem dX9_mixPlayer_8 : decode cX9_mixPlayer 8 = .ok (.aload_n 0, 1) := by decide +kernel
theorem dX9_mixPlayer_9 : decode cX9_mixPlayer 9 = .ok (.aload_n 0, 1) := by decide +kernel
theorem dX9_mixPlayer_10 : decode cX9_mixPlayer 10 = .ok (.iload_n 1, 1) := by decide +kernel
theorem dX9_mixPlayer_11 : decode cX9_mixPlayer 11 = .ok (.iload_n 2, 1) := by decide +kernel
theorem dX9_mixPlayer_12 : decode cX9_mixPlayer 12 = .ok (.invokevirtual 151, 3) := by decide +kernel
theorem dX9_mixPlayer_15 : decode cX9_mixPlayer 15 = .ok (.i2l, 1) := by decide +kernel
theorem dX9_mixPlayer_16 : decode cX9_mixPlayer 16 = .ok (.invokevirtual 289, 3) := by decide +kernel
theorem dX9_mixPlayer_19 : decode cX9_mixPlayer 19 = .ok (.iinc 2 1, 3) := by decide +kernel
theorem dX9_mixPlayer_22 : decode cX9_mixPlayer 22 = .ok (.goto (-20), 3) := by decide +kernel
theorem dX9_mixPlayer_25 : decode cX9_mixPlayer 25 = .ok (.aload_n 0, 1) := by decide +kernel
theorem dX9_mixPlayer_26 : decode cX9_mixPlayer 26 = .ok (.aload_n 0, 1) := by decide +kernel
theorem dX9_mixPlayer_27 : decode cX9_mixPlayer 27 = .ok (.iload_n 1, 1) := by decide +kernel
theorem dX9_mixPlayer_28 : decode cX9_mixPlayer 28 = .ok (.iconst 0, 1) := by decide +kernel
theorem dX9_mixPlayer_29 : decode cX9_mixPlayer 29 = .ok (.invokevirtual 197, 3) := by decide +kernel
theorem dX9_mixPlayer_32 : decode cX9_mixPlayer 32 = .ok (.i2l, 1) := by decide +kernel
theorem dX9_mixPlayer_33 : decode cX9_mixPlayer 33 = .ok (.invokevirtual 289, 3) := by decide +kernel
theorem dX9_mixPlayer_36 : decode cX9_mixPlayer 36 = .ok (.aload_n 0, 1) := by decide +kernel
theorem dX9_mixPlayer_37 : decode cX9_mixPlayer 37 = .ok (.aload_n 0, 1) := by decide +kernel
theorem dX9_mixPlayer_38 : decode cX9_mixPlayer 38 = .ok (.iload_n 1, 1) := by decide +kernel
theorem dX9_mixPlayer_39 : decode cX9_mixPlayer 39 = .ok (.iconst 1, 1) := by decide +kernel
theorem dX9_mixPlayer_40 : decode cX9_mixPlayer 40 = .ok (.invokevirtual 197, 3) := by decide +kernel
theorem dX9_mixPlayer_43 : decode cX9_mixPlayer 43 = .ok (.i2l, 1) := by decide +kernel
theorem dX9_mixPlayer_44 : decode cX9_mixPlayer 44 = .ok (.invokevirtual 289, 3) := by decide +kernel
theorem dX9_mixPlayer_47 : decode cX9_mixPlayer 47 = .ok (.aload_n 0, 1) := by decide +kernel
theorem dX9_mixPlayer_48 : decode cX9_mixPlayer 48 = .ok (.aload_n 0, 1) := by decide +kernel
theorem dX9_mixPlayer_49 : decode cX9_mixPlayer 49 = .ok (.iload_n 1, 1) := by decide +kernel
theorem dX9_mixPlayer_50 : decode cX9_mixPlayer 50 = .ok (.bipush 9, 2) := by decide +kernel
theorem dX9_mixPlayer_52 : decode cX9_mixPlayer 52 = .ok (.iconst 0, 1) := by decide +kernel
theorem dX9_mixPlayer_53 : decode cX9_mixPlayer 53 = .ok (.invokevirtual 232, 3) := by decide +kernel
theorem dX9_mixPlayer_56 : decode cX9_mixPlayer 56 = .ok (.i2l, 1) := by decide +kernel
theorem dX9_mixPlayer_57 : decode cX9_mixPlayer 57 = .ok (.invokevirtual 289, 3) := by decide +kernel
theorem dX9_mixPlayer_60 : decode cX9_mixPlayer 60 = .ok (.aload_n 0, 1) := by decide +kernel
theorem dX9_mixPlayer_61 : decode cX9_mixPlayer 61 = .ok (.aload_n 0, 1) := by decide +kernel
theorem dX9_mixPlayer_62 : decode cX9_mixPlayer 62 = .ok (.iload_n 1, 1) := by decide +kernel
theorem dX9_mixPlayer_63 : decode cX9_mixPlayer 63 = .ok (.bipush 9, 2) := by decide +kernel
theorem dX9_mixPlayer_65 : decode cX9_mixPlayer 65 = .ok (.iconst 1, 1) := by decide +kernel
theorem dX9_mixPlayer_66 : decode cX9_mixPlayer 66 = .ok (.invokevirtual 232, 3) := by decide +kernel
theorem dX9_mixPlayer_69 : decode cX9_mixPlayer 69 = .ok (.i2l, 1) := by decide +kernel
theorem dX9_mixPlayer_70 : decode cX9_mixPlayer 70 = .ok (.invokevirtual 289, 3) := by decide +kernel
theorem dX9_mixPlayer_73 : decode cX9_mixPlayer 73 = .ok (.return_, 1) := by decide +kernel
theorem dX9_digest_0 : decode cX9_digest 0 = .ok (.aload_n 0, 1) := by decide +kernel
theorem dX9_digest_1 : decode cX9_digest 1 = .ok (.ldc2_w 293, 3) := by decide +kernel
theorem dX9_digest_4 : decode cX9_digest 4 = .ok (.putfield 286, 3) := by decide +kernel
theorem dX9_digest_7 : decode cX9_digest 7 = .ok (.iconst 0, 1) := by decide +kernel
theorem dX9_digest_8 : decode cX9_digest 8 = .ok (.istore_n 1, 1) := by decide +kernel
theorem dX9_digest_9 : decode cX9_digest 9 = .ok (.iload_n 1, 1) := by decide +kernel
theorem dX9_digest_10 : decode cX9_digest 10 = .ok (.aload_n 0, 1) := by decide +kernel
theorem dX9_digest_11 : decode cX9_digest 11 = .ok (.getfield 101, 3) := by decide +kernel
theorem dX9_digest_14 : decode cX9_digest 14 = .ok (.if_icmp .ge 14, 3) := by decide +kernel
theorem dX9_digest_17 : decode cX9_digest 17 = .ok (.aload_n 0, 1) := by decide +kernel
theorem dX9_digest_18 : decode cX9_digest 18 = .ok (.iload_n 1, 1) := by decide +kernel
theorem dX9_digest_19 : decode cX9_digest 19 = .ok (.invokevirtual 295, 3) := by decide +kernel
theorem dX9_digest_22 : decode cX9_digest 22 = .ok (.iinc 1 1, 3) := by decide +kernel
theorem dX9_digest_25 : decode cX9_digest 25 = .ok (.goto (-16), 3) := by decide +kernel
theorem dX9_digest_28 : decode cX9_digest 28 = .ok (.aload_n 0, 1) := by decide +kernel
theorem dX9_digest_29 : decode cX9_digest 29 = .ok (.aload_n 0, 1) := by decide +kernel
theorem dX9_digest_30 : decode cX9_digest 30 = .ok (.iconst 0, 1) := by decide +kernel
theorem dX9_digest_31 : decode cX9_digest 31 = .ok (.iconst 1, 1) := by decide +kernel
theorem dX9_digest_32 : decode cX9_digest 32 = .ok (.invokevirtual 299, 3) := by decide +kernel
theorem dX9_digest_35 : decode cX9_digest 35 = .ok (.i2l, 1) := by decide +kernel
theorem dX9_digest_36 : decode cX9_digest 36 = .ok (.invokevirtual 289, 3) := by decide +kernel
theorem dX9_digest_39 : decode cX9_digest 39 = .ok (.aload_n 0, 1) := by decide +kernel
theorem dX9_digest_40 : decode cX9_digest 40 = .ok (.aload_n 0, 1) := by decide +kernel
theorem dX9_digest_41 : decode cX9_digest 41 = .ok (.iconst 1, 1) := by decide +kernel
theorem dX9_digest_42 : decode cX9_digest 42 = .ok (.iconst 0, 1) := by decide +kernel
theorem dX9_digest_43 : decode cX9_digest 43 = .ok (.invokevirtual 299, 3) := by decide +kernel
theorem dX9_digest_46 : decode cX9_digest 46 = .ok (.i2l, 1) := by decide +kernel
theorem dX9_digest_47 : decode cX9_digest 47 = .ok (.invokevirtual 289, 3) := by decide +kernel
theorem dX9_digest_50 : decode cX9_digest 50 = .ok (.aload_n 0, 1) := by decide +kernel
theorem dX9_digest_51 : decode cX9_digest 51 = .ok (.getfield 101, 3) := by decide +kernel
theorem dX9_digest_54 : decode cX9_digest 54 = .ok (.ifCond .le 12, 3) := by decide +kernel
theorem dX9_digest_57 : decode cX9_digest 57 = .ok (.aload_n 0, 1) := by decide +kernel
theorem dX9_digest_58 : decode cX9_digest 58 = .ok (.aload_n 0, 1) := by decide +kernel
theorem dX9_digest_59 : decode cX9_digest 59 = .ok (.invokevirtual 217, 3) := by decide +kernel
theorem dX9_digest_62 : decode cX9_digest 62 = .ok (.i2l, 1) := by decide +kernel
theorem dX9_digest_63 : decode cX9_digest 63 = .ok (.invokevirtual 289, 3) := by decide +kernel
theorem dX9_digest_66 : decode cX9_digest 66 = .ok (.iconst 0, 1) := by decide +kernel
theorem dX9_digest_67 : decode cX9_digest 67 = .ok (.istore_n 1, 1) := by decide +kernel
theorem dX9_digest_68 : decode cX9_digest 68 = .ok (.iload_n 1, 1) := by decide +kernel
theorem dX9_digest_69 : decode cX9_digest 69 = .ok (.aload_n 0, 1) := by decide +kernel
theorem dX9_digest_70 : decode cX9_digest 70 = .ok (.getfield 70, 3) := by decide +kernel
theorem dX9_digest_73 : decode cX9_digest 73 = .ok (.if_icmp .ge 20, 3) := by decide +kernel
theorem dX9_digest_76 : decode cX9_digest 76 = .ok (.aload_n 0, 1) := by decide +kernel
theorem dX9_digest_77 : decode cX9_digest 77 = .ok (.aload_n 0, 1) := by decide +kernel
theorem dX9_digest_78 : decode cX9_digest 78 = .ok (.getfield 28, 3) := by decide +kernel
theorem dX9_digest_81 : decode cX9_digest 81 = .ok (.iload_n 1, 1) := by decide +kernel
theorem dX9_digest_82 : decode cX9_digest 82 = .ok (.baload, 1) := by decide +kernel
theorem dX9_digest_83 : decode cX9_digest 83 = .ok (.i2l, 1) := by decide +kernel
theorem dX9_digest_84 : decode cX9_digest 84 = .ok (.invokevirtual 289, 3) := by decide +kernel
theorem dX9_digest_87 : decode cX9_digest 87 = .ok (.iinc 1 1, 3) := by decide +kernel
theorem dX9_digest_90 : decode cX9_digest 90 = .ok (.goto (-22), 3) := by decide +kernel
theorem dX9_digest_93 : decode cX9_digest 93 = .ok (.iconst 0, 1) := by decide +kernel
theorem dX9_digest_94 : decode cX9_digest 94 = .ok (.istore_n 1, 1) := by decide +kernel
theorem dX9_digest_95 : decode cX9_digest 95 = .ok (.iload_n 1, 1) := by decide +kernel
theorem dX9_digest_96 : decode cX9_digest 96 = .ok (.bipush 9, 2) := by decide +kernel
theorem dX9_digest_98 : decode cX9_digest 98 = .ok (.if_icmp .ge 19, 3) := by decide +kernel
theorem dX9_digest_101 : decode cX9_digest 101 = .ok (.aload_n 0, 1) := by decide +kernel
theorem dX9_digest_102 : decode cX9_digest 102 = .ok (.aload_n 0, 1) := by decide +kernel
theorem dX9_digest_103 : decode cX9_digest 103 = .ok (.iload_n 1, 1) := by decide +kernel
theorem dX9_digest_104 : decode cX9_digest 104 = .ok (.invokevirtual 281, 3) := by decide +kernel
theorem dX9_digest_107 : decode cX9_digest 107 = .ok (.i2l, 1) := by decide +kernel
theorem dX9_digest_108 : decode cX9_digest 108 = .ok (.invokevirtual 289, 3) := by decide +kernel
theorem dX9_digest_111 : decode cX9_digest 111 = .ok (.iinc 1 1, 3) := by decide +kernel
theorem dX9_digest_114 : decode cX9_digest 114 = .ok (.goto (-19), 3) := by decide +kernel
theorem dX9_digest_117 : decode cX9_digest 117 = .ok (.aload_n 0, 1) := by decide +kernel
theorem dX9_digest_118 : decode cX9_digest 118 = .ok (.getfield 286, 3) := by decide +kernel
theorem dX9_digest_121 : decode cX9_digest 121 = .ok (.lreturn, 1) := by decide +kernel
theorem dJ11_isValidCodePoint_9a6ad_0 : decode cJ11_isValidCodePoint_9a6ad 0 = .ok (.iload_n 0, 1) := by decide +kernel
theorem dJ11_isValidCodePoint_9a6ad_1 : decode cJ11_isValidCodePoint_9a6ad 1 = .ok (.bipush 16, 2) := by decide +kernel
theorem dJ11_isValidCodePoint_9a6ad_3 : decode cJ11_isValidCodePoint_9a6ad 3 = .ok (.iushr, 1) := by decide +kernel
theorem dJ11_isValidCodePoint_9a6ad_4 : decode cJ11_isValidCodePoint_9a6ad 4 = .ok (.istore_n 1, 1) := by decide +kernel
theorem dJ11_isValidCodePoint_9a6ad_5 : decode cJ11_isValidCodePoint_9a6ad 5 = .ok (.iload_n 1, 1) := by decide +kernel
theorem dJ11_isValidCodePoint_9a6ad_6 : decode cJ11_isValidCodePoint_9a6ad 6 = .ok (.bipush 17, 2) := by decide +kernel
theorem dJ11_isValidCodePoint_9a6ad_8 : decode cJ11_isValidCodePoint_9a6ad 8 = .ok (.if_icmp .ge 7, 3) := by decide +kernel
theorem dJ11_isValidCodePoint_9a6ad_11 : decode cJ11_isValidCodePoint_9a6ad 11 = .ok (.iconst 1, 1) := by decide +kernel
theorem dJ11_isValidCodePoint_9a6ad_12 : decode cJ11_isValidCodePoint_9a6ad 12 = .ok (.goto 4, 3) := by decide +kernel
theorem dJ11_isValidCodePoint_9a6ad_15 : decode cJ11_isValidCodePoint_9a6ad 15 = .ok (.iconst 0, 1) := by decide +kernel
theorem dJ11_isValidCodePoint_9a6ad_16 : decode cJ11_isValidCodePoint_9a6ad 16 = .ok (.ireturn, 1) := by decide +kernel
theorem dJ11_highSurrogate_5068e_0 : decode cJ11_highSurrogate_5068e 0 = .ok (.iload_n 0, 1) := by decide +kernel
theorem dJ11_highSurrogate_5068e_1 : decode cJ11_highSurrogate_5068e 1 = .ok (.bipush 10, 2) := by decide +kernel
theorem dJ11_highSurrogate_5068e_3 : decode cJ11_highSurrogate_5068e 3 = .ok (.iushr, 1) := by decide +kernel
theorem dJ11_highSurrogate_5068e_4 : decode cJ11_highSurrogate_5068e 4 = .ok (.ldc 110, 2) := by decide +kernel
theorem dJ11_highSurrogate_5068e_6 : decode cJ11_highSurrogate_5068e 6 = .ok (.iadd, 1) := by decide +kernel
theorem dJ11_highSurrogate_5068e_7 : decode cJ11_highSurrogate_5068e 7 = .ok (.i2c, 1) := by decide +kernel
theorem dJ11_highSurrogate_5068e_8 : decode cJ11_highSurrogate_5068e 8 = .ok (.ireturn, 1) := by decide +kernel
theorem dJ11_lowSurrogate_5068e_0 : decode cJ11_lowSurrogate_5068e 0 = .ok (.iload_n 0, 1) := by decide +kernel
theorem dJ11_lowSurrogate_5068e_1 : decode cJ11_lowSurrogate_5068e 1 = .ok (.sipush 1023, 3) := by decide +kernel
theorem dJ11_lowSurrogate_5068e_4 : decode cJ11_lowSurrogate_5068e 4 = .ok (.iand, 1) := by decide +kernel
theorem dJ11_lowSurrogate_5068e_5 : decode cJ11_lowSurrogate_5068e 5 = .ok (.ldc 76, 2) := by decide +kernel
theorem dJ11_lowSurrogate_5068e_7 : decode cJ11_lowSurrogate_5068e 7 = .ok (.iadd, 1) := by decide +kernel
theorem dJ11_lowSurrogate_5068e_8 : decode cJ11_lowSurrogate_5068e 8 = .ok (.i2c, 1) := by decide +kernel
theorem dJ11_lowSurrogate_5068e_9 : decode cJ11_lowSurrogate_5068e 9 = .ok (.ireturn, 1) := by decide +kernel
theorem dJ6_bitCount_0f7a4_0 : decode cJ6_bitCount_0f7a4 0 = .ok (.iload_n 0, 1) := by decide +kernel
theorem dJ6_bitCount_0f7a4_1 : decode cJ6_bitCount_0f7a4 1 = .ok (.iload_n 0, 1) := by decide +kernel
theorem dJ6_bitCount_0f7a4_2 : decode cJ6_bitCount_0f7a4 2 = .ok (.iconst 1, 1) := by decide +kernel
theorem dJ6_bitCount_0f7a4_3 : decode cJ6_bitCount_0f7a4 3 = .ok (.iushr, 1) := by decide +kernel
theorem dJ6_bitCount_0f7a4_4 : decode cJ6_bitCount_0f7a4 4 = .ok (.ldc_w 265, 3) := by decide +kernel
theorem dJ6_bitCount_0f7a4_7 : decode cJ6_bitCount_0f7a4 7 = .ok (.iand, 1) := by decide +kernel
theorem dJ6_bitCount_0f7a4_8 : decode cJ6_bitCount_0f7a4 8 = .ok (.isub, 1) := by decide +kernel
theorem dJ6_bitCount_0f7a4_9 : decode cJ6_bitCount_0f7a4 9 = .ok (.istore_n 0, 1) := by decide +kernel
theorem dJ6_bitCount_0f7a4_10 : decode cJ6_bitCount_0f7a4 10 = .ok (.iload_n 0, 1) := by decide +kernel
theorem dJ6_bitCount_0f7a4_11 : decode cJ6_bitCount_0f7a4 11 = .ok (.ldc_w 266, 3) := by decide +kernel
theorem dJ6_bitCount_0f7a4_14 : decode cJ6_bitCount_0f7a4 14 = .ok (.iand, 1) := by decide +kernel
theorem dJ6_bitCount_0f7a4_15 : decode cJ6_bitCount_0f7a4 15 = .ok (.iload_n 0, 1) := by decide +kernel
theorem dJ6_bitCount_0f7a4_16 : decode cJ6_bitCount_0f7a4 16 = .ok (.iconst 2, 1) := by decide +kernel
theorem dJ6_bitCount_0f7a4_17 : decode cJ6_bitCount_0f7a4 17 = .ok (.iushr, 1) := by decide +kernel
theorem dJ6_bitCount_0f7a4_18 : decode cJ6_bitCount_0f7a4 18 = .ok (.ldc_w 266, 3) := by decide +kernel
theorem dJ6_bitCount_0f7a4_21 : decode cJ6_bitCount_0f7a4 21 = .ok (.iand, 1) := by decide +kernel
theorem dJ6_bitCount_0f7a4_22 : decode cJ6_bitCount_0f7a4 22 = .ok (.iadd, 1) := by decide +kernel
theorem dJ6_bitCount_0f7a4_23 : decode cJ6_bitCount_0f7a4 23 = .ok (.istore_n 0, 1) := by decide +kernel
theorem dJ6_bitCount_0f7a4_24 : decode cJ6_bitCount_0f7a4 24 = .ok (.iload_n 0, 1) := by decide +kernel
theorem dJ6_bitCount_0f7a4_25 : decode cJ6_bitCount_0f7a4 25 = .ok (.iload_n 0, 1) := by decide +kernel
theorem dJ6_bitCount_0f7a4_26 : decode cJ6_bitCount_0f7a4 26 = .ok (.iconst 4, 1) := by decide +kernel
theorem dJ6_bitCount_0f7a4_27 : decode cJ6_bitCount_0f7a4 27 = .ok (.iushr, 1) := by decide +kernel
theorem dJ6_bitCount_0f7a4_28 : decode cJ6_bitCount_0f7a4 28 = .ok (.iadd, 1) := by decide +kernel
theorem dJ6_bitCount_0f7a4_29 : decode cJ6_bitCount_0f7a4 29 = .ok (.ldc_w 267, 3) := by decide +kernel
theorem dJ6_bitCount_0f7a4_32 : decode cJ6_bitCount_0f7a4 32 = .ok (.iand, 1) := by decide +kernel
theorem dJ6_bitCount_0f7a4_33 : decode cJ6_bitCount_0f7a4 33 = .ok (.istore_n 0, 1) := by decide +kernel
theorem dJ6_bitCount_0f7a4_34 : decode cJ6_bitCount_0f7a4 34 = .ok (.iload_n 0, 1) := by decide +kernel
theorem dJ6_bitCount_0f7a4_35 : decode cJ6_bitCount_0f7a4 35 = .ok (.iload_n 0, 1) := by decide +kernel
theorem dJ6_bitCount_0f7a4_36 : decode cJ6_bitCount_0f7a4 36 = .ok (.bipush 8, 2) := by decide +kernel
theorem dJ6_bitCount_0f7a4_38 : decode cJ6_bitCount_0f7a4 38 = .ok (.iushr, 1) := by decide +kernel
theorem dJ6_bitCount_0f7a4_39 : decode cJ6_bitCount_0f7a4 39 = .ok (.iadd, 1) := by decide +kernel
theorem dJ6_bitCount_0f7a4_40 : decode cJ6_bitCount_0f7a4 40 = .ok (.istore_n 0, 1) := by decide +kernel
theorem dJ6_bitCount_0f7a4_41 : decode cJ6_bitCount_0f7a4 41 = .ok (.iload_n 0, 1) := by decide +kernel
theorem dJ6_bitCount_0f7a4_42 : decode cJ6_bitCount_0f7a4 42 = .ok (.iload_n 0, 1) := by decide +kernel
theorem dJ6_bitCount_0f7a4_43 : decode cJ6_bitCount_0f7a4 43 = .ok (.bipush 16, 2) := by decide +kernel
theorem dJ6_bitCount_0f7a4_45 : decode cJ6_bitCount_0f7a4 45 = .ok (.iushr, 1) := by decide +kernel
theorem dJ6_bitCount_0f7a4_46 : decode cJ6_bitCount_0f7a4 46 = .ok (.iadd, 1) := by decide +kernel
theorem dJ6_bitCount_0f7a4_47 : decode cJ6_bitCount_0f7a4 47 = .ok (.istore_n 0, 1) := by decide +kernel
theorem dJ6_bitCount_0f7a4_48 : decode cJ6_bitCount_0f7a4 48 = .ok (.iload_n 0, 1) := by decide +kernel
theorem dJ6_bitCount_0f7a4_49 : decode cJ6_bitCount_0f7a4 49 = .ok (.bipush 63, 2) := by decide +kernel
theorem dJ6_bitCount_0f7a4_51 : decode cJ6_bitCount_0f7a4 51 = .ok (.iand, 1) := by decide +kernel
theorem dJ6_bitCount_0f7a4_52 : decode cJ6_bitCount_0f7a4 52 = .ok (.ireturn, 1) := by decide +kernel
theorem dJ9_max_7cf53_0 : decode cJ9_max_7cf53 0 = .ok (.iload_n 0, 1) := by decide +kernel
theorem dJ9_max_7cf53_1 : decode cJ9_max_7cf53 1 = .ok (.iload_n 1, 1) := by decide +kernel
theorem dJ9_max_7cf53_2 : decode cJ9_max_7cf53 2 = .ok (.if_icmp .lt 7, 3) := by decide +kernel
theorem dJ9_max_7cf53_5 : decode cJ9_max_7cf53 5 = .ok (.iload_n 0, 1) := by decide +kernel
theorem dJ9_max_7cf53_6 : decode cJ9_max_7cf53 6 = .ok (.goto 4, 3) := by decide +kernel
theorem dJ9_max_7cf53_9 : decode cJ9_max_7cf53 9 = .ok (.iload_n 1, 1) := by decide +kernel
theorem dJ9_max_7cf53_10 : decode cJ9_max_7cf53 10 = .ok (.ireturn, 1) := by decide +kernel
theorem dJ9_min_7cf53_0 : decode cJ9_min_7cf53 0 = .ok (.iload_n 0, 1) := by decide +kernel
theorem dJ9_min_7cf53_1 : decode cJ9_min_7cf53 1 = .ok (.iload_n 1, 1) := by decide +kernel
theorem dJ9_min_7cf53_2 : decode cJ9_min_7cf53 2 = .ok (.if_icmp .gt 7, 3) := by decide +kernel
theorem dJ9_min_7cf53_5 : decode cJ9_min_7cf53 5 = .ok (.iload_n 0, 1) := by decide +kernel
theorem dJ9_min_7cf53_6 : decode cJ9_min_7cf53 6 = .ok (.goto 4, 3) := by decide +kernel
theorem dJ9_min_7cf53_9 : decode cJ9_min_7cf53 9 = .ok (.iload_n 1, 1) := by decide +kernel
theorem dJ9_min_7cf53_10 : decode cJ9_min_7cf53 10 = .ok (.ireturn, 1) := by decide +kernel
theorem dJ0_length_8abf5_0 : decode cJ0_length_8abf5 0 = .ok (.aload_n 0, 1) := by decide +kernel
theorem dJ0_length_8abf5_1 : decode cJ0_length_8abf5 1 = .ok (.getfield 9, 3) := by decide +kernel
theorem dJ0_length_8abf5_4 : decode cJ0_length_8abf5 4 = .ok (.arraylength, 1) := by decide +kernel
theorem dJ0_length_8abf5_5 : decode cJ0_length_8abf5 5 = .ok (.aload_n 0, 1) := by decide +kernel
theorem dJ0_length_8abf5_6 : decode cJ0_length_8abf5 6 = .ok (.invokevirtual 335, 3) := by decide +kernel
theorem dJ0_length_8abf5_9 : decode cJ0_length_8abf5 9 = .ok (.ishr, 1) := by decide +kernel
theorem dJ0_length_8abf5_10 : decode cJ0_length_8abf5 10 = .ok (.ireturn, 1) := by decide +kernel
theorem dJ0_indexOf_0f7a4_0 : decode cJ0_indexOf_0f7a4 0 = .ok (.aload_n 0, 1) := by decide +kernel
theorem dJ0_indexOf_0f7a4_1 : decode cJ0_indexOf_0f7a4 1 = .ok (.iload_n 1, 1) := by decide +kernel
theorem dJ0_indexOf_0f7a4_2 : decode cJ0_indexOf_0f7a4 2 = .ok (.iconst 0, 1) := by decide +kernel
theorem dJ0_indexOf_0f7a4_3 : decode cJ0_indexOf_0f7a4 3 = .ok (.invokevirtual 633, 3) := by decide +kernel
theorem dJ0_indexOf_0f7a4_6 : decode cJ0_indexOf_0f7a4 6 = .ok (.ireturn, 1) := by decide +kernel
theorem dJ0_indexOf_7cf53_0 : decode cJ0_indexOf_7cf53 0 = .ok (.aload_n 0, 1) := by decide +kernel
theorem dJ0_indexOf_7cf53_1 : decode cJ0_indexOf_7cf53 1 = .ok (.invokevirtual 492, 3) := by decide +kernel
theorem dJ0_indexOf_7cf53_4 : decode cJ0_indexOf_7cf53 4 = .ok (.ifCond .eq 19, 3) := by decide +kernel
theorem dJ0_indexOf_7cf53_7 : decode cJ0_indexOf_7cf53 7 = .ok (.aload_n 0, 1) := by decide +kernel
theorem dJ0_indexOf_7cf53_8 : decode cJ0_indexOf_7cf53 8 = .ok (.getfield 9, 3) := by decide +kernel
theorem dJ0_indexOf_7cf53_11 : decode cJ0_indexOf_7cf53 11 = .ok (.iload_n 1, 1) := by decide +kernel
theorem dJ0_indexOf_7cf53_12 : decode cJ0_indexOf_7cf53 12 = .ok (.iload_n 2, 1) := by decide +kernel
theorem dJ0_indexOf_7cf53_13 : decode cJ0_indexOf_7cf53 13 = .ok (.aload_n 0, 1) := by decide +kernel
theorem dJ0_indexOf_7cf53_14 : decode cJ0_indexOf_7cf53 14 = .ok (.invokevirtual 505, 3) := by decide +kernel
theorem dJ0_indexOf_7cf53_17 : decode cJ0_indexOf_7cf53 17 = .ok (.invokestatic 637, 3) := by decide +kernel
theorem dJ0_indexOf_7cf53_20 : decode cJ0_indexOf_7cf53 20 = .ok (.goto 16, 3) := by decide +kernel
theorem dJ0_indexOf_7cf53_23 : decode cJ0_indexOf_7cf53 23 = .ok (.aload_n 0, 1) := by decide +kernel
theorem dJ0_indexOf_7cf53_24 : decode cJ0_indexOf_7cf53 24 = .ok (.getfield 9, 3) := by decide +kernel
theorem dJ0_indexOf_7cf53_27 : decode cJ0_indexOf_7cf53 27 = .ok (.iload_n 1, 1) := by decide +kernel
theorem dJ0_indexOf_7cf53_28 : decode cJ0_indexOf_7cf53 28 = .ok (.iload_n 2, 1) := by decide +kernel
theorem dJ0_indexOf_7cf53_29 : decode cJ0_indexOf_7cf53 29 = .ok (.aload_n 0, 1) := by decide +kernel
theorem dJ0_indexOf_7cf53_30 : decode cJ0_indexOf_7cf53 30 = .ok (.invokevirtual 505, 3) := by decide +kernel
theorem dJ0_indexOf_7cf53_33 : decode cJ0_indexOf_7cf53 33 = .ok (.invokestatic 640, 3) := by decide +kernel
theorem dJ0_indexOf_7cf53_36 : decode cJ0_indexOf_7cf53 36 = .ok (.ireturn, 1) := by decide +kernel
theorem dJ0_coder_7d493_0 : decode cJ0_coder_7d493 0 = .ok (.getstatic 38, 3) := by decide +kernel
theorem dJ0_coder_7d493_3 : decode cJ0_coder_7d493 3 = .ok (.ifCond .eq 10, 3) := by decide +kernel
theorem dJ0_coder_7d493_6 : decode cJ0_coder_7d493 6 = .ok (.aload_n 0, 1) := by decide +kernel
theorem dJ0_coder_7d493_7 : decode cJ0_coder_7d493 7 = .ok (.getfield 15, 3) := by decide +kernel
theorem dJ0_coder_7d493_10 : decode cJ0_coder_7d493 10 = .ok (.goto 4, 3) := by decide +kernel
theorem dJ0_coder_7d493_13 : decode cJ0_coder_7d493 13 = .ok (.iconst 1, 1) := by decide +kernel
theorem dJ0_coder_7d493_14 : decode cJ0_coder_7d493 14 = .ok (.ireturn, 1) := by decide +kernel
theorem dJ0_isLatin1_aae02_0 : decode cJ0_isLatin1_aae02 0 = .ok (.getstatic 38, 3) := by decide +kernel
theorem dJ0_isLatin1_aae02_3 : decode cJ0_isLatin1_aae02 3 = .ok (.ifCond .eq 14, 3) := by decide +kernel
theorem dJ0_isLatin1_aae02_6 : decode cJ0_isLatin1_aae02 6 = .ok (.aload_n 0, 1) := by decide +kernel
theorem dJ0_isLatin1_aae02_7 : decode cJ0_isLatin1_aae02 7 = .ok (.getfield 15, 3) := by decide +kernel
theorem dJ0_isLatin1_aae02_10 : decode cJ0_isLatin1_aae02 10 = .ok (.ifCond .ne 7, 3) := by decide +kernel
theorem dJ0_isLatin1_aae02_13 : decode cJ0_isLatin1_aae02 13 = .ok (.iconst 1, 1) := by decide +kernel
theorem dJ0_isLatin1_aae02_14 : decode cJ0_isLatin1_aae02 14 = .ok (.goto 4, 3) := by decide +kernel
theorem dJ0_isLatin1_aae02_17 : decode cJ0_isLatin1_aae02 17 = .ok (.iconst 0, 1) := by decide +kernel
theorem dJ0_isLatin1_aae02_18 : decode cJ0_isLatin1_aae02 18 = .ok (.ireturn, 1) := by decide +kernel
theorem dJ0_checkBoundsBeginEnd_23922_0 : decode cJ0_checkBoundsBeginEnd_23922 0 = .ok (.iload_n 0, 1) := by decide +kernel
theorem dJ0_checkBoundsBeginEnd_23922_1 : decode cJ0_checkBoundsBeginEnd_23922 1 = .ok (.iload_n 1, 1) := by decide +kernel
theorem dJ0_checkBoundsBeginEnd_23922_2 : decode cJ0_checkBoundsBeginEnd_23922 2 = .ok (.iload_n 2, 1) := by decide +kernel
theorem dJ0_checkBoundsBeginEnd_23922_3 : decode cJ0_checkBoundsBeginEnd_23922 3 = .ok (.getstatic 1053, 3) := by decide +kernel
theorem dJ0_checkBoundsBeginEnd_23922_6 : decode cJ0_checkBoundsBeginEnd_23922 6 = .ok (.invokestatic 1062, 3) := by decide +kernel
theorem dJ0_checkBoundsBeginEnd_23922_9 : decode cJ0_checkBoundsBeginEnd_23922 9 = .ok (.pop, 1) := by decide +kernel
theorem dJ0_checkBoundsBeginEnd_23922_10 : decode cJ0_checkBoundsBeginEnd_23922 10 = .ok (.return_, 1) := by decide +kernel
theorem dJ1_canEncode_9a6ad_0 : decode cJ1_canEncode_9a6ad 0 = .ok (.iload_n 0, 1) := by decide +kernel
theorem dJ1_canEncode_9a6ad_1 : decode cJ1_canEncode_9a6ad 1 = .ok (.ifCond .lt 14, 3) := by decide +kernel
theorem dJ1_canEncode_9a6ad_4 : decode cJ1_canEncode_9a6ad 4 = .ok (.iload_n 0, 1) := by decide +kernel
theorem dJ1_canEncode_9a6ad_5 : decode cJ1_canEncode_9a6ad 5 = .ok (.sipush 255, 3) := by decide +kernel
theorem dJ1_canEncode_9a6ad_8 : decode cJ1_canEncode_9a6ad 8 = .ok (.if_icmp .gt 7, 3) := by decide +kernel
theorem dJ1_canEncode_9a6ad_11 : decode cJ1_canEncode_9a6ad 11 = .ok (.iconst 1, 1) := by decide +kernel
theorem dJ1_canEncode_9a6ad_12 : decode cJ1_canEncode_9a6ad 12 = .ok (.goto 4, 3) := by decide +kernel
theorem dJ1_canEncode_9a6ad_15 : decode cJ1_canEncode_9a6ad 15 = .ok (.iconst 0, 1) := by decide +kernel
theorem dJ1_canEncode_9a6ad_16 : decode cJ1_canEncode_9a6ad 16 = .ok (.ireturn, 1) := by decide +kernel
theorem dJ1_indexOf_4cfef_0 : decode cJ1_indexOf_4cfef 0 = .ok (.iload_n 1, 1) := by decide +kernel
theorem dJ1_indexOf_4cfef_1 : decode cJ1_indexOf_4cfef 1 = .ok (.invokestatic 88, 3) := by decide +kernel
theorem dJ1_indexOf_4cfef_4 : decode cJ1_indexOf_4cfef 4 = .ok (.ifCond .ne 5, 3) := by decide +kernel
theorem dJ1_indexOf_4cfef_7 : decode cJ1_indexOf_4cfef 7 = .ok (.iconst (-1), 1) := by decide +kernel
theorem dJ1_indexOf_4cfef_8 : decode cJ1_indexOf_4cfef 8 = .ok (.ireturn, 1) := by decide +kernel
theorem dJ1_indexOf_4cfef_9 : decode cJ1_indexOf_4cfef 9 = .ok (.iload_n 2, 1) := by decide +kernel
theorem dJ1_indexOf_4cfef_10 : decode cJ1_indexOf_4cfef 10 = .ok (.iconst 0, 1) := by decide +kernel
theorem dJ1_indexOf_4cfef_11 : decode cJ1_indexOf_4cfef 11 = .ok (.invokestatic 92, 3) := by decide +kernel
theorem dJ1_indexOf_4cfef_14 : decode cJ1_indexOf_4cfef 14 = .ok (.istore_n 2, 1) := by decide +kernel
theorem dJ1_indexOf_4cfef_15 : decode cJ1_indexOf_4cfef 15 = .ok (.iload_n 3, 1) := by decide +kernel
theorem dJ1_indexOf_4cfef_16 : decode cJ1_indexOf_4cfef 16 = .ok (.aload_n 0, 1) := by decide +kernel
theorem dJ1_indexOf_4cfef_17 : decode cJ1_indexOf_4cfef 17 = .ok (.arraylength, 1) := by decide +kernel
theorem dJ1_indexOf_4cfef_18 : decode cJ1_indexOf_4cfef 18 = .ok (.invokestatic 38, 3) := by decide +kernel
theorem dJ1_indexOf_4cfef_21 : decode cJ1_indexOf_4cfef 21 = .ok (.istore_n 3, 1) := by decide +kernel
theorem dJ1_indexOf_4cfef_22 : decode cJ1_indexOf_4cfef 22 = .ok (.iload_n 2, 1) := by decide +kernel
theorem dJ1_indexOf_4cfef_23 : decode cJ1_indexOf_4cfef 23 = .ok (.iload_n 3, 1) := by decide +kernel
theorem dJ1_indexOf_4cfef_24 : decode cJ1_indexOf_4cfef 24 = .ok (.if_icmp .lt 5, 3) := by decide +kernel
theorem dJ1_indexOf_4cfef_27 : decode cJ1_indexOf_4cfef 27 = .ok (.iconst (-1), 1) := by decide +kernel
theorem dJ1_indexOf_4cfef_28 : decode cJ1_indexOf_4cfef 28 = .ok (.ireturn, 1) := by decide +kernel
theorem dJ1_indexOf_4cfef_29 : decode cJ1_indexOf_4cfef 29 = .ok (.aload_n 0, 1) := by decide +kernel
theorem dJ1_indexOf_4cfef_30 : decode cJ1_indexOf_4cfef 30 = .ok (.iload_n 1, 1) := by decide +kernel
theorem dJ1_indexOf_4cfef_31 : decode cJ1_indexOf_4cfef 31 = .ok (.iload_n 2, 1) := by decide +kernel
theorem dJ1_indexOf_4cfef_32 : decode cJ1_indexOf_4cfef 32 = .ok (.iload_n 3, 1) := by decide +kernel
theorem dJ1_indexOf_4cfef_33 : decode cJ1_indexOf_4cfef 33 = .ok (.invokestatic 95, 3) := by decide +kernel
theorem dJ1_indexOf_4cfef_36 : decode cJ1_indexOf_4cfef 36 = .ok (.ireturn, 1) := by decide +kernel
theorem dJ1_indexOfChar_4cfef_0 : decode cJ1_indexOfChar_4cfef 0 = .ok (.iload_n 1, 1) := by decide +kernel
theorem dJ1_indexOfChar_4cfef_1 : decode cJ1_indexOfChar_4cfef 1 = .ok (.i2b, 1) := by decide +kernel
theorem dJ1_indexOfChar_4cfef_2 : decode cJ1_indexOfChar_4cfef 2 = .ok (.istore 4, 2) := by decide +kernel
theorem dJ1_indexOfChar_4cfef_4 : decode cJ1_indexOfChar_4cfef 4 = .ok (.iload_n 2, 1) := by decide +kernel
theorem dJ1_indexOfChar_4cfef_5 : decode cJ1_indexOfChar_4cfef 5 = .ok (.istore 5, 2) := by decide +kernel
theorem dJ1_indexOfChar_4cfef_7 : decode cJ1_indexOfChar_4cfef 7 = .ok (.iload 5, 2) := by decide +kernel
theorem dJ1_indexOfChar_4cfef_9 : decode cJ1_indexOfChar_4cfef 9 = .ok (.iload_n 3, 1) := by decide +kernel
theorem dJ1_indexOfChar_4cfef_10 : decode cJ1_indexOfChar_4cfef 10 = .ok (.if_icmp .ge 21, 3) := by decide +kernel
theorem dJ1_indexOfChar_4cfef_13 : decode cJ1_indexOfChar_4cfef 13 = .ok (.aload_n 0, 1) := by decide +kernel
theorem dJ1_indexOfChar_4cfef_14 : decode cJ1_indexOfChar_4cfef 14 = .ok (.iload 5, 2) := by decide +kernel
theorem dJ1_indexOfChar_4cfef_16 : decode cJ1_indexOfChar_4cfef 16 = .ok (.baload, 1) := by decide +kernel
theorem dJ1_indexOfChar_4cfef_17 : decode cJ1_indexOfChar_4cfef 17 = .ok (.iload 4, 2) := by decide +kernel
theorem dJ1_indexOfChar_4cfef_19 : decode cJ1_indexOfChar_4cfef 19 = .ok (.if_icmp .ne 6, 3) := by decide +kernel
theorem dJ1_indexOfChar_4cfef_22 : decode cJ1_indexOfChar_4cfef 22 = .ok (.iload 5, 2) := by decide +kernel
theorem dJ1_indexOfChar_4cfef_24 : decode cJ1_indexOfChar_4cfef 24 = .ok (.ireturn, 1) := by decide +kernel
theorem dJ1_indexOfChar_4cfef_25 : decode cJ1_indexOfChar_4cfef 25 = .ok (.iinc 5 1, 3) := by decide +kernel
theorem dJ1_indexOfChar_4cfef_28 : decode cJ1_indexOfChar_4cfef 28 = .ok (.goto (-21), 3) := by decide +kernel
theorem dJ1_indexOfChar_4cfef_31 : decode cJ1_indexOfChar_4cfef 31 = .ok (.iconst (-1), 1) := by decide +kernel
theorem dJ1_indexOfChar_4cfef_32 : decode cJ1_indexOfChar_4cfef 32 = .ok (.ireturn, 1) := by decide +kernel
theorem dJ2_getChar_3b067_0 : decode cJ2_getChar_3b067 0 = .ok (.getstatic 44, 3) := by decide +kernel
theorem dJ2_getChar_3b067_3 : decode cJ2_getChar_3b067 3 = .ok (.ifCond .ne 25, 3) := by decide +kernel
theorem dJ2_getChar_3b067_6 : decode cJ2_getChar_3b067 6 = .ok (.iload_n 1, 1) := by decide +kernel
theorem dJ2_getChar_3b067_7 : decode cJ2_getChar_3b067 7 = .ok (.ifCond .lt 11, 3) := by decide +kernel
theorem dJ2_getChar_3b067_10 : decode cJ2_getChar_3b067 10 = .ok (.iload_n 1, 1) := by decide +kernel
theorem dJ2_getChar_3b067_11 : decode cJ2_getChar_3b067 11 = .ok (.aload_n 0, 1) := by decide +kernel
theorem dJ2_getChar_3b067_12 : decode cJ2_getChar_3b067 12 = .ok (.invokestatic 48, 3) := by decide +kernel
theorem dJ2_getChar_3b067_15 : decode cJ2_getChar_3b067 15 = .ok (.if_icmp .lt 13, 3) := by decide +kernel
theorem dJ2_getChar_3b067_18 : decode cJ2_getChar_3b067 18 = .ok (.new 52, 3) := by decide +kernel
theorem dJ2_getChar_3b067_21 : decode cJ2_getChar_3b067 21 = .ok (.dup, 1) := by decide +kernel
theorem dJ2_getChar_3b067_22 : decode cJ2_getChar_3b067 22 = .ok (.ldc 54, 2) := by decide +kernel
theorem dJ2_getChar_3b067_24 : decode cJ2_getChar_3b067 24 = .ok (.invokespecial 56, 3) := by decide +kernel
theorem dJ2_getChar_3b067_27 : decode cJ2_getChar_3b067 27 = .ok (.athrow, 1) := by decide +kernel
theorem dJ2_getChar_3b067_28 : decode cJ2_getChar_3b067 28 = .ok (.iload_n 1, 1) := by decide +kernel
theorem dJ2_getChar_3b067_29 : decode cJ2_getChar_3b067 29 = .ok (.iconst 1, 1) := by decide +kernel
theorem dJ2_getChar_3b067_30 : decode cJ2_getChar_3b067 30 = .ok (.ishl, 1) := by decide +kernel
theorem dJ2_getChar_3b067_31 : decode cJ2_getChar_3b067 31 = .ok (.istore_n 1, 1) := by decide +kernel
theorem dJ2_getChar_3b067_32 : decode cJ2_getChar_3b067 32 = .ok (.aload_n 0, 1) := by decide +kernel
theorem dJ2_getChar_3b067_33 : decode cJ2_getChar_3b067 33 = .ok (.iload_n 1, 1) := by decide +kernel
theorem dJ2_getChar_3b067_34 : decode cJ2_getChar_3b067 34 = .ok (.iinc 1 1, 3) := by decide +kernel
theorem dJ2_getChar_3b067_37 : decode cJ2_getChar_3b067 37 = .ok (.baload, 1) := by decide +kernel
theorem dJ2_getChar_3b067_38 : decode cJ2_getChar_3b067 38 = .ok (.sipush 255, 3) := by decide +kernel
theorem dJ2_getChar_3b067_41 : decode cJ2_getChar_3b067 41 = .ok (.iand, 1) := by decide +kernel
theorem dJ2_getChar_3b067_42 : decode cJ2_getChar_3b067 42 = .ok (.getstatic 59, 3) := by decide +kernel
theorem dJ2_getChar_3b067_45 : decode cJ2_getChar_3b067 45 = .ok (.ishl, 1) := by decide +kernel
theorem dJ2_getChar_3b067_46 : decode cJ2_getChar_3b067 46 = .ok (.aload_n 0, 1) := by decide +kernel
theorem dJ2_getChar_3b067_47 : decode cJ2_getChar_3b067 47 = .ok (.iload_n 1, 1) := by decide +kernel
theorem dJ2_getChar_3b067_48 : decode cJ2_getChar_3b067 48 = .ok (.baload, 1) := by decide +kernel
theorem dJ2_getChar_3b067_49 : decode cJ2_getChar_3b067 49 = .ok (.sipush 255, 3) := by decide +kernel
theorem dJ2_getChar_3b067_52 : decode cJ2_getChar_3b067 52 = .ok (.iand, 1) := by decide +kernel
theorem dJ2_getChar_3b067_53 : decode cJ2_getChar_3b067 53 = .ok (.getstatic 63, 3) := by decide +kernel
theorem dJ2_getChar_3b067_56 : decode cJ2_getChar_3b067 56 = .ok (.ishl, 1) := by decide +kernel
theorem dJ2_getChar_3b067_57 : decode cJ2_getChar_3b067 57 = .ok (.ior, 1) := by decide +kernel
theorem dJ2_getChar_3b067_58 : decode cJ2_getChar_3b067 58 = .ok (.i2c, 1) := by decide +kernel
theorem dJ2_getChar_3b067_59 : decode cJ2_getChar_3b067 59 = .ok (.ireturn, 1) := by decide +kernel
theorem dJ2_length_9d52b_0 : decode cJ2_length_9d52b 0 = .ok (.aload_n 0, 1) := by decide +kernel
theorem dJ2_length_9d52b_1 : decode cJ2_length_9d52b 1 = .ok (.arraylength, 1) := by decide +kernel
theorem dJ2_length_9d52b_2 : decode cJ2_length_9d52b 2 = .ok (.iconst 1, 1) := by decide +kernel
theorem dJ2_length_9d52b_3 : decode cJ2_length_9d52b 3 = .ok (.ishr, 1) := by decide +kernel
theorem dJ2_length_9d52b_4 : decode cJ2_length_9d52b 4 = .ok (.ireturn, 1) := by decide +kernel
theorem dJ2_indexOf_4cfef_0 : decode cJ2_indexOf_4cfef 0 = .ok (.iload_n 2, 1) := by decide +kernel
theorem dJ2_indexOf_4cfef_1 : decode cJ2_indexOf_4cfef 1 = .ok (.iconst 0, 1) := by decide +kernel
theorem dJ2_indexOf_4cfef_2 : decode cJ2_indexOf_4cfef 2 = .ok (.invokestatic 224, 3) := by decide +kernel
theorem dJ2_indexOf_4cfef_5 : decode cJ2_indexOf_4cfef 5 = .ok (.istore_n 2, 1) := by decide +kernel
theorem dJ2_indexOf_4cfef_6 : decode cJ2_indexOf_4cfef 6 = .ok (.iload_n 3, 1) := by decide +kernel
theorem dJ2_indexOf_4cfef_7 : decode cJ2_indexOf_4cfef 7 = .ok (.aload_n 0, 1) := by decide +kernel
theorem dJ2_indexOf_4cfef_8 : decode cJ2_indexOf_4cfef 8 = .ok (.arraylength, 1) := by decide +kernel
theorem dJ2_indexOf_4cfef_9 : decode cJ2_indexOf_4cfef 9 = .ok (.iconst 1, 1) := by decide +kernel
theorem dJ2_indexOf_4cfef_10 : decode cJ2_indexOf_4cfef 10 = .ok (.ishr, 1) := by decide +kernel
theorem dJ2_indexOf_4cfef_11 : decode cJ2_indexOf_4cfef 11 = .ok (.invokestatic 183, 3) := by decide +kernel
theorem dJ2_indexOf_4cfef_14 : decode cJ2_indexOf_4cfef 14 = .ok (.istore_n 3, 1) := by decide +kernel
theorem dJ2_indexOf_4cfef_15 : decode cJ2_indexOf_4cfef 15 = .ok (.iload_n 2, 1) := by decide +kernel
theorem dJ2_indexOf_4cfef_16 : decode cJ2_indexOf_4cfef 16 = .ok (.iload_n 3, 1) := by decide +kernel
theorem dJ2_indexOf_4cfef_17 : decode cJ2_indexOf_4cfef 17 = .ok (.if_icmp .lt 5, 3) := by decide +kernel
theorem dJ2_indexOf_4cfef_20 : decode cJ2_indexOf_4cfef 20 = .ok (.iconst (-1), 1) := by decide +kernel
theorem dJ2_indexOf_4cfef_21 : decode cJ2_indexOf_4cfef 21 = .ok (.ireturn, 1) := by decide +kernel
theorem dJ2_indexOf_4cfef_22 : decode cJ2_indexOf_4cfef 22 = .ok (.iload_n 1, 1) := by decide +kernel
theorem dJ2_indexOf_4cfef_23 : decode cJ2_indexOf_4cfef 23 = .ok (.ldc 227, 2) := by decide +kernel
theorem dJ2_indexOf_4cfef_25 : decode cJ2_indexOf_4cfef 25 = .ok (.if_icmp .ge 11, 3) := by decide +kernel
theorem dJ2_indexOf_4cfef_28 : decode cJ2_indexOf_4cfef 28 = .ok (.aload_n 0, 1) := by decide +kernel
theorem dJ2_indexOf_4cfef_29 : decode cJ2_indexOf_4cfef 29 = .ok (.iload_n 1, 1) := by decide +kernel
theorem dJ2_indexOf_4cfef_30 : decode cJ2_indexOf_4cfef 30 = .ok (.iload_n 2, 1) := by decide +kernel
theorem dJ2_indexOf_4cfef_31 : decode cJ2_indexOf_4cfef 31 = .ok (.iload_n 3, 1) := by decide +kernel
theorem dJ2_indexOf_4cfef_32 : decode cJ2_indexOf_4cfef 32 = .ok (.invokestatic 228, 3) := by decide +kernel
theorem dJ2_indexOf_4cfef_35 : decode cJ2_indexOf_4cfef 35 = .ok (.ireturn, 1) := by decide +kernel
theorem dJ2_indexOf_4cfef_36 : decode cJ2_indexOf_4cfef 36 = .ok (.aload_n 0, 1) := by decide +kernel
theorem dJ2_indexOf_4cfef_37 : decode cJ2_indexOf_4cfef 37 = .ok (.iload_n 1, 1) := by decide +kernel
theorem dJ2_indexOf_4cfef_38 : decode cJ2_indexOf_4cfef 38 = .ok (.iload_n 2, 1) := by decide +kernel
theorem dJ2_indexOf_4cfef_39 : decode cJ2_indexOf_4cfef 39 = .ok (.iload_n 3, 1) := by decide +kernel
theorem dJ2_indexOf_4cfef_40 : decode cJ2_indexOf_4cfef 40 = .ok (.invokestatic 232, 3) := by decide +kernel
theorem dJ2_indexOf_4cfef_43 : decode cJ2_indexOf_4cfef 43 = .ok (.ireturn, 1) := by decide +kernel
theorem dJ2_indexOfChar_4cfef_0 : decode cJ2_indexOfChar_4cfef 0 = .ok (.iload_n 2, 1) := by decide +kernel
theorem dJ2_indexOfChar_4cfef_1 : decode cJ2_indexOfChar_4cfef 1 = .ok (.iload_n 3, 1) := by decide +kernel
theorem dJ2_indexOfChar_4cfef_2 : decode cJ2_indexOfChar_4cfef 2 = .ok (.aload_n 0, 1) := by decide +kernel
theorem dJ2_indexOfChar_4cfef_3 : decode cJ2_indexOfChar_4cfef 3 = .ok (.invokestatic 96, 3) := by decide +kernel
theorem dJ2_indexOfChar_4cfef_6 : decode cJ2_indexOfChar_4cfef 6 = .ok (.aload_n 0, 1) := by decide +kernel
theorem dJ2_indexOfChar_4cfef_7 : decode cJ2_indexOfChar_4cfef 7 = .ok (.iload_n 1, 1) := by decide +kernel
theorem dJ2_indexOfChar_4cfef_8 : decode cJ2_indexOfChar_4cfef 8 = .ok (.iload_n 2, 1) := by decide +kernel
theorem dJ2_indexOfChar_4cfef_9 : decode cJ2_indexOfChar_4cfef 9 = .ok (.iload_n 3, 1) := by decide +kernel
theorem dJ2_indexOfChar_4cfef_10 : decode cJ2_indexOfChar_4cfef 10 = .ok (.invokestatic 244, 3) := by decide +kernel
theorem dJ2_indexOfChar_4cfef_13 : decode cJ2_indexOfChar_4cfef 13 = .ok (.ireturn, 1) := by decide +kernel
theorem dJ2_indexOfCharUnsafe_4cfef_0 : decode cJ2_indexOfCharUnsafe_4cfef 0 = .ok (.iload_n 2, 1) := by decide +kernel
theorem dJ2_indexOfCharUnsafe_4cfef_1 : decode cJ2_indexOfCharUnsafe_4cfef 1 = .ok (.istore 4, 2) := by decide +kernel
theorem dJ2_indexOfCharUnsafe_4cfef_3 : decode cJ2_indexOfCharUnsafe_4cfef 3 = .ok (.iload 4, 2) := by decide +kernel
theorem dJ2_indexOfCharUnsafe_4cfef_5 : decode cJ2_indexOfCharUnsafe_4cfef 5 = .ok (.iload_n 3, 1) := by decide +kernel
theorem dJ2_indexOfCharUnsafe_4cfef_6 : decode cJ2_indexOfCharUnsafe_4cfef 6 = .ok (.if_icmp .ge 22, 3) := by decide +kernel
theorem dJ2_indexOfCharUnsafe_4cfef_9 : decode cJ2_indexOfCharUnsafe_4cfef 9 = .ok (.aload_n 0, 1) := by decide +kernel
theorem dJ2_indexOfCharUnsafe_4cfef_10 : decode cJ2_indexOfCharUnsafe_4cfef 10 = .ok (.iload 4, 2) := by decide +kernel
theorem dJ2_indexOfCharUnsafe_4cfef_12 : decode cJ2_indexOfCharUnsafe_4cfef 12 = .ok (.invokestatic 71, 3) := by decide +kernel
theorem dJ2_indexOfCharUnsafe_4cfef_15 : decode cJ2_indexOfCharUnsafe_4cfef 15 = .ok (.iload_n 1, 1) := by decide +kernel
theorem dJ2_indexOfCharUnsafe_4cfef_16 : decode cJ2_indexOfCharUnsafe_4cfef 16 = .ok (.if_icmp .ne 6, 3) := by decide +kernel
theorem dJ2_indexOfCharUnsafe_4cfef_19 : decode cJ2_indexOfCharUnsafe_4cfef 19 = .ok (.iload 4, 2) := by decide +kernel
theorem dJ2_indexOfCharUnsafe_4cfef_21 : decode cJ2_indexOfCharUnsafe_4cfef 21 = .ok (.ireturn, 1) := by decide +kernel
theorem dJ2_indexOfCharUnsafe_4cfef_22 : decode cJ2_indexOfCharUnsafe_4cfef 22 = .ok (.iinc 4 1, 3) := by decide +kernel
theorem dJ2_indexOfCharUnsafe_4cfef_25 : decode cJ2_indexOfCharUnsafe_4cfef 25 = .ok (.goto (-22), 3) := by decide +kernel
theorem dJ2_indexOfCharUnsafe_4cfef_28 : decode cJ2_indexOfCharUnsafe_4cfef 28 = .ok (.iconst (-1), 1) := by decide +kernel
theorem dJ2_indexOfCharUnsafe_4cfef_29 : decode cJ2_indexOfCharUnsafe_4cfef 29 = .ok (.ireturn, 1) := by decide +kernel
theorem dJ2_indexOfSupplementary_4cfef_0 : decode cJ2_indexOfSupplementary_4cfef 0 = .ok (.iload_n 1, 1) := by decide +kernel
theorem dJ2_indexOfSupplementary_4cfef_1 : decode cJ2_indexOfSupplementary_4cfef 1 = .ok (.invokestatic 164, 3) := by decide +kernel
theorem dJ2_indexOfSupplementary_4cfef_4 : decode cJ2_indexOfSupplementary_4cfef 4 = .ok (.ifCond .eq 65, 3) := by decide +kernel
theorem dJ2_indexOfSupplementary_4cfef_7 : decode cJ2_indexOfSupplementary_4cfef 7 = .ok (.iload_n 1, 1) := by decide +kernel
theorem dJ2_indexOfSupplementary_4cfef_8 : decode cJ2_indexOfSupplementary_4cfef 8 = .ok (.invokestatic 157, 3) := by decide +kernel
theorem dJ2_indexOfSupplementary_4cfef_11 : decode cJ2_indexOfSupplementary_4cfef 11 = .ok (.istore 4, 2) := by decide +kernel
theorem dJ2_indexOfSupplementary_4cfef_13 : decode cJ2_indexOfSupplementary_4cfef 13 = .ok (.iload_n 1, 1) := by decide +kernel
theorem dJ2_indexOfSupplementary_4cfef_14 : decode cJ2_indexOfSupplementary_4cfef 14 = .ok (.invokestatic 161, 3) := by decide +kernel
theorem dJ2_indexOfSupplementary_4cfef_17 : decode cJ2_indexOfSupplementary_4cfef 17 = .ok (.istore 5, 2) := by decide +kernel
theorem dJ2_indexOfSupplementary_4cfef_19 : decode cJ2_indexOfSupplementary_4cfef 19 = .ok (.iload_n 2, 1) := by decide +kernel
theorem dJ2_indexOfSupplementary_4cfef_20 : decode cJ2_indexOfSupplementary_4cfef 20 = .ok (.iload_n 3, 1) := by decide +kernel
theorem dJ2_indexOfSupplementary_4cfef_21 : decode cJ2_indexOfSupplementary_4cfef 21 = .ok (.aload_n 0, 1) := by decide +kernel
theorem dJ2_indexOfSupplementary_4cfef_22 : decode cJ2_indexOfSupplementary_4cfef 22 = .ok (.invokestatic 96, 3) := by decide +kernel
theorem dJ2_indexOfSupplementary_4cfef_25 : decode cJ2_indexOfSupplementary_4cfef 25 = .ok (.iload_n 2, 1) := by decide +kernel
theorem dJ2_indexOfSupplementary_4cfef_26 : decode cJ2_indexOfSupplementary_4cfef 26 = .ok (.istore 6, 2) := by decide +kernel
theorem dJ2_indexOfSupplementary_4cfef_28 : decode cJ2_indexOfSupplementary_4cfef 28 = .ok (.iload 6, 2) := by decide +kernel
theorem dJ2_indexOfSupplementary_4cfef_30 : decode cJ2_indexOfSupplementary_4cfef 30 = .ok (.iload_n 3, 1) := by decide +kernel
theorem dJ2_indexOfSupplementary_4cfef_31 : decode cJ2_indexOfSupplementary_4cfef 31 = .ok (.iconst 1, 1) := by decide +kernel
theorem dJ2_indexOfSupplementary_4cfef_32 : decode cJ2_indexOfSupplementary_4cfef 32 = .ok (.isub, 1) := by decide +kernel
theorem dJ2_indexOfSupplementary_4cfef_33 : decode cJ2_indexOfSupplementary_4cfef 33 = .ok (.if_icmp .ge 36, 3) := by decide +kernel
theorem dJ2_indexOfSupplementary_4cfef_36 : decode cJ2_indexOfSupplementary_4cfef 36 = .ok (.aload_n 0, 1) := by decide +kernel
theorem dJ2_indexOfSupplementary_4cfef_37 : decode cJ2_indexOfSupplementary_4cfef 37 = .ok (.iload 6, 2) := by decide +kernel
theorem dJ2_indexOfSupplementary_4cfef_39 : decode cJ2_indexOfSupplementary_4cfef 39 = .ok (.invokestatic 71, 3) := by decide +kernel
theorem dJ2_indexOfSupplementary_4cfef_42 : decode cJ2_indexOfSupplementary_4cfef 42 = .ok (.iload 4, 2) := by decide +kernel
theorem dJ2_indexOfSupplementary_4cfef_44 : decode cJ2_indexOfSupplementary_4cfef 44 = .ok (.if_icmp .ne 19, 3) := by decide +kernel
theorem dJ2_indexOfSupplementary_4cfef_47 : decode cJ2_indexOfSupplementary_4cfef 47 = .ok (.aload_n 0, 1) := by decide +kernel
theorem dJ2_indexOfSupplementary_4cfef_48 : decode cJ2_indexOfSupplementary_4cfef 48 = .ok (.iload 6, 2) := by decide +kernel
theorem dJ2_indexOfSupplementary_4cfef_50 : decode cJ2_indexOfSupplementary_4cfef 50 = .ok (.iconst 1, 1) := by decide +kernel
theorem dJ2_indexOfSupplementary_4cfef_51 : decode cJ2_indexOfSupplementary_4cfef 51 = .ok (.iadd, 1) := by decide +kernel
theorem dJ2_indexOfSupplementary_4cfef_52 : decode cJ2_indexOfSupplementary_4cfef 52 = .ok (.invokestatic 71, 3) := by decide +kernel
theorem dJ2_indexOfSupplementary_4cfef_55 : decode cJ2_indexOfSupplementary_4cfef 55 = .ok (.iload 5, 2) := by decide +kernel
theorem dJ2_indexOfSupplementary_4cfef_57 : decode cJ2_indexOfSupplementary_4cfef 57 = .ok (.if_icmp .ne 6, 3) := by decide +kernel
theorem dJ2_indexOfSupplementary_4cfef_60 : decode cJ2_indexOfSupplementary_4cfef 60 = .ok (.iload 6, 2) := by decide +kernel
theorem dJ2_indexOfSupplementary_4cfef_62 : decode cJ2_indexOfSupplementary_4cfef 62 = .ok (.ireturn, 1) := by decide +kernel
theorem dJ2_indexOfSupplementary_4cfef_63 : decode cJ2_indexOfSupplementary_4cfef 63 = .ok (.iinc 6 1, 3) := by decide +kernel
theorem dJ2_indexOfSupplementary_4cfef_66 : decode cJ2_indexOfSupplementary_4cfef 66 = .ok (.goto (-38), 3) := by decide +kernel
theorem dJ2_indexOfSupplementary_4cfef_69 : decode cJ2_indexOfSupplementary_4cfef 69 = .ok (.iconst (-1), 1) := by decide +kernel
theorem dJ2_indexOfSupplementary_4cfef_70 : decode cJ2_indexOfSupplementary_4cfef 70 = .ok (.ireturn, 1) := by decide +kernel
theorem dJ2_checkBoundsBeginEnd_d044e_0 : decode cJ2_checkBoundsBeginEnd_d044e 0 = .ok (.iload_n 0, 1) := by decide +kernel
theorem dJ2_checkBoundsBeginEnd_d044e_1 : decode cJ2_checkBoundsBeginEnd_d044e 1 = .ok (.iload_n 1, 1) := by decide +kernel
theorem dJ2_checkBoundsBeginEnd_d044e_2 : decode cJ2_checkBoundsBeginEnd_d044e 2 = .ok (.aload_n 2, 1) := by decide +kernel
theorem dJ2_checkBoundsBeginEnd_d044e_3 : decode cJ2_checkBoundsBeginEnd_d044e 3 = .ok (.invokestatic 48, 3) := by decide +kernel
theorem dJ2_checkBoundsBeginEnd_d044e_6 : decode cJ2_checkBoundsBeginEnd_d044e 6 = .ok (.invokestatic 241, 3) := by decide +kernel
theorem dJ2_checkBoundsBeginEnd_d044e_9 : decode cJ2_checkBoundsBeginEnd_d044e 9 = .ok (.return_, 1) := by decide +kernel
theorem dJ7_fill_53178_0 : decode cJ7_fill_53178 0 = .ok (.iconst 0, 1) := by decide +kernel
theorem dJ7_fill_53178_1 : decode cJ7_fill_53178 1 = .ok (.istore_n 2, 1) := by decide +kernel
theorem dJ7_fill_53178_2 : decode cJ7_fill_53178 2 = .ok (.aload_n 0, 1) := by decide +kernel
theorem dJ7_fill_53178_3 : decode cJ7_fill_53178 3 = .ok (.arraylength, 1) := by decide +kernel
theorem dJ7_fill_53178_4 : decode cJ7_fill_53178 4 = .ok (.istore_n 3, 1) := by decide +kernel
theorem dJ7_fill_53178_5 : decode cJ7_fill_53178 5 = .ok (.iload_n 2, 1) := by decide +kernel
theorem dJ7_fill_53178_6 : decode cJ7_fill_53178 6 = .ok (.iload_n 3, 1) := by decide +kernel
theorem dJ7_fill_53178_7 : decode cJ7_fill_53178 7 = .ok (.if_icmp .ge 13, 3) := by decide +kernel
theorem dJ7_fill_53178_10 : decode cJ7_fill_53178 10 = .ok (.aload_n 0, 1) := by decide +kernel
theorem dJ7_fill_53178_11 : decode cJ7_fill_53178 11 = .ok (.iload_n 2, 1) := by decide +kernel
theorem dJ7_fill_53178_12 : decode cJ7_fill_53178 12 = .ok (.iload_n 1, 1) := by decide +kernel
theorem dJ7_fill_53178_13 : decode cJ7_fill_53178 13 = .ok (.iastore, 1) := by decide +kernel
theorem dJ7_fill_53178_14 : decode cJ7_fill_53178 14 = .ok (.iinc 2 1, 3) := by decide +kernel
theorem dJ7_fill_53178_17 : decode cJ7_fill_53178 17 = .ok (.goto (-12), 3) := by decide +kernel
theorem dJ7_fill_53178_20 : decode cJ7_fill_53178 20 = .ok (.return_, 1) := by decide +kernel
theorem dJ3_checkFromToIndex_8c36e_0 : decode cJ3_checkFromToIndex_8c36e 0 = .ok (.iload_n 0, 1) := by decide +kernel
theorem dJ3_checkFromToIndex_8c36e_1 : decode cJ3_checkFromToIndex_8c36e 1 = .ok (.ifCond .lt 13, 3) := by decide +kernel
theorem dJ3_checkFromToIndex_8c36e_4 : decode cJ3_checkFromToIndex_8c36e 4 = .ok (.iload_n 0, 1) := by decide +kernel
theorem dJ3_checkFromToIndex_8c36e_5 : decode cJ3_checkFromToIndex_8c36e 5 = .ok (.iload_n 1, 1) := by decide +kernel
theorem dJ3_checkFromToIndex_8c36e_6 : decode cJ3_checkFromToIndex_8c36e 6 = .ok (.if_icmp .gt 8, 3) := by decide +kernel
theorem dJ3_checkFromToIndex_8c36e_9 : decode cJ3_checkFromToIndex_8c36e 9 = .ok (.iload_n 1, 1) := by decide +kernel
theorem dJ3_checkFromToIndex_8c36e_10 : decode cJ3_checkFromToIndex_8c36e 10 = .ok (.iload_n 2, 1) := by decide +kernel
theorem dJ3_checkFromToIndex_8c36e_11 : decode cJ3_checkFromToIndex_8c36e 11 = .ok (.if_icmp .le 11, 3) := by decide +kernel
theorem dJ3_checkFromToIndex_8c36e_14 : decode cJ3_checkFromToIndex_8c36e 14 = .ok (.aload_n 3, 1) := by decide +kernel
theorem dJ3_checkFromToIndex_8c36e_15 : decode cJ3_checkFromToIndex_8c36e 15 = .ok (.iload_n 0, 1) := by decide +kernel
theorem dJ3_checkFromToIndex_8c36e_16 : decode cJ3_checkFromToIndex_8c36e 16 = .ok (.iload_n 1, 1) := by decide +kernel
theorem dJ3_checkFromToIndex_8c36e_17 : decode cJ3_checkFromToIndex_8c36e 17 = .ok (.iload_n 2, 1) := by decide +kernel
theorem dJ3_checkFromToIndex_8c36e_18 : decode cJ3_checkFromToIndex_8c36e 18 = .ok (.invokestatic 99, 3) := by decide +kernel
theorem dJ3_checkFromToIndex_8c36e_21 : decode cJ3_checkFromToIndex_8c36e 21 = .ok (.athrow, 1) := by decide +kernel
theorem dJ3_checkFromToIndex_8c36e_22 : decode cJ3_checkFromToIndex_8c36e 22 = .ok (.iload_n 0, 1) := by decide +kernel
theorem dJ3_checkFromToIndex_8c36e_23 : decode cJ3_checkFromToIndex_8c36e 23 = .ok (.ireturn, 1) := by decide +kernel
theorem dL_law_0 : decode cL_law 0 = .ok (.new 7, 3) := by decide +kernel
theorem dL_law_3 : decode cL_law 3 = .ok (.dup, 1) := by decide +kernel
theorem dL_law_4 : decode cL_law 4 = .ok (.invokespecial 9, 3) := by decide +kernel
theorem dL_law_7 : decode cL_law 7 = .ok (.astore_n 1, 1) := by decide +kernel
theorem dL_law_8 : decode cL_law 8 = .ok (.new 10, 3) := by decide +kernel
theorem dL_law_11 : decode cL_law 11 = .ok (.dup, 1) := by decide +kernel
theorem dL_law_12 : decode cL_law 12 = .ok (.invokespecial 12, 3) := by decide +kernel
theorem dL_law_15 : decode cL_law 15 = .ok (.astore_n 2, 1) := by decide +kernel
theorem dL_law_16 : decode cL_law 16 = .ok (.iconst 0, 1) := by decide +kernel
theorem dL_law_17 : decode cL_law 17 = .ok (.istore_n 3, 1) := by decide +kernel
theorem dL_law_18 : decode cL_law 18 = .ok (.iload_n 3, 1) := by decide +kernel
theorem dL_law_19 : decode cL_law 19 = .ok (.aload_n 0, 1) := by decide +kernel
theorem dL_law_20 : decode cL_law 20 = .ok (.arraylength, 1) := by decide +kernel
theorem dL_law_21 : decode cL_law 21 = .ok (.iconst 4, 1) := by decide +kernel
theorem dL_law_22 : decode cL_law 22 = .ok (.isub, 1) := by decide +kernel
theorem dL_law_23 : decode cL_law 23 = .ok (.if_icmp .gt 709, 3) := by decide +kernel
theorem dL_law_26 : decode cL_law 26 = .ok (.aload_n 0, 1) := by decide +kernel
theorem dL_law_27 : decode cL_law 27 = .ok (.iload_n 3, 1) := by decide +kernel
theorem dL_law_28 : decode cL_law 28 = .ok (.iaload, 1) := by decide +kernel
theorem dL_law_29 : decode cL_law 29 = .ok (.bipush 31, 2) := by decide +kernel
theorem dL_law_31 : decode cL_law 31 = .ok (.iand, 1) := by decide +kernel
theorem dL_law_32 : decode cL_law 32 = .ok (.tableswitch 694 0 22 #[108, 131, 144, 157, 170, 203, 236, 269, 292, 305, 338, 371, 404, 437, 460, 473, 516, 575, 588, 631, 644, 657, 680], 108) := by decide +kernel
theorem dL_law_140 : decode cL_law 140 = .ok (.aload_n 1, 1) := by decide +kernel
theorem dL_law_141 : decode cL_law 141 = .ok (.aload_n 0, 1) := by decide +kernel
theorem dL_law_142 : decode cL_law 142 = .ok (.iload_n 3, 1) := by decide +kernel
theorem dL_law_143 : decode cL_law 143 = .ok (.iconst 1, 1) := by decide +kernel
theorem dL_law_144 : decode cL_law 144 = .ok (.iadd, 1) := by decide +kernel
theorem dL_law_145 : decode cL_law 145 = .ok (.iaload, 1) := by decide +kernel
theorem dL_law_146 : decode cL_law 146 = .ok (.invokevirtual 13, 3) := by decide +kernel
theorem dL_law_149 : decode cL_law 149 = .ok (.aload_n 2, 1) := by decide +kernel
theorem dL_law_150 : decode cL_law 150 = .ok (.aload_n 0, 1) := by decide +kernel
theorem dL_law_151 : decode cL_law 151 = .ok (.iload_n 3, 1) := by decide +kernel
theorem dL_law_152 : decode cL_law 152 = .ok (.iconst 1, 1) := by decide +kernel
theorem dL_law_153 : decode cL_law 153 = .ok (.iadd, 1) := by decide +kernel
theorem dL_law_154 : decode cL_law 154 = .ok (.iaload, 1) := by decide +kernel
theorem dL_law_155 : decode cL_law 155 = .ok (.invokevirtual 17, 3) := by decide +kernel
theorem dL_law_158 : decode cL_law 158 = .ok (.if_icmp .eq 568, 3) := by decide +kernel
theorem dL_law_161 : decode cL_law 161 = .ok (.iconst 0, 1) := by decide +kernel
theorem dL_law_162 : decode cL_law 162 = .ok (.ireturn, 1) := by decide +kernel
theorem dL_law_163 : decode cL_law 163 = .ok (.aload_n 1, 1) := by decide +kernel
theorem dL_law_164 : decode cL_law 164 = .ok (.invokevirtual 18, 3) := by decide +kernel
theorem dL_law_167 : decode cL_law 167 = .ok (.aload_n 2, 1) := by decide +kernel
theorem dL_law_168 : decode cL_law 168 = .ok (.invokevirtual 22, 3) := by decide +kernel
theorem dL_law_171 : decode cL_law 171 = .ok (.if_icmp .eq 555, 3) := by decide +kernel
theorem dL_law_174 : decode cL_law 174 = .ok (.iconst 0, 1) := by decide +kernel
theorem dL_law_175 : decode cL_law 175 = .ok (.ireturn, 1) := by decide +kernel
theorem dL_law_176 : decode cL_law 176 = .ok (.aload_n 1, 1) := by decide +kernel
theorem dL_law_177 : decode cL_law 177 = .ok (.invokevirtual 23, 3) := by decide +kernel
theorem dL_law_180 : decode cL_law 180 = .ok (.aload_n 2, 1) := by decide +kernel
theorem dL_law_181 : decode cL_law 181 = .ok (.invokevirtual 26, 3) := by decide +kernel
theorem dL_law_184 : decode cL_law 184 = .ok (.if_icmp .eq 542, 3) := by decide +kernel
theorem dL_law_187 : decode cL_law 187 = .ok (.iconst 0, 1) := by decide +kernel
theorem dL_law_188 : decode cL_law 188 = .ok (.ireturn, 1) := by decide +kernel
theorem dL_law_189 : decode cL_law 189 = .ok (.aload_n 1, 1) := by decide +kernel
theorem dL_law_190 : decode cL_law 190 = .ok (.invokevirtual 27, 3) := by decide +kernel
theorem dL_law_193 : decode cL_law 193 = .ok (.aload_n 2, 1) := by decide +kernel
theorem dL_law_194 : decode cL_law 194 = .ok (.invokevirtual 30, 3) := by decide +kernel
theorem dL_law_197 : decode cL_law 197 = .ok (.if_icmp .eq 529, 3) := by decide +kernel
theorem dL_law_200 : decode cL_law 200 = .ok (.iconst 0, 1) := by decide +kernel
theorem dL_law_201 : decode cL_law 201 = .ok (.ireturn, 1) := by decide +kernel
theorem dL_law_202 : decode cL_law 202 = .ok (.aload_n 1, 1) := by decide +kernel
theorem dL_law_203 : decode cL_law 203 = .ok (.aload_n 0, 1) := by decide +kernel
theorem dL_law_204 : decode cL_law 204 = .ok (.iload_n 3, 1) := by decide +kernel
theorem dL_law_205 : decode cL_law 205 = .ok (.iconst 1, 1) := by decide +kernel
theorem dL_law_206 : decode cL_law 206 = .ok (.iadd, 1) := by decide +kernel
theorem dL_law_207 : decode cL_law 207 = .ok (.iaload, 1) := by decide +kernel
theorem dL_law_208 : decode cL_law 208 = .ok (.aload_n 0, 1) := by decide +kernel
theorem dL_law_209 : decode cL_law 209 = .ok (.iload_n 3, 1) := by decide +kernel
theorem dL_law_210 : decode cL_law 210 = .ok (.iconst 2, 1) := by decide +kernel
theorem dL_law_211 : decode cL_law 211 = .ok (.iadd, 1) := by decide +kernel
theorem dL_law_212 : decode cL_law 212 = .ok (.iaload, 1) := by decide +kernel
theorem dL_law_213 : decode cL_law 213 = .ok (.invokevirtual 31, 3) := by decide +kernel
theorem dL_law_216 : decode cL_law 216 = .ok (.aload_n 2, 1) := by decide +kernel
theorem dL_law_217 : decode cL_law 217 = .ok (.aload_n 0, 1) := by decide +kernel
theorem dL_law_218 : decode cL_law 218 = .ok (.iload_n 3, 1) := by decide +kernel
theorem dL_law_219 : decode cL_law 219 = .ok (.iconst 1, 1) := by decide +kernel
theorem dL_law_220 : decode cL_law 220 = .ok (.iadd, 1) := by decide +kernel
theorem dL_law_221 : decode cL_law 221 = .ok (.iaload, 1) := by decide +kernel
theorem dL_law_222 : decode cL_law 222 = .ok (.aload_n 0, 1) := by decide +kernel
theorem dL_law_223 : decode cL_law 223 = .ok (.iload_n 3, 1) := by decide +kernel
theorem dL_law_224 : decode cL_law 224 = .ok (.iconst 2, 1) := by decide +kernel
theorem dL_law_225 : decode cL_law 225 = .ok (.iadd, 1) := by decide +kernel
theorem dL_law_226 : decode cL_law 226 = .ok (.iaload, 1) := by decide +kernel
theorem dL_law_227 : decode cL_law 227 = .ok (.invokevirtual 35, 3) := by decide +kernel
theorem dL_law_230 : decode cL_law 230 = .ok (.if_icmp .eq 496, 3) := by decide +kernel
theorem dL_law_233 : decode cL_law 233 = .ok (.iconst 0, 1) := by decide +kernel
theorem dL_law_234 : decode cL_law 234 = .ok (.ireturn, 1) := by decide +kernel
theorem dL_law_235 : decode cL_law 235 = .ok (.aload_n 1, 1) := by decide +kernel
theorem dL_law_236 : decode cL_law 236 = .ok (.aload_n 0, 1) := by decide +kernel
theorem dL_law_237 : decode cL_law 237 = .ok (.iload_n 3, 1) := by decide +kernel
theorem dL_law_238 : decode cL_law 238 = .ok (.iconst 1, 1) := by decide +kernel
theorem dL_law_239 : decode cL_law 239 = .ok (.iadd, 1) := by decide +kernel
theorem dL_law_240 : decode cL_law 240 = .ok (.iaload, 1) := by decide +kernel
theorem dL_law_241 : decode cL_law 241 = .ok (.aload_n 0, 1) := by decide +kernel
theorem dL_law_242 : decode cL_law 242 = .ok (.iload_n 3, 1) := by decide +kernel
theorem dL_law_243 : decode cL_law 243 = .ok (.iconst 2, 1) := by decide +kernel
theorem dL_law_244 : decode cL_law 244 = .ok (.iadd, 1) := by decide +kernel
theorem dL_law_245 : decode cL_law 245 = .ok (.iaload, 1) := by decide +kernel
theorem dL_law_246 : decode cL_law 246 = .ok (.invokevirtual 36, 3) := by decide +kernel
theorem dL_law_249 : decode cL_law 249 = .ok (.aload_n 2, 1) := by decide +kernel
theorem dL_law_250 : decode cL_law 250 = .ok (.aload_n 0, 1) := by decide +kernel
theorem dL_law_251 : decode cL_law 251 = .ok (.iload_n 3, 1) := by decide +kernel
theorem dL_law_252 : decode cL_law 252 = .ok (.iconst 1, 1) := by decide +kernel
theorem dL_law_253 : decode cL_law 253 = .ok (.iadd, 1) := by decide +kernel
theorem dL_law_254 : decode cL_law 254 = .ok (.iaload, 1) := by decide +kernel
theorem dL_law_255 : decode cL_law 255 = .ok (.aload_n 0, 1) := by decide +kernel
theorem dL_law_256 : decode cL_law 256 = .ok (.iload_n 3, 1) := by decide +kernel
theorem dL_law_257 : decode cL_law 257 = .ok (.iconst 2, 1) := by decide +kernel
theorem dL_law_258 : decode cL_law 258 = .ok (.iadd, 1) := by decide +kernel
theorem dL_law_259 : decode cL_law 259 = .ok (.iaload, 1) := by decide +kernel
theorem dL_law_260 : decode cL_law 260 = .ok (.invokevirtual 39, 3) := by decide +kernel
theorem dL_law_263 : decode cL_law 263 = .ok (.if_icmp .eq 463, 3) := by decide +kernel
theorem dL_law_266 : decode cL_law 266 = .ok (.iconst 0, 1) := by decide +kernel
theorem dL_law_267 : decode cL_law 267 = .ok (.ireturn, 1) := by decide +kernel
theorem dL_law_268 : decode cL_law 268 = .ok (.aload_n 1, 1) := by decide +kernel
theorem dL_law_269 : decode cL_law 269 = .ok (.aload_n 0, 1) := by decide +kernel
theorem dL_law_270 : decode cL_law 270 = .ok (.iload_n 3, 1) := by decide +kernel
theorem dL_law_271 : decode cL_law 271 = .ok (.iconst 1, 1) := by decide +kernel
theorem dL_law_272 : decode cL_law 272 = .ok (.iadd, 1) := by decide +kernel
theorem dL_law_273 : decode cL_law 273 = .ok (.iaload, 1) := by decide +kernel
theorem dL_law_274 : decode cL_law 274 = .ok (.aload_n 0, 1) := by decide +kernel
theorem dL_law_275 : decode cL_law 275 = .ok (.iload_n 3, 1) := by decide +kernel
theorem dL_law_276 : decode cL_law 276 = .ok (.iconst 2, 1) := by decide +kernel
theorem dL_law_277 : decode cL_law 277 = .ok (.iadd, 1) := by decide +kernel
theorem dL_law_278 : decode cL_law 278 = .ok (.iaload, 1) := by decide +kernel
theorem dL_law_279 : decode cL_law 279 = .ok (.invokevirtual 40, 3) := by decide +kernel
theorem dL_law_282 : decode cL_law 282 = .ok (.aload_n 2, 1) := by decide +kernel
theorem dL_law_283 : decode cL_law 283 = .ok (.aload_n 0, 1) := by decide +kernel
theorem dL_law_284 : decode cL_law 284 = .ok (.iload_n 3, 1) := by decide +kernel
theorem dL_law_285 : decode cL_law 285 = .ok (.iconst 1, 1) := by decide +kernel
theorem dL_law_286 : decode cL_law 286 = .ok (.iadd, 1) := by decide +kernel
theorem dL_law_287 : decode cL_law 287 = .ok (.iaload, 1) := by decide +kernel
theorem dL_law_288 : decode cL_law 288 = .ok (.aload_n 0, 1) := by decide +kernel
theorem dL_law_289 : decode cL_law 289 = .ok (.iload_n 3, 1) := by decide +kernel
theorem dL_law_290 : decode cL_law 290 = .ok (.iconst 2, 1) := by decide +kernel
theorem dL_law_291 : decode cL_law 291 = .ok (.iadd, 1) := by decide +kernel
theorem dL_law_292 : decode cL_law 292 = .ok (.iaload, 1) := by decide +kernel
theorem dL_law_293 : decode cL_law 293 = .ok (.invokevirtual 43, 3) := by decide +kernel
theorem dL_law_296 : decode cL_law 296 = .ok (.if_icmp .eq 430, 3) := by decide +kernel
theorem dL_law_299 : decode cL_law 299 = .ok (.iconst 0, 1) := by decide +kernel
theorem dL_law_300 : decode cL_law 300 = .ok (.ireturn, 1) := by decide +kernel
theorem dL_law_301 : decode cL_law 301 = .ok (.aload_n 1, 1) := by decide +kernel
theorem dL_law_302 : decode cL_law 302 = .ok (.aload_n 0, 1) := by decide +kernel
theorem dL_law_303 : decode cL_law 303 = .ok (.iload_n 3, 1) := by decide +kernel
theorem dL_law_304 : decode cL_law 304 = .ok (.iconst 1, 1) := by decide +kernel
theorem dL_law_305 : decode cL_law 305 = .ok (.iadd, 1) := by decide +kernel
theorem dL_law_306 : decode cL_law 306 = .ok (.iaload, 1) := by decide +kernel
theorem dL_law_307 : decode cL_law 307 = .ok (.invokevirtual 44, 3) := by decide +kernel
theorem dL_law_310 : decode cL_law 310 = .ok (.aload_n 2, 1) := by decide +kernel
theorem dL_law_311 : decode cL_law 311 = .ok (.aload_n 0, 1) := by decide +kernel
theorem dL_law_312 : decode cL_law 312 = .ok (.iload_n 3, 1) := by decide +kernel
theorem dL_law_313 : decode cL_law 313 = .ok (.iconst 1, 1) := by decide +kernel
theorem dL_law_314 : decode cL_law 314 = .ok (.iadd, 1) := by decide +kernel
theorem dL_law_315 : decode cL_law 315 = .ok (.iaload, 1) := by decide +kernel
theorem dL_law_316 : decode cL_law 316 = .ok (.invokevirtual 47, 3) := by decide +kernel
theorem dL_law_319 : decode cL_law 319 = .ok (.if_icmp .eq 407, 3) := by decide +kernel
theorem dL_law_322 : decode cL_law 322 = .ok (.iconst 0, 1) := by decide +kernel
theorem dL_law_323 : decode cL_law 323 = .ok (.ireturn, 1) := by decide +kernel
theorem dL_law_324 : decode cL_law 324 = .ok (.aload_n 1, 1) := by decide +kernel
theorem dL_law_325 : decode cL_law 325 = .ok (.invokevirtual 48, 3) := by decide +kernel
theorem dL_law_328 : decode cL_law 328 = .ok (.aload_n 2, 1) := by decide +kernel
theorem dL_law_329 : decode cL_law 329 = .ok (.invokevirtual 51, 3) := by decide +kernel
theorem dL_law_332 : decode cL_law 332 = .ok (.if_icmp .eq 394, 3) := by decide +kernel
theorem dL_law_335 : decode cL_law 335 = .ok (.iconst 0, 1) := by decide +kernel
theorem dL_law_336 : decode cL_law 336 = .ok (.ireturn, 1) := by decide +kernel
theorem dL_law_337 : decode cL_law 337 = .ok (.aload_n 1, 1) := by decide +kernel
theorem dL_law_338 : decode cL_law 338 = .ok (.aload_n 0, 1) := by decide +kernel
theorem dL_law_339 : decode cL_law 339 = .ok (.iload_n 3, 1) := by decide +kernel
theorem dL_law_340 : decode cL_law 340 = .ok (.iconst 1, 1) := by decide +kernel
theorem dL_law_341 : decode cL_law 341 = .ok (.iadd, 1) := by decide +kernel
theorem dL_law_342 : decode cL_law 342 = .ok (.iaload, 1) := by decide +kernel
theorem dL_law_343 : decode cL_law 343 = .ok (.aload_n 0, 1) := by decide +kernel
theorem dL_law_344 : decode cL_law 344 = .ok (.iload_n 3, 1) := by decide +kernel
theorem dL_law_345 : decode cL_law 345 = .ok (.iconst 2, 1) := by decide +kernel
theorem dL_law_346 : decode cL_law 346 = .ok (.iadd, 1) := by decide +kernel
theorem dL_law_347 : decode cL_law 347 = .ok (.iaload, 1) := by decide +kernel
theorem dL_law_348 : decode cL_law 348 = .ok (.invokevirtual 52, 3) := by decide +kernel
theorem dL_law_351 : decode cL_law 351 = .ok (.aload_n 2, 1) := by decide +kernel
theorem dL_law_352 : decode cL_law 352 = .ok (.aload_n 0, 1) := by decide +kernel
theorem dL_law_353 : decode cL_law 353 = .ok (.iload_n 3, 1) := by decide +kernel
theorem dL_law_354 : decode cL_law 354 = .ok (.iconst 1, 1) := by decide +kernel
theorem dL_law_355 : decode cL_law 355 = .ok (.iadd, 1) := by decide +kernel
theorem dL_law_356 : decode cL_law 356 = .ok (.iaload, 1) := by decide +kernel
theorem dL_law_357 : decode cL_law 357 = .ok (.aload_n 0, 1) := by decide +kernel
theorem dL_law_358 : decode cL_law 358 = .ok (.iload_n 3, 1) := by decide +kernel
theorem dL_law_359 : decode cL_law 359 = .ok (.iconst 2, 1) := by decide +kernel
theorem dL_law_360 : decode cL_law 360 = .ok (.iadd, 1) := by decide +kernel
theorem dL_law_361 : decode cL_law 361 = .ok (.iaload, 1) := by decide +kernel
theorem dL_law_362 : decode cL_law 362 = .ok (.invokevirtual 55, 3) := by decide +kernel
theorem dL_law_365 : decode cL_law 365 = .ok (.if_icmp .eq 361, 3) := by decide +kernel
theorem dL_law_368 : decode cL_law 368 = .ok (.iconst 0, 1) := by decide +kernel
theorem dL_law_369 : decode cL_law 369 = .ok (.ireturn, 1) := by decide +kernel
theorem dL_law_370 : decode cL_law 370 = .ok (.aload_n 1, 1) := by decide +kernel
theorem dL_law_371 : decode cL_law 371 = .ok (.aload_n 0, 1) := by decide +kernel
theorem dL_law_372 : decode cL_law 372 = .ok (.iload_n 3, 1) := by decide +kernel
theorem dL_law_373 : decode cL_law 373 = .ok (.iconst 1, 1) := by decide +kernel
theorem dL_law_374 : decode cL_law 374 = .ok (.iadd, 1) := by decide +kernel
theorem dL_law_375 : decode cL_law 375 = .ok (.iaload, 1) := by decide +kernel
theorem dL_law_376 : decode cL_law 376 = .ok (.aload_n 0, 1) := by decide +kernel
theorem dL_law_377 : decode cL_law 377 = .ok (.iload_n 3, 1) := by decide +kernel
theorem dL_law_378 : decode cL_law 378 = .ok (.iconst 2, 1) := by decide +kernel
theorem dL_law_379 : decode cL_law 379 = .ok (.iadd, 1) := by decide +kernel
theorem dL_law_380 : decode cL_law 380 = .ok (.iaload, 1) := by decide +kernel
theorem dL_law_381 : decode cL_law 381 = .ok (.invokevirtual 56, 3) := by decide +kernel
theorem dL_law_384 : decode cL_law 384 = .ok (.aload_n 2, 1) := by decide +kernel
theorem dL_law_385 : decode cL_law 385 = .ok (.aload_n 0, 1) := by decide +kernel
theorem dL_law_386 : decode cL_law 386 = .ok (.iload_n 3, 1) := by decide +kernel
theorem dL_law_387 : decode cL_law 387 = .ok (.iconst 1, 1) := by decide +kernel
theorem dL_law_388 : decode cL_law 388 = .ok (.iadd, 1) := by decide +kernel
theorem dL_law_389 : decode cL_law 389 = .ok (.iaload, 1) := by decide +kernel
theorem dL_law_390 : decode cL_law 390 = .ok (.aload_n 0, 1) := by decide +kernel
theorem dL_law_391 : decode cL_law 391 = .ok (.iload_n 3, 1) := by decide +kernel
theorem dL_law_392 : decode cL_law 392 = .ok (.iconst 2, 1) := by decide +kernel
theorem dL_law_393 : decode cL_law 393 = .ok (.iadd, 1) := by decide +kernel
theorem dL_law_394 : decode cL_law 394 = .ok (.iaload, 1) := by decide +kernel
theorem dL_law_395 : decode cL_law 395 = .ok (.invokevirtual 59, 3) := by decide +kernel
theorem dL_law_398 : decode cL_law 398 = .ok (.if_icmp .eq 328, 3) := by decide +kernel
theorem dL_law_401 : decode cL_law 401 = .ok (.iconst 0, 1) := by decide +kernel
theorem dL_law_402 : decode cL_law 402 = .ok (.ireturn, 1) := by decide +kernel
theorem dL_law_403 : decode cL_law 403 = .ok (.aload_n 1, 1) := by decide +kernel
theorem dL_law_404 : decode cL_law 404 = .ok (.aload_n 0, 1) := by decide +kernel
theorem dL_law_405 : decode cL_law 405 = .ok (.iload_n 3, 1) := by decide +kernel
theorem dL_law_406 : decode cL_law 406 = .ok (.iconst 1, 1) := by decide +kernel
theorem dL_law_407 : decode cL_law 407 = .ok (.iadd, 1) := by decide +kernel
theorem dL_law_408 : decode cL_law 408 = .ok (.iaload, 1) := by decide +kernel
theorem dL_law_409 : decode cL_law 409 = .ok (.aload_n 0, 1) := by decide +kernel
theorem dL_law_410 : decode cL_law 410 = .ok (.iload_n 3, 1) := by decide +kernel
theorem dL_law_411 : decode cL_law 411 = .ok (.iconst 2, 1) := by decide +kernel
theorem dL_law_412 : decode cL_law 412 = .ok (.iadd, 1) := by decide +kernel
theorem dL_law_413 : decode cL_law 413 = .ok (.iaload, 1) := by decide +kernel
theorem dL_law_414 : decode cL_law 414 = .ok (.invokevirtual 60, 3) := by decide +kernel
theorem dL_law_417 : decode cL_law 417 = .ok (.aload_n 2, 1) := by decide +kernel
theorem dL_law_418 : decode cL_law 418 = .ok (.aload_n 0, 1) := by decide +kernel
theorem dL_law_419 : decode cL_law 419 = .ok (.iload_n 3, 1) := by decide +kernel
theorem dL_law_420 : decode cL_law 420 = .ok (.iconst 1, 1) := by decide +kernel
theorem dL_law_421 : decode cL_law 421 = .ok (.iadd, 1) := by decide +kernel
theorem dL_law_422 : decode cL_law 422 = .ok (.iaload, 1) := by decide +kernel
theorem dL_law_423 : decode cL_law 423 = .ok (.aload_n 0, 1) := by decide +kernel
theorem dL_law_424 : decode cL_law 424 = .ok (.iload_n 3, 1) := by decide +kernel
theorem dL_law_425 : decode cL_law 425 = .ok (.iconst 2, 1) := by decide +kernel
theorem dL_law_426 : decode cL_law 426 = .ok (.iadd, 1) := by decide +kernel
theorem dL_law_427 : decode cL_law 427 = .ok (.iaload, 1) := by decide +kernel
theorem dL_law_428 : decode cL_law 428 = .ok (.invokevirtual 63, 3) := by decide +kernel
theorem dL_law_431 : decode cL_law 431 = .ok (.if_icmp .eq 295, 3) := by decide +kernel
theorem dL_law_434 : decode cL_law 434 = .ok (.iconst 0, 1) := by decide +kernel
theorem dL_law_435 : decode cL_law 435 = .ok (.ireturn, 1) := by decide +kernel
theorem dL_law_436 : decode cL_law 436 = .ok (.aload_n 1, 1) := by decide +kernel
theorem dL_law_437 : decode cL_law 437 = .ok (.aload_n 0, 1) := by decide +kernel
theorem dL_law_438 : decode cL_law 438 = .ok (.iload_n 3, 1) := by decide +kernel
theorem dL_law_439 : decode cL_law 439 = .ok (.iconst 1, 1) := by decide +kernel
theorem dL_law_440 : decode cL_law 440 = .ok (.iadd, 1) := by decide +kernel
theorem dL_law_441 : decode cL_law 441 = .ok (.iaload, 1) := by decide +kernel
theorem dL_law_442 : decode cL_law 442 = .ok (.aload_n 0, 1) := by decide +kernel
theorem dL_law_443 : decode cL_law 443 = .ok (.iload_n 3, 1) := by decide +kernel
theorem dL_law_444 : decode cL_law 444 = .ok (.iconst 2, 1) := by decide +kernel
theorem dL_law_445 : decode cL_law 445 = .ok (.iadd, 1) := by decide +kernel
theorem dL_law_446 : decode cL_law 446 = .ok (.iaload, 1) := by decide +kernel
theorem dL_law_447 : decode cL_law 447 = .ok (.invokevirtual 64, 3) := by decide +kernel
theorem dL_law_450 : decode cL_law 450 = .ok (.aload_n 2, 1) := by decide +kernel
theorem dL_law_451 : decode cL_law 451 = .ok (.aload_n 0, 1) := by decide +kernel
theorem dL_law_452 : decode cL_law 452 = .ok (.iload_n 3, 1) := by decide +kernel
theorem dL_law_453 : decode cL_law 453 = .ok (.iconst 1, 1) := by decide +kernel
theorem dL_law_454 : decode cL_law 454 = .ok (.iadd, 1) := by decide +kernel
theorem dL_law_455 : decode cL_law 455 = .ok (.iaload, 1) := by decide +kernel
theorem dL_law_456 : decode cL_law 456 = .ok (.aload_n 0, 1) := by decide +kernel
theorem dL_law_457 : decode cL_law 457 = .ok (.iload_n 3, 1) := by decide +kernel
theorem dL_law_458 : decode cL_law 458 = .ok (.iconst 2, 1) := by decide +kernel
theorem dL_law_459 : decode cL_law 459 = .ok (.iadd, 1) := by decide +kernel
theorem dL_law_460 : decode cL_law 460 = .ok (.iaload, 1) := by decide +kernel
theorem dL_law_461 : decode cL_law 461 = .ok (.invokevirtual 67, 3) := by decide +kernel
theorem dL_law_464 : decode cL_law 464 = .ok (.if_icmp .eq 262, 3) := by decide +kernel
theorem dL_law_467 : decode cL_law 467 = .ok (.iconst 0, 1) := by decide +kernel
theorem dL_law_468 : decode cL_law 468 = .ok (.ireturn, 1) := by decide +kernel
theorem dL_law_469 : decode cL_law 469 = .ok (.aload_n 1, 1) := by decide +kernel
theorem dL_law_470 : decode cL_law 470 = .ok (.aload_n 0, 1) := by decide +kernel
theorem dL_law_471 : decode cL_law 471 = .ok (.iload_n 3, 1) := by decide +kernel
theorem dL_law_472 : decode cL_law 472 = .ok (.iconst 1, 1) := by decide +kernel
theorem dL_law_473 : decode cL_law 473 = .ok (.iadd, 1) := by decide +kernel
theorem dL_law_474 : decode cL_law 474 = .ok (.iaload, 1) := by decide +kernel
theorem dL_law_475 : decode cL_law 475 = .ok (.invokevirtual 68, 3) := by decide +kernel
theorem dL_law_478 : decode cL_law 478 = .ok (.aload_n 2, 1) := by decide +kernel
theorem dL_law_479 : decode cL_law 479 = .ok (.aload_n 0, 1) := by decide +kernel
theorem dL_law_480 : decode cL_law 480 = .ok (.iload_n 3, 1) := by decide +kernel
theorem dL_law_481 : decode cL_law 481 = .ok (.iconst 1, 1) := by decide +kernel
theorem dL_law_482 : decode cL_law 482 = .ok (.iadd, 1) := by decide +kernel
theorem dL_law_483 : decode cL_law 483 = .ok (.iaload, 1) := by decide +kernel
theorem dL_law_484 : decode cL_law 484 = .ok (.invokevirtual 71, 3) := by decide +kernel
theorem dL_law_487 : decode cL_law 487 = .ok (.if_icmp .eq 239, 3) := by decide +kernel
theorem dL_law_490 : decode cL_law 490 = .ok (.iconst 0, 1) := by decide +kernel
theorem dL_law_491 : decode cL_law 491 = .ok (.ireturn, 1) := by decide +kernel
theorem dL_law_492 : decode cL_law 492 = .ok (.aload_n 1, 1) := by decide +kernel
theorem dL_law_493 : decode cL_law 493 = .ok (.invokevirtual 72, 3) := by decide +kernel
theorem dL_law_496 : decode cL_law 496 = .ok (.aload_n 2, 1) := by decide +kernel
theorem dL_law_497 : decode cL_law 497 = .ok (.invokevirtual 75, 3) := by decide +kernel
theorem dL_law_500 : decode cL_law 500 = .ok (.if_icmp .eq 226, 3) := by decide +kernel
theorem dL_law_503 : decode cL_law 503 = .ok (.iconst 0, 1) := by decide +kernel
theorem dL_law_504 : decode cL_law 504 = .ok (.ireturn, 1) := by decide +kernel
theorem dL_law_505 : decode cL_law 505 = .ok (.aload_n 1, 1) := by decide +kernel
theorem dL_law_506 : decode cL_law 506 = .ok (.aload_n 0, 1) := by decide +kernel
theorem dL_law_507 : decode cL_law 507 = .ok (.iload_n 3, 1) := by decide +kernel
theorem dL_law_508 : decode cL_law 508 = .ok (.iconst 1, 1) := by decide +kernel
theorem dL_law_509 : decode cL_law 509 = .ok (.iadd, 1) := by decide +kernel
theorem dL_law_510 : decode cL_law 510 = .ok (.iaload, 1) := by decide +kernel
theorem dL_law_511 : decode cL_law 511 = .ok (.aload_n 0, 1) := by decide +kernel
theorem dL_law_512 : decode cL_law 512 = .ok (.iload_n 3, 1) := by decide +kernel
theorem dL_law_513 : decode cL_law 513 = .ok (.iconst 2, 1) := by decide +kernel
theorem dL_law_514 : decode cL_law 514 = .ok (.iadd, 1) := by decide +kernel
theorem dL_law_515 : decode cL_law 515 = .ok (.iaload, 1) := by decide +kernel
theorem dL_law_516 : decode cL_law 516 = .ok (.aload_n 0, 1) := by decide +kernel
theorem dL_law_517 : decode cL_law 517 = .ok (.iload_n 3, 1) := by decide +kernel
theorem dL_law_518 : decode cL_law 518 = .ok (.iconst 3, 1) := by decide +kernel
theorem dL_law_519 : decode cL_law 519 = .ok (.iadd, 1) := by decide +kernel
theorem dL_law_520 : decode cL_law 520 = .ok (.iaload, 1) := by decide +kernel
theorem dL_law_521 : decode cL_law 521 = .ok (.invokevirtual 76, 3) := by decide +kernel
theorem dL_law_524 : decode cL_law 524 = .ok (.aload_n 2, 1) := by decide +kernel
theorem dL_law_525 : decode cL_law 525 = .ok (.aload_n 0, 1) := by decide +kernel
theorem dL_law_526 : decode cL_law 526 = .ok (.iload_n 3, 1) := by decide +kernel
theorem dL_law_527 : decode cL_law 527 = .ok (.iconst 1, 1) := by decide +kernel
theorem dL_law_528 : decode cL_law 528 = .ok (.iadd, 1) := by decide +kernel
theorem dL_law_529 : decode cL_law 529 = .ok (.iaload, 1) := by decide +kernel
theorem dL_law_530 : decode cL_law 530 = .ok (.aload_n 0, 1) := by decide +kernel
theorem dL_law_531 : decode cL_law 531 = .ok (.iload_n 3, 1) := by decide +kernel
theorem dL_law_532 : decode cL_law 532 = .ok (.iconst 2, 1) := by decide +kernel
theorem dL_law_533 : decode cL_law 533 = .ok (.iadd, 1) := by decide +kernel
theorem dL_law_534 : decode cL_law 534 = .ok (.iaload, 1) := by decide +kernel
theorem dL_law_535 : decode cL_law 535 = .ok (.aload_n 0, 1) := by decide +kernel
theorem dL_law_536 : decode cL_law 536 = .ok (.iload_n 3, 1) := by decide +kernel
theorem dL_law_537 : decode cL_law 537 = .ok (.iconst 3, 1) := by decide +kernel
theorem dL_law_538 : decode cL_law 538 = .ok (.iadd, 1) := by decide +kernel
theorem dL_law_539 : decode cL_law 539 = .ok (.iaload, 1) := by decide +kernel
theorem dL_law_540 : decode cL_law 540 = .ok (.invokevirtual 80, 3) := by decide +kernel
theorem dL_law_543 : decode cL_law 543 = .ok (.if_icmp .eq 183, 3) := by decide +kernel
theorem dL_law_546 : decode cL_law 546 = .ok (.iconst 0, 1) := by decide +kernel
theorem dL_law_547 : decode cL_law 547 = .ok (.ireturn, 1) := by decide +kernel
theorem dL_law_548 : decode cL_law 548 = .ok (.aload_n 1, 1) := by decide +kernel
theorem dL_law_549 : decode cL_law 549 = .ok (.aload_n 0, 1) := by decide +kernel
theorem dL_law_550 : decode cL_law 550 = .ok (.iload_n 3, 1) := by decide +kernel
theorem dL_law_551 : decode cL_law 551 = .ok (.iconst 1, 1) := by decide +kernel
theorem dL_law_552 : decode cL_law 552 = .ok (.iadd, 1) := by decide +kernel
theorem dL_law_553 : decode cL_law 553 = .ok (.iaload, 1) := by decide +kernel
theorem dL_law_554 : decode cL_law 554 = .ok (.aload_n 0, 1) := by decide +kernel
theorem dL_law_555 : decode cL_law 555 = .ok (.iload_n 3, 1) := by decide +kernel
theorem dL_law_556 : decode cL_law 556 = .ok (.iconst 2, 1) := by decide +kernel
theorem dL_law_557 : decode cL_law 557 = .ok (.iadd, 1) := by decide +kernel
theorem dL_law_558 : decode cL_law 558 = .ok (.iaload, 1) := by decide +kernel
theorem dL_law_559 : decode cL_law 559 = .ok (.aload_n 0, 1) := by decide +kernel
theorem dL_law_560 : decode cL_law 560 = .ok (.iload_n 3, 1) := by decide +kernel
theorem dL_law_561 : decode cL_law 561 = .ok (.iconst 3, 1) := by decide +kernel
theorem dL_law_562 : decode cL_law 562 = .ok (.iadd, 1) := by decide +kernel
theorem dL_law_563 : decode cL_law 563 = .ok (.iaload, 1) := by decide +kernel
theorem dL_law_564 : decode cL_law 564 = .ok (.ifCond .eq 7, 3) := by decide +kernel
theorem dL_law_567 : decode cL_law 567 = .ok (.iconst 1, 1) := by decide +kernel
theorem dL_law_568 : decode cL_law 568 = .ok (.goto 4, 3) := by decide +kernel
theorem dL_law_571 : decode cL_law 571 = .ok (.iconst 0, 1) := by decide +kernel
theorem dL_law_572 : decode cL_law 572 = .ok (.invokevirtual 81, 3) := by decide +kernel
theorem dL_law_575 : decode cL_law 575 = .ok (.aload_n 2, 1) := by decide +kernel
theorem dL_law_576 : decode cL_law 576 = .ok (.aload_n 0, 1) := by decide +kernel
theorem dL_law_577 : decode cL_law 577 = .ok (.iload_n 3, 1) := by decide +kernel
theorem dL_law_578 : decode cL_law 578 = .ok (.iconst 1, 1) := by decide +kernel
theorem dL_law_579 : decode cL_law 579 = .ok (.iadd, 1) := by decide +kernel
theorem dL_law_580 : decode cL_law 580 = .ok (.iaload, 1) := by decide +kernel
theorem dL_law_581 : decode cL_law 581 = .ok (.aload_n 0, 1) := by decide +kernel
theorem dL_law_582 : decode cL_law 582 = .ok (.iload_n 3, 1) := by decide +kernel
theorem dL_law_583 : decode cL_law 583 = .ok (.iconst 2, 1) := by decide +kernel
theorem dL_law_584 : decode cL_law 584 = .ok (.iadd, 1) := by decide +kernel
theorem dL_law_585 : decode cL_law 585 = .ok (.iaload, 1) := by decide +kernel
theorem dL_law_586 : decode cL_law 586 = .ok (.aload_n 0, 1) := by decide +kernel
theorem dL_law_587 : decode cL_law 587 = .ok (.iload_n 3, 1) := by decide +kernel
theorem dL_law_588 : decode cL_law 588 = .ok (.iconst 3, 1) := by decide +kernel
theorem dL_law_589 : decode cL_law 589 = .ok (.iadd, 1) := by decide +kernel
theorem dL_law_590 : decode cL_law 590 = .ok (.iaload, 1) := by decide +kernel
theorem dL_law_591 : decode cL_law 591 = .ok (.ifCond .eq 7, 3) := by decide +kernel
theorem dL_law_594 : decode cL_law 594 = .ok (.iconst 1, 1) := by decide +kernel
theorem dL_law_595 : decode cL_law 595 = .ok (.goto 4, 3) := by decide +kernel
theorem dL_law_598 : decode cL_law 598 = .ok (.iconst 0, 1) := by decide +kernel
theorem dL_law_599 : decode cL_law 599 = .ok (.invokevirtual 85, 3) := by decide +kernel
theorem dL_law_602 : decode cL_law 602 = .ok (.if_icmp .eq 124, 3) := by decide +kernel
theorem dL_law_605 : decode cL_law 605 = .ok (.iconst 0, 1) := by decide +kernel
theorem dL_law_606 : decode cL_law 606 = .ok (.ireturn, 1) := by decide +kernel
theorem dL_law_607 : decode cL_law 607 = .ok (.aload_n 1, 1) := by decide +kernel
theorem dL_law_608 : decode cL_law 608 = .ok (.invokevirtual 86, 3) := by decide +kernel
theorem dL_law_611 : decode cL_law 611 = .ok (.aload_n 2, 1) := by decide +kernel
theorem dL_law_612 : decode cL_law 612 = .ok (.invokevirtual 89, 3) := by decide +kernel
theorem dL_law_615 : decode cL_law 615 = .ok (.if_icmp .eq 111, 3) := by decide +kernel
theorem dL_law_618 : decode cL_law 618 = .ok (.iconst 0, 1) := by decide +kernel
theorem dL_law_619 : decode cL_law 619 = .ok (.ireturn, 1) := by decide +kernel
theorem dL_law_620 : decode cL_law 620 = .ok (.aload_n 1, 1) := by decide +kernel
theorem dL_law_621 : decode cL_law 621 = .ok (.aload_n 0, 1) := by decide +kernel
theorem dL_law_622 : decode cL_law 622 = .ok (.iload_n 3, 1) := by decide +kernel
theorem dL_law_623 : decode cL_law 623 = .ok (.iconst 1, 1) := by decide +kernel
theorem dL_law_624 : decode cL_law 624 = .ok (.iadd, 1) := by decide +kernel
theorem dL_law_625 : decode cL_law 625 = .ok (.iaload, 1) := by decide +kernel
theorem dL_law_626 : decode cL_law 626 = .ok (.aload_n 0, 1) := by decide +kernel
theorem dL_law_627 : decode cL_law 627 = .ok (.iload_n 3, 1) := by decide +kernel
theorem dL_law_628 : decode cL_law 628 = .ok (.iconst 2, 1) := by decide +kernel
theorem dL_law_629 : decode cL_law 629 = .ok (.iadd, 1) := by decide +kernel
theorem dL_law_630 : decode cL_law 630 = .ok (.iaload, 1) := by decide +kernel
theorem dL_law_631 : decode cL_law 631 = .ok (.aload_n 0, 1) := by decide +kernel
theorem dL_law_632 : decode cL_law 632 = .ok (.iload_n 3, 1) := by decide +kernel
theorem dL_law_633 : decode cL_law 633 = .ok (.iconst 3, 1) := by decide +kernel
theorem dL_law_634 : decode cL_law 634 = .ok (.iadd, 1) := by decide +kernel
theorem dL_law_635 : decode cL_law 635 = .ok (.iaload, 1) := by decide +kernel
theorem dL_law_636 : decode cL_law 636 = .ok (.invokevirtual 90, 3) := by decide +kernel
theorem dL_law_639 : decode cL_law 639 = .ok (.aload_n 2, 1) := by decide +kernel
theorem dL_law_640 : decode cL_law 640 = .ok (.aload_n 0, 1) := by decide +kernel
theorem dL_law_641 : decode cL_law 641 = .ok (.iload_n 3, 1) := by decide +kernel
theorem dL_law_642 : decode cL_law 642 = .ok (.iconst 1, 1) := by decide +kernel
theorem dL_law_643 : decode cL_law 643 = .ok (.iadd, 1) := by decide +kernel
theorem dL_law_644 : decode cL_law 644 = .ok (.iaload, 1) := by decide +kernel
theorem dL_law_645 : decode cL_law 645 = .ok (.aload_n 0, 1) := by decide +kernel
theorem dL_law_646 : decode cL_law 646 = .ok (.iload_n 3, 1) := by decide +kernel
theorem dL_law_647 : decode cL_law 647 = .ok (.iconst 2, 1) := by decide +kernel
theorem dL_law_648 : decode cL_law 648 = .ok (.iadd, 1) := by decide +kernel
theorem dL_law_649 : decode cL_law 649 = .ok (.iaload, 1) := by decide +kernel
theorem dL_law_650 : decode cL_law 650 = .ok (.aload_n 0, 1) := by decide +kernel
theorem dL_law_651 : decode cL_law 651 = .ok (.iload_n 3, 1) := by decide +kernel
theorem dL_law_652 : decode cL_law 652 = .ok (.iconst 3, 1) := by decide +kernel
theorem dL_law_653 : decode cL_law 653 = .ok (.iadd, 1) := by decide +kernel
theorem dL_law_654 : decode cL_law 654 = .ok (.iaload, 1) := by decide +kernel
theorem dL_law_655 : decode cL_law 655 = .ok (.invokevirtual 93, 3) := by decide +kernel
theorem dL_law_658 : decode cL_law 658 = .ok (.if_icmp .eq 68, 3) := by decide +kernel
theorem dL_law_661 : decode cL_law 661 = .ok (.iconst 0, 1) := by decide +kernel
theorem dL_law_662 : decode cL_law 662 = .ok (.ireturn, 1) := by decide +kernel
theorem dL_law_663 : decode cL_law 663 = .ok (.aload_n 1, 1) := by decide +kernel
theorem dL_law_664 : decode cL_law 664 = .ok (.invokevirtual 94, 3) := by decide +kernel
theorem dL_law_667 : decode cL_law 667 = .ok (.aload_n 2, 1) := by decide +kernel
theorem dL_law_668 : decode cL_law 668 = .ok (.invokevirtual 97, 3) := by decide +kernel
theorem dL_law_671 : decode cL_law 671 = .ok (.if_icmp .eq 55, 3) := by decide +kernel
theorem dL_law_674 : decode cL_law 674 = .ok (.iconst 0, 1) := by decide +kernel
theorem dL_law_675 : decode cL_law 675 = .ok (.ireturn, 1) := by decide +kernel
theorem dL_law_676 : decode cL_law 676 = .ok (.aload_n 1, 1) := by decide +kernel
theorem dL_law_677 : decode cL_law 677 = .ok (.invokevirtual 98, 3) := by decide +kernel
theorem dL_law_680 : decode cL_law 680 = .ok (.aload_n 2, 1) := by decide +kernel
theorem dL_law_681 : decode cL_law 681 = .ok (.invokevirtual 101, 3) := by decide +kernel
theorem dL_law_684 : decode cL_law 684 = .ok (.if_icmp .eq 42, 3) := by decide +kernel
theorem dL_law_687 : decode cL_law 687 = .ok (.iconst 0, 1) := by decide +kernel
theorem dL_law_688 : decode cL_law 688 = .ok (.ireturn, 1) := by decide +kernel
theorem dL_law_689 : decode cL_law 689 = .ok (.aload_n 1, 1) := by decide +kernel
theorem dL_law_690 : decode cL_law 690 = .ok (.aload_n 0, 1) := by decide +kernel
theorem dL_law_691 : decode cL_law 691 = .ok (.iload_n 3, 1) := by decide +kernel
theorem dL_law_692 : decode cL_law 692 = .ok (.iconst 1, 1) := by decide +kernel
theorem dL_law_693 : decode cL_law 693 = .ok (.iadd, 1) := by decide +kernel
theorem dL_law_694 : decode cL_law 694 = .ok (.iaload, 1) := by decide +kernel
theorem dL_law_695 : decode cL_law 695 = .ok (.invokevirtual 102, 3) := by decide +kernel
theorem dL_law_698 : decode cL_law 698 = .ok (.aload_n 2, 1) := by decide +kernel
theorem dL_law_699 : decode cL_law 699 = .ok (.aload_n 0, 1) := by decide +kernel
theorem dL_law_700 : decode cL_law 700 = .ok (.iload_n 3, 1) := by decide +kernel
theorem dL_law_701 : decode cL_law 701 = .ok (.iconst 1, 1) := by decide +kernel
theorem dL_law_702 : decode cL_law 702 = .ok (.iadd, 1) := by decide +kernel
theorem dL_law_703 : decode cL_law 703 = .ok (.iaload, 1) := by decide +kernel
theorem dL_law_704 : decode cL_law 704 = .ok (.invokevirtual 105, 3) := by decide +kernel
theorem dL_law_707 : decode cL_law 707 = .ok (.if_icmp .eq 19, 3) := by decide +kernel
theorem dL_law_710 : decode cL_law 710 = .ok (.iconst 0, 1) := by decide +kernel
theorem dL_law_711 : decode cL_law 711 = .ok (.ireturn, 1) := by decide +kernel
theorem dL_law_712 : decode cL_law 712 = .ok (.aload_n 1, 1) := by decide +kernel
theorem dL_law_713 : decode cL_law 713 = .ok (.invokevirtual 106, 3) := by decide +kernel
theorem dL_law_716 : decode cL_law 716 = .ok (.aload_n 2, 1) := by decide +kernel
theorem dL_law_717 : decode cL_law 717 = .ok (.invokevirtual 110, 3) := by decide +kernel
theorem dL_law_720 : decode cL_law 720 = .ok (.lcmp, 1) := by decide +kernel
theorem dL_law_721 : decode cL_law 721 = .ok (.ifCond .eq 5, 3) := by decide +kernel
theorem dL_law_724 : decode cL_law 724 = .ok (.iconst 0, 1) := by decide +kernel
theorem dL_law_725 : decode cL_law 725 = .ok (.ireturn, 1) := by decide +kernel
theorem dL_law_726 : decode cL_law 726 = .ok (.iinc 3 4, 3) := by decide +kernel
theorem dL_law_729 : decode cL_law 729 = .ok (.goto (-711), 3) := by decide +kernel
theorem dL_law_732 : decode cL_law 732 = .ok (.iconst 1, 1) := by decide +kernel
theorem dL_law_733 : decode cL_law 733 = .ok (.ireturn, 1) := by decide +kernel
