theorem f0 {U : State} (h : FX U) : va_Nw (.selects RX5 yX5_canStand yX5_canStand) U := h.at 0 (by decide +kernel) rfl
theorem f1 {U : State} (h : FX U) : va_Nw (.selects RX5 yX5_step yX5_step) U := h.at 1 (by decide +kernel) rfl
theorem f2 {U : State} (h : FX U) : va_Nw (.selects RX5 yX5_placeOf yX5_placeOf) U := h.at 2 (by decide +kernel) rfl
theorem f3 {U : State} (h : FX U) : va_Nw (.selects RX8 yX8_isPlayer yX8_isPlayer) U := h.at 3 (by decide +kernel) rfl
theorem f4 {U : State} (h : FX U) : va_Nw (.selects RX8 yX8_rowsHitBy yX8_rowsHitBy) U := h.at 4 (by decide +kernel) rfl
theorem f5 {U : State} (h : FX U) : va_Nw (.selects RX8 yX8_kindAt yX8_kindAt) U := h.at 5 (by decide +kernel) rfl
theorem f6 {U : State} (h : FX U) : va_Nw (.selects RX8 yX8_isKind yX8_isKind) U := h.at 6 (by decide +kernel) rfl
theorem f7 {U : State} (h : FX U) : va_Nw (.selects RX7 yX7_run yX7_run) U := h.at 7 (by decide +kernel) rfl
theorem f8 {U : State} (h : FX U) : va_Nw (.selects RX7 yX7_setRows yX7_setRows) U := h.at 8 (by decide +kernel) rfl
theorem f9 {U : State} (h : FX U) : va_Nw (.selects RX7 yX7_setSums yX7_setSums) U := h.at 9 (by decide +kernel) rfl
theorem f10 {U : State} (h : FX U) : va_Nw (.selects RX7 yX7_eliminate yX7_eliminate) U := h.at 10 (by decide +kernel) rfl
theorem f11 {U : State} (h : FX U) : va_Nw (.selects RX7 yX7_sharesOf yX7_sharesOf) U := h.at 11 (by decide +kernel) rfl
theorem f12 {U : State} (h : FX U) : va_Nw (.selects RX8 yX8_rowsLeft yX8_rowsLeft) U := h.at 12 (by decide +kernel) rfl
theorem f13 {U : State} (h : FX U) : va_Nw (.selects RX8 yX8_betsThatHit yX8_betsThatHit) U := h.at 13 (by decide +kernel) rfl
theorem f14 {U : State} (h : FX U) : va_Nw (.selects RX8 yX8_nextTry yX8_nextTry) U := h.at 14 (by decide +kernel) rfl
theorem f15 {U : State} (h : FX U) : va_Nw (.selects RX8 yX8_isRow yX8_isRow) U := h.at 15 (by decide +kernel) rfl
theorem f16 {U : State} (h : FX U) : va_Nw (.selects RX8 yX8_trackBehind yX8_trackBehind) U := h.at 16 (by decide +kernel) rfl
theorem f17 {U : State} (h : FX U) : va_Nw (.selects RX8 yX8_hittersAt yX8_hittersAt) U := h.at 17 (by decide +kernel) rfl
theorem f18 {U : State} (h : FX U) : va_Nw (.selects RX8 yX8_tailOf yX8_tailOf) U := h.at 18 (by decide +kernel) rfl
theorem f19 {U : State} (h : FX U) : va_Nw (.selects RX8 yX8_bestAgainst yX8_bestAgainst) U := h.at 19 (by decide +kernel) rfl
theorem f20 {U : State} (h : FX U) : va_Nw (.selects RX8 yX8_bestToOpen yX8_bestToOpen) U := h.at 20 (by decide +kernel) rfl
theorem f21 {U : State} (h : FX U) : va_Nw (.selects RX8 yX8_dangerOf yX8_dangerOf) U := h.at 21 (by decide +kernel) rfl
theorem f22 {U : State} (h : FX U) : va_Nw (.selects RX8 yX8_whoBeatsWhom yX8_whoBeatsWhom) U := h.at 22 (by decide +kernel) rfl
theorem f23 {U : State} (h : FX U) : va_Nw (.selects RX8 yX8_waysToWin yX8_waysToWin) U := h.at 23 (by decide +kernel) rfl
theorem f24 {U : State} (h : FX U) : va_Nw (.selects RX8 yX8_winsByToss yX8_winsByToss) U := h.at 24 (by decide +kernel) rfl
theorem f25 {U : State} (h : FX U) : va_Nw (.selects RX8 yX8_mostWins yX8_mostWins) U := h.at 25 (by decide +kernel) rfl
theorem f26 {U : State} (h : FX U) : va_Nw (.selects RX9 yX9_read yX9_read) U := h.at 26 (by decide +kernel) rfl
theorem f27 {U : State} (h : FX U) : va_Nw (.selects RX9 yX9_at yX9_at) U := h.at 27 (by decide +kernel) rfl
theorem f28 {U : State} (h : FX U) : va_Nw (.selects RX9 yX9_readPlayer yX9_readPlayer) U := h.at 28 (by decide +kernel) rfl
theorem f29 {U : State} (h : FX U) : va_Nw (.selects RX9 yX9_rowAt yX9_rowAt) U := h.at 29 (by decide +kernel) rfl
theorem f30 {U : State} (h : FX U) : va_Nw (.selects RX9 yX9_isPlayer yX9_isPlayer) U := h.at 30 (by decide +kernel) rfl
theorem f31 {U : State} (h : FX U) : va_Nw (.selects RX9 yX9_playerNow yX9_playerNow) U := h.at 31 (by decide +kernel) rfl
theorem f32 {U : State} (h : FX U) : va_Nw (.selects RX9 yX9_hitsOf yX9_hitsOf) U := h.at 32 (by decide +kernel) rfl
theorem f33 {U : State} (h : FX U) : va_Nw (.selects RX9 yX9_hitsBy yX9_hitsBy) U := h.at 33 (by decide +kernel) rfl
theorem f34 {U : State} (h : FX U) : va_Nw (.selects RX9 yX9_rows yX9_rows) U := h.at 34 (by decide +kernel) rfl
theorem f35 {U : State} (h : FX U) : va_Nw (.selects RX9 yX9_turned yX9_turned) U := h.at 35 (by decide +kernel) rfl
theorem f36 {U : State} (h : FX U) : va_Nw (.selects RX9 yX9_waitOf yX9_waitOf) U := h.at 36 (by decide +kernel) rfl
theorem f37 {U : State} (h : FX U) : va_Nw (.selects RX9 yX9_unknowns yX9_unknowns) U := h.at 37 (by decide +kernel) rfl
theorem f38 {U : State} (h : FX U) : va_Nw (.selects RX9 yX9_clear yX9_clear) U := h.at 38 (by decide +kernel) rfl
theorem f39 {U : State} (h : FX U) : va_Nw (.selects RX9 yX9_solve yX9_solve) U := h.at 39 (by decide +kernel) rfl
theorem f40 {U : State} (h : FX U) : va_Nw (.selects RX9 yX9_exchange yX9_exchange) U := h.at 40 (by decide +kernel) rfl
theorem f41 {U : State} (h : FX U) : va_Nw (.selects RX9 yX9_eliminate yX9_eliminate) U := h.at 41 (by decide +kernel) rfl
theorem f42 {U : State} (h : FX U) : va_Nw (.selects RX9 yX9_middle yX9_middle) U := h.at 42 (by decide +kernel) rfl
theorem f43 {U : State} (h : FX U) : va_Nw (.selects RX9 yX9_rowsOf yX9_rowsOf) U := h.at 43 (by decide +kernel) rfl
theorem f44 {U : State} (h : FX U) : va_Nw (.selects RX9 yX9_tryFor yX9_tryFor) U := h.at 44 (by decide +kernel) rfl
theorem f45 {U : State} (h : FX U) : va_Nw (.selects RX9 yX9_isRow yX9_isRow) U := h.at 45 (by decide +kernel) rfl
theorem f46 {U : State} (h : FX U) : va_Nw (.selects RX9 yX9_whoHits yX9_whoHits) U := h.at 46 (by decide +kernel) rfl
theorem f47 {U : State} (h : FX U) : va_Nw (.selects RX9 yX9_duelNow yX9_duelNow) U := h.at 47 (by decide +kernel) rfl
theorem f48 {U : State} (h : FX U) : va_Nw (.selects RX9 yX9_duelOf yX9_duelOf) U := h.at 48 (by decide +kernel) rfl
theorem f49 {U : State} (h : FX U) : va_Nw (.selects RX9 yX9_answerNow yX9_answerNow) U := h.at 49 (by decide +kernel) rfl
theorem f50 {U : State} (h : FX U) : va_Nw (.selects RX9 yX9_openNow yX9_openNow) U := h.at 50 (by decide +kernel) rfl
theorem f51 {U : State} (h : FX U) : va_Nw (.selects RX9 yX9_mostAgainst yX9_mostAgainst) U := h.at 51 (by decide +kernel) rfl
theorem f52 {U : State} (h : FX U) : va_Nw (.selects RX9 yX9_ringNow yX9_ringNow) U := h.at 52 (by decide +kernel) rfl
theorem f53 {U : State} (h : FX U) : va_Nw (.selects RX9 yX9_layBeats yX9_layBeats) U := h.at 53 (by decide +kernel) rfl
theorem f54 {U : State} (h : FX U) : va_Nw (.selects RX9 yX9_isRound yX9_isRound) U := h.at 54 (by decide +kernel) rfl
theorem f55 {U : State} (h : FX U) : va_Nw (.selects RX9 yX9_isRoundOfFour yX9_isRoundOfFour) U := h.at 55 (by decide +kernel) rfl
theorem f56 {U : State} (h : FX U) : va_Nw (.selects RX9 yX9_oddsNow yX9_oddsNow) U := h.at 56 (by decide +kernel) rfl
theorem f57 {U : State} (h : FX U) : va_Nw (.selects RX9 yX9_stateNow yX9_stateNow) U := h.at 57 (by decide +kernel) rfl
theorem f58 {U : State} (h : FX U) : va_Nw (.selects RX9 yX9_tossWays yX9_tossWays) U := h.at 58 (by decide +kernel) rfl
theorem f59 {U : State} (h : FX U) : va_Nw (.selects RX9 yX9_behind yX9_behind) U := h.at 59 (by decide +kernel) rfl
theorem f60 {U : State} (h : FX U) : va_Nw (.selects RX9 yX9_gamesNow yX9_gamesNow) U := h.at 60 (by decide +kernel) rfl
theorem f61 {U : State} (h : FX U) : va_Nw (.selects RX9 yX9_draw yX9_draw) U := h.at 61 (by decide +kernel) rfl
theorem f62 {U : State} (h : FX U) : va_Nw (.selects RX9 yX9_mostWon yX9_mostWon) U := h.at 62 (by decide +kernel) rfl
theorem f63 {U : State} (h : FX U) : va_Nw (.selects RX9 yX9_howMany yX9_howMany) U := h.at 63 (by decide +kernel) rfl
theorem f64 {U : State} (h : FX U) : va_Nw (.selects RX9 yX9_tailNow yX9_tailNow) U := h.at 64 (by decide +kernel) rfl
theorem f65 {U : State} (h : FX U) : va_Nw (.selects RX9 yX9_wonByAll yX9_wonByAll) U := h.at 65 (by decide +kernel) rfl
theorem f66 {U : State} (h : FX U) : va_Nw (.selects RX9 yX9_mixPlayer yX9_mixPlayer) U := h.at 66 (by decide +kernel) rfl
theorem f67 {U : State} (h : FX U) : va_Nw (.selects RX9 yX9_mix yX9_mix) U := h.at 67 (by decide +kernel) rfl
theorem f69 {U : State} (h : FX U) : va_Nw (.initialized RX8) U := h.at 69 (by decide +kernel) rfl
theorem f70 {U : State} (h : FX U) : va_Nw (.initialized RX5) U := h.at 70 (by decide +kernel) rfl
theorem f71 {U : State} (h : FX U) : va_Nw (.initialized RX1) U := h.at 71 (by decide +kernel) rfl
theorem f72 {U : State} (h : FX U) : va_Nw (.initialized RX7) U := h.at 72 (by decide +kernel) rfl
theorem f73 {U : State} (h : FX U) : va_Nw (.initialized RX6) U := h.at 73 (by decide +kernel) rfl
theorem f74 {U : State} (h : FX U) : va_Nw (.initialized RX3) U := h.at 74 (by decide +kernel) rfl
theorem f75 {U : State} (h : FX U) : va_Nw (.initialized RX4) U := h.at 75 (by decide +kernel) rfl
theorem f76 {U : State} (h : FX U) : va_Nw (.initialized RX2) U := h.at 76 (by decide +kernel) rfl
theorem f77 {U : State} (h : FX U) : va_Nw (.initialized RX0) U := h.at 77 (by decide +kernel) rfl
theorem f78 {U : State} (h : FX U) : va_Nw (.initialized RX9) U := h.at 78 (by decide +kernel) rfl
theorem f79 {U : State} (h : FX U) : va_Nw (.initialized RJ0) U := h.at 79 (by decide +kernel) rfl
theorem f80 {U : State} (h : FX U) : va_Nw (.initialized RJ1) U := h.at 80 (by decide +kernel) rfl
theorem f81 {U : State} (h : FX U) : va_Nw (.initialized RJ9) U := h.at 81 (by decide +kernel) rfl
theorem f85 {U : State} (h : FX U) : va_Nw (.initialized RJ7) U := h.at 85 (by decide +kernel) rfl
theorem f86 {U : State} (h : FX U) : va_Nw (.initialized RJ6) U := h.at 86 (by decide +kernel) rfl
theorem f87 {U : State} (h : FX U) : va_Nw (.initialized RJ10) U := h.at 87 (by decide +kernel) rfl
theorem f88 {U : State} (h : FX U) : va_Nw (.classLink RL 7 "TossRows") U := h.at 88 (by decide +kernel) rfl
theorem f89 {U : State} (h : FX U) : va_Nw (.instantiable "TossRows" 12) U := h.at 89 (by decide +kernel) rfl
theorem f90 {U : State} (h : FX U) : va_Nw (.methodLink RL 9 yX8_init) U := h.at 90 (by decide +kernel) rfl
theorem f91 {U : State} (h : FX U) : va_Nw (.instanceMethod yX8_init) U := h.at 91 (by decide +kernel) rfl
theorem f92 {U : State} (h : FX U) : va_Nw (.code yX8_init cX8_init 1 none) U := h.at 92 (by decide +kernel) rfl
theorem f93 {U : State} (h : FX U) : va_Nw (.methodLink RX8 3 ⟨"java/lang/Object", "<init>", "()V"⟩) U := h.at 93 (by decide +kernel) rfl
theorem f94 {U : State} (h : FX U) : va_Nw (.instanceMethod ⟨"java/lang/Object", "<init>", "()V"⟩) U := h.at 94 (by decide +kernel) rfl
theorem f95 {U : State} (h : FX U) : va_Nw (.code ⟨"java/lang/Object", "<init>", "()V"⟩ object_method_1_code 1 none) U := h.at 95 (by decide +kernel) rfl
theorem f96 {U : State} (h : FX U) : va_Nw (.classLink RX8 9 "TossRows$Page") U := h.at 96 (by decide +kernel) rfl
theorem f97 {U : State} (h : FX U) : va_Nw (.instantiable "TossRows$Page" 2) U := h.at 97 (by decide +kernel) rfl
theorem f98 {U : State} (h : FX U) : va_Nw (.methodLinkNest RX8 11 yX5_init "TossRows") U := h.at 98 (by decide +kernel) rfl
theorem f99 {U : State} (h : FX U) : va_Nw (.instanceMethod yX5_init) U := h.at 99 (by decide +kernel) rfl
theorem f100 {U : State} (h : FX U) : va_Nw (.code yX5_init cX5_init 1 none) U := h.at 100 (by decide +kernel) rfl
theorem f101 {U : State} (h : FX U) : va_Nw (.methodLink RX5 3 ⟨"java/lang/Object", "<init>", "()V"⟩) U := h.at 101 (by decide +kernel) rfl
theorem f102 {U : State} (h : FX U) : va_Nw (.fieldLink RX5 11 "TossRows$Page" "letters" "[C") U := h.at 102 (by decide +kernel) rfl
theorem f103 {U : State} (h : FX U) : va_Nw (.fieldLink RX5 15 "TossRows$Page" "length" "I") U := h.at 103 (by decide +kernel) rfl
theorem f110 {U : State} (h : FX U) : va_Nw (.classLink RX8 16 "TossRows$Course") U := h.at 110 (by decide +kernel) rfl
theorem f111 {U : State} (h : FX U) : va_Nw (.instantiable "TossRows$Course" 10) U := h.at 111 (by decide +kernel) rfl
theorem f112 {U : State} (h : FX U) : va_Nw (.methodLinkNest RX8 18 yX1_init "TossRows") U := h.at 112 (by decide +kernel) rfl
theorem f113 {U : State} (h : FX U) : va_Nw (.instanceMethod yX1_init) U := h.at 113 (by decide +kernel) rfl
theorem f114 {U : State} (h : FX U) : va_Nw (.code yX1_init cX1_init 1 none) U := h.at 114 (by decide +kernel) rfl
theorem f115 {U : State} (h : FX U) : va_Nw (.methodLink RX1 3 ⟨"java/lang/Object", "<init>", "()V"⟩) U := h.at 115 (by decide +kernel) rfl
theorem f116 {U : State} (h : FX U) : va_Nw (.fieldLink RX1 9 "TossRows$Course" "kind" "[I") U := h.at 116 (by decide +kernel) rfl
theorem f117 {U : State} (h : FX U) : va_Nw (.fieldLinkNest RX8 93 "TossRows$Course" "kind" "[I" "TossRows") U := h.at 117 (by decide +kernel) rfl
theorem f118 {U : State} (h : FX U) : va_Nw (.fieldLink RX1 15 "TossRows$Course" "row" "[I") U := h.at 118 (by decide +kernel) rfl
theorem f119 {U : State} (h : FX U) : va_Nw (.fieldLinkNest RX8 100 "TossRows$Course" "row" "[I" "TossRows") U := h.at 119 (by decide +kernel) rfl
theorem f120 {U : State} (h : FX U) : va_Nw (.fieldLink RX1 18 "TossRows$Course" "won" "[I") U := h.at 120 (by decide +kernel) rfl
theorem f121 {U : State} (h : FX U) : va_Nw (.fieldLinkNest RX8 117 "TossRows$Course" "won" "[I" "TossRows") U := h.at 121 (by decide +kernel) rfl
theorem f122 {U : State} (h : FX U) : va_Nw (.fieldLink RX1 21 "TossRows$Course" "seenPlayer" "[I") U := h.at 122 (by decide +kernel) rfl
theorem f123 {U : State} (h : FX U) : va_Nw (.fieldLinkNest RX8 286 "TossRows$Course" "seenPlayer" "[I" "TossRows") U := h.at 123 (by decide +kernel) rfl
theorem f124 {U : State} (h : FX U) : va_Nw (.fieldLink RX1 24 "TossRows$Course" "seenTail" "[I") U := h.at 124 (by decide +kernel) rfl
theorem f125 {U : State} (h : FX U) : va_Nw (.fieldLinkNest RX8 289 "TossRows$Course" "seenTail" "[I" "TossRows") U := h.at 125 (by decide +kernel) rfl
theorem f126 {U : State} (h : FX U) : va_Nw (.fieldLink RX1 27 "TossRows$Course" "seenHit" "[Z") U := h.at 126 (by decide +kernel) rfl
theorem f127 {U : State} (h : FX U) : va_Nw (.fieldLinkNest RX8 296 "TossRows$Course" "seenHit" "[Z" "TossRows") U := h.at 127 (by decide +kernel) rfl
theorem f128 {U : State} (h : FX U) : va_Nw (.fieldLink RX1 41 "TossRows$Course" "seen" "I") U := h.at 128 (by decide +kernel) rfl
theorem f129 {U : State} (h : FX U) : va_Nw (.fieldLinkNest RX8 200 "TossRows$Course" "seen" "I" "TossRows") U := h.at 129 (by decide +kernel) rfl
theorem f130 {U : State} (h : FX U) : va_Nw (.fieldLink RX1 44 "TossRows$Course" "tosses" "I") U := h.at 130 (by decide +kernel) rfl
theorem f131 {U : State} (h : FX U) : va_Nw (.fieldLinkNest RX8 156 "TossRows$Course" "tosses" "I" "TossRows") U := h.at 131 (by decide +kernel) rfl
theorem f132 {U : State} (h : FX U) : va_Nw (.fieldLink RX1 50 "TossRows$Course" "tossesOfGame" "I") U := h.at 132 (by decide +kernel) rfl
theorem f133 {U : State} (h : FX U) : va_Nw (.fieldLinkNest RX8 159 "TossRows$Course" "tossesOfGame" "I" "TossRows") U := h.at 133 (by decide +kernel) rfl
theorem f134 {U : State} (h : FX U) : va_Nw (.fieldLink RX1 31 "TossRows$Course" "track" "I") U := h.at 134 (by decide +kernel) rfl
theorem f135 {U : State} (h : FX U) : va_Nw (.fieldLinkNest RX8 162 "TossRows$Course" "track" "I" "TossRows") U := h.at 135 (by decide +kernel) rfl
theorem f159 {U : State} (h : FX U) : va_Nw (.classLink RX8 26 "TossRows$Race") U := h.at 159 (by decide +kernel) rfl
theorem f160 {U : State} (h : FX U) : va_Nw (.instantiable "TossRows$Race" 3) U := h.at 160 (by decide +kernel) rfl
theorem f161 {U : State} (h : FX U) : va_Nw (.methodLinkNest RX8 28 yX7_init "TossRows") U := h.at 161 (by decide +kernel) rfl
theorem f162 {U : State} (h : FX U) : va_Nw (.instanceMethod yX7_init) U := h.at 162 (by decide +kernel) rfl
theorem f163 {U : State} (h : FX U) : va_Nw (.code yX7_init cX7_init 1 none) U := h.at 163 (by decide +kernel) rfl
theorem f164 {U : State} (h : FX U) : va_Nw (.methodLink RX7 3 ⟨"java/lang/Object", "<init>", "()V"⟩) U := h.at 164 (by decide +kernel) rfl
theorem f165 {U : State} (h : FX U) : va_Nw (.classLink RX7 15 "[[J") U := h.at 165 (by decide +kernel) rfl
theorem f167 {U : State} (h : FX U) : va_Nw (.fieldLink RX7 11 "TossRows$Race" "rows" "[I") U := h.at 167 (by decide +kernel) rfl
theorem f168 {U : State} (h : FX U) : va_Nw (.fieldLink RX7 17 "TossRows$Race" "sums" "[[J") U := h.at 168 (by decide +kernel) rfl
theorem f169 {U : State} (h : FX U) : va_Nw (.fieldLink RX7 40 "TossRows$Race" "many" "I") U := h.at 169 (by decide +kernel) rfl
theorem f178 {U : State} (h : FX U) : va_Nw (.classLink RX8 33 "TossRows$Plain") U := h.at 178 (by decide +kernel) rfl
theorem f180 {U : State} (h : FX U) : va_Nw (.instantiable "TossRows$Plain" 0) U := h.at 180 (by decide +kernel) rfl
theorem f181 {U : State} (h : FX U) : va_Nw (.methodLinkNest RX8 35 yX6_init "TossRows") U := h.at 181 (by decide +kernel) rfl
theorem f182 {U : State} (h : FX U) : va_Nw (.instanceMethod yX6_init) U := h.at 182 (by decide +kernel) rfl
theorem f183 {U : State} (h : FX U) : va_Nw (.code yX6_init cX6_init 1 none) U := h.at 183 (by decide +kernel) rfl
theorem f184 {U : State} (h : FX U) : va_Nw (.methodLink RX6 1 ⟨"java/lang/Object", "<init>", "()V"⟩) U := h.at 184 (by decide +kernel) rfl
theorem f186 {U : State} (h : FX U) : va_Nw (.classLink RX8 36 "TossRows$Mirror") U := h.at 186 (by decide +kernel) rfl
theorem f187 {U : State} (h : FX U) : va_Nw (.instantiable "TossRows$Mirror" 0) U := h.at 187 (by decide +kernel) rfl
theorem f188 {U : State} (h : FX U) : va_Nw (.methodLinkNest RX8 38 yX3_init "TossRows") U := h.at 188 (by decide +kernel) rfl
theorem f189 {U : State} (h : FX U) : va_Nw (.instanceMethod yX3_init) U := h.at 189 (by decide +kernel) rfl
theorem f190 {U : State} (h : FX U) : va_Nw (.code yX3_init cX3_init 1 none) U := h.at 190 (by decide +kernel) rfl
theorem f191 {U : State} (h : FX U) : va_Nw (.methodLinkNest RX3 1 yX6_init "TossRows") U := h.at 191 (by decide +kernel) rfl
theorem f193 {U : State} (h : FX U) : va_Nw (.classLink RX8 39 "TossRows$Other") U := h.at 193 (by decide +kernel) rfl
theorem f194 {U : State} (h : FX U) : va_Nw (.instantiable "TossRows$Other" 0) U := h.at 194 (by decide +kernel) rfl
theorem f195 {U : State} (h : FX U) : va_Nw (.methodLinkNest RX8 41 yX4_init "TossRows") U := h.at 195 (by decide +kernel) rfl
theorem f196 {U : State} (h : FX U) : va_Nw (.instanceMethod yX4_init) U := h.at 196 (by decide +kernel) rfl
theorem f197 {U : State} (h : FX U) : va_Nw (.code yX4_init cX4_init 1 none) U := h.at 197 (by decide +kernel) rfl
theorem f198 {U : State} (h : FX U) : va_Nw (.methodLinkNest RX4 1 yX6_init "TossRows") U := h.at 198 (by decide +kernel) rfl
theorem f200 {U : State} (h : FX U) : va_Nw (.classLink RX8 42 "TossRows$Either") U := h.at 200 (by decide +kernel) rfl
theorem f201 {U : State} (h : FX U) : va_Nw (.instantiable "TossRows$Either" 0) U := h.at 201 (by decide +kernel) rfl
theorem f202 {U : State} (h : FX U) : va_Nw (.methodLinkNest RX8 44 yX2_init "TossRows") U := h.at 202 (by decide +kernel) rfl
theorem f203 {U : State} (h : FX U) : va_Nw (.instanceMethod yX2_init) U := h.at 203 (by decide +kernel) rfl
theorem f204 {U : State} (h : FX U) : va_Nw (.code yX2_init cX2_init 1 none) U := h.at 204 (by decide +kernel) rfl
theorem f205 {U : State} (h : FX U) : va_Nw (.methodLinkNest RX2 1 yX6_init "TossRows") U := h.at 205 (by decide +kernel) rfl
theorem f207 {U : State} (h : FX U) : va_Nw (.classLink RX8 45 "TossRows$Both") U := h.at 207 (by decide +kernel) rfl
theorem f208 {U : State} (h : FX U) : va_Nw (.instantiable "TossRows$Both" 0) U := h.at 208 (by decide +kernel) rfl
theorem f209 {U : State} (h : FX U) : va_Nw (.methodLinkNest RX8 47 yX0_init "TossRows") U := h.at 209 (by decide +kernel) rfl
theorem f210 {U : State} (h : FX U) : va_Nw (.instanceMethod yX0_init) U := h.at 210 (by decide +kernel) rfl
theorem f211 {U : State} (h : FX U) : va_Nw (.code yX0_init cX0_init 1 none) U := h.at 211 (by decide +kernel) rfl
theorem f212 {U : State} (h : FX U) : va_Nw (.methodLinkNest RX0 1 yX2_init "TossRows") U := h.at 212 (by decide +kernel) rfl
theorem f213 {U : State} (h : FX U) : va_Nw (.superclass "TossRows$Both" "TossRows$Either") U := h.at 213 (by decide +kernel) rfl
theorem f214 {U : State} (h : FX U) : va_Nw (.fieldLink RX8 12 "TossRows" "page" "LTossRows$Page;") U := h.at 214 (by decide +kernel) rfl
theorem f215 {U : State} (h : FX U) : va_Nw (.fieldLink RX8 19 "TossRows" "now" "LTossRows$Course;") U := h.at 215 (by decide +kernel) rfl
theorem f216 {U : State} (h : FX U) : va_Nw (.fieldLink RX8 23 "TossRows" "kept" "LTossRows$Course;") U := h.at 216 (by decide +kernel) rfl
theorem f217 {U : State} (h : FX U) : va_Nw (.fieldLink RX8 29 "TossRows" "race" "LTossRows$Race;") U := h.at 217 (by decide +kernel) rfl
theorem f218 {U : State} (h : FX U) : va_Nw (.fieldLink RX8 48 "TossRows" "kinds" "[LTossRows$Plain;") U := h.at 218 (by decide +kernel) rfl
theorem f219 {U : State} (h : FX U) : va_Nw (.fieldLink RX8 52 "TossRows" "wins" "[I") U := h.at 219 (by decide +kernel) rfl
theorem f220 {U : State} (h : FX U) : va_Nw (.fieldLink RX8 56 "TossRows" "ways" "[I") U := h.at 220 (by decide +kernel) rfl
theorem f221 {U : State} (h : FX U) : va_Nw (.fieldLink RX8 59 "TossRows" "waysThen" "[I") U := h.at 221 (by decide +kernel) rfl
theorem f222 {U : State} (h : FX U) : va_Nw (.fieldLink RX8 106 "TossRows" "isKept" "Z") U := h.at 222 (by decide +kernel) rfl
theorem f223 {U : State} (h : FX U) : va_Nw (.fieldLink RX8 83 "TossRows" "players" "I") U := h.at 223 (by decide +kernel) rfl
theorem f224 {U : State} (h : FX U) : va_Nw (.fieldLink RX8 90 "TossRows" "size" "I") U := h.at 224 (by decide +kernel) rfl
theorem f225 {U : State} (h : FX U) : va_Nw (.fieldLink RX8 110 "TossRows" "reads" "I") U := h.at 225 (by decide +kernel) rfl
theorem f251 {U : State} (h : FX U) : va_Nw (.methodLink RL 13 yX8_letter) U := h.at 251 (by decide +kernel) rfl
theorem f252 {U : State} (h : FX U) : va_Nw (.instanceMethod yX8_letter) U := h.at 252 (by decide +kernel) rfl
theorem f253 {U : State} (h : FX U) : va_Nw (.selects RX8 yX8_letter yX8_letter) U := h.at 253 (by decide +kernel) rfl
theorem f254 {U : State} (h : FX U) : va_Nw (.code yX8_letter cX8_letter 2 (some .int)) U := h.at 254 (by decide +kernel) rfl
theorem f255 {U : State} (h : FX U) : va_Nw (.methodLink RX8 62 yX5_isFull) U := h.at 255 (by decide +kernel) rfl
theorem f256 {U : State} (h : FX U) : va_Nw (.instanceMethod yX5_isFull) U := h.at 256 (by decide +kernel) rfl
theorem f257 {U : State} (h : FX U) : va_Nw (.selects RX5 yX5_isFull yX5_isFull) U := h.at 257 (by decide +kernel) rfl
theorem f258 {U : State} (h : FX U) : va_Nw (.code yX5_isFull cX5_isFull 1 (some .boolean)) U := h.at 258 (by decide +kernel) rfl
theorem f259 {U : State} (h : FX U) : va_Nw (.methodLink RX8 66 yX5_append) U := h.at 259 (by decide +kernel) rfl
theorem f260 {U : State} (h : FX U) : va_Nw (.instanceMethod yX5_append) U := h.at 260 (by decide +kernel) rfl
theorem f261 {U : State} (h : FX U) : va_Nw (.selects RX5 yX5_append yX5_append) U := h.at 261 (by decide +kernel) rfl
theorem f262 {U : State} (h : FX U) : va_Nw (.code yX5_append cX5_append 2 none) U := h.at 262 (by decide +kernel) rfl
theorem f263 {U : State} (h : FX U) : va_Nw (.methodLink RX8 70 yX5_length) U := h.at 263 (by decide +kernel) rfl
theorem f264 {U : State} (h : FX U) : va_Nw (.instanceMethod yX5_length) U := h.at 264 (by decide +kernel) rfl
theorem f265 {U : State} (h : FX U) : va_Nw (.selects RX5 yX5_length yX5_length) U := h.at 265 (by decide +kernel) rfl
theorem f266 {U : State} (h : FX U) : va_Nw (.code yX5_length cX5_length 1 (some .int)) U := h.at 266 (by decide +kernel) rfl
theorem f267 {U : State} (h : FX U) : va_Nw (.methodLink RL 18 yX8_blank) U := h.at 267 (by decide +kernel) rfl
theorem f268 {U : State} (h : FX U) : va_Nw (.instanceMethod yX8_blank) U := h.at 268 (by decide +kernel) rfl
theorem f269 {U : State} (h : FX U) : va_Nw (.selects RX8 yX8_blank yX8_blank) U := h.at 269 (by decide +kernel) rfl
theorem f270 {U : State} (h : FX U) : va_Nw (.code yX8_blank cX8_blank 2 (some .int)) U := h.at 270 (by decide +kernel) rfl
theorem f271 {U : State} (h : FX U) : va_Nw (.methodLink RX8 74 yX5_clear) U := h.at 271 (by decide +kernel) rfl
theorem f272 {U : State} (h : FX U) : va_Nw (.instanceMethod yX5_clear) U := h.at 272 (by decide +kernel) rfl
theorem f273 {U : State} (h : FX U) : va_Nw (.selects RX5 yX5_clear yX5_clear) U := h.at 273 (by decide +kernel) rfl
theorem f274 {U : State} (h : FX U) : va_Nw (.code yX5_clear cX5_clear 1 none) U := h.at 274 (by decide +kernel) rfl
theorem f275 {U : State} (h : FX U) : va_Nw (.methodLink RL 23 yX8_fault) U := h.at 275 (by decide +kernel) rfl
theorem f276 {U : State} (h : FX U) : va_Nw (.instanceMethod yX8_fault) U := h.at 276 (by decide +kernel) rfl
theorem f277 {U : State} (h : FX U) : va_Nw (.selects RX8 yX8_fault yX8_fault) U := h.at 277 (by decide +kernel) rfl
theorem f278 {U : State} (h : FX U) : va_Nw (.code yX8_fault cX8_fault 1 (some .int)) U := h.at 278 (by decide +kernel) rfl
theorem f279 {U : State} (h : FX U) : va_Nw (.methodLink RX8 77 yX5_firstWrong) U := h.at 279 (by decide +kernel) rfl
theorem f280 {U : State} (h : FX U) : va_Nw (.instanceMethod yX5_firstWrong) U := h.at 280 (by decide +kernel) rfl
theorem f281 {U : State} (h : FX U) : va_Nw (.selects RX5 yX5_firstWrong yX5_firstWrong) U := h.at 281 (by decide +kernel) rfl
theorem f282 {U : State} (h : FX U) : va_Nw (.code yX5_firstWrong cX5_firstWrong 2 (some .int)) U := h.at 282 (by decide +kernel) rfl
theorem f283 {U : State} (h : FX U) : va_Nw (.methodLink RX5 23 yX5_canStand) U := h.at 283 (by decide +kernel) rfl
theorem f285 {U : State} (h : FX U) : va_Nw (.instanceMethod yX5_canStand) U := h.at 285 (by decide +kernel) rfl
theorem f286 {U : State} (h : FX U) : va_Nw (.code yX5_canStand cX5_canStand 4 (some .boolean)) U := h.at 286 (by decide +kernel) rfl
theorem f287 {U : State} (h : FX U) : va_Nw (.methodLink RX5 27 yX5_size) U := h.at 287 (by decide +kernel) rfl
theorem f288 {U : State} (h : FX U) : va_Nw (.instanceMethod yX5_size) U := h.at 288 (by decide +kernel) rfl
theorem f289 {U : State} (h : FX U) : va_Nw (.selects RX5 yX5_size yX5_size) U := h.at 289 (by decide +kernel) rfl
theorem f290 {U : State} (h : FX U) : va_Nw (.code yX5_size cX5_size 2 (some .int)) U := h.at 290 (by decide +kernel) rfl
theorem f291 {U : State} (h : FX U) : va_Nw (.methodLink RX5 19 yX5_at) U := h.at 291 (by decide +kernel) rfl
theorem f292 {U : State} (h : FX U) : va_Nw (.instanceMethod yX5_at) U := h.at 292 (by decide +kernel) rfl
theorem f293 {U : State} (h : FX U) : va_Nw (.selects RX5 yX5_at yX5_at) U := h.at 293 (by decide +kernel) rfl
theorem f294 {U : State} (h : FX U) : va_Nw (.code yX5_at cX5_at 2 (some .char)) U := h.at 294 (by decide +kernel) rfl
theorem f295 {U : State} (h : FX U) : va_Nw (.methodLink RX5 34 yX5_step) U := h.at 295 (by decide +kernel) rfl
theorem f297 {U : State} (h : FX U) : va_Nw (.instanceMethod yX5_step) U := h.at 297 (by decide +kernel) rfl
theorem f298 {U : State} (h : FX U) : va_Nw (.code yX5_step cX5_step 1 (some .int)) U := h.at 298 (by decide +kernel) rfl
theorem f303 {U : State} (h : FX U) : va_Nw (.code yJ0_indexOf_0f7a4 cJ0_indexOf_0f7a4 2 (some .int)) U := h.at 303 (by decide +kernel) rfl
theorem f304 {U : State} (h : FX U) : va_Nw (.methodLink RJ0 633 yJ0_indexOf_7cf53) U := h.at 304 (by decide +kernel) rfl
theorem f305 {U : State} (h : FX U) : va_Nw (.instanceMethod yJ0_indexOf_7cf53) U := h.at 305 (by decide +kernel) rfl
theorem f306 {U : State} (h : FX U) : va_Nw (.selects RJ0 yJ0_indexOf_7cf53 yJ0_indexOf_7cf53) U := h.at 306 (by decide +kernel) rfl
theorem f307 {U : State} (h : FX U) : va_Nw (.code yJ0_indexOf_7cf53 cJ0_indexOf_7cf53 3 (some .int)) U := h.at 307 (by decide +kernel) rfl
theorem f308 {U : State} (h : FX U) : va_Nw (.methodLink RJ0 492 yJ0_isLatin1_aae02) U := h.at 308 (by decide +kernel) rfl
theorem f309 {U : State} (h : FX U) : va_Nw (.instanceMethod yJ0_isLatin1_aae02) U := h.at 309 (by decide +kernel) rfl
theorem f310 {U : State} (h : FX U) : va_Nw (.selects RJ0 yJ0_isLatin1_aae02 yJ0_isLatin1_aae02) U := h.at 310 (by decide +kernel) rfl
theorem f311 {U : State} (h : FX U) : va_Nw (.code yJ0_isLatin1_aae02 cJ0_isLatin1_aae02 1 (some .boolean)) U := h.at 311 (by decide +kernel) rfl
theorem f312 {U : State} (h : FX U) : va_Nw (.fieldLink RJ0 38 "java/lang/String" "COMPACT_STRINGS" "Z") U := h.at 312 (by decide +kernel) rfl
theorem f314 {U : State} (h : FX U) : va_Nw (.methodLink RJ0 505 yJ0_length_8abf5) U := h.at 314 (by decide +kernel) rfl
theorem f315 {U : State} (h : FX U) : va_Nw (.instanceMethod yJ0_length_8abf5) U := h.at 315 (by decide +kernel) rfl
theorem f316 {U : State} (h : FX U) : va_Nw (.selects RJ0 yJ0_length_8abf5 yJ0_length_8abf5) U := h.at 316 (by decide +kernel) rfl
theorem f317 {U : State} (h : FX U) : va_Nw (.code yJ0_length_8abf5 cJ0_length_8abf5 1 (some .int)) U := h.at 317 (by decide +kernel) rfl
theorem f318 {U : State} (h : FX U) : va_Nw (.methodLink RJ0 335 yJ0_coder_7d493) U := h.at 318 (by decide +kernel) rfl
theorem f319 {U : State} (h : FX U) : va_Nw (.instanceMethod yJ0_coder_7d493) U := h.at 319 (by decide +kernel) rfl
theorem f320 {U : State} (h : FX U) : va_Nw (.selects RJ0 yJ0_coder_7d493 yJ0_coder_7d493) U := h.at 320 (by decide +kernel) rfl
theorem f321 {U : State} (h : FX U) : va_Nw (.code yJ0_coder_7d493 cJ0_coder_7d493 1 (some .byte)) U := h.at 321 (by decide +kernel) rfl
theorem f322 {U : State} (h : FX U) : va_Nw (.methodLink RJ0 637 yJ1_indexOf_4cfef) U := h.at 322 (by decide +kernel) rfl
theorem f323 {U : State} (h : FX U) : va_Nw (.static yJ1_indexOf_4cfef) U := h.at 323 (by decide +kernel) rfl
theorem f324 {U : State} (h : FX U) : va_Nw (.code yJ1_indexOf_4cfef cJ1_indexOf_4cfef 4 (some .int)) U := h.at 324 (by decide +kernel) rfl
theorem f325 {U : State} (h : FX U) : va_Nw (.methodLink RJ1 88 yJ1_canEncode_9a6ad) U := h.at 325 (by decide +kernel) rfl
theorem f326 {U : State} (h : FX U) : va_Nw (.static yJ1_canEncode_9a6ad) U := h.at 326 (by decide +kernel) rfl
theorem f327 {U : State} (h : FX U) : va_Nw (.code yJ1_canEncode_9a6ad cJ1_canEncode_9a6ad 1 (some .boolean)) U := h.at 327 (by decide +kernel) rfl
theorem f328 {U : State} (h : FX U) : va_Nw (.methodLink RJ1 92 yJ9_max_7cf53) U := h.at 328 (by decide +kernel) rfl
theorem f329 {U : State} (h : FX U) : va_Nw (.static yJ9_max_7cf53) U := h.at 329 (by decide +kernel) rfl
theorem f330 {U : State} (h : FX U) : va_Nw (.code yJ9_max_7cf53 cJ9_max_7cf53 2 (some .int)) U := h.at 330 (by decide +kernel) rfl
theorem f331 {U : State} (h : FX U) : va_Nw (.methodLink RJ1 38 yJ9_min_7cf53) U := h.at 331 (by decide +kernel) rfl
theorem f332 {U : State} (h : FX U) : va_Nw (.static yJ9_min_7cf53) U := h.at 332 (by decide +kernel) rfl
theorem f333 {U : State} (h : FX U) : va_Nw (.code yJ9_min_7cf53 cJ9_min_7cf53 2 (some .int)) U := h.at 333 (by decide +kernel) rfl
theorem f334 {U : State} (h : FX U) : va_Nw (.methodLink RJ1 95 yJ1_indexOfChar_4cfef) U := h.at 334 (by decide +kernel) rfl
theorem f335 {U : State} (h : FX U) : va_Nw (.static yJ1_indexOfChar_4cfef) U := h.at 335 (by decide +kernel) rfl
theorem f336 {U : State} (h : FX U) : va_Nw (.code yJ1_indexOfChar_4cfef cJ1_indexOfChar_4cfef 6 (some .int)) U := h.at 336 (by decide +kernel) rfl
theorem f387 {U : State} (h : FX U) : va_Nw (.methodLink RL 27 yX8_table) U := h.at 387 (by decide +kernel) rfl
theorem f388 {U : State} (h : FX U) : va_Nw (.instanceMethod yX8_table) U := h.at 388 (by decide +kernel) rfl
theorem f389 {U : State} (h : FX U) : va_Nw (.selects RX8 yX8_table yX8_table) U := h.at 389 (by decide +kernel) rfl
theorem f390 {U : State} (h : FX U) : va_Nw (.code yX8_table cX8_table 3 (some .int)) U := h.at 390 (by decide +kernel) rfl
theorem f391 {U : State} (h : FX U) : va_Nw (.methodLink RX8 80 yX5_playersOfTable) U := h.at 391 (by decide +kernel) rfl
theorem f392 {U : State} (h : FX U) : va_Nw (.instanceMethod yX5_playersOfTable) U := h.at 392 (by decide +kernel) rfl
theorem f393 {U : State} (h : FX U) : va_Nw (.selects RX5 yX5_playersOfTable yX5_playersOfTable) U := h.at 393 (by decide +kernel) rfl
theorem f394 {U : State} (h : FX U) : va_Nw (.code yX5_playersOfTable cX5_playersOfTable 3 (some .int)) U := h.at 394 (by decide +kernel) rfl
theorem f395 {U : State} (h : FX U) : va_Nw (.methodLink RX5 31 yX5_firstWrong) U := h.at 395 (by decide +kernel) rfl
theorem f396 {U : State} (h : FX U) : va_Nw (.methodLink RX8 87 yX5_size) U := h.at 396 (by decide +kernel) rfl
theorem f397 {U : State} (h : FX U) : va_Nw (.methodLink RX8 92 yX1_clear) U := h.at 397 (by decide +kernel) rfl
theorem f398 {U : State} (h : FX U) : va_Nw (.instanceMethod yX1_clear) U := h.at 398 (by decide +kernel) rfl
theorem f399 {U : State} (h : FX U) : va_Nw (.selects RX1 yX1_clear yX1_clear) U := h.at 399 (by decide +kernel) rfl
theorem f400 {U : State} (h : FX U) : va_Nw (.code yX1_clear cX1_clear 1 none) U := h.at 400 (by decide +kernel) rfl
theorem f401 {U : State} (h : FX U) : va_Nw (.methodLink RX1 35 yJ7_fill_53178) U := h.at 401 (by decide +kernel) rfl
theorem f402 {U : State} (h : FX U) : va_Nw (.static yJ7_fill_53178) U := h.at 402 (by decide +kernel) rfl
theorem f403 {U : State} (h : FX U) : va_Nw (.code yJ7_fill_53178 cJ7_fill_53178 4 none) U := h.at 403 (by decide +kernel) rfl
theorem f404 {U : State} (h : FX U) : va_Nw (.methodLink RX1 47 yX1_beginGame) U := h.at 404 (by decide +kernel) rfl
theorem f405 {U : State} (h : FX U) : va_Nw (.instanceMethod yX1_beginGame) U := h.at 405 (by decide +kernel) rfl
theorem f406 {U : State} (h : FX U) : va_Nw (.selects RX1 yX1_beginGame yX1_beginGame) U := h.at 406 (by decide +kernel) rfl
theorem f407 {U : State} (h : FX U) : va_Nw (.code yX1_beginGame cX1_beginGame 1 none) U := h.at 407 (by decide +kernel) rfl
theorem f408 {U : State} (h : FX U) : va_Nw (.methodLink RX8 96 yX5_kindOf) U := h.at 408 (by decide +kernel) rfl
theorem f409 {U : State} (h : FX U) : va_Nw (.instanceMethod yX5_kindOf) U := h.at 409 (by decide +kernel) rfl
theorem f410 {U : State} (h : FX U) : va_Nw (.selects RX5 yX5_kindOf yX5_kindOf) U := h.at 410 (by decide +kernel) rfl
theorem f411 {U : State} (h : FX U) : va_Nw (.code yX5_kindOf cX5_kindOf 2 (some .int)) U := h.at 411 (by decide +kernel) rfl
theorem f412 {U : State} (h : FX U) : va_Nw (.methodLink RX5 39 yX5_placeOf) U := h.at 412 (by decide +kernel) rfl
theorem f414 {U : State} (h : FX U) : va_Nw (.instanceMethod yX5_placeOf) U := h.at 414 (by decide +kernel) rfl
theorem f415 {U : State} (h : FX U) : va_Nw (.code yX5_placeOf cX5_placeOf 2 (some .int)) U := h.at 415 (by decide +kernel) rfl
theorem f416 {U : State} (h : FX U) : va_Nw (.methodLink RX5 48 yJ9_max_7cf53) U := h.at 416 (by decide +kernel) rfl
theorem f417 {U : State} (h : FX U) : va_Nw (.methodLink RX8 103 yX5_rowOf) U := h.at 417 (by decide +kernel) rfl
theorem f418 {U : State} (h : FX U) : va_Nw (.instanceMethod yX5_rowOf) U := h.at 418 (by decide +kernel) rfl
theorem f419 {U : State} (h : FX U) : va_Nw (.selects RX5 yX5_rowOf yX5_rowOf) U := h.at 419 (by decide +kernel) rfl
theorem f420 {U : State} (h : FX U) : va_Nw (.code yX5_rowOf cX5_rowOf 4 (some .int)) U := h.at 420 (by decide +kernel) rfl
theorem f421 {U : State} (h : FX U) : va_Nw (.methodLink RL 31 yX8_player) U := h.at 421 (by decide +kernel) rfl
theorem f422 {U : State} (h : FX U) : va_Nw (.instanceMethod yX8_player) U := h.at 422 (by decide +kernel) rfl
theorem f423 {U : State} (h : FX U) : va_Nw (.selects RX8 yX8_player yX8_player) U := h.at 423 (by decide +kernel) rfl
theorem f424 {U : State} (h : FX U) : va_Nw (.code yX8_player cX8_player 3 (some .int)) U := h.at 424 (by decide +kernel) rfl
theorem f425 {U : State} (h : FX U) : va_Nw (.methodLink RX8 113 yX8_isPlayer) U := h.at 425 (by decide +kernel) rfl
theorem f427 {U : State} (h : FX U) : va_Nw (.instanceMethod yX8_isPlayer) U := h.at 427 (by decide +kernel) rfl
theorem f428 {U : State} (h : FX U) : va_Nw (.code yX8_isPlayer cX8_isPlayer 2 (some .boolean)) U := h.at 428 (by decide +kernel) rfl
theorem f429 {U : State} (h : FX U) : va_Nw (.methodLink RX8 120 yX8_rowsHitBy) U := h.at 429 (by decide +kernel) rfl
theorem f431 {U : State} (h : FX U) : va_Nw (.instanceMethod yX8_rowsHitBy) U := h.at 431 (by decide +kernel) rfl
theorem f432 {U : State} (h : FX U) : va_Nw (.code yX8_rowsHitBy cX8_rowsHitBy 2 (some .int)) U := h.at 432 (by decide +kernel) rfl
theorem f433 {U : State} (h : FX U) : va_Nw (.methodLink RX8 141 yX8_kindAt) U := h.at 433 (by decide +kernel) rfl
theorem f435 {U : State} (h : FX U) : va_Nw (.instanceMethod yX8_kindAt) U := h.at 435 (by decide +kernel) rfl
theorem f436 {U : State} (h : FX U) : va_Nw (.code yX8_kindAt cX8_kindAt 2 (some (.object "TossRows$Plain"))) U := h.at 436 (by decide +kernel) rfl
theorem f437 {U : State} (h : FX U) : va_Nw (.methodLink RX8 138 yX8_isKind) U := h.at 437 (by decide +kernel) rfl
theorem f439 {U : State} (h : FX U) : va_Nw (.instanceMethod yX8_isKind) U := h.at 439 (by decide +kernel) rfl
theorem f440 {U : State} (h : FX U) : va_Nw (.code yX8_isKind cX8_isKind 2 (some .boolean)) U := h.at 440 (by decide +kernel) rfl
theorem f447 {U : State} (h : FX U) : va_Nw (.code yX0_rowsHitWith cX0_rowsHitWith 3 (some .int)) U := h.at 447 (by decide +kernel) rfl
theorem f448 {U : State} (h : FX U) : va_Nw (.methodLink RX0 7 yX2_rowsHitWith) U := h.at 448 (by decide +kernel) rfl
theorem f449 {U : State} (h : FX U) : va_Nw (.instanceMethod yX2_rowsHitWith) U := h.at 449 (by decide +kernel) rfl
theorem f450 {U : State} (h : FX U) : va_Nw (.code yX2_rowsHitWith cX2_rowsHitWith 3 (some .int)) U := h.at 450 (by decide +kernel) rfl
theorem f451 {U : State} (h : FX U) : va_Nw (.methodLinkNest RX2 7 yX8_withOtherSigns "TossRows") U := h.at 451 (by decide +kernel) rfl
theorem f452 {U : State} (h : FX U) : va_Nw (.static yX8_withOtherSigns) U := h.at 452 (by decide +kernel) rfl
theorem f453 {U : State} (h : FX U) : va_Nw (.code yX8_withOtherSigns cX8_withOtherSigns 2 (some .int)) U := h.at 453 (by decide +kernel) rfl
theorem f454 {U : State} (h : FX U) : va_Nw (.methodLinkNest RX0 11 yX8_fromItsEnd "TossRows") U := h.at 454 (by decide +kernel) rfl
theorem f455 {U : State} (h : FX U) : va_Nw (.static yX8_fromItsEnd) U := h.at 455 (by decide +kernel) rfl
theorem f456 {U : State} (h : FX U) : va_Nw (.code yX8_fromItsEnd cX8_fromItsEnd 4 (some .int)) U := h.at 456 (by decide +kernel) rfl
theorem f460 {U : State} (h : FX U) : va_Nw (.code yX3_rowsHitWith cX3_rowsHitWith 3 (some .int)) U := h.at 460 (by decide +kernel) rfl
theorem f461 {U : State} (h : FX U) : va_Nw (.methodLinkNest RX3 7 yX8_fromItsEnd "TossRows") U := h.at 461 (by decide +kernel) rfl
theorem f464 {U : State} (h : FX U) : va_Nw (.code yX4_rowsHitWith cX4_rowsHitWith 3 (some .int)) U := h.at 464 (by decide +kernel) rfl
theorem f465 {U : State} (h : FX U) : va_Nw (.methodLinkNest RX4 7 yX8_withOtherSigns "TossRows") U := h.at 465 (by decide +kernel) rfl
theorem f466 {U : State} (h : FX U) : va_Nw (.code yX6_rowsHitWith cX6_rowsHitWith 3 (some .int)) U := h.at 466 (by decide +kernel) rfl
theorem f467 {U : State} (h : FX U) : va_Nw (.methodLink RX8 123 yX7_waitFor) U := h.at 467 (by decide +kernel) rfl
theorem f468 {U : State} (h : FX U) : va_Nw (.instanceMethod yX7_waitFor) U := h.at 468 (by decide +kernel) rfl
theorem f469 {U : State} (h : FX U) : va_Nw (.selects RX7 yX7_waitFor yX7_waitFor) U := h.at 469 (by decide +kernel) rfl
theorem f470 {U : State} (h : FX U) : va_Nw (.code yX7_waitFor cX7_waitFor 7 (some .int)) U := h.at 470 (by decide +kernel) rfl
theorem f471 {U : State} (h : FX U) : va_Nw (.methodLink RX7 20 yX7_run) U := h.at 471 (by decide +kernel) rfl
theorem f473 {U : State} (h : FX U) : va_Nw (.instanceMethod yX7_run) U := h.at 473 (by decide +kernel) rfl
theorem f474 {U : State} (h : FX U) : va_Nw (.code yX7_run cX7_run 9 (some .long)) U := h.at 474 (by decide +kernel) rfl
theorem f475 {U : State} (h : FX U) : va_Nw (.methodLink RX7 32 yX7_setRows) U := h.at 475 (by decide +kernel) rfl
theorem f477 {U : State} (h : FX U) : va_Nw (.instanceMethod yX7_setRows) U := h.at 477 (by decide +kernel) rfl
theorem f478 {U : State} (h : FX U) : va_Nw (.code yX7_setRows cX7_setRows 4 none) U := h.at 478 (by decide +kernel) rfl
theorem f479 {U : State} (h : FX U) : va_Nw (.methodLinkNest RX7 48 yX8_has "TossRows") U := h.at 479 (by decide +kernel) rfl
theorem f480 {U : State} (h : FX U) : va_Nw (.static yX8_has) U := h.at 480 (by decide +kernel) rfl
theorem f481 {U : State} (h : FX U) : va_Nw (.code yX8_has cX8_has 2 (some .boolean)) U := h.at 481 (by decide +kernel) rfl
theorem f482 {U : State} (h : FX U) : va_Nw (.methodLink RX7 36 yX7_setSums) U := h.at 482 (by decide +kernel) rfl
theorem f484 {U : State} (h : FX U) : va_Nw (.instanceMethod yX7_setSums) U := h.at 484 (by decide +kernel) rfl
theorem f485 {U : State} (h : FX U) : va_Nw (.code yX7_setSums cX7_setSums 4 none) U := h.at 485 (by decide +kernel) rfl
theorem f486 {U : State} (h : FX U) : va_Nw (.methodLink RX7 52 yX7_overlap) U := h.at 486 (by decide +kernel) rfl
theorem f487 {U : State} (h : FX U) : va_Nw (.static yX7_overlap) U := h.at 487 (by decide +kernel) rfl
theorem f488 {U : State} (h : FX U) : va_Nw (.code yX7_overlap cX7_overlap 7 (some .int)) U := h.at 488 (by decide +kernel) rfl
theorem f489 {U : State} (h : FX U) : va_Nw (.methodLink RX7 44 yX7_eliminate) U := h.at 489 (by decide +kernel) rfl
theorem f491 {U : State} (h : FX U) : va_Nw (.instanceMethod yX7_eliminate) U := h.at 491 (by decide +kernel) rfl
theorem f492 {U : State} (h : FX U) : va_Nw (.code yX7_eliminate cX7_eliminate 11 none) U := h.at 492 (by decide +kernel) rfl
theorem f493 {U : State} (h : FX U) : va_Nw (.methodLink RX7 24 yX7_sharesOf) U := h.at 493 (by decide +kernel) rfl
theorem f495 {U : State} (h : FX U) : va_Nw (.instanceMethod yX7_sharesOf) U := h.at 495 (by decide +kernel) rfl
theorem f496 {U : State} (h : FX U) : va_Nw (.code yX7_sharesOf cX7_sharesOf 5 (some .long)) U := h.at 496 (by decide +kernel) rfl
theorem f497 {U : State} (h : FX U) : va_Nw (.constantLong RX7 28 (1000 : Int64)) U := h.at 497 (by decide +kernel) rfl
theorem f498 {U : State} (h : FX U) : va_Nw (.methodLink RX8 127 yJ6_bitCount_0f7a4) U := h.at 498 (by decide +kernel) rfl
theorem f499 {U : State} (h : FX U) : va_Nw (.static yJ6_bitCount_0f7a4) U := h.at 499 (by decide +kernel) rfl
theorem f500 {U : State} (h : FX U) : va_Nw (.code yJ6_bitCount_0f7a4 cJ6_bitCount_0f7a4 1 (some .int)) U := h.at 500 (by decide +kernel) rfl
theorem f501 {U : State} (h : FX U) : va_Nw (.constant RJ6 265 (1431655765 : Int32)) U := h.at 501 (by decide +kernel) rfl
theorem f502 {U : State} (h : FX U) : va_Nw (.constant RJ6 266 (858993459 : Int32)) U := h.at 502 (by decide +kernel) rfl
theorem f503 {U : State} (h : FX U) : va_Nw (.constant RJ6 267 (252645135 : Int32)) U := h.at 503 (by decide +kernel) rfl
theorem f504 {U : State} (h : FX U) : va_Nw (.methodLink RX8 132 yX8_rowsLeft) U := h.at 504 (by decide +kernel) rfl
theorem f506 {U : State} (h : FX U) : va_Nw (.instanceMethod yX8_rowsLeft) U := h.at 506 (by decide +kernel) rfl
theorem f507 {U : State} (h : FX U) : va_Nw (.code yX8_rowsLeft cX8_rowsLeft 6 (some .int)) U := h.at 507 (by decide +kernel) rfl
theorem f508 {U : State} (h : FX U) : va_Nw (.methodLink RX8 292 yX8_betsThatHit) U := h.at 508 (by decide +kernel) rfl
theorem f510 {U : State} (h : FX U) : va_Nw (.instanceMethod yX8_betsThatHit) U := h.at 510 (by decide +kernel) rfl
theorem f511 {U : State} (h : FX U) : va_Nw (.code yX8_betsThatHit cX8_betsThatHit 5 (some .int)) U := h.at 511 (by decide +kernel) rfl
theorem f512 {U : State} (h : FX U) : va_Nw (.methodLink RX8 152 yX8_has) U := h.at 512 (by decide +kernel) rfl
theorem f513 {U : State} (h : FX U) : va_Nw (.methodLink RX8 135 yX8_nextTry) U := h.at 513 (by decide +kernel) rfl
theorem f515 {U : State} (h : FX U) : va_Nw (.instanceMethod yX8_nextTry) U := h.at 515 (by decide +kernel) rfl
theorem f516 {U : State} (h : FX U) : va_Nw (.code yX8_nextTry cX8_nextTry 10 (some .int)) U := h.at 516 (by decide +kernel) rfl
theorem f517 {U : State} (h : FX U) : va_Nw (.methodLink RX8 300 yJ9_max_7cf53) U := h.at 517 (by decide +kernel) rfl
theorem f518 {U : State} (h : FX U) : va_Nw (.methodLink RL 36 yX8_as) U := h.at 518 (by decide +kernel) rfl
theorem f519 {U : State} (h : FX U) : va_Nw (.instanceMethod yX8_as) U := h.at 519 (by decide +kernel) rfl
theorem f520 {U : State} (h : FX U) : va_Nw (.selects RX8 yX8_as yX8_as) U := h.at 520 (by decide +kernel) rfl
theorem f521 {U : State} (h : FX U) : va_Nw (.code yX8_as cX8_as 3 (some .int)) U := h.at 521 (by decide +kernel) rfl
theorem f522 {U : State} (h : FX U) : va_Nw (.methodLink RX8 145 yX8_isSuch) U := h.at 522 (by decide +kernel) rfl
theorem f523 {U : State} (h : FX U) : va_Nw (.static yX8_isSuch) U := h.at 523 (by decide +kernel) rfl
theorem f524 {U : State} (h : FX U) : va_Nw (.code yX8_isSuch cX8_isSuch 2 (some .boolean)) U := h.at 524 (by decide +kernel) rfl
theorem f525 {U : State} (h : FX U) : va_Nw (.methodLink RL 40 yX8_hits) U := h.at 525 (by decide +kernel) rfl
theorem f526 {U : State} (h : FX U) : va_Nw (.instanceMethod yX8_hits) U := h.at 526 (by decide +kernel) rfl
theorem f527 {U : State} (h : FX U) : va_Nw (.selects RX8 yX8_hits yX8_hits) U := h.at 527 (by decide +kernel) rfl
theorem f528 {U : State} (h : FX U) : va_Nw (.code yX8_hits cX8_hits 3 (some .int)) U := h.at 528 (by decide +kernel) rfl
theorem f529 {U : State} (h : FX U) : va_Nw (.methodLink RX8 149 yX8_isRow) U := h.at 529 (by decide +kernel) rfl
theorem f531 {U : State} (h : FX U) : va_Nw (.instanceMethod yX8_isRow) U := h.at 531 (by decide +kernel) rfl
theorem f532 {U : State} (h : FX U) : va_Nw (.code yX8_isRow cX8_isRow 2 (some .boolean)) U := h.at 532 (by decide +kernel) rfl
theorem f533 {U : State} (h : FX U) : va_Nw (.methodLink RL 44 yX8_toss) U := h.at 533 (by decide +kernel) rfl
theorem f534 {U : State} (h : FX U) : va_Nw (.instanceMethod yX8_toss) U := h.at 534 (by decide +kernel) rfl
theorem f535 {U : State} (h : FX U) : va_Nw (.selects RX8 yX8_toss yX8_toss) U := h.at 535 (by decide +kernel) rfl
theorem f536 {U : State} (h : FX U) : va_Nw (.code yX8_toss cX8_toss 3 (some .int)) U := h.at 536 (by decide +kernel) rfl
theorem f537 {U : State} (h : FX U) : va_Nw (.methodLink RX8 165 yX8_trackBehind) U := h.at 537 (by decide +kernel) rfl
theorem f539 {U : State} (h : FX U) : va_Nw (.instanceMethod yX8_trackBehind) U := h.at 539 (by decide +kernel) rfl
theorem f540 {U : State} (h : FX U) : va_Nw (.code yX8_trackBehind cX8_trackBehind 5 (some .int)) U := h.at 540 (by decide +kernel) rfl
theorem f541 {U : State} (h : FX U) : va_Nw (.methodLink RX8 168 yX8_hittersAt) U := h.at 541 (by decide +kernel) rfl
theorem f543 {U : State} (h : FX U) : va_Nw (.instanceMethod yX8_hittersAt) U := h.at 543 (by decide +kernel) rfl
theorem f544 {U : State} (h : FX U) : va_Nw (.code yX8_hittersAt cX8_hittersAt 5 (some .int)) U := h.at 544 (by decide +kernel) rfl
theorem f545 {U : State} (h : FX U) : va_Nw (.methodLink RX8 224 yX8_tailOf) U := h.at 545 (by decide +kernel) rfl
theorem f547 {U : State} (h : FX U) : va_Nw (.instanceMethod yX8_tailOf) U := h.at 547 (by decide +kernel) rfl
theorem f548 {U : State} (h : FX U) : va_Nw (.code yX8_tailOf cX8_tailOf 3 (some .int)) U := h.at 548 (by decide +kernel) rfl
theorem f549 {U : State} (h : FX U) : va_Nw (.methodLink RX8 171 yX8_addWins) U := h.at 549 (by decide +kernel) rfl
theorem f550 {U : State} (h : FX U) : va_Nw (.static yX8_addWins) U := h.at 550 (by decide +kernel) rfl
theorem f551 {U : State} (h : FX U) : va_Nw (.code yX8_addWins cX8_addWins 3 none) U := h.at 551 (by decide +kernel) rfl
theorem f552 {U : State} (h : FX U) : va_Nw (.methodLink RX8 175 yX1_beginGame) U := h.at 552 (by decide +kernel) rfl
theorem f553 {U : State} (h : FX U) : va_Nw (.methodLink RL 48 yX8_anew) U := h.at 553 (by decide +kernel) rfl
theorem f554 {U : State} (h : FX U) : va_Nw (.instanceMethod yX8_anew) U := h.at 554 (by decide +kernel) rfl
theorem f555 {U : State} (h : FX U) : va_Nw (.selects RX8 yX8_anew yX8_anew) U := h.at 555 (by decide +kernel) rfl
theorem f556 {U : State} (h : FX U) : va_Nw (.code yX8_anew cX8_anew 2 (some .int)) U := h.at 556 (by decide +kernel) rfl
theorem f557 {U : State} (h : FX U) : va_Nw (.methodLink RL 52 yX8_bet) U := h.at 557 (by decide +kernel) rfl
theorem f558 {U : State} (h : FX U) : va_Nw (.instanceMethod yX8_bet) U := h.at 558 (by decide +kernel) rfl
theorem f559 {U : State} (h : FX U) : va_Nw (.selects RX8 yX8_bet yX8_bet) U := h.at 559 (by decide +kernel) rfl
theorem f560 {U : State} (h : FX U) : va_Nw (.code yX8_bet cX8_bet 4 (some .int)) U := h.at 560 (by decide +kernel) rfl
theorem f561 {U : State} (h : FX U) : va_Nw (.methodLink RL 56 yX8_be) U := h.at 561 (by decide +kernel) rfl
theorem f562 {U : State} (h : FX U) : va_Nw (.instanceMethod yX8_be) U := h.at 562 (by decide +kernel) rfl
theorem f563 {U : State} (h : FX U) : va_Nw (.selects RX8 yX8_be yX8_be) U := h.at 563 (by decide +kernel) rfl
theorem f564 {U : State} (h : FX U) : va_Nw (.code yX8_be cX8_be 4 (some .int)) U := h.at 564 (by decide +kernel) rfl
theorem f565 {U : State} (h : FX U) : va_Nw (.methodLink RL 60 yX8_duel) U := h.at 565 (by decide +kernel) rfl
theorem f566 {U : State} (h : FX U) : va_Nw (.instanceMethod yX8_duel) U := h.at 566 (by decide +kernel) rfl
theorem f567 {U : State} (h : FX U) : va_Nw (.selects RX8 yX8_duel yX8_duel) U := h.at 567 (by decide +kernel) rfl
theorem f568 {U : State} (h : FX U) : va_Nw (.code yX8_duel cX8_duel 3 (some .int)) U := h.at 568 (by decide +kernel) rfl
theorem f569 {U : State} (h : FX U) : va_Nw (.methodLink RX8 178 yX7_chance) U := h.at 569 (by decide +kernel) rfl
theorem f570 {U : State} (h : FX U) : va_Nw (.instanceMethod yX7_chance) U := h.at 570 (by decide +kernel) rfl
theorem f571 {U : State} (h : FX U) : va_Nw (.selects RX7 yX7_chance yX7_chance) U := h.at 571 (by decide +kernel) rfl
theorem f572 {U : State} (h : FX U) : va_Nw (.code yX7_chance cX7_chance 6 (some .int)) U := h.at 572 (by decide +kernel) rfl
theorem f573 {U : State} (h : FX U) : va_Nw (.constantLong RX7 30 (1000000 : Int64)) U := h.at 573 (by decide +kernel) rfl
theorem f574 {U : State} (h : FX U) : va_Nw (.methodLink RL 64 yX8_answer) U := h.at 574 (by decide +kernel) rfl
theorem f575 {U : State} (h : FX U) : va_Nw (.instanceMethod yX8_answer) U := h.at 575 (by decide +kernel) rfl
theorem f576 {U : State} (h : FX U) : va_Nw (.selects RX8 yX8_answer yX8_answer) U := h.at 576 (by decide +kernel) rfl
theorem f577 {U : State} (h : FX U) : va_Nw (.code yX8_answer cX8_answer 5 (some .int)) U := h.at 577 (by decide +kernel) rfl
theorem f578 {U : State} (h : FX U) : va_Nw (.methodLink RX8 182 yX8_bestAgainst) U := h.at 578 (by decide +kernel) rfl
theorem f580 {U : State} (h : FX U) : va_Nw (.instanceMethod yX8_bestAgainst) U := h.at 580 (by decide +kernel) rfl
theorem f581 {U : State} (h : FX U) : va_Nw (.code yX8_bestAgainst cX8_bestAgainst 6 (some .int)) U := h.at 581 (by decide +kernel) rfl
theorem f582 {U : State} (h : FX U) : va_Nw (.methodLink RL 68 yX8_open) U := h.at 582 (by decide +kernel) rfl
theorem f583 {U : State} (h : FX U) : va_Nw (.instanceMethod yX8_open) U := h.at 583 (by decide +kernel) rfl
theorem f584 {U : State} (h : FX U) : va_Nw (.selects RX8 yX8_open yX8_open) U := h.at 584 (by decide +kernel) rfl
theorem f585 {U : State} (h : FX U) : va_Nw (.code yX8_open cX8_open 3 (some .int)) U := h.at 585 (by decide +kernel) rfl
theorem f586 {U : State} (h : FX U) : va_Nw (.methodLink RX8 185 yX8_bestToOpen) U := h.at 586 (by decide +kernel) rfl
theorem f588 {U : State} (h : FX U) : va_Nw (.instanceMethod yX8_bestToOpen) U := h.at 588 (by decide +kernel) rfl
theorem f589 {U : State} (h : FX U) : va_Nw (.code yX8_bestToOpen cX8_bestToOpen 5 (some .int)) U := h.at 589 (by decide +kernel) rfl
theorem f590 {U : State} (h : FX U) : va_Nw (.constant RX8 269 (1000001 : Int32)) U := h.at 590 (by decide +kernel) rfl
theorem f591 {U : State} (h : FX U) : va_Nw (.methodLink RX8 188 yX8_dangerOf) U := h.at 591 (by decide +kernel) rfl
theorem f593 {U : State} (h : FX U) : va_Nw (.instanceMethod yX8_dangerOf) U := h.at 593 (by decide +kernel) rfl
theorem f594 {U : State} (h : FX U) : va_Nw (.code yX8_dangerOf cX8_dangerOf 2 (some .int)) U := h.at 594 (by decide +kernel) rfl
theorem f595 {U : State} (h : FX U) : va_Nw (.methodLink RL 72 yX8_ring) U := h.at 595 (by decide +kernel) rfl
theorem f596 {U : State} (h : FX U) : va_Nw (.instanceMethod yX8_ring) U := h.at 596 (by decide +kernel) rfl
theorem f597 {U : State} (h : FX U) : va_Nw (.selects RX8 yX8_ring yX8_ring) U := h.at 597 (by decide +kernel) rfl
theorem f598 {U : State} (h : FX U) : va_Nw (.code yX8_ring cX8_ring 4 (some .int)) U := h.at 598 (by decide +kernel) rfl
theorem f599 {U : State} (h : FX U) : va_Nw (.methodLink RX8 191 yX8_whoBeatsWhom) U := h.at 599 (by decide +kernel) rfl
theorem f601 {U : State} (h : FX U) : va_Nw (.instanceMethod yX8_whoBeatsWhom) U := h.at 601 (by decide +kernel) rfl
theorem f602 {U : State} (h : FX U) : va_Nw (.code yX8_whoBeatsWhom cX8_whoBeatsWhom 6 (some .int)) U := h.at 602 (by decide +kernel) rfl
theorem f603 {U : State} (h : FX U) : va_Nw (.methodLink RX8 270 yX8_beatBit) U := h.at 603 (by decide +kernel) rfl
theorem f604 {U : State} (h : FX U) : va_Nw (.static yX8_beatBit) U := h.at 604 (by decide +kernel) rfl
theorem f605 {U : State} (h : FX U) : va_Nw (.code yX8_beatBit cX8_beatBit 2 (some .int)) U := h.at 605 (by decide +kernel) rfl
theorem f606 {U : State} (h : FX U) : va_Nw (.methodLink RX8 194 yX8_isRing) U := h.at 606 (by decide +kernel) rfl
theorem f607 {U : State} (h : FX U) : va_Nw (.static yX8_isRing) U := h.at 607 (by decide +kernel) rfl
theorem f608 {U : State} (h : FX U) : va_Nw (.code yX8_isRing cX8_isRing 3 (some .boolean)) U := h.at 608 (by decide +kernel) rfl
theorem f609 {U : State} (h : FX U) : va_Nw (.methodLink RX8 273 yX8_closes) U := h.at 609 (by decide +kernel) rfl
theorem f610 {U : State} (h : FX U) : va_Nw (.static yX8_closes) U := h.at 610 (by decide +kernel) rfl
theorem f611 {U : State} (h : FX U) : va_Nw (.code yX8_closes cX8_closes 7 (some .boolean)) U := h.at 611 (by decide +kernel) rfl
theorem f612 {U : State} (h : FX U) : va_Nw (.methodLink RL 76 yX8_odds) U := h.at 612 (by decide +kernel) rfl
theorem f613 {U : State} (h : FX U) : va_Nw (.instanceMethod yX8_odds) U := h.at 613 (by decide +kernel) rfl
theorem f614 {U : State} (h : FX U) : va_Nw (.selects RX8 yX8_odds yX8_odds) U := h.at 614 (by decide +kernel) rfl
theorem f615 {U : State} (h : FX U) : va_Nw (.code yX8_odds cX8_odds 6 (some .int)) U := h.at 615 (by decide +kernel) rfl
theorem f616 {U : State} (h : FX U) : va_Nw (.methodLink RX8 197 yX8_waysToWin) U := h.at 616 (by decide +kernel) rfl
theorem f618 {U : State} (h : FX U) : va_Nw (.instanceMethod yX8_waysToWin) U := h.at 618 (by decide +kernel) rfl
theorem f619 {U : State} (h : FX U) : va_Nw (.code yX8_waysToWin cX8_waysToWin 7 (some .int)) U := h.at 619 (by decide +kernel) rfl
theorem f620 {U : State} (h : FX U) : va_Nw (.methodLink RX8 207 yJ7_fill_53178) U := h.at 620 (by decide +kernel) rfl
theorem f621 {U : State} (h : FX U) : va_Nw (.methodLink RX8 277 yX8_winsByToss) U := h.at 621 (by decide +kernel) rfl
theorem f623 {U : State} (h : FX U) : va_Nw (.instanceMethod yX8_winsByToss) U := h.at 623 (by decide +kernel) rfl
theorem f624 {U : State} (h : FX U) : va_Nw (.code yX8_winsByToss cX8_winsByToss 9 (some .int)) U := h.at 624 (by decide +kernel) rfl
theorem f625 {U : State} (h : FX U) : va_Nw (.methodLink RX8 280 ⟨"java/lang/System", "arraycopy", "(Ljava/lang/Object;ILjava/lang/Object;II)V"⟩) U := h.at 625 (by decide +kernel) rfl
theorem f626 {U : State} (h : FX U) : va_Nw (.static ⟨"java/lang/System", "arraycopy", "(Ljava/lang/Object;ILjava/lang/Object;II)V"⟩) U := h.at 626 (by decide +kernel) rfl
theorem f627 {U : State} (h : FX U) : va_Nw (.native ⟨"java/lang/System", "arraycopy", "(Ljava/lang/Object;ILjava/lang/Object;II)V"⟩) U := h.at 627 (by decide +kernel) rfl
theorem f628 {U : State} (h : FX U) : va_Nw (.methodLink RL 81 yX8_see) U := h.at 628 (by decide +kernel) rfl
theorem f629 {U : State} (h : FX U) : va_Nw (.instanceMethod yX8_see) U := h.at 629 (by decide +kernel) rfl
theorem f630 {U : State} (h : FX U) : va_Nw (.selects RX8 yX8_see yX8_see) U := h.at 630 (by decide +kernel) rfl
theorem f631 {U : State} (h : FX U) : va_Nw (.code yX8_see cX8_see 4 (some .int)) U := h.at 631 (by decide +kernel) rfl
theorem f632 {U : State} (h : FX U) : va_Nw (.methodLink RX8 203 yX1_addSeen) U := h.at 632 (by decide +kernel) rfl
theorem f633 {U : State} (h : FX U) : va_Nw (.instanceMethod yX1_addSeen) U := h.at 633 (by decide +kernel) rfl
theorem f634 {U : State} (h : FX U) : va_Nw (.selects RX1 yX1_addSeen yX1_addSeen) U := h.at 634 (by decide +kernel) rfl
theorem f635 {U : State} (h : FX U) : va_Nw (.code yX1_addSeen cX1_addSeen 4 none) U := h.at 635 (by decide +kernel) rfl
theorem f636 {U : State} (h : FX U) : va_Nw (.methodLink RL 86 yX8_forget) U := h.at 636 (by decide +kernel) rfl
theorem f637 {U : State} (h : FX U) : va_Nw (.instanceMethod yX8_forget) U := h.at 637 (by decide +kernel) rfl
theorem f638 {U : State} (h : FX U) : va_Nw (.selects RX8 yX8_forget yX8_forget) U := h.at 638 (by decide +kernel) rfl
theorem f639 {U : State} (h : FX U) : va_Nw (.code yX8_forget cX8_forget 2 (some .int)) U := h.at 639 (by decide +kernel) rfl
theorem f640 {U : State} (h : FX U) : va_Nw (.methodLink RL 90 yX8_games) U := h.at 640 (by decide +kernel) rfl
theorem f641 {U : State} (h : FX U) : va_Nw (.instanceMethod yX8_games) U := h.at 641 (by decide +kernel) rfl
theorem f642 {U : State} (h : FX U) : va_Nw (.selects RX8 yX8_games yX8_games) U := h.at 642 (by decide +kernel) rfl
theorem f643 {U : State} (h : FX U) : va_Nw (.code yX8_games cX8_games 9 (some .int)) U := h.at 643 (by decide +kernel) rfl
theorem f644 {U : State} (h : FX U) : va_Nw (.methodLink RX8 213 yX8_nextSeed) U := h.at 644 (by decide +kernel) rfl
theorem f645 {U : State} (h : FX U) : va_Nw (.static yX8_nextSeed) U := h.at 645 (by decide +kernel) rfl
theorem f646 {U : State} (h : FX U) : va_Nw (.code yX8_nextSeed cX8_nextSeed 1 (some .int)) U := h.at 646 (by decide +kernel) rfl
theorem f647 {U : State} (h : FX U) : va_Nw (.constantLong RX8 263 (1103515245 : Int64)) U := h.at 647 (by decide +kernel) rfl
theorem f648 {U : State} (h : FX U) : va_Nw (.constantLong RX8 265 (12345 : Int64)) U := h.at 648 (by decide +kernel) rfl
theorem f649 {U : State} (h : FX U) : va_Nw (.constantLong RX8 267 (2147483647 : Int64)) U := h.at 649 (by decide +kernel) rfl
theorem f650 {U : State} (h : FX U) : va_Nw (.constant RX8 216 (65536 : Int32)) U := h.at 650 (by decide +kernel) rfl
theorem f651 {U : State} (h : FX U) : va_Nw (.methodLink RX8 217 yX8_mostWins) U := h.at 651 (by decide +kernel) rfl
theorem f653 {U : State} (h : FX U) : va_Nw (.instanceMethod yX8_mostWins) U := h.at 653 (by decide +kernel) rfl
theorem f654 {U : State} (h : FX U) : va_Nw (.code yX8_mostWins cX8_mostWins 3 (some .int)) U := h.at 654 (by decide +kernel) rfl
theorem f655 {U : State} (h : FX U) : va_Nw (.methodLink RL 94 yX8_image) U := h.at 655 (by decide +kernel) rfl
theorem f656 {U : State} (h : FX U) : va_Nw (.instanceMethod yX8_image) U := h.at 656 (by decide +kernel) rfl
theorem f657 {U : State} (h : FX U) : va_Nw (.selects RX8 yX8_image yX8_image) U := h.at 657 (by decide +kernel) rfl
theorem f658 {U : State} (h : FX U) : va_Nw (.code yX8_image cX8_image 1 (some .int)) U := h.at 658 (by decide +kernel) rfl
theorem f659 {U : State} (h : FX U) : va_Nw (.methodLink RX8 220 yX1_take) U := h.at 659 (by decide +kernel) rfl
theorem f660 {U : State} (h : FX U) : va_Nw (.instanceMethod yX1_take) U := h.at 660 (by decide +kernel) rfl
theorem f661 {U : State} (h : FX U) : va_Nw (.selects RX1 yX1_take yX1_take) U := h.at 661 (by decide +kernel) rfl
theorem f662 {U : State} (h : FX U) : va_Nw (.code yX1_take cX1_take 3 none) U := h.at 662 (by decide +kernel) rfl
theorem f663 {U : State} (h : FX U) : va_Nw (.methodLink RX1 53 ⟨"java/lang/System", "arraycopy", "(Ljava/lang/Object;ILjava/lang/Object;II)V"⟩) U := h.at 663 (by decide +kernel) rfl
theorem f664 {U : State} (h : FX U) : va_Nw (.methodLink RL 98 yX8_restore) U := h.at 664 (by decide +kernel) rfl
theorem f665 {U : State} (h : FX U) : va_Nw (.instanceMethod yX8_restore) U := h.at 665 (by decide +kernel) rfl
theorem f666 {U : State} (h : FX U) : va_Nw (.selects RX8 yX8_restore yX8_restore) U := h.at 666 (by decide +kernel) rfl
theorem f667 {U : State} (h : FX U) : va_Nw (.code yX8_restore cX8_restore 1 (some .int)) U := h.at 667 (by decide +kernel) rfl
theorem f668 {U : State} (h : FX U) : va_Nw (.methodLink RL 102 yX8_count) U := h.at 668 (by decide +kernel) rfl
theorem f669 {U : State} (h : FX U) : va_Nw (.instanceMethod yX8_count) U := h.at 669 (by decide +kernel) rfl
theorem f670 {U : State} (h : FX U) : va_Nw (.selects RX8 yX8_count yX8_count) U := h.at 670 (by decide +kernel) rfl
theorem f671 {U : State} (h : FX U) : va_Nw (.code yX8_count cX8_count 2 (some .int)) U := h.at 671 (by decide +kernel) rfl
theorem f672 {U : State} (h : FX U) : va_Nw (.methodLink RX8 227 yX1_wonByAll) U := h.at 672 (by decide +kernel) rfl
theorem f673 {U : State} (h : FX U) : va_Nw (.instanceMethod yX1_wonByAll) U := h.at 673 (by decide +kernel) rfl
theorem f674 {U : State} (h : FX U) : va_Nw (.selects RX1 yX1_wonByAll yX1_wonByAll) U := h.at 674 (by decide +kernel) rfl
theorem f675 {U : State} (h : FX U) : va_Nw (.code yX1_wonByAll cX1_wonByAll 3 (some .int)) U := h.at 675 (by decide +kernel) rfl
theorem f676 {U : State} (h : FX U) : va_Nw (.methodLink RL 106 yX8_digest) U := h.at 676 (by decide +kernel) rfl
theorem f677 {U : State} (h : FX U) : va_Nw (.instanceMethod yX8_digest) U := h.at 677 (by decide +kernel) rfl
theorem f678 {U : State} (h : FX U) : va_Nw (.selects RX8 yX8_digest yX8_digest) U := h.at 678 (by decide +kernel) rfl
theorem f679 {U : State} (h : FX U) : va_Nw (.code yX8_digest cX8_digest 5 (some .long)) U := h.at 679 (by decide +kernel) rfl
theorem f680 {U : State} (h : FX U) : va_Nw (.constantLong RX8 230 (1297 : Int64)) U := h.at 680 (by decide +kernel) rfl
theorem f681 {U : State} (h : FX U) : va_Nw (.methodLink RX8 232 yX8_player) U := h.at 681 (by decide +kernel) rfl
theorem f682 {U : State} (h : FX U) : va_Nw (.methodLink RX8 235 yX8_with) U := h.at 682 (by decide +kernel) rfl
theorem f683 {U : State} (h : FX U) : va_Nw (.static yX8_with) U := h.at 683 (by decide +kernel) rfl
theorem f684 {U : State} (h : FX U) : va_Nw (.code yX8_with cX8_with 4 (some .long)) U := h.at 684 (by decide +kernel) rfl
theorem f685 {U : State} (h : FX U) : va_Nw (.constantLong RX8 258 (31 : Int64)) U := h.at 685 (by decide +kernel) rfl
theorem f686 {U : State} (h : FX U) : va_Nw (.methodLink RX8 239 yX8_answer) U := h.at 686 (by decide +kernel) rfl
theorem f687 {U : State} (h : FX U) : va_Nw (.methodLink RX8 242 yX8_odds) U := h.at 687 (by decide +kernel) rfl
theorem f688 {U : State} (h : FX U) : va_Nw (.methodLink RX8 245 yX8_duel) U := h.at 688 (by decide +kernel) rfl
theorem f689 {U : State} (h : FX U) : va_Nw (.methodLink RX8 248 yX8_ring) U := h.at 689 (by decide +kernel) rfl
theorem f690 {U : State} (h : FX U) : va_Nw (.methodLink RX8 251 yX5_at) U := h.at 690 (by decide +kernel) rfl
theorem f691 {U : State} (h : FX U) : va_Nw (.methodLink RX8 255 yX8_count) U := h.at 691 (by decide +kernel) rfl
theorem f692 {U : State} (h : FX U) : va_Nw (.classLink RL 10 "TossRowsModel") U := h.at 692 (by decide +kernel) rfl
theorem f693 {U : State} (h : FX U) : va_Nw (.instantiable "TossRowsModel" 37) U := h.at 693 (by decide +kernel) rfl
theorem f694 {U : State} (h : FX U) : va_Nw (.methodLink RL 12 yX9_init) U := h.at 694 (by decide +kernel) rfl
theorem f695 {U : State} (h : FX U) : va_Nw (.instanceMethod yX9_init) U := h.at 695 (by decide +kernel) rfl
theorem f696 {U : State} (h : FX U) : va_Nw (.code yX9_init cX9_init 1 none) U := h.at 696 (by decide +kernel) rfl
theorem f697 {U : State} (h : FX U) : va_Nw (.methodLink RX9 1 ⟨"java/lang/Object", "<init>", "()V"⟩) U := h.at 697 (by decide +kernel) rfl
theorem f698 {U : State} (h : FX U) : va_Nw (.fieldLink RX9 116 "TossRowsModel" "tables" "I") U := h.at 698 (by decide +kernel) rfl
theorem f699 {U : State} (h : FX U) : va_Nw (.fieldLink RX9 101 "TossRowsModel" "players" "I") U := h.at 699 (by decide +kernel) rfl
theorem f700 {U : State} (h : FX U) : va_Nw (.fieldLink RX9 98 "TossRowsModel" "length" "I") U := h.at 700 (by decide +kernel) rfl
theorem f701 {U : State} (h : FX U) : va_Nw (.fieldLink RX9 7 "TossRowsModel" "kindOf" "[I") U := h.at 701 (by decide +kernel) rfl
theorem f702 {U : State} (h : FX U) : va_Nw (.fieldLink RX9 13 "TossRowsModel" "rowOf" "[I") U := h.at 702 (by decide +kernel) rfl
theorem f703 {U : State} (h : FX U) : va_Nw (.fieldLink RX9 16 "TossRowsModel" "wonBy" "[I") U := h.at 703 (by decide +kernel) rfl
theorem f704 {U : State} (h : FX U) : va_Nw (.fieldLink RX9 107 "TossRowsModel" "tossed" "I") U := h.at 704 (by decide +kernel) rfl
theorem f705 {U : State} (h : FX U) : va_Nw (.fieldLink RX9 110 "TossRowsModel" "latest" "I") U := h.at 705 (by decide +kernel) rfl
theorem f706 {U : State} (h : FX U) : va_Nw (.fieldLink RX9 113 "TossRowsModel" "tosses" "I") U := h.at 706 (by decide +kernel) rfl
theorem f707 {U : State} (h : FX U) : va_Nw (.fieldLink RX9 119 "TossRowsModel" "seen" "I") U := h.at 707 (by decide +kernel) rfl
theorem f708 {U : State} (h : FX U) : va_Nw (.fieldLink RX9 19 "TossRowsModel" "seenPlayer" "[I") U := h.at 708 (by decide +kernel) rfl
theorem f709 {U : State} (h : FX U) : va_Nw (.fieldLink RX9 22 "TossRowsModel" "seenTail" "[I") U := h.at 709 (by decide +kernel) rfl
theorem f710 {U : State} (h : FX U) : va_Nw (.fieldLink RX9 25 "TossRowsModel" "seenHits" "[I") U := h.at 710 (by decide +kernel) rfl
theorem f711 {U : State} (h : FX U) : va_Nw (.fieldLink RX9 70 "TossRowsModel" "pageLength" "I") U := h.at 711 (by decide +kernel) rfl
theorem f712 {U : State} (h : FX U) : va_Nw (.fieldLink RX9 28 "TossRowsModel" "page" "[B") U := h.at 712 (by decide +kernel) rfl
theorem f713 {U : State} (h : FX U) : va_Nw (.fieldLink RX9 84 "TossRowsModel" "isWhole" "Z") U := h.at 713 (by decide +kernel) rfl
theorem f714 {U : State} (h : FX U) : va_Nw (.fieldLink RX9 81 "TossRowsModel" "newLength" "I") U := h.at 714 (by decide +kernel) rfl
theorem f715 {U : State} (h : FX U) : va_Nw (.fieldLink RX9 88 "TossRowsModel" "newPlayers" "I") U := h.at 715 (by decide +kernel) rfl
theorem f716 {U : State} (h : FX U) : va_Nw (.fieldLink RX9 32 "TossRowsModel" "by" "[J") U := h.at 716 (by decide +kernel) rfl
theorem f717 {U : State} (h : FX U) : va_Nw (.fieldLink RX9 36 "TossRowsModel" "beats" "[I") U := h.at 717 (by decide +kernel) rfl
theorem f718 {U : State} (h : FX U) : va_Nw (.fieldLink RX9 39 "TossRowsModel" "waysOf" "[I") U := h.at 718 (by decide +kernel) rfl
theorem f719 {U : State} (h : FX U) : va_Nw (.fieldLink RX9 42 "TossRowsModel" "waysNext" "[I") U := h.at 719 (by decide +kernel) rfl
theorem f720 {U : State} (h : FX U) : va_Nw (.fieldLink RX9 238 "TossRowsModel" "seedNow" "J") U := h.at 720 (by decide +kernel) rfl
theorem f721 {U : State} (h : FX U) : va_Nw (.fieldLink RX9 45 "TossRowsModel" "wonNow" "[I") U := h.at 721 (by decide +kernel) rfl
theorem f722 {U : State} (h : FX U) : va_Nw (.fieldLink RX9 257 "TossRowsModel" "isKept" "Z") U := h.at 722 (by decide +kernel) rfl
theorem f723 {U : State} (h : FX U) : va_Nw (.fieldLink RX9 260 "TossRowsModel" "keptTable" "I") U := h.at 723 (by decide +kernel) rfl
theorem f724 {U : State} (h : FX U) : va_Nw (.fieldLink RX9 263 "TossRowsModel" "keptTossed" "I") U := h.at 724 (by decide +kernel) rfl
theorem f725 {U : State} (h : FX U) : va_Nw (.fieldLink RX9 266 "TossRowsModel" "keptLatest" "I") U := h.at 725 (by decide +kernel) rfl
theorem f726 {U : State} (h : FX U) : va_Nw (.fieldLink RX9 269 "TossRowsModel" "keptTosses" "I") U := h.at 726 (by decide +kernel) rfl
theorem f727 {U : State} (h : FX U) : va_Nw (.fieldLink RX9 272 "TossRowsModel" "keptSeen" "I") U := h.at 727 (by decide +kernel) rfl
theorem f728 {U : State} (h : FX U) : va_Nw (.fieldLink RX9 48 "TossRowsModel" "keptKind" "[I") U := h.at 728 (by decide +kernel) rfl
theorem f729 {U : State} (h : FX U) : va_Nw (.fieldLink RX9 51 "TossRowsModel" "keptRow" "[I") U := h.at 729 (by decide +kernel) rfl
theorem f730 {U : State} (h : FX U) : va_Nw (.fieldLink RX9 54 "TossRowsModel" "keptWon" "[I") U := h.at 730 (by decide +kernel) rfl
theorem f731 {U : State} (h : FX U) : va_Nw (.fieldLink RX9 57 "TossRowsModel" "keptPlayer" "[I") U := h.at 731 (by decide +kernel) rfl
theorem f732 {U : State} (h : FX U) : va_Nw (.fieldLink RX9 60 "TossRowsModel" "keptTail" "[I") U := h.at 732 (by decide +kernel) rfl
theorem f733 {U : State} (h : FX U) : va_Nw (.fieldLink RX9 63 "TossRowsModel" "keptHits" "[I") U := h.at 733 (by decide +kernel) rfl
theorem f734 {U : State} (h : FX U) : va_Nw (.fieldLink RX9 286 "TossRowsModel" "h" "J") U := h.at 734 (by decide +kernel) rfl
theorem f810 {U : State} (h : FX U) : va_Nw (.methodLink RL 17 yX9_letter) U := h.at 810 (by decide +kernel) rfl
theorem f811 {U : State} (h : FX U) : va_Nw (.instanceMethod yX9_letter) U := h.at 811 (by decide +kernel) rfl
theorem f812 {U : State} (h : FX U) : va_Nw (.selects RX9 yX9_letter yX9_letter) U := h.at 812 (by decide +kernel) rfl
theorem f813 {U : State} (h : FX U) : va_Nw (.code yX9_letter cX9_letter 2 (some .int)) U := h.at 813 (by decide +kernel) rfl
theorem f814 {U : State} (h : FX U) : va_Nw (.methodLink RX9 66 yX9_within) U := h.at 814 (by decide +kernel) rfl
theorem f815 {U : State} (h : FX U) : va_Nw (.static yX9_within) U := h.at 815 (by decide +kernel) rfl
theorem f816 {U : State} (h : FX U) : va_Nw (.code yX9_within cX9_within 3 (some .boolean)) U := h.at 816 (by decide +kernel) rfl
theorem f817 {U : State} (h : FX U) : va_Nw (.methodLink RL 22 yX9_blank) U := h.at 817 (by decide +kernel) rfl
theorem f818 {U : State} (h : FX U) : va_Nw (.instanceMethod yX9_blank) U := h.at 818 (by decide +kernel) rfl
theorem f819 {U : State} (h : FX U) : va_Nw (.selects RX9 yX9_blank yX9_blank) U := h.at 819 (by decide +kernel) rfl
theorem f820 {U : State} (h : FX U) : va_Nw (.code yX9_blank cX9_blank 2 (some .int)) U := h.at 820 (by decide +kernel) rfl
theorem f821 {U : State} (h : FX U) : va_Nw (.methodLink RL 26 yX9_fault) U := h.at 821 (by decide +kernel) rfl
theorem f822 {U : State} (h : FX U) : va_Nw (.instanceMethod yX9_fault) U := h.at 822 (by decide +kernel) rfl
theorem f823 {U : State} (h : FX U) : va_Nw (.selects RX9 yX9_fault yX9_fault) U := h.at 823 (by decide +kernel) rfl
theorem f824 {U : State} (h : FX U) : va_Nw (.code yX9_fault cX9_fault 1 (some .int)) U := h.at 824 (by decide +kernel) rfl
theorem f825 {U : State} (h : FX U) : va_Nw (.methodLink RX9 94 yX9_read) U := h.at 825 (by decide +kernel) rfl
theorem f827 {U : State} (h : FX U) : va_Nw (.instanceMethod yX9_read) U := h.at 827 (by decide +kernel) rfl
theorem f828 {U : State} (h : FX U) : va_Nw (.code yX9_read cX9_read 3 (some .int)) U := h.at 828 (by decide +kernel) rfl
theorem f829 {U : State} (h : FX U) : va_Nw (.methodLink RX9 74 yX9_at) U := h.at 829 (by decide +kernel) rfl
theorem f831 {U : State} (h : FX U) : va_Nw (.instanceMethod yX9_at) U := h.at 831 (by decide +kernel) rfl
theorem f832 {U : State} (h : FX U) : va_Nw (.code yX9_at cX9_at 2 (some .int)) U := h.at 832 (by decide +kernel) rfl
theorem f833 {U : State} (h : FX U) : va_Nw (.methodLink RX9 91 yX9_readPlayer) U := h.at 833 (by decide +kernel) rfl
theorem f835 {U : State} (h : FX U) : va_Nw (.instanceMethod yX9_readPlayer) U := h.at 835 (by decide +kernel) rfl
theorem f836 {U : State} (h : FX U) : va_Nw (.code yX9_readPlayer cX9_readPlayer 3 (some .int)) U := h.at 836 (by decide +kernel) rfl
theorem f837 {U : State} (h : FX U) : va_Nw (.methodLink RX9 78 yX9_kindBy) U := h.at 837 (by decide +kernel) rfl
theorem f838 {U : State} (h : FX U) : va_Nw (.static yX9_kindBy) U := h.at 838 (by decide +kernel) rfl
theorem f839 {U : State} (h : FX U) : va_Nw (.code yX9_kindBy cX9_kindBy 1 (some .int)) U := h.at 839 (by decide +kernel) rfl
theorem f840 {U : State} (h : FX U) : va_Nw (.methodLink RL 30 yX9_table) U := h.at 840 (by decide +kernel) rfl
theorem f841 {U : State} (h : FX U) : va_Nw (.instanceMethod yX9_table) U := h.at 841 (by decide +kernel) rfl
theorem f842 {U : State} (h : FX U) : va_Nw (.selects RX9 yX9_table yX9_table) U := h.at 842 (by decide +kernel) rfl
theorem f843 {U : State} (h : FX U) : va_Nw (.code yX9_table cX9_table 3 (some .int)) U := h.at 843 (by decide +kernel) rfl
theorem f844 {U : State} (h : FX U) : va_Nw (.methodLink RX9 104 yX9_rowAt) U := h.at 844 (by decide +kernel) rfl
theorem f846 {U : State} (h : FX U) : va_Nw (.instanceMethod yX9_rowAt) U := h.at 846 (by decide +kernel) rfl
theorem f847 {U : State} (h : FX U) : va_Nw (.code yX9_rowAt cX9_rowAt 4 (some .int)) U := h.at 847 (by decide +kernel) rfl
theorem f848 {U : State} (h : FX U) : va_Nw (.methodLink RL 35 yX9_player) U := h.at 848 (by decide +kernel) rfl
theorem f849 {U : State} (h : FX U) : va_Nw (.instanceMethod yX9_player) U := h.at 849 (by decide +kernel) rfl
theorem f850 {U : State} (h : FX U) : va_Nw (.selects RX9 yX9_player yX9_player) U := h.at 850 (by decide +kernel) rfl
theorem f851 {U : State} (h : FX U) : va_Nw (.code yX9_player cX9_player 3 (some .int)) U := h.at 851 (by decide +kernel) rfl
theorem f852 {U : State} (h : FX U) : va_Nw (.methodLink RX9 147 yX9_isPlayer) U := h.at 852 (by decide +kernel) rfl
theorem f854 {U : State} (h : FX U) : va_Nw (.instanceMethod yX9_isPlayer) U := h.at 854 (by decide +kernel) rfl
theorem f855 {U : State} (h : FX U) : va_Nw (.code yX9_isPlayer cX9_isPlayer 2 (some .boolean)) U := h.at 855 (by decide +kernel) rfl
theorem f856 {U : State} (h : FX U) : va_Nw (.methodLink RX9 151 yX9_playerNow) U := h.at 856 (by decide +kernel) rfl
theorem f858 {U : State} (h : FX U) : va_Nw (.instanceMethod yX9_playerNow) U := h.at 858 (by decide +kernel) rfl
theorem f859 {U : State} (h : FX U) : va_Nw (.code yX9_playerNow cX9_playerNow 3 (some .int)) U := h.at 859 (by decide +kernel) rfl
theorem f860 {U : State} (h : FX U) : va_Nw (.methodLink RX9 132 yX9_hitsOf) U := h.at 860 (by decide +kernel) rfl
theorem f862 {U : State} (h : FX U) : va_Nw (.instanceMethod yX9_hitsOf) U := h.at 862 (by decide +kernel) rfl
theorem f863 {U : State} (h : FX U) : va_Nw (.code yX9_hitsOf cX9_hitsOf 2 (some .int)) U := h.at 863 (by decide +kernel) rfl
theorem f864 {U : State} (h : FX U) : va_Nw (.methodLink RX9 128 yX9_hitsBy) U := h.at 864 (by decide +kernel) rfl
theorem f866 {U : State} (h : FX U) : va_Nw (.instanceMethod yX9_hitsBy) U := h.at 866 (by decide +kernel) rfl
theorem f867 {U : State} (h : FX U) : va_Nw (.code yX9_hitsBy cX9_hitsBy 6 (some .int)) U := h.at 867 (by decide +kernel) rfl
theorem f868 {U : State} (h : FX U) : va_Nw (.methodLink RX9 122 yX9_rows) U := h.at 868 (by decide +kernel) rfl
theorem f870 {U : State} (h : FX U) : va_Nw (.instanceMethod yX9_rows) U := h.at 870 (by decide +kernel) rfl
theorem f871 {U : State} (h : FX U) : va_Nw (.code yX9_rows cX9_rows 1 (some .int)) U := h.at 871 (by decide +kernel) rfl
theorem f872 {U : State} (h : FX U) : va_Nw (.methodLink RX9 125 yX9_turned) U := h.at 872 (by decide +kernel) rfl
theorem f874 {U : State} (h : FX U) : va_Nw (.instanceMethod yX9_turned) U := h.at 874 (by decide +kernel) rfl
theorem f875 {U : State} (h : FX U) : va_Nw (.code yX9_turned cX9_turned 4 (some .int)) U := h.at 875 (by decide +kernel) rfl
theorem f876 {U : State} (h : FX U) : va_Nw (.methodLink RX9 135 yX9_waitOf) U := h.at 876 (by decide +kernel) rfl
theorem f878 {U : State} (h : FX U) : va_Nw (.instanceMethod yX9_waitOf) U := h.at 878 (by decide +kernel) rfl
theorem f879 {U : State} (h : FX U) : va_Nw (.code yX9_waitOf cX9_waitOf 6 (some .int)) U := h.at 879 (by decide +kernel) rfl
theorem f880 {U : State} (h : FX U) : va_Nw (.methodLink RX9 164 yX9_unknowns) U := h.at 880 (by decide +kernel) rfl
theorem f882 {U : State} (h : FX U) : va_Nw (.instanceMethod yX9_unknowns) U := h.at 882 (by decide +kernel) rfl
theorem f883 {U : State} (h : FX U) : va_Nw (.code yX9_unknowns cX9_unknowns 1 (some .int)) U := h.at 883 (by decide +kernel) rfl
theorem f884 {U : State} (h : FX U) : va_Nw (.methodLink RX9 175 yX9_clear) U := h.at 884 (by decide +kernel) rfl
theorem f886 {U : State} (h : FX U) : va_Nw (.instanceMethod yX9_clear) U := h.at 886 (by decide +kernel) rfl
theorem f887 {U : State} (h : FX U) : va_Nw (.code yX9_clear cX9_clear 2 none) U := h.at 887 (by decide +kernel) rfl
theorem f888 {U : State} (h : FX U) : va_Nw (.constantLong RX9 178 (2 : Int64)) U := h.at 888 (by decide +kernel) rfl
theorem f889 {U : State} (h : FX U) : va_Nw (.methodLink RX9 157 yX9_isIn) U := h.at 889 (by decide +kernel) rfl
theorem f890 {U : State} (h : FX U) : va_Nw (.static yX9_isIn) U := h.at 890 (by decide +kernel) rfl
theorem f891 {U : State} (h : FX U) : va_Nw (.code yX9_isIn cX9_isIn 2 (some .boolean)) U := h.at 891 (by decide +kernel) rfl
theorem f892 {U : State} (h : FX U) : va_Nw (.methodLink RX9 180 yX9_solve) U := h.at 892 (by decide +kernel) rfl
theorem f894 {U : State} (h : FX U) : va_Nw (.instanceMethod yX9_solve) U := h.at 894 (by decide +kernel) rfl
theorem f895 {U : State} (h : FX U) : va_Nw (.code yX9_solve cX9_solve 6 none) U := h.at 895 (by decide +kernel) rfl
theorem f896 {U : State} (h : FX U) : va_Nw (.methodLink RX9 167 yX9_exchange) U := h.at 896 (by decide +kernel) rfl
theorem f898 {U : State} (h : FX U) : va_Nw (.instanceMethod yX9_exchange) U := h.at 898 (by decide +kernel) rfl
theorem f899 {U : State} (h : FX U) : va_Nw (.code yX9_exchange cX9_exchange 6 none) U := h.at 899 (by decide +kernel) rfl
theorem f900 {U : State} (h : FX U) : va_Nw (.methodLink RX9 171 yX9_eliminate) U := h.at 900 (by decide +kernel) rfl
theorem f902 {U : State} (h : FX U) : va_Nw (.instanceMethod yX9_eliminate) U := h.at 902 (by decide +kernel) rfl
theorem f903 {U : State} (h : FX U) : va_Nw (.code yX9_eliminate cX9_eliminate 9 none) U := h.at 903 (by decide +kernel) rfl
theorem f904 {U : State} (h : FX U) : va_Nw (.constantLong RX9 183 (1000 : Int64)) U := h.at 904 (by decide +kernel) rfl
theorem f905 {U : State} (h : FX U) : va_Nw (.methodLink RX9 185 yX9_middle) U := h.at 905 (by decide +kernel) rfl
theorem f907 {U : State} (h : FX U) : va_Nw (.instanceMethod yX9_middle) U := h.at 907 (by decide +kernel) rfl
theorem f908 {U : State} (h : FX U) : va_Nw (.code yX9_middle cX9_middle 8 (some .long)) U := h.at 908 (by decide +kernel) rfl
theorem f909 {U : State} (h : FX U) : va_Nw (.methodLink RX9 138 yX9_size) U := h.at 909 (by decide +kernel) rfl
theorem f910 {U : State} (h : FX U) : va_Nw (.static yX9_size) U := h.at 910 (by decide +kernel) rfl
theorem f911 {U : State} (h : FX U) : va_Nw (.code yX9_size cX9_size 3 (some .int)) U := h.at 911 (by decide +kernel) rfl
theorem f912 {U : State} (h : FX U) : va_Nw (.methodLink RX9 141 yX9_rowsOf) U := h.at 912 (by decide +kernel) rfl
theorem f914 {U : State} (h : FX U) : va_Nw (.instanceMethod yX9_rowsOf) U := h.at 914 (by decide +kernel) rfl
theorem f915 {U : State} (h : FX U) : va_Nw (.code yX9_rowsOf cX9_rowsOf 6 (some .int)) U := h.at 915 (by decide +kernel) rfl
theorem f916 {U : State} (h : FX U) : va_Nw (.methodLink RX9 144 yX9_tryFor) U := h.at 916 (by decide +kernel) rfl
theorem f918 {U : State} (h : FX U) : va_Nw (.instanceMethod yX9_tryFor) U := h.at 918 (by decide +kernel) rfl
theorem f919 {U : State} (h : FX U) : va_Nw (.code yX9_tryFor cX9_tryFor 9 (some .int)) U := h.at 919 (by decide +kernel) rfl
theorem f920 {U : State} (h : FX U) : va_Nw (.constant RX9 200 (268435456 : Int32)) U := h.at 920 (by decide +kernel) rfl
theorem f921 {U : State} (h : FX U) : va_Nw (.methodLink RL 39 yX9_as) U := h.at 921 (by decide +kernel) rfl
theorem f922 {U : State} (h : FX U) : va_Nw (.instanceMethod yX9_as) U := h.at 922 (by decide +kernel) rfl
theorem f923 {U : State} (h : FX U) : va_Nw (.selects RX9 yX9_as yX9_as) U := h.at 923 (by decide +kernel) rfl
theorem f924 {U : State} (h : FX U) : va_Nw (.code yX9_as cX9_as 4 (some .int)) U := h.at 924 (by decide +kernel) rfl
theorem f925 {U : State} (h : FX U) : va_Nw (.methodLink RL 43 yX9_hits) U := h.at 925 (by decide +kernel) rfl
theorem f926 {U : State} (h : FX U) : va_Nw (.instanceMethod yX9_hits) U := h.at 926 (by decide +kernel) rfl
theorem f927 {U : State} (h : FX U) : va_Nw (.selects RX9 yX9_hits yX9_hits) U := h.at 927 (by decide +kernel) rfl
theorem f928 {U : State} (h : FX U) : va_Nw (.code yX9_hits cX9_hits 3 (some .int)) U := h.at 928 (by decide +kernel) rfl
theorem f929 {U : State} (h : FX U) : va_Nw (.methodLink RX9 154 yX9_isRow) U := h.at 929 (by decide +kernel) rfl
theorem f931 {U : State} (h : FX U) : va_Nw (.instanceMethod yX9_isRow) U := h.at 931 (by decide +kernel) rfl
theorem f932 {U : State} (h : FX U) : va_Nw (.code yX9_isRow cX9_isRow 2 (some .boolean)) U := h.at 932 (by decide +kernel) rfl
theorem f933 {U : State} (h : FX U) : va_Nw (.methodLink RL 47 yX9_toss) U := h.at 933 (by decide +kernel) rfl
theorem f934 {U : State} (h : FX U) : va_Nw (.instanceMethod yX9_toss) U := h.at 934 (by decide +kernel) rfl
theorem f935 {U : State} (h : FX U) : va_Nw (.selects RX9 yX9_toss yX9_toss) U := h.at 935 (by decide +kernel) rfl
theorem f936 {U : State} (h : FX U) : va_Nw (.code yX9_toss cX9_toss 4 (some .int)) U := h.at 936 (by decide +kernel) rfl
theorem f937 {U : State} (h : FX U) : va_Nw (.methodLink RX9 161 yX9_whoHits) U := h.at 937 (by decide +kernel) rfl
theorem f939 {U : State} (h : FX U) : va_Nw (.instanceMethod yX9_whoHits) U := h.at 939 (by decide +kernel) rfl
theorem f940 {U : State} (h : FX U) : va_Nw (.code yX9_whoHits cX9_whoHits 5 (some .int)) U := h.at 940 (by decide +kernel) rfl
theorem f941 {U : State} (h : FX U) : va_Nw (.methodLink RL 51 yX9_anew) U := h.at 941 (by decide +kernel) rfl
theorem f942 {U : State} (h : FX U) : va_Nw (.instanceMethod yX9_anew) U := h.at 942 (by decide +kernel) rfl
theorem f943 {U : State} (h : FX U) : va_Nw (.selects RX9 yX9_anew yX9_anew) U := h.at 943 (by decide +kernel) rfl
theorem f944 {U : State} (h : FX U) : va_Nw (.code yX9_anew cX9_anew 2 (some .int)) U := h.at 944 (by decide +kernel) rfl
theorem f945 {U : State} (h : FX U) : va_Nw (.methodLink RL 55 yX9_bet) U := h.at 945 (by decide +kernel) rfl
theorem f946 {U : State} (h : FX U) : va_Nw (.instanceMethod yX9_bet) U := h.at 946 (by decide +kernel) rfl
theorem f947 {U : State} (h : FX U) : va_Nw (.selects RX9 yX9_bet yX9_bet) U := h.at 947 (by decide +kernel) rfl
theorem f948 {U : State} (h : FX U) : va_Nw (.code yX9_bet cX9_bet 4 (some .int)) U := h.at 948 (by decide +kernel) rfl
theorem f949 {U : State} (h : FX U) : va_Nw (.methodLink RL 59 yX9_be) U := h.at 949 (by decide +kernel) rfl
theorem f950 {U : State} (h : FX U) : va_Nw (.instanceMethod yX9_be) U := h.at 950 (by decide +kernel) rfl
theorem f951 {U : State} (h : FX U) : va_Nw (.selects RX9 yX9_be yX9_be) U := h.at 951 (by decide +kernel) rfl
theorem f952 {U : State} (h : FX U) : va_Nw (.code yX9_be cX9_be 4 (some .int)) U := h.at 952 (by decide +kernel) rfl
theorem f953 {U : State} (h : FX U) : va_Nw (.methodLink RL 63 yX9_duel) U := h.at 953 (by decide +kernel) rfl
theorem f954 {U : State} (h : FX U) : va_Nw (.instanceMethod yX9_duel) U := h.at 954 (by decide +kernel) rfl
theorem f955 {U : State} (h : FX U) : va_Nw (.selects RX9 yX9_duel yX9_duel) U := h.at 955 (by decide +kernel) rfl
theorem f956 {U : State} (h : FX U) : va_Nw (.code yX9_duel cX9_duel 3 (some .int)) U := h.at 956 (by decide +kernel) rfl
theorem f957 {U : State} (h : FX U) : va_Nw (.methodLink RX9 194 yX9_duelNow) U := h.at 957 (by decide +kernel) rfl
theorem f959 {U : State} (h : FX U) : va_Nw (.instanceMethod yX9_duelNow) U := h.at 959 (by decide +kernel) rfl
theorem f960 {U : State} (h : FX U) : va_Nw (.code yX9_duelNow cX9_duelNow 3 (some .int)) U := h.at 960 (by decide +kernel) rfl
theorem f961 {U : State} (h : FX U) : va_Nw (.methodLink RX9 191 yX9_duelOf) U := h.at 961 (by decide +kernel) rfl
theorem f963 {U : State} (h : FX U) : va_Nw (.instanceMethod yX9_duelOf) U := h.at 963 (by decide +kernel) rfl
theorem f964 {U : State} (h : FX U) : va_Nw (.code yX9_duelOf cX9_duelOf 7 (some .int)) U := h.at 964 (by decide +kernel) rfl
theorem f965 {U : State} (h : FX U) : va_Nw (.constantLong RX9 189 (1000000 : Int64)) U := h.at 965 (by decide +kernel) rfl
theorem f966 {U : State} (h : FX U) : va_Nw (.methodLink RL 67 yX9_answer) U := h.at 966 (by decide +kernel) rfl
theorem f967 {U : State} (h : FX U) : va_Nw (.instanceMethod yX9_answer) U := h.at 967 (by decide +kernel) rfl
theorem f968 {U : State} (h : FX U) : va_Nw (.selects RX9 yX9_answer yX9_answer) U := h.at 968 (by decide +kernel) rfl
theorem f969 {U : State} (h : FX U) : va_Nw (.code yX9_answer cX9_answer 3 (some .int)) U := h.at 969 (by decide +kernel) rfl
theorem f970 {U : State} (h : FX U) : va_Nw (.methodLink RX9 197 yX9_answerNow) U := h.at 970 (by decide +kernel) rfl
theorem f972 {U : State} (h : FX U) : va_Nw (.instanceMethod yX9_answerNow) U := h.at 972 (by decide +kernel) rfl
theorem f973 {U : State} (h : FX U) : va_Nw (.code yX9_answerNow cX9_answerNow 8 (some .int)) U := h.at 973 (by decide +kernel) rfl
theorem f974 {U : State} (h : FX U) : va_Nw (.methodLink RL 71 yX9_open) U := h.at 974 (by decide +kernel) rfl
theorem f975 {U : State} (h : FX U) : va_Nw (.instanceMethod yX9_open) U := h.at 975 (by decide +kernel) rfl
theorem f976 {U : State} (h : FX U) : va_Nw (.selects RX9 yX9_open yX9_open) U := h.at 976 (by decide +kernel) rfl
theorem f977 {U : State} (h : FX U) : va_Nw (.code yX9_open cX9_open 2 (some .int)) U := h.at 977 (by decide +kernel) rfl
theorem f978 {U : State} (h : FX U) : va_Nw (.methodLink RX9 204 yX9_openNow) U := h.at 978 (by decide +kernel) rfl
theorem f980 {U : State} (h : FX U) : va_Nw (.instanceMethod yX9_openNow) U := h.at 980 (by decide +kernel) rfl
theorem f981 {U : State} (h : FX U) : va_Nw (.code yX9_openNow cX9_openNow 6 (some .int)) U := h.at 981 (by decide +kernel) rfl
theorem f982 {U : State} (h : FX U) : va_Nw (.methodLink RX9 201 yX9_mostAgainst) U := h.at 982 (by decide +kernel) rfl
theorem f984 {U : State} (h : FX U) : va_Nw (.instanceMethod yX9_mostAgainst) U := h.at 984 (by decide +kernel) rfl
theorem f985 {U : State} (h : FX U) : va_Nw (.code yX9_mostAgainst cX9_mostAgainst 5 (some .int)) U := h.at 985 (by decide +kernel) rfl
theorem f986 {U : State} (h : FX U) : va_Nw (.methodLink RL 75 yX9_ring) U := h.at 986 (by decide +kernel) rfl
theorem f987 {U : State} (h : FX U) : va_Nw (.instanceMethod yX9_ring) U := h.at 987 (by decide +kernel) rfl
theorem f988 {U : State} (h : FX U) : va_Nw (.selects RX9 yX9_ring yX9_ring) U := h.at 988 (by decide +kernel) rfl
theorem f989 {U : State} (h : FX U) : va_Nw (.code yX9_ring cX9_ring 1 (some .int)) U := h.at 989 (by decide +kernel) rfl
theorem f990 {U : State} (h : FX U) : va_Nw (.methodLink RX9 217 yX9_ringNow) U := h.at 990 (by decide +kernel) rfl
theorem f992 {U : State} (h : FX U) : va_Nw (.instanceMethod yX9_ringNow) U := h.at 992 (by decide +kernel) rfl
theorem f993 {U : State} (h : FX U) : va_Nw (.code yX9_ringNow cX9_ringNow 7 (some .int)) U := h.at 993 (by decide +kernel) rfl
theorem f994 {U : State} (h : FX U) : va_Nw (.methodLink RX9 207 yX9_layBeats) U := h.at 994 (by decide +kernel) rfl
theorem f996 {U : State} (h : FX U) : va_Nw (.instanceMethod yX9_layBeats) U := h.at 996 (by decide +kernel) rfl
theorem f997 {U : State} (h : FX U) : va_Nw (.code yX9_layBeats cX9_layBeats 5 none) U := h.at 997 (by decide +kernel) rfl
theorem f998 {U : State} (h : FX U) : va_Nw (.methodLink RX9 210 yX9_isRound) U := h.at 998 (by decide +kernel) rfl
theorem f1000 {U : State} (h : FX U) : va_Nw (.instanceMethod yX9_isRound) U := h.at 1000 (by decide +kernel) rfl
theorem f1001 {U : State} (h : FX U) : va_Nw (.code yX9_isRound cX9_isRound 4 (some .boolean)) U := h.at 1001 (by decide +kernel) rfl
theorem f1002 {U : State} (h : FX U) : va_Nw (.methodLink RX9 213 yX9_isRoundOfFour) U := h.at 1002 (by decide +kernel) rfl
theorem f1004 {U : State} (h : FX U) : va_Nw (.instanceMethod yX9_isRoundOfFour) U := h.at 1004 (by decide +kernel) rfl
theorem f1005 {U : State} (h : FX U) : va_Nw (.code yX9_isRoundOfFour cX9_isRoundOfFour 5 (some .boolean)) U := h.at 1005 (by decide +kernel) rfl
theorem f1006 {U : State} (h : FX U) : va_Nw (.methodLink RL 80 yX9_odds) U := h.at 1006 (by decide +kernel) rfl
theorem f1007 {U : State} (h : FX U) : va_Nw (.instanceMethod yX9_odds) U := h.at 1007 (by decide +kernel) rfl
theorem f1008 {U : State} (h : FX U) : va_Nw (.selects RX9 yX9_odds yX9_odds) U := h.at 1008 (by decide +kernel) rfl
theorem f1009 {U : State} (h : FX U) : va_Nw (.code yX9_odds cX9_odds 4 (some .int)) U := h.at 1009 (by decide +kernel) rfl
theorem f1010 {U : State} (h : FX U) : va_Nw (.methodLink RX9 232 yX9_oddsNow) U := h.at 1010 (by decide +kernel) rfl
theorem f1012 {U : State} (h : FX U) : va_Nw (.instanceMethod yX9_oddsNow) U := h.at 1012 (by decide +kernel) rfl
theorem f1013 {U : State} (h : FX U) : va_Nw (.code yX9_oddsNow cX9_oddsNow 7 (some .int)) U := h.at 1013 (by decide +kernel) rfl
theorem f1014 {U : State} (h : FX U) : va_Nw (.methodLink RX9 223 yX9_stateNow) U := h.at 1014 (by decide +kernel) rfl
theorem f1016 {U : State} (h : FX U) : va_Nw (.instanceMethod yX9_stateNow) U := h.at 1016 (by decide +kernel) rfl
theorem f1017 {U : State} (h : FX U) : va_Nw (.code yX9_stateNow cX9_stateNow 2 (some .int)) U := h.at 1017 (by decide +kernel) rfl
theorem f1018 {U : State} (h : FX U) : va_Nw (.methodLink RX9 226 yX9_tossWays) U := h.at 1018 (by decide +kernel) rfl
theorem f1020 {U : State} (h : FX U) : va_Nw (.instanceMethod yX9_tossWays) U := h.at 1020 (by decide +kernel) rfl
theorem f1021 {U : State} (h : FX U) : va_Nw (.code yX9_tossWays cX9_tossWays 7 (some .int)) U := h.at 1021 (by decide +kernel) rfl
theorem f1022 {U : State} (h : FX U) : va_Nw (.methodLink RX9 220 yX9_behind) U := h.at 1022 (by decide +kernel) rfl
theorem f1024 {U : State} (h : FX U) : va_Nw (.instanceMethod yX9_behind) U := h.at 1024 (by decide +kernel) rfl
theorem f1025 {U : State} (h : FX U) : va_Nw (.code yX9_behind cX9_behind 4 (some .int)) U := h.at 1025 (by decide +kernel) rfl
theorem f1026 {U : State} (h : FX U) : va_Nw (.methodLink RX9 229 yX9_divisor) U := h.at 1026 (by decide +kernel) rfl
theorem f1027 {U : State} (h : FX U) : va_Nw (.static yX9_divisor) U := h.at 1027 (by decide +kernel) rfl
theorem f1028 {U : State} (h : FX U) : va_Nw (.code yX9_divisor cX9_divisor 5 (some .int)) U := h.at 1028 (by decide +kernel) rfl
theorem f1029 {U : State} (h : FX U) : va_Nw (.methodLink RL 85 yX9_see) U := h.at 1029 (by decide +kernel) rfl
theorem f1030 {U : State} (h : FX U) : va_Nw (.instanceMethod yX9_see) U := h.at 1030 (by decide +kernel) rfl
theorem f1031 {U : State} (h : FX U) : va_Nw (.selects RX9 yX9_see yX9_see) U := h.at 1031 (by decide +kernel) rfl
theorem f1032 {U : State} (h : FX U) : va_Nw (.code yX9_see cX9_see 4 (some .int)) U := h.at 1032 (by decide +kernel) rfl
theorem f1033 {U : State} (h : FX U) : va_Nw (.methodLink RL 89 yX9_forget) U := h.at 1033 (by decide +kernel) rfl
theorem f1034 {U : State} (h : FX U) : va_Nw (.instanceMethod yX9_forget) U := h.at 1034 (by decide +kernel) rfl
theorem f1035 {U : State} (h : FX U) : va_Nw (.selects RX9 yX9_forget yX9_forget) U := h.at 1035 (by decide +kernel) rfl
theorem f1036 {U : State} (h : FX U) : va_Nw (.code yX9_forget cX9_forget 2 (some .int)) U := h.at 1036 (by decide +kernel) rfl
theorem f1037 {U : State} (h : FX U) : va_Nw (.methodLink RL 93 yX9_games) U := h.at 1037 (by decide +kernel) rfl
theorem f1038 {U : State} (h : FX U) : va_Nw (.instanceMethod yX9_games) U := h.at 1038 (by decide +kernel) rfl
theorem f1039 {U : State} (h : FX U) : va_Nw (.selects RX9 yX9_games yX9_games) U := h.at 1039 (by decide +kernel) rfl
theorem f1040 {U : State} (h : FX U) : va_Nw (.code yX9_games cX9_games 4 (some .int)) U := h.at 1040 (by decide +kernel) rfl
theorem f1041 {U : State} (h : FX U) : va_Nw (.methodLink RX9 254 yX9_gamesNow) U := h.at 1041 (by decide +kernel) rfl
theorem f1043 {U : State} (h : FX U) : va_Nw (.instanceMethod yX9_gamesNow) U := h.at 1043 (by decide +kernel) rfl
theorem f1044 {U : State} (h : FX U) : va_Nw (.code yX9_gamesNow cX9_gamesNow 10 (some .int)) U := h.at 1044 (by decide +kernel) rfl
theorem f1045 {U : State} (h : FX U) : va_Nw (.methodLink RX9 248 yX9_draw) U := h.at 1045 (by decide +kernel) rfl
theorem f1047 {U : State} (h : FX U) : va_Nw (.instanceMethod yX9_draw) U := h.at 1047 (by decide +kernel) rfl
theorem f1048 {U : State} (h : FX U) : va_Nw (.code yX9_draw cX9_draw 2 (some .int)) U := h.at 1048 (by decide +kernel) rfl
theorem f1049 {U : State} (h : FX U) : va_Nw (.constantLong RX9 236 (1103515245 : Int64)) U := h.at 1049 (by decide +kernel) rfl
theorem f1050 {U : State} (h : FX U) : va_Nw (.constantLong RX9 242 (12345 : Int64)) U := h.at 1050 (by decide +kernel) rfl
theorem f1051 {U : State} (h : FX U) : va_Nw (.constantLong RX9 244 (2147483647 : Int64)) U := h.at 1051 (by decide +kernel) rfl
theorem f1052 {U : State} (h : FX U) : va_Nw (.constantLong RX9 246 (65536 : Int64)) U := h.at 1052 (by decide +kernel) rfl
theorem f1053 {U : State} (h : FX U) : va_Nw (.methodLink RX9 251 yX9_mostWon) U := h.at 1053 (by decide +kernel) rfl
theorem f1055 {U : State} (h : FX U) : va_Nw (.instanceMethod yX9_mostWon) U := h.at 1055 (by decide +kernel) rfl
theorem f1056 {U : State} (h : FX U) : va_Nw (.code yX9_mostWon cX9_mostWon 3 (some .int)) U := h.at 1056 (by decide +kernel) rfl
theorem f1057 {U : State} (h : FX U) : va_Nw (.methodLink RL 97 yX9_image) U := h.at 1057 (by decide +kernel) rfl
theorem f1058 {U : State} (h : FX U) : va_Nw (.instanceMethod yX9_image) U := h.at 1058 (by decide +kernel) rfl
theorem f1059 {U : State} (h : FX U) : va_Nw (.selects RX9 yX9_image yX9_image) U := h.at 1059 (by decide +kernel) rfl
theorem f1060 {U : State} (h : FX U) : va_Nw (.code yX9_image cX9_image 2 (some .int)) U := h.at 1060 (by decide +kernel) rfl
theorem f1061 {U : State} (h : FX U) : va_Nw (.methodLink RL 101 yX9_restore) U := h.at 1061 (by decide +kernel) rfl
theorem f1062 {U : State} (h : FX U) : va_Nw (.instanceMethod yX9_restore) U := h.at 1062 (by decide +kernel) rfl
theorem f1063 {U : State} (h : FX U) : va_Nw (.selects RX9 yX9_restore yX9_restore) U := h.at 1063 (by decide +kernel) rfl
theorem f1064 {U : State} (h : FX U) : va_Nw (.code yX9_restore cX9_restore 2 (some .int)) U := h.at 1064 (by decide +kernel) rfl
theorem f1065 {U : State} (h : FX U) : va_Nw (.methodLink RL 105 yX9_count) U := h.at 1065 (by decide +kernel) rfl
theorem f1066 {U : State} (h : FX U) : va_Nw (.instanceMethod yX9_count) U := h.at 1066 (by decide +kernel) rfl
theorem f1067 {U : State} (h : FX U) : va_Nw (.selects RX9 yX9_count yX9_count) U := h.at 1067 (by decide +kernel) rfl
theorem f1068 {U : State} (h : FX U) : va_Nw (.code yX9_count cX9_count 2 (some .int)) U := h.at 1068 (by decide +kernel) rfl
theorem f1069 {U : State} (h : FX U) : va_Nw (.methodLink RX9 281 yX9_howMany) U := h.at 1069 (by decide +kernel) rfl
theorem f1071 {U : State} (h : FX U) : va_Nw (.instanceMethod yX9_howMany) U := h.at 1071 (by decide +kernel) rfl
theorem f1072 {U : State} (h : FX U) : va_Nw (.code yX9_howMany cX9_howMany 2 (some .int)) U := h.at 1072 (by decide +kernel) rfl
theorem f1073 {U : State} (h : FX U) : va_Nw (.methodLink RX9 275 yX9_tailNow) U := h.at 1073 (by decide +kernel) rfl
theorem f1075 {U : State} (h : FX U) : va_Nw (.instanceMethod yX9_tailNow) U := h.at 1075 (by decide +kernel) rfl
theorem f1076 {U : State} (h : FX U) : va_Nw (.code yX9_tailNow cX9_tailNow 1 (some .int)) U := h.at 1076 (by decide +kernel) rfl
theorem f1077 {U : State} (h : FX U) : va_Nw (.methodLink RX9 278 yX9_wonByAll) U := h.at 1077 (by decide +kernel) rfl
theorem f1079 {U : State} (h : FX U) : va_Nw (.instanceMethod yX9_wonByAll) U := h.at 1079 (by decide +kernel) rfl
theorem f1080 {U : State} (h : FX U) : va_Nw (.code yX9_wonByAll cX9_wonByAll 3 (some .int)) U := h.at 1080 (by decide +kernel) rfl
theorem f1081 {U : State} (h : FX U) : va_Nw (.methodLink RL 110 yX9_digest) U := h.at 1081 (by decide +kernel) rfl
theorem f1082 {U : State} (h : FX U) : va_Nw (.instanceMethod yX9_digest) U := h.at 1082 (by decide +kernel) rfl
theorem f1083 {U : State} (h : FX U) : va_Nw (.selects RX9 yX9_digest yX9_digest) U := h.at 1083 (by decide +kernel) rfl
theorem f1084 {U : State} (h : FX U) : va_Nw (.code yX9_digest cX9_digest 2 (some .long)) U := h.at 1084 (by decide +kernel) rfl
theorem f1085 {U : State} (h : FX U) : va_Nw (.constantLong RX9 293 (1297 : Int64)) U := h.at 1085 (by decide +kernel) rfl
theorem f1086 {U : State} (h : FX U) : va_Nw (.methodLink RX9 295 yX9_mixPlayer) U := h.at 1086 (by decide +kernel) rfl
theorem f1088 {U : State} (h : FX U) : va_Nw (.instanceMethod yX9_mixPlayer) U := h.at 1088 (by decide +kernel) rfl
theorem f1089 {U : State} (h : FX U) : va_Nw (.code yX9_mixPlayer cX9_mixPlayer 3 none) U := h.at 1089 (by decide +kernel) rfl
theorem f1090 {U : State} (h : FX U) : va_Nw (.methodLink RX9 289 yX9_mix) U := h.at 1090 (by decide +kernel) rfl
theorem f1092 {U : State} (h : FX U) : va_Nw (.instanceMethod yX9_mix) U := h.at 1092 (by decide +kernel) rfl
theorem f1093 {U : State} (h : FX U) : va_Nw (.code yX9_mix cX9_mix 3 none) U := h.at 1093 (by decide +kernel) rfl
theorem f1094 {U : State} (h : FX U) : va_Nw (.constantLong RX9 284 (31 : Int64)) U := h.at 1094 (by decide +kernel) rfl
theorem f1095 {U : State} (h : FX U) : va_Nw (.methodLink RX9 299 yX9_duel) U := h.at 1095 (by decide +kernel) rfl
theorem f1096 {U : State} (h : FX U) : va_Nw (.sameMethod "TossRows$Either" "TossRows$Either" "rowsHitWith" "(II)I") U := h.at 1096 (by decide +kernel) rfl
theorem f1098 {U : State} (h : FX U) : va_Nw (.castable "TossRows$Mirror" "TossRows$Plain") U := h.at 1098 (by decide +kernel) rfl
theorem f1099 {U : State} (h : FX U) : va_Nw (.castable "TossRows$Other" "TossRows$Plain") U := h.at 1099 (by decide +kernel) rfl
theorem f1100 {U : State} (h : FX U) : va_Nw (.castable "TossRows$Either" "TossRows$Plain") U := h.at 1100 (by decide +kernel) rfl
theorem f1101 {U : State} (h : FX U) : va_Nw (.castable "TossRows$Both" "TossRows$Plain") U := h.at 1101 (by decide +kernel) rfl
theorem f1102 {U : State} (h : FX U) : va_Nw (.fieldLink RJ0 15 "java/lang/String" "coder" "B") U := h.at 1102 (by decide +kernel) rfl
theorem f1103 {U : State} (h : FX U) : va_Nw (.fieldLink RJ0 9 "java/lang/String" "value" "[B") U := h.at 1103 (by decide +kernel) rfl
theorem ck_J0_isLatin1_aae02 : CK yJ0_isLatin1_aae02 cJ0_isLatin1_aae02 1 (some .boolean) 0 := ⟨fun U h => ⟨f311 h, f79 h⟩, by decide +kernel⟩
theorem ck_J0_coder_7d493 : CK yJ0_coder_7d493 cJ0_coder_7d493 1 (some .byte) 0 := ⟨fun U h => ⟨f321 h, f79 h⟩, by decide +kernel⟩
theorem ck_J0_length_8abf5 : CK yJ0_length_8abf5 cJ0_length_8abf5 1 (some .int) 0 := ⟨fun U h => ⟨f317 h, f79 h⟩, by decide +kernel⟩
theorem ck_J1_canEncode_9a6ad : CK yJ1_canEncode_9a6ad cJ1_canEncode_9a6ad 1 (some .boolean) 1 := ⟨fun U h => ⟨f327 h, f80 h⟩, by decide +kernel⟩
theorem ck_J1_indexOfChar_4cfef : CK yJ1_indexOfChar_4cfef cJ1_indexOfChar_4cfef 6 (some .int) 4 := ⟨fun U h => ⟨f336 h, f80 h⟩, by decide +kernel⟩
theorem ck_J1_indexOf_4cfef : CK yJ1_indexOf_4cfef cJ1_indexOf_4cfef 4 (some .int) 4 := ⟨fun U h => ⟨f324 h, f80 h⟩, by decide +kernel⟩
theorem ck_J0_indexOf_7cf53 : CK yJ0_indexOf_7cf53 cJ0_indexOf_7cf53 3 (some .int) 2 := ⟨fun U h => ⟨f307 h, f79 h⟩, by decide +kernel⟩
theorem ck_J0_indexOf_0f7a4 : CK yJ0_indexOf_0f7a4 cJ0_indexOf_0f7a4 2 (some .int) 1 := ⟨fun U h => ⟨f303 h, f79 h⟩, by decide +kernel⟩
theorem ck_X8_fromItsEnd : CK yX8_fromItsEnd cX8_fromItsEnd 4 (some .int) 2 := ⟨fun U h => ⟨f456 h, f69 h⟩, by decide +kernel⟩
theorem ck_X8_withOtherSigns : CK yX8_withOtherSigns cX8_withOtherSigns 2 (some .int) 2 := ⟨fun U h => ⟨f453 h, f69 h⟩, by decide +kernel⟩
theorem ck_X2_rowsHitWith : CK yX2_rowsHitWith cX2_rowsHitWith 3 (some .int) 2 := ⟨fun U h => ⟨f450 h, f76 h⟩, by decide +kernel⟩
theorem ck_X6_rowsHitWith : CK yX6_rowsHitWith cX6_rowsHitWith 3 (some .int) 2 := ⟨fun U h => ⟨f466 h, f73 h⟩, by decide +kernel⟩
theorem ck_X3_rowsHitWith : CK yX3_rowsHitWith cX3_rowsHitWith 3 (some .int) 2 := ⟨fun U h => ⟨f460 h, f74 h⟩, by decide +kernel⟩
theorem ck_X4_rowsHitWith : CK yX4_rowsHitWith cX4_rowsHitWith 3 (some .int) 2 := ⟨fun U h => ⟨f464 h, f75 h⟩, by decide +kernel⟩
theorem ck_X0_rowsHitWith : CK yX0_rowsHitWith cX0_rowsHitWith 3 (some .int) 2 := ⟨fun U h => ⟨f447 h, f77 h⟩, by decide +kernel⟩
theorem ck_X5_isFull : CK yX5_isFull cX5_isFull 1 (some .boolean) 0 := ⟨fun U h => ⟨f258 h, f70 h⟩, by decide +kernel⟩
theorem ck_X5_append : CK yX5_append cX5_append 2 none 1 := ⟨fun U h => ⟨f262 h, f70 h⟩, by decide +kernel⟩
theorem ck_X5_length : CK yX5_length cX5_length 1 (some .int) 0 := ⟨fun U h => ⟨f266 h, f70 h⟩, by decide +kernel⟩
theorem ck_X5_clear : CK yX5_clear cX5_clear 1 none 0 := ⟨fun U h => ⟨f274 h, f70 h⟩, by decide +kernel⟩
theorem ck_X5_at : CK yX5_at cX5_at 2 (some .char) 1 := ⟨fun U h => ⟨f294 h, f70 h⟩, by decide +kernel⟩
theorem ck_X5_size : CK yX5_size cX5_size 2 (some .int) 0 := ⟨fun U h => ⟨f290 h, f70 h⟩, by decide +kernel⟩
theorem ck_X5_step : CK yX5_step cX5_step 1 (some .int) 0 := ⟨fun U h => ⟨f298 h, f70 h⟩, by decide +kernel⟩
theorem ck_X5_canStand : CK yX5_canStand cX5_canStand 4 (some .boolean) 1 := ⟨fun U h => ⟨f286 h, f70 h⟩, by decide +kernel⟩
theorem ck_X5_firstWrong : CK yX5_firstWrong cX5_firstWrong 2 (some .int) 0 := ⟨fun U h => ⟨f282 h, f70 h⟩, by decide +kernel⟩
theorem ck_X5_playersOfTable : CK yX5_playersOfTable cX5_playersOfTable 3 (some .int) 0 := ⟨fun U h => ⟨f394 h, f70 h⟩, by decide +kernel⟩
theorem ck_J7_fill_53178 : CK yJ7_fill_53178 cJ7_fill_53178 4 none 2 := ⟨fun U h => ⟨f403 h, f85 h⟩, by decide +kernel⟩
theorem ck_X1_beginGame : CK yX1_beginGame cX1_beginGame 1 none 0 := ⟨fun U h => ⟨f407 h, f71 h⟩, by decide +kernel⟩
theorem ck_X1_clear : CK yX1_clear cX1_clear 1 none 0 := ⟨fun U h => ⟨f400 h, f71 h⟩, by decide +kernel⟩
theorem ck_X5_placeOf : CK yX5_placeOf cX5_placeOf 2 (some .int) 1 := ⟨fun U h => ⟨f415 h, f70 h⟩, by decide +kernel⟩
theorem ck_X5_kindOf : CK yX5_kindOf cX5_kindOf 2 (some .int) 1 := ⟨fun U h => ⟨f411 h, f70 h⟩, by decide +kernel⟩
theorem ck_X5_rowOf : CK yX5_rowOf cX5_rowOf 4 (some .int) 1 := ⟨fun U h => ⟨f420 h, f70 h⟩, by decide +kernel⟩
theorem ck_X8_isPlayer : CK yX8_isPlayer cX8_isPlayer 2 (some .boolean) 1 := ⟨fun U h => ⟨f428 h, f69 h⟩, by decide +kernel⟩
theorem ck_X8_isKind : CK yX8_isKind cX8_isKind 2 (some .boolean) 1 := ⟨fun U h => ⟨f440 h, f69 h⟩, by decide +kernel⟩
theorem ck_X8_kindAt : CK yX8_kindAt cX8_kindAt 2 (some (.object "TossRows$Plain")) 1 := ⟨fun U h => ⟨f436 h, f69 h⟩, by decide +kernel⟩
theorem ck_X8_rowsHitBy : CK yX8_rowsHitBy cX8_rowsHitBy 2 (some .int) 1 := ⟨fun U h => ⟨f432 h, f69 h⟩, by decide +kernel⟩
theorem ck_X8_has : CK yX8_has cX8_has 2 (some .boolean) 2 := ⟨fun U h => ⟨f481 h, f69 h⟩, by decide +kernel⟩
theorem ck_X7_setRows : CK yX7_setRows cX7_setRows 4 none 2 := ⟨fun U h => ⟨f478 h, f72 h⟩, by decide +kernel⟩
theorem ck_X7_overlap : CK yX7_overlap cX7_overlap 7 (some .int) 3 := ⟨fun U h => ⟨f488 h, f72 h⟩, by decide +kernel⟩
theorem ck_X7_setSums : CK yX7_setSums cX7_setSums 4 none 1 := ⟨fun U h => ⟨f485 h, f72 h⟩, by decide +kernel⟩
theorem ck_X7_eliminate : CK yX7_eliminate cX7_eliminate 11 none 4 := ⟨fun U h => ⟨f492 h, f72 h⟩, by decide +kernel⟩
theorem ck_X7_run : CK yX7_run cX7_run 9 (some .long) 2 := ⟨fun U h => ⟨f474 h, f72 h⟩, by decide +kernel⟩
theorem ck_X7_sharesOf : CK yX7_sharesOf cX7_sharesOf 5 (some .long) 1 := ⟨fun U h => ⟨f496 h, f72 h⟩, by decide +kernel⟩
theorem ck_X7_waitFor : CK yX7_waitFor cX7_waitFor 7 (some .int) 2 := ⟨fun U h => ⟨f470 h, f72 h⟩, by decide +kernel⟩
theorem ck_J6_bitCount_0f7a4 : CK yJ6_bitCount_0f7a4 cJ6_bitCount_0f7a4 1 (some .int) 1 := ⟨fun U h => ⟨f500 h, f86 h⟩, by decide +kernel⟩
theorem ck_X8_betsThatHit : CK yX8_betsThatHit cX8_betsThatHit 5 (some .int) 2 := ⟨fun U h => ⟨f511 h, f69 h⟩, by decide +kernel⟩
theorem ck_X8_rowsLeft : CK yX8_rowsLeft cX8_rowsLeft 6 (some .int) 1 := ⟨fun U h => ⟨f507 h, f69 h⟩, by decide +kernel⟩
theorem ck_X8_nextTry : CK yX8_nextTry cX8_nextTry 10 (some .int) 1 := ⟨fun U h => ⟨f516 h, f69 h⟩, by decide +kernel⟩
theorem ck_X8_isSuch : CK yX8_isSuch cX8_isSuch 2 (some .boolean) 2 := ⟨fun U h => ⟨f524 h, f69 h⟩, by decide +kernel⟩
theorem ck_X8_isRow : CK yX8_isRow cX8_isRow 2 (some .boolean) 1 := ⟨fun U h => ⟨f532 h, f69 h⟩, by decide +kernel⟩
theorem ck_X8_trackBehind : CK yX8_trackBehind cX8_trackBehind 5 (some .int) 2 := ⟨fun U h => ⟨f540 h, f69 h⟩, by decide +kernel⟩
theorem ck_X8_tailOf : CK yX8_tailOf cX8_tailOf 3 (some .int) 1 := ⟨fun U h => ⟨f548 h, f69 h⟩, by decide +kernel⟩
theorem ck_X8_hittersAt : CK yX8_hittersAt cX8_hittersAt 5 (some .int) 1 := ⟨fun U h => ⟨f544 h, f69 h⟩, by decide +kernel⟩
theorem ck_X8_addWins : CK yX8_addWins cX8_addWins 3 none 2 := ⟨fun U h => ⟨f551 h, f69 h⟩, by decide +kernel⟩
theorem ck_X7_chance : CK yX7_chance cX7_chance 6 (some .int) 3 := ⟨fun U h => ⟨f572 h, f72 h⟩, by decide +kernel⟩
theorem ck_X8_bestAgainst : CK yX8_bestAgainst cX8_bestAgainst 6 (some .int) 1 := ⟨fun U h => ⟨f581 h, f69 h⟩, by decide +kernel⟩
theorem ck_X8_dangerOf : CK yX8_dangerOf cX8_dangerOf 2 (some .int) 1 := ⟨fun U h => ⟨f594 h, f69 h⟩, by decide +kernel⟩
theorem ck_X8_bestToOpen : CK yX8_bestToOpen cX8_bestToOpen 5 (some .int) 0 := ⟨fun U h => ⟨f589 h, f69 h⟩, by decide +kernel⟩
theorem ck_X8_beatBit : CK yX8_beatBit cX8_beatBit 2 (some .int) 2 := ⟨fun U h => ⟨f605 h, f69 h⟩, by decide +kernel⟩
theorem ck_X8_whoBeatsWhom : CK yX8_whoBeatsWhom cX8_whoBeatsWhom 6 (some .int) 0 := ⟨fun U h => ⟨f602 h, f69 h⟩, by decide +kernel⟩
theorem ck_X8_closes : CK yX8_closes cX8_closes 7 (some .boolean) 5 := ⟨fun U h => ⟨f611 h, f69 h⟩, by decide +kernel⟩
theorem ck_X8_isRing : CK yX8_isRing cX8_isRing 3 (some .boolean) 2 := ⟨fun U h => ⟨f608 h, f69 h⟩, by decide +kernel⟩
theorem ck_X8_winsByToss : CK yX8_winsByToss cX8_winsByToss 9 (some .int) 2 := ⟨fun U h => ⟨f624 h, f69 h⟩, by decide +kernel⟩
theorem ck_X8_waysToWin : CK yX8_waysToWin cX8_waysToWin 7 (some .int) 2 := ⟨fun U h => ⟨f619 h, f69 h⟩, by decide +kernel⟩
theorem ck_X1_addSeen : CK yX1_addSeen cX1_addSeen 4 none 3 := ⟨fun U h => ⟨f635 h, f71 h⟩, by decide +kernel⟩
theorem ck_X8_mostWins : CK yX8_mostWins cX8_mostWins 3 (some .int) 0 := ⟨fun U h => ⟨f654 h, f69 h⟩, by decide +kernel⟩
theorem ck_X8_nextSeed : CK yX8_nextSeed cX8_nextSeed 1 (some .int) 1 := ⟨fun U h => ⟨f646 h, f69 h⟩, by decide +kernel⟩
theorem ck_X1_take : CK yX1_take cX1_take 3 none 1 := ⟨fun U h => ⟨f662 h, f71 h⟩, by decide +kernel⟩
theorem ck_X1_wonByAll : CK yX1_wonByAll cX1_wonByAll 3 (some .int) 0 := ⟨fun U h => ⟨f675 h, f71 h⟩, by decide +kernel⟩
theorem ck_X8_duel : CK yX8_duel cX8_duel 3 (some .int) 2 := ⟨fun U h => ⟨f568 h, f69 h⟩, by decide +kernel⟩
theorem ck_X8_with : CK yX8_with cX8_with 4 (some .long) 2 := ⟨fun U h => ⟨f684 h, f69 h⟩, by decide +kernel⟩
theorem ck_X8_count : CK yX8_count cX8_count 2 (some .int) 1 := ⟨fun U h => ⟨f671 h, f69 h⟩, by decide +kernel⟩
theorem ck_X8_ring : CK yX8_ring cX8_ring 4 (some .int) 0 := ⟨fun U h => ⟨f598 h, f69 h⟩, by decide +kernel⟩
theorem ck_X8_answer : CK yX8_answer cX8_answer 5 (some .int) 2 := ⟨fun U h => ⟨f577 h, f69 h⟩, by decide +kernel⟩
theorem ck_X8_odds : CK yX8_odds cX8_odds 6 (some .int) 3 := ⟨fun U h => ⟨f615 h, f69 h⟩, by decide +kernel⟩
theorem ck_X8_player : CK yX8_player cX8_player 3 (some .int) 2 := ⟨fun U h => ⟨f424 h, f69 h⟩, by decide +kernel⟩
theorem ck_X9_within : CK yX9_within cX9_within 3 (some .boolean) 3 := ⟨fun U h => ⟨f816 h, f78 h⟩, by decide +kernel⟩
theorem ck_X9_at : CK yX9_at cX9_at 2 (some .int) 1 := ⟨fun U h => ⟨f832 h, f78 h⟩, by decide +kernel⟩
theorem ck_X9_kindBy : CK yX9_kindBy cX9_kindBy 1 (some .int) 1 := ⟨fun U h => ⟨f839 h, f78 h⟩, by decide +kernel⟩
theorem ck_X9_readPlayer : CK yX9_readPlayer cX9_readPlayer 3 (some .int) 1 := ⟨fun U h => ⟨f836 h, f78 h⟩, by decide +kernel⟩
theorem ck_X9_read : CK yX9_read cX9_read 3 (some .int) 0 := ⟨fun U h => ⟨f828 h, f78 h⟩, by decide +kernel⟩
theorem ck_X9_rowAt : CK yX9_rowAt cX9_rowAt 4 (some .int) 1 := ⟨fun U h => ⟨f847 h, f78 h⟩, by decide +kernel⟩
theorem ck_X9_isPlayer : CK yX9_isPlayer cX9_isPlayer 2 (some .boolean) 1 := ⟨fun U h => ⟨f855 h, f78 h⟩, by decide +kernel⟩
theorem ck_X9_rows : CK yX9_rows cX9_rows 1 (some .int) 0 := ⟨fun U h => ⟨f871 h, f78 h⟩, by decide +kernel⟩
theorem ck_X9_turned : CK yX9_turned cX9_turned 4 (some .int) 1 := ⟨fun U h => ⟨f875 h, f78 h⟩, by decide +kernel⟩
theorem ck_X9_hitsBy : CK yX9_hitsBy cX9_hitsBy 6 (some .int) 2 := ⟨fun U h => ⟨f867 h, f78 h⟩, by decide +kernel⟩
theorem ck_X9_rowsOf : CK yX9_rowsOf cX9_rowsOf 6 (some .int) 1 := ⟨fun U h => ⟨f915 h, f78 h⟩, by decide +kernel⟩
theorem ck_X9_size : CK yX9_size cX9_size 3 (some .int) 1 := ⟨fun U h => ⟨f911 h, f78 h⟩, by decide +kernel⟩
theorem ck_X9_isIn : CK yX9_isIn cX9_isIn 2 (some .boolean) 2 := ⟨fun U h => ⟨f891 h, f78 h⟩, by decide +kernel⟩
theorem ck_X9_tryFor : CK yX9_tryFor cX9_tryFor 9 (some .int) 1 := ⟨fun U h => ⟨f919 h, f78 h⟩, by decide +kernel⟩
theorem ck_X9_hitsOf : CK yX9_hitsOf cX9_hitsOf 2 (some .int) 1 := ⟨fun U h => ⟨f863 h, f78 h⟩, by decide +kernel⟩
theorem ck_X9_unknowns : CK yX9_unknowns cX9_unknowns 1 (some .int) 0 := ⟨fun U h => ⟨f883 h, f78 h⟩, by decide +kernel⟩
theorem ck_X9_clear : CK yX9_clear cX9_clear 2 none 0 := ⟨fun U h => ⟨f887 h, f78 h⟩, by decide +kernel⟩
theorem ck_X9_exchange : CK yX9_exchange cX9_exchange 6 none 2 := ⟨fun U h => ⟨f899 h, f78 h⟩, by decide +kernel⟩
theorem ck_X9_eliminate : CK yX9_eliminate cX9_eliminate 9 none 2 := ⟨fun U h => ⟨f903 h, f78 h⟩, by decide +kernel⟩
theorem ck_X9_solve : CK yX9_solve cX9_solve 6 none 0 := ⟨fun U h => ⟨f895 h, f78 h⟩, by decide +kernel⟩
theorem ck_X9_middle : CK yX9_middle cX9_middle 8 (some .long) 1 := ⟨fun U h => ⟨f908 h, f78 h⟩, by decide +kernel⟩
theorem ck_X9_waitOf : CK yX9_waitOf cX9_waitOf 6 (some .int) 1 := ⟨fun U h => ⟨f879 h, f78 h⟩, by decide +kernel⟩
theorem ck_X9_playerNow : CK yX9_playerNow cX9_playerNow 3 (some .int) 2 := ⟨fun U h => ⟨f859 h, f78 h⟩, by decide +kernel⟩
theorem ck_X9_isRow : CK yX9_isRow cX9_isRow 2 (some .boolean) 1 := ⟨fun U h => ⟨f932 h, f78 h⟩, by decide +kernel⟩
theorem ck_X9_whoHits : CK yX9_whoHits cX9_whoHits 5 (some .int) 2 := ⟨fun U h => ⟨f940 h, f78 h⟩, by decide +kernel⟩
theorem ck_X9_duelOf : CK yX9_duelOf cX9_duelOf 7 (some .int) 2 := ⟨fun U h => ⟨f964 h, f78 h⟩, by decide +kernel⟩
theorem ck_X9_duelNow : CK yX9_duelNow cX9_duelNow 3 (some .int) 2 := ⟨fun U h => ⟨f960 h, f78 h⟩, by decide +kernel⟩
theorem ck_X9_answerNow : CK yX9_answerNow cX9_answerNow 8 (some .int) 2 := ⟨fun U h => ⟨f973 h, f78 h⟩, by decide +kernel⟩
theorem ck_X9_mostAgainst : CK yX9_mostAgainst cX9_mostAgainst 5 (some .int) 1 := ⟨fun U h => ⟨f985 h, f78 h⟩, by decide +kernel⟩
theorem ck_X9_openNow : CK yX9_openNow cX9_openNow 6 (some .int) 1 := ⟨fun U h => ⟨f981 h, f78 h⟩, by decide +kernel⟩
theorem ck_X9_layBeats : CK yX9_layBeats cX9_layBeats 5 none 0 := ⟨fun U h => ⟨f997 h, f78 h⟩, by decide +kernel⟩
theorem ck_X9_isRoundOfFour : CK yX9_isRoundOfFour cX9_isRoundOfFour 5 (some .boolean) 4 := ⟨fun U h => ⟨f1005 h, f78 h⟩, by decide +kernel⟩
theorem ck_X9_isRound : CK yX9_isRound cX9_isRound 4 (some .boolean) 3 := ⟨fun U h => ⟨f1001 h, f78 h⟩, by decide +kernel⟩
theorem ck_X9_ringNow : CK yX9_ringNow cX9_ringNow 7 (some .int) 0 := ⟨fun U h => ⟨f993 h, f78 h⟩, by decide +kernel⟩
theorem ck_X9_stateNow : CK yX9_stateNow cX9_stateNow 2 (some .int) 0 := ⟨fun U h => ⟨f1017 h, f78 h⟩, by decide +kernel⟩
theorem ck_X9_divisor : CK yX9_divisor cX9_divisor 5 (some .int) 2 := ⟨fun U h => ⟨f1028 h, f78 h⟩, by decide +kernel⟩
theorem ck_X9_behind : CK yX9_behind cX9_behind 4 (some .int) 2 := ⟨fun U h => ⟨f1025 h, f78 h⟩, by decide +kernel⟩
theorem ck_X9_tossWays : CK yX9_tossWays cX9_tossWays 7 (some .int) 2 := ⟨fun U h => ⟨f1021 h, f78 h⟩, by decide +kernel⟩
theorem ck_X9_oddsNow : CK yX9_oddsNow cX9_oddsNow 7 (some .int) 3 := ⟨fun U h => ⟨f1013 h, f78 h⟩, by decide +kernel⟩
theorem ck_X9_mostWon : CK yX9_mostWon cX9_mostWon 3 (some .int) 0 := ⟨fun U h => ⟨f1056 h, f78 h⟩, by decide +kernel⟩
theorem ck_X9_draw : CK yX9_draw cX9_draw 2 (some .int) 1 := ⟨fun U h => ⟨f1048 h, f78 h⟩, by decide +kernel⟩
theorem ck_X9_gamesNow : CK yX9_gamesNow cX9_gamesNow 10 (some .int) 3 := ⟨fun U h => ⟨f1044 h, f78 h⟩, by decide +kernel⟩
theorem ck_X9_tailNow : CK yX9_tailNow cX9_tailNow 1 (some .int) 0 := ⟨fun U h => ⟨f1076 h, f78 h⟩, by decide +kernel⟩
theorem ck_X9_wonByAll : CK yX9_wonByAll cX9_wonByAll 3 (some .int) 0 := ⟨fun U h => ⟨f1080 h, f78 h⟩, by decide +kernel⟩
theorem ck_X9_howMany : CK yX9_howMany cX9_howMany 2 (some .int) 1 := ⟨fun U h => ⟨f1072 h, f78 h⟩, by decide +kernel⟩
theorem ck_X9_duel : CK yX9_duel cX9_duel 3 (some .int) 2 := ⟨fun U h => ⟨f956 h, f78 h⟩, by decide +kernel⟩
theorem ck_X9_mix : CK yX9_mix cX9_mix 3 none 1 := ⟨fun U h => ⟨f1093 h, f78 h⟩, by decide +kernel⟩
theorem ck_X9_mixPlayer : CK yX9_mixPlayer cX9_mixPlayer 3 none 1 := ⟨fun U h => ⟨f1089 h, f78 h⟩, by decide +kernel⟩
theorem ck_X8_letter : CK yX8_letter cX8_letter 2 (some .int) 1 := ⟨fun U h => ⟨f254 h, f69 h⟩, by decide +kernel⟩
theorem ck_X9_letter : CK yX9_letter cX9_letter 2 (some .int) 1 := ⟨fun U h => ⟨f813 h, f78 h⟩, by decide +kernel⟩
theorem ck_X8_blank : CK yX8_blank cX8_blank 2 (some .int) 0 := ⟨fun U h => ⟨f270 h, f69 h⟩, by decide +kernel⟩
theorem ck_X9_blank : CK yX9_blank cX9_blank 2 (some .int) 0 := ⟨fun U h => ⟨f820 h, f78 h⟩, by decide +kernel⟩
theorem ck_X8_fault : CK yX8_fault cX8_fault 1 (some .int) 0 := ⟨fun U h => ⟨f278 h, f69 h⟩, by decide +kernel⟩
theorem ck_X9_fault : CK yX9_fault cX9_fault 1 (some .int) 0 := ⟨fun U h => ⟨f824 h, f78 h⟩, by decide +kernel⟩
theorem ck_X8_table : CK yX8_table cX8_table 3 (some .int) 0 := ⟨fun U h => ⟨f390 h, f69 h⟩, by decide +kernel⟩
theorem ck_X9_table : CK yX9_table cX9_table 3 (some .int) 0 := ⟨fun U h => ⟨f843 h, f78 h⟩, by decide +kernel⟩
theorem ck_X9_player : CK yX9_player cX9_player 3 (some .int) 2 := ⟨fun U h => ⟨f851 h, f78 h⟩, by decide +kernel⟩
theorem ck_X8_as : CK yX8_as cX8_as 3 (some .int) 2 := ⟨fun U h => ⟨f521 h, f69 h⟩, by decide +kernel⟩
theorem ck_X9_as : CK yX9_as cX9_as 4 (some .int) 2 := ⟨fun U h => ⟨f924 h, f78 h⟩, by decide +kernel⟩
theorem ck_X8_hits : CK yX8_hits cX8_hits 3 (some .int) 2 := ⟨fun U h => ⟨f528 h, f69 h⟩, by decide +kernel⟩
theorem ck_X9_hits : CK yX9_hits cX9_hits 3 (some .int) 2 := ⟨fun U h => ⟨f928 h, f78 h⟩, by decide +kernel⟩
theorem ck_X8_toss : CK yX8_toss cX8_toss 3 (some .int) 1 := ⟨fun U h => ⟨f536 h, f69 h⟩, by decide +kernel⟩
theorem ck_X9_toss : CK yX9_toss cX9_toss 4 (some .int) 1 := ⟨fun U h => ⟨f936 h, f78 h⟩, by decide +kernel⟩
theorem ck_X8_anew : CK yX8_anew cX8_anew 2 (some .int) 0 := ⟨fun U h => ⟨f556 h, f69 h⟩, by decide +kernel⟩
theorem ck_X9_anew : CK yX9_anew cX9_anew 2 (some .int) 0 := ⟨fun U h => ⟨f944 h, f78 h⟩, by decide +kernel⟩
theorem ck_X8_bet : CK yX8_bet cX8_bet 4 (some .int) 2 := ⟨fun U h => ⟨f560 h, f69 h⟩, by decide +kernel⟩
theorem ck_X9_bet : CK yX9_bet cX9_bet 4 (some .int) 2 := ⟨fun U h => ⟨f948 h, f78 h⟩, by decide +kernel⟩
theorem ck_X8_be : CK yX8_be cX8_be 4 (some .int) 2 := ⟨fun U h => ⟨f564 h, f69 h⟩, by decide +kernel⟩
theorem ck_X9_be : CK yX9_be cX9_be 4 (some .int) 2 := ⟨fun U h => ⟨f952 h, f78 h⟩, by decide +kernel⟩
theorem ck_X9_answer : CK yX9_answer cX9_answer 3 (some .int) 2 := ⟨fun U h => ⟨f969 h, f78 h⟩, by decide +kernel⟩
theorem ck_X8_open : CK yX8_open cX8_open 3 (some .int) 1 := ⟨fun U h => ⟨f585 h, f69 h⟩, by decide +kernel⟩
theorem ck_X9_open : CK yX9_open cX9_open 2 (some .int) 1 := ⟨fun U h => ⟨f977 h, f78 h⟩, by decide +kernel⟩
theorem ck_X9_ring : CK yX9_ring cX9_ring 1 (some .int) 0 := ⟨fun U h => ⟨f989 h, f78 h⟩, by decide +kernel⟩
theorem ck_X9_odds : CK yX9_odds cX9_odds 4 (some .int) 3 := ⟨fun U h => ⟨f1009 h, f78 h⟩, by decide +kernel⟩
theorem ck_X8_see : CK yX8_see cX8_see 4 (some .int) 3 := ⟨fun U h => ⟨f631 h, f69 h⟩, by decide +kernel⟩
theorem ck_X9_see : CK yX9_see cX9_see 4 (some .int) 3 := ⟨fun U h => ⟨f1032 h, f78 h⟩, by decide +kernel⟩
theorem ck_X8_forget : CK yX8_forget cX8_forget 2 (some .int) 0 := ⟨fun U h => ⟨f639 h, f69 h⟩, by decide +kernel⟩
theorem ck_X9_forget : CK yX9_forget cX9_forget 2 (some .int) 0 := ⟨fun U h => ⟨f1036 h, f78 h⟩, by decide +kernel⟩
theorem ck_X8_games : CK yX8_games cX8_games 9 (some .int) 3 := ⟨fun U h => ⟨f643 h, f69 h⟩, by decide +kernel⟩
theorem ck_X9_games : CK yX9_games cX9_games 4 (some .int) 3 := ⟨fun U h => ⟨f1040 h, f78 h⟩, by decide +kernel⟩
theorem ck_X8_image : CK yX8_image cX8_image 1 (some .int) 0 := ⟨fun U h => ⟨f658 h, f69 h⟩, by decide +kernel⟩
theorem ck_X9_image : CK yX9_image cX9_image 2 (some .int) 0 := ⟨fun U h => ⟨f1060 h, f78 h⟩, by decide +kernel⟩
theorem ck_X8_restore : CK yX8_restore cX8_restore 1 (some .int) 0 := ⟨fun U h => ⟨f667 h, f69 h⟩, by decide +kernel⟩
theorem ck_X9_restore : CK yX9_restore cX9_restore 2 (some .int) 0 := ⟨fun U h => ⟨f1064 h, f78 h⟩, by decide +kernel⟩
theorem ck_X9_count : CK yX9_count cX9_count 2 (some .int) 1 := ⟨fun U h => ⟨f1068 h, f78 h⟩, by decide +kernel⟩
theorem ck_X8_digest : CK yX8_digest cX8_digest 5 (some .long) 0 := ⟨fun U h => ⟨f679 h, f69 h⟩, by decide +kernel⟩
theorem ck_X9_digest : CK yX9_digest cX9_digest 2 (some .long) 0 := ⟨fun U h => ⟨f1084 h, f78 h⟩, by decide +kernel⟩
theorem ck_X6_init : CK yX6_init cX6_init 1 none 0 := ⟨fun U h => ⟨f183 h, f73 h⟩, by decide +kernel⟩
theorem ck_X3_init : CK yX3_init cX3_init 1 none 0 := ⟨fun U h => ⟨f190 h, f74 h⟩, by decide +kernel⟩
theorem ck_X4_init : CK yX4_init cX4_init 1 none 0 := ⟨fun U h => ⟨f197 h, f75 h⟩, by decide +kernel⟩
theorem ck_X2_init : CK yX2_init cX2_init 1 none 0 := ⟨fun U h => ⟨f204 h, f76 h⟩, by decide +kernel⟩
theorem ck_X0_init : CK yX0_init cX0_init 1 none 0 := ⟨fun U h => ⟨f211 h, f77 h⟩, by decide +kernel⟩
theorem ck_X5_init : CK yX5_init cX5_init 1 none 0 := ⟨fun U h => ⟨f100 h, f70 h⟩, by decide +kernel⟩
theorem ck_X1_init : CK yX1_init cX1_init 1 none 0 := ⟨fun U h => ⟨f114 h, f71 h⟩, by decide +kernel⟩
theorem ck_X7_init : CK yX7_init cX7_init 1 none 0 := ⟨fun U h => ⟨f163 h, f72 h⟩, by decide +kernel⟩
theorem ck_X8_init : CK yX8_init cX8_init 1 none 0 := ⟨fun U h => ⟨f92 h, f69 h⟩, by decide +kernel⟩
theorem ck_X9_init : CK yX9_init cX9_init 1 none 0 := ⟨fun U h => ⟨f696 h, f78 h⟩, by decide +kernel⟩
