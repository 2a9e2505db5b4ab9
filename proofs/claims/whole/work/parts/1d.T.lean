noncomputable def D_X8_player (σ : ST) (p1 : Int32) (p2 : Int32) : Option (Int32 × ST) := (D_X8_isPlayer σ p1).bind fun r1 => if r1 = 0 then (some ((-101 : Int32), σ)) else (if p2.toInt < 0 ∨ 6 < p2.toInt then (some ((-102 : Int32), σ)) else (if p2 = 0 then (if p1 < 0 ∨ 4 ≤ p1.toNatClampNeg then none else (some (gA σ 1 p1.toNatClampNeg, σ))) else (if p2 = 1 then (if p1 < 0 ∨ 4 ≤ p1.toNatClampNeg then none else (some (gA σ 2 p1.toNatClampNeg, σ))) else (if p2 = 2 then (if p1 < 0 ∨ 4 ≤ p1.toNatClampNeg then none else (some (gA σ 3 p1.toNatClampNeg, σ))) else (if p2 = 3 then ((D_X8_rowsHitBy σ p1).bind fun r3 => (D_X7_waitFor σ r3 (gI σ 2)).bind fun r5 => some (r5.1, r5.2)) else (if p2 = 4 then ((D_X8_rowsHitBy σ p1).bind fun r7 => (D_J6_bitCount_0f7a4 r7).bind fun r9 => some (r9, σ)) else (if p2 = 5 then ((D_X8_rowsLeft σ p1).bind fun r11 => some (r11, σ)) else (if p2 = 6 then ((D_X8_nextTry σ p1).bind fun r13 => some (r13, σ)) else (none)))))))))
set_option maxRecDepth 100000 in
set_option maxHeartbeats 4000000 in
theorem B_X8_player {x : CX} {cy : Nat → ClassId} {ad : Nat → Nat} {r : (Int32 × ST)} (E : Ev x cy cX8_player RX8 3 7 198) (K : RetI x cX8_player .int r.1 (wT ad cy r.2)) (σ : ST) (p1 : Int32) (p2 : Int32) (h : D_X8_player σ p1 p2 = some r) : G x 0 0 0 [(0, .ref (ad 0)), (1, .int p1), (2, .int p2)] [] (wT ad cy σ) := by
  unfold D_X8_player at h
  refine G.aload_n E dX8_player_0 rfl 0 rfl ?_
  refine G.iload_n E dX8_player_1 rfl 1 rfl ?_
  obtain ⟨r1, h2, h⟩ := bind_s h
  refine G.retI E (runV (st := []) (As := [.int p1]) E (C_X8_isPlayer h2) ck_X8_isPlayer (f425 E.fx) (f427 E.fx) (f3 E.fx) 0 8 rfl rfl rfl (by decide) (by decide) rfl (Nat.le_of_ble_eq_true rfl) dX8_player_2 ⟨Nat.zero_le _, Nat.zero_le _⟩) ?_
  refine G.if_ne (tgt := 11) E dX8_player_5 (by decide) (fun q => ?_) (fun q => ?_)
  · have h := ite_f h q
    refine G.iload_n E dX8_player_11 rfl 2 rfl ?_
    by_cases q : p2.toInt < 0 ∨ 6 < p2.toInt
    · have h := ite_t h q
      refine G.tableOut (tgt := 124) E dX8_player_12 q (by decide) ?_
      refine G.bipush (v := -102) E dX8_player_124 (by decide) ?_
      obtain rfl := Option.some.inj h
      exact K rfl _ _ dX8_player_126
    have h := ite_f h q
    by_cases q0 : p2 = 0
    · have h := ite_t h q0
      refine G.tableAt (n := 0) (off := 44) (tgt := 56) E q0 dX8_player_12 (by decide) (by decide) (by decide) (by decide) ?_
      refine G.aload_n E dX8_player_56 rfl 0 rfl ?_
      refine G.get E inX8 0 rfl rfl 1 (by decide) (f215 E.fx) rfl dX8_player_57 ?_
      refine G.getN E inX1 3 rfl rfl 0 (by decide) (f117 E.fx) rfl dX8_player_60 ?_
      refine G.iload_n E dX8_player_63 rfl 1 rfl ?_
      obtain ⟨hg, h⟩ := ite_n h
      refine G.iald E 4 0 rfl rfl hg dX8_player_64 ?_
      obtain rfl := Option.some.inj h
      exact K rfl _ _ dX8_player_65
    have h := ite_f h q0
    by_cases q1 : p2 = 1
    · have h := ite_t h q1
      refine G.tableAt (n := 1) (off := 54) (tgt := 66) E q1 dX8_player_12 (by decide) (by decide) (by decide) (by decide) ?_
      refine G.aload_n E dX8_player_66 rfl 0 rfl ?_
      refine G.get E inX8 0 rfl rfl 1 (by decide) (f215 E.fx) rfl dX8_player_67 ?_
      refine G.getN E inX1 3 rfl rfl 1 (by decide) (f119 E.fx) rfl dX8_player_70 ?_
      refine G.iload_n E dX8_player_73 rfl 1 rfl ?_
      obtain ⟨hg, h⟩ := ite_n h
      refine G.iald E 5 0 rfl rfl hg dX8_player_74 ?_
      obtain rfl := Option.some.inj h
      exact K rfl _ _ dX8_player_75
    have h := ite_f h q1
    by_cases q2 : p2 = 2
    · have h := ite_t h q2
      refine G.tableAt (n := 2) (off := 64) (tgt := 76) E q2 dX8_player_12 (by decide) (by decide) (by decide) (by decide) ?_
      refine G.aload_n E dX8_player_76 rfl 0 rfl ?_
      refine G.get E inX8 0 rfl rfl 1 (by decide) (f215 E.fx) rfl dX8_player_77 ?_
      refine G.getN E inX1 3 rfl rfl 2 (by decide) (f121 E.fx) rfl dX8_player_80 ?_
      refine G.iload_n E dX8_player_83 rfl 1 rfl ?_
      obtain ⟨hg, h⟩ := ite_n h
      refine G.iald E 6 0 rfl rfl hg dX8_player_84 ?_
      obtain rfl := Option.some.inj h
      exact K rfl _ _ dX8_player_85
    have h := ite_f h q2
    by_cases q3 : p2 = 3
    · have h := ite_t h q3
      refine G.tableAt (n := 3) (off := 74) (tgt := 86) E q3 dX8_player_12 (by decide) (by decide) (by decide) (by decide) ?_
      refine G.aload_n E dX8_player_86 rfl 0 rfl ?_
      refine G.get E inX8 0 rfl rfl 3 (by decide) (f217 E.fx) rfl dX8_player_87 ?_
      refine G.aload_n E dX8_player_90 rfl 0 rfl ?_
      refine G.iload_n E dX8_player_91 rfl 1 rfl ?_
      obtain ⟨r3, h4, h⟩ := bind_s h
      refine G.retI E (runV (st := [.ref (ad 17)]) (As := [.int p1]) E (C_X8_rowsHitBy h4) ck_X8_rowsHitBy (f429 E.fx) (f431 E.fx) (f4 E.fx) 0 8 rfl rfl rfl (by decide) (by decide) rfl (Nat.le_of_ble_eq_true rfl) dX8_player_92 ⟨Nat.zero_le _, Nat.zero_le _⟩) ?_
      refine G.aload_n E dX8_player_95 rfl 0 rfl ?_
      refine G.get E inX8 0 rfl rfl 10 (by decide) (f224 E.fx) rfl dX8_player_96 ?_
      obtain ⟨r5, h6, h⟩ := bind_s h
      refine G.retI E (runV (st := []) (As := [.int r3, .int (gI σ 2)]) E (C_X7_waitFor h6) ck_X7_waitFor (f467 E.fx) (f468 E.fx) (f469 E.fx) 17 7 rfl rfl rfl (by decide) (by decide) rfl (Nat.le_of_ble_eq_true rfl) dX8_player_99 ⟨Nat.zero_le _, Nat.zero_le _⟩) ?_
      obtain rfl := Option.some.inj h
      exact K rfl _ _ dX8_player_102
    have h := ite_f h q3
    by_cases q4 : p2 = 4
    · have h := ite_t h q4
      refine G.tableAt (n := 4) (off := 91) (tgt := 103) E q4 dX8_player_12 (by decide) (by decide) (by decide) (by decide) ?_
      refine G.aload_n E dX8_player_103 rfl 0 rfl ?_
      refine G.iload_n E dX8_player_104 rfl 1 rfl ?_
      obtain ⟨r7, h8, h⟩ := bind_s h
      refine G.retI E (runV (st := []) (As := [.int p1]) E (C_X8_rowsHitBy h8) ck_X8_rowsHitBy (f429 E.fx) (f431 E.fx) (f4 E.fx) 0 8 rfl rfl rfl (by decide) (by decide) rfl (Nat.le_of_ble_eq_true rfl) dX8_player_105 ⟨Nat.zero_le _, Nat.zero_le _⟩) ?_
      obtain ⟨r9, h10, h⟩ := bind_s h
      refine G.retI E (runS (st := []) (As := [.int r7]) E (C_J6_bitCount_0f7a4 h10) ck_J6_bitCount_0f7a4 (f498 E.fx) (f499 E.fx) (by decide) (by decide) rfl (Nat.le_of_ble_eq_true rfl) dX8_player_108 ⟨Nat.zero_le _, Nat.zero_le _⟩) ?_
      obtain rfl := Option.some.inj h
      exact K rfl _ _ dX8_player_111
    have h := ite_f h q4
    by_cases q5 : p2 = 5
    · have h := ite_t h q5
      refine G.tableAt (n := 5) (off := 100) (tgt := 112) E q5 dX8_player_12 (by decide) (by decide) (by decide) (by decide) ?_
      refine G.aload_n E dX8_player_112 rfl 0 rfl ?_
      refine G.iload_n E dX8_player_113 rfl 1 rfl ?_
      obtain ⟨r11, h12, h⟩ := bind_s h
      refine G.retI E (runV (st := []) (As := [.int p1]) E (C_X8_rowsLeft h12) ck_X8_rowsLeft (f504 E.fx) (f506 E.fx) (f12 E.fx) 0 8 rfl rfl rfl (by decide) (by decide) rfl (Nat.le_of_ble_eq_true rfl) dX8_player_114 ⟨Nat.zero_le _, Nat.zero_le _⟩) ?_
      obtain rfl := Option.some.inj h
      exact K rfl _ _ dX8_player_117
    have h := ite_f h q5
    by_cases q6 : p2 = 6
    · have h := ite_t h q6
      refine G.tableAt (n := 6) (off := 106) (tgt := 118) E q6 dX8_player_12 (by decide) (by decide) (by decide) (by decide) ?_
      refine G.aload_n E dX8_player_118 rfl 0 rfl ?_
      refine G.iload_n E dX8_player_119 rfl 1 rfl ?_
      obtain ⟨r13, h14, h⟩ := bind_s h
      refine G.retI E (runV (st := []) (As := [.int p1]) E (C_X8_nextTry h14) ck_X8_nextTry (f513 E.fx) (f515 E.fx) (f14 E.fx) 0 8 rfl rfl rfl (by decide) (by decide) rfl (Nat.le_of_ble_eq_true rfl) dX8_player_120 ⟨Nat.zero_le _, Nat.zero_le _⟩) ?_
      obtain rfl := Option.some.inj h
      exact K rfl _ _ dX8_player_123
    have h := ite_f h q6
    cases h
  · have h := ite_t h q
    refine G.bipush (v := -101) E dX8_player_8 (by decide) ?_
    obtain rfl := Option.some.inj h
    exact K rfl _ _ dX8_player_10
set_option maxRecDepth 100000 in
set_option maxHeartbeats 4000000 in
theorem C_X8_player {l : Launch} {D : va_G} {cy : Nat → ClassId} {ad : Nat → Nat} {σ : ST} {p1 : Int32} {p2 : Int32} {r : (Int32 × ST)} (h : D_X8_player σ p1 p2 = some r) : MI l yX8_player cX8_player 3 (some .int) 7 198 D cy (wT ad cy σ) [.ref (ad 0), .int p1, .int p2] r.1 (wT ad cy r.2) :=
  MI.mk (lv := [(0, .ref (ad 0)), (1, .int p1), (2, .int p2)]) (by decide) (Nat.le_of_ble_eq_true rfl) rfl (fun x _ _ E K => B_X8_player E K σ p1 p2 h)

noncomputable def D_X8_isSuch (σ : ST) (p0 : Nat) (p1 : Int32) : Option Int32 := if p1.toInt < 0 ∨ 4 < p1.toInt then (some (0 : Int32)) else (if p1 = 0 then (some (1 : Int32)) else (if p1 = 1 then ((i_Mirror p0).bind fun r1 => if ¬ vp_nar .boolean r1 = r1 then none else (some r1)) else (if p1 = 2 then ((i_Other p0).bind fun r3 => if ¬ vp_nar .boolean r3 = r3 then none else (some r3)) else (if p1 = 3 then ((i_Either p0).bind fun r5 => if ¬ vp_nar .boolean r5 = r5 then none else (some r5)) else (if p1 = 4 then ((i_Both p0).bind fun r7 => if ¬ vp_nar .boolean r7 = r7 then none else (some r7)) else (none))))))
set_option maxRecDepth 100000 in
set_option maxHeartbeats 4000000 in
theorem B_X8_isSuch {x : CX} {cy : Nat → ClassId} {ad : Nat → Nat} {r : Int32} {σ : ST} (E : Ev x cy cX8_isSuch RX8 2 0 0) (K : RetI x cX8_isSuch .boolean r (wT ad cy σ)) (p0 : Nat) (p1 : Int32) (h : D_X8_isSuch σ p0 p1 = some r) : G x 0 0 0 [(0, .ref (ad (27 + p0))), (1, .int p1)] [] (wT ad cy σ) := by
  unfold D_X8_isSuch at h
  refine G.iload_n E dX8_isSuch_0 rfl 1 rfl ?_
  by_cases q : p1.toInt < 0 ∨ 4 < p1.toInt
  · have h := ite_t h q
    refine G.tableOut (tgt := 58) E dX8_isSuch_1 q (by decide) ?_
    refine G.iconst (v := 0) E dX8_isSuch_58 (by decide) ?_
    obtain rfl := Option.some.inj h
    exact K rfl _ _ dX8_isSuch_59
  have h := ite_f h q
  by_cases q0 : p1 = 0
  · have h := ite_t h q0
    refine G.tableAt (n := 0) (off := 35) (tgt := 36) E q0 dX8_isSuch_1 (by decide) (by decide) (by decide) (by decide) ?_
    refine G.iconst (v := 1) E dX8_isSuch_36 (by decide) ?_
    obtain rfl := Option.some.inj h
    exact K rfl _ _ dX8_isSuch_37
  have h := ite_f h q0
  by_cases q1 : p1 = 1
  · have h := ite_t h q1
    refine G.tableAt (n := 1) (off := 37) (tgt := 38) E q1 dX8_isSuch_1 (by decide) (by decide) (by decide) (by decide) ?_
    refine G.aload_n E dX8_isSuch_38 rfl 0 rfl ?_
    obtain ⟨r1, h2, h⟩ := bind_s h
    refine G.instMirror E (f186 E.fx) h2 dX8_isSuch_39 ?_
    obtain ⟨hg, h⟩ := ite_n h
    obtain rfl := Option.some.inj h
    exact K (nar_okZ (Classical.not_not.mp hg)) _ _ dX8_isSuch_42
  have h := ite_f h q1
  by_cases q2 : p1 = 2
  · have h := ite_t h q2
    refine G.tableAt (n := 2) (off := 42) (tgt := 43) E q2 dX8_isSuch_1 (by decide) (by decide) (by decide) (by decide) ?_
    refine G.aload_n E dX8_isSuch_43 rfl 0 rfl ?_
    obtain ⟨r3, h4, h⟩ := bind_s h
    refine G.instOther E (f193 E.fx) h4 dX8_isSuch_44 ?_
    obtain ⟨hg, h⟩ := ite_n h
    obtain rfl := Option.some.inj h
    exact K (nar_okZ (Classical.not_not.mp hg)) _ _ dX8_isSuch_47
  have h := ite_f h q2
  by_cases q3 : p1 = 3
  · have h := ite_t h q3
    refine G.tableAt (n := 3) (off := 47) (tgt := 48) E q3 dX8_isSuch_1 (by decide) (by decide) (by decide) (by decide) ?_
    refine G.aload_n E dX8_isSuch_48 rfl 0 rfl ?_
    obtain ⟨r5, h6, h⟩ := bind_s h
    refine G.instEither E (f200 E.fx) h6 dX8_isSuch_49 ?_
    obtain ⟨hg, h⟩ := ite_n h
    obtain rfl := Option.some.inj h
    exact K (nar_okZ (Classical.not_not.mp hg)) _ _ dX8_isSuch_52
  have h := ite_f h q3
  by_cases q4 : p1 = 4
  · have h := ite_t h q4
    refine G.tableAt (n := 4) (off := 52) (tgt := 53) E q4 dX8_isSuch_1 (by decide) (by decide) (by decide) (by decide) ?_
    refine G.aload_n E dX8_isSuch_53 rfl 0 rfl ?_
    obtain ⟨r7, h8, h⟩ := bind_s h
    refine G.instBoth E (f207 E.fx) h8 dX8_isSuch_54 ?_
    obtain ⟨hg, h⟩ := ite_n h
    obtain rfl := Option.some.inj h
    exact K (nar_okZ (Classical.not_not.mp hg)) _ _ dX8_isSuch_57
  have h := ite_f h q4
  cases h
set_option maxRecDepth 100000 in
set_option maxHeartbeats 4000000 in
theorem C_X8_isSuch {l : Launch} {D : va_G} {cy : Nat → ClassId} {ad : Nat → Nat} {σ : ST} {p0 : Nat} {p1 : Int32} {r : Int32} (h : D_X8_isSuch σ p0 p1 = some r) : MI l yX8_isSuch cX8_isSuch 2 (some .boolean) 0 0 D cy (wT ad cy σ) [.ref (ad (27 + p0)), .int p1] r (wT ad cy σ) :=
  MI.mk (lv := [(0, .ref (ad (27 + p0))), (1, .int p1)]) (by decide) (Nat.le_of_ble_eq_true rfl) rfl (fun x _ _ E K => B_X8_isSuch E K p0 p1 h)

noncomputable def D_X8_as (σ : ST) (p1 : Int32) (p2 : Int32) : Option Int32 := (D_X8_isPlayer σ p1).bind fun r1 => if r1 = 0 then (some (-101 : Int32)) else ((D_X8_isKind σ p2).bind fun r3 => if r3 = 0 then (some (-102 : Int32)) else (if p1 < 0 ∨ 4 ≤ p1.toNatClampNeg then none else ((D_X8_kindAt σ (gA σ 1 p1.toNatClampNeg)).bind fun r5 => (D_X8_isSuch σ r5 p2).bind fun r7 => if r7 = 0 then (some (-1 : Int32)) else (some p1))))
set_option maxRecDepth 100000 in
set_option maxHeartbeats 4000000 in
theorem B_X8_as {x : CX} {cy : Nat → ClassId} {ad : Nat → Nat} {r : Int32} {σ : ST} (E : Ev x cy cX8_as RX8 3 2 42) (K : RetI x cX8_as .int r (wT ad cy σ)) (p1 : Int32) (p2 : Int32) (h : D_X8_as σ p1 p2 = some r) : G x 0 0 0 [(0, .ref (ad 0)), (1, .int p1), (2, .int p2)] [] (wT ad cy σ) := by
  unfold D_X8_as at h
  refine G.aload_n E dX8_as_0 rfl 0 rfl ?_
  refine G.iload_n E dX8_as_1 rfl 1 rfl ?_
  obtain ⟨r1, h2, h⟩ := bind_s h
  refine G.retI E (runV (st := []) (As := [.int p1]) E (C_X8_isPlayer h2) ck_X8_isPlayer (f425 E.fx) (f427 E.fx) (f3 E.fx) 0 8 rfl rfl rfl (by decide) (by decide) rfl (Nat.le_of_ble_eq_true rfl) dX8_as_2 ⟨Nat.zero_le _, Nat.zero_le _⟩) ?_
  refine G.if_ne (tgt := 11) E dX8_as_5 (by decide) (fun q => ?_) (fun q => ?_)
  · have h := ite_f h q
    refine G.aload_n E dX8_as_11 rfl 0 rfl ?_
    refine G.iload_n E dX8_as_12 rfl 2 rfl ?_
    obtain ⟨r3, h4, h⟩ := bind_s h
    refine G.retI E (runV (st := []) (As := [.int p2]) E (C_X8_isKind h4) ck_X8_isKind (f437 E.fx) (f439 E.fx) (f6 E.fx) 0 8 rfl rfl rfl (by decide) (by decide) rfl (Nat.le_of_ble_eq_true rfl) dX8_as_13 ⟨Nat.zero_le _, Nat.zero_le _⟩) ?_
    refine G.if_ne (tgt := 22) E dX8_as_16 (by decide) (fun q => ?_) (fun q => ?_)
    · have h := ite_f h q
      refine G.aload_n E dX8_as_22 rfl 0 rfl ?_
      refine G.aload_n E dX8_as_23 rfl 0 rfl ?_
      refine G.get E inX8 0 rfl rfl 1 (by decide) (f215 E.fx) rfl dX8_as_24 ?_
      refine G.getN E inX1 3 rfl rfl 0 (by decide) (f117 E.fx) rfl dX8_as_27 ?_
      refine G.iload_n E dX8_as_30 rfl 1 rfl ?_
      obtain ⟨hg, h⟩ := ite_n h
      refine G.iald E 4 0 rfl rfl hg dX8_as_31 ?_
      obtain ⟨r5, h6, h⟩ := bind_s h
      refine G.retR E (runV (st := []) (As := [.int (gA σ 1 p1.toNatClampNeg)]) E (C_X8_kindAt h6) ck_X8_kindAt (f433 E.fx) (f435 E.fx) (f5 E.fx) 0 8 rfl rfl rfl (by decide) (by decide) rfl (Nat.le_of_ble_eq_true rfl) dX8_as_32 ⟨Nat.zero_le _, Nat.zero_le _⟩) ?_
      refine G.iload_n E dX8_as_35 rfl 2 rfl ?_
      obtain ⟨r7, h8, h⟩ := bind_s h
      refine G.retI E (runS (st := []) (As := [.ref (ad (27 + r5)), .int p2]) E (C_X8_isSuch h8) ck_X8_isSuch (f522 E.fx) (f523 E.fx) (by decide) (by decide) rfl (Nat.le_of_ble_eq_true rfl) dX8_as_36 ⟨Nat.zero_le _, Nat.zero_le _⟩) ?_
      refine G.if_eq (tgt := 46) E dX8_as_39 (by decide) (fun q => ?_) (fun q => ?_)
      · have h := ite_t h q
        refine G.iconst (v := -1) E dX8_as_46 (by decide) ?_
        obtain rfl := Option.some.inj h
        exact K rfl _ _ dX8_as_47
      · have h := ite_f h q
        refine G.iload_n E dX8_as_42 rfl 1 rfl ?_
        refine G.goto (tgt := 47) E dX8_as_43 (by decide) ?_
        obtain rfl := Option.some.inj h
        exact K rfl _ _ dX8_as_47
    · have h := ite_t h q
      refine G.bipush (v := -102) E dX8_as_19 (by decide) ?_
      obtain rfl := Option.some.inj h
      exact K rfl _ _ dX8_as_21
  · have h := ite_t h q
    refine G.bipush (v := -101) E dX8_as_8 (by decide) ?_
    obtain rfl := Option.some.inj h
    exact K rfl _ _ dX8_as_10
set_option maxRecDepth 100000 in
set_option maxHeartbeats 4000000 in
theorem C_X8_as {l : Launch} {D : va_G} {cy : Nat → ClassId} {ad : Nat → Nat} {σ : ST} {p1 : Int32} {p2 : Int32} {r : Int32} (h : D_X8_as σ p1 p2 = some r) : MI l yX8_as cX8_as 3 (some .int) 2 42 D cy (wT ad cy σ) [.ref (ad 0), .int p1, .int p2] r (wT ad cy σ) :=
  MI.mk (lv := [(0, .ref (ad 0)), (1, .int p1), (2, .int p2)]) (by decide) (Nat.le_of_ble_eq_true rfl) rfl (fun x _ _ E K => B_X8_as E K p1 p2 h)

noncomputable def D_X8_isRow (σ : ST) (p1 : Int32) : Option Int32 := if p1 < 0 then (some (0 : Int32)) else (if ((1 : Int32) <<< ((gI σ 2) &&& 31)) ≤ p1 then (some (0 : Int32)) else (some (1 : Int32)))
set_option maxRecDepth 100000 in
set_option maxHeartbeats 4000000 in
theorem B_X8_isRow {x : CX} {cy : Nat → ClassId} {ad : Nat → Nat} {r : Int32} {σ : ST} (E : Ev x cy cX8_isRow RX8 2 0 0) (K : RetI x cX8_isRow .boolean r (wT ad cy σ)) (p1 : Int32) (h : D_X8_isRow σ p1 = some r) : G x 0 0 0 [(0, .ref (ad 0)), (1, .int p1)] [] (wT ad cy σ) := by
  unfold D_X8_isRow at h
  refine G.iload_n E dX8_isRow_0 rfl 1 rfl ?_
  refine G.if_lt (tgt := 18) E dX8_isRow_1 (by decide) (fun q => ?_) (fun q => ?_)
  · have h := ite_t h q
    refine G.iconst (v := 0) E dX8_isRow_18 (by decide) ?_
    obtain rfl := Option.some.inj h
    exact K rfl _ _ dX8_isRow_19
  · have h := ite_f h q
    refine G.iload_n E dX8_isRow_4 rfl 1 rfl ?_
    refine G.iconst (v := 1) E dX8_isRow_5 (by decide) ?_
    refine G.aload_n E dX8_isRow_6 rfl 0 rfl ?_
    refine G.get E inX8 0 rfl rfl 10 (by decide) (f224 E.fx) rfl dX8_isRow_7 ?_
    refine G.ishl E dX8_isRow_10 ?_
    refine G.icmp_ge (tgt := 18) E dX8_isRow_11 (by decide) (fun q => ?_) (fun q => ?_)
    · have h := ite_t h q
      refine G.iconst (v := 0) E dX8_isRow_18 (by decide) ?_
      obtain rfl := Option.some.inj h
      exact K rfl _ _ dX8_isRow_19
    · have h := ite_f h q
      refine G.iconst (v := 1) E dX8_isRow_14 (by decide) ?_
      refine G.goto (tgt := 19) E dX8_isRow_15 (by decide) ?_
      obtain rfl := Option.some.inj h
      exact K rfl _ _ dX8_isRow_19
set_option maxRecDepth 100000 in
set_option maxHeartbeats 4000000 in
theorem C_X8_isRow {l : Launch} {D : va_G} {cy : Nat → ClassId} {ad : Nat → Nat} {σ : ST} {p1 : Int32} {r : Int32} (h : D_X8_isRow σ p1 = some r) : MI l yX8_isRow cX8_isRow 2 (some .boolean) 0 0 D cy (wT ad cy σ) [.ref (ad 0), .int p1] r (wT ad cy σ) :=
  MI.mk (lv := [(0, .ref (ad 0)), (1, .int p1)]) (by decide) (Nat.le_of_ble_eq_true rfl) rfl (fun x _ _ E K => B_X8_isRow E K p1 h)

noncomputable def D_X8_hits (σ : ST) (p1 : Int32) (p2 : Int32) : Option Int32 := (D_X8_isPlayer σ p1).bind fun r1 => if r1 = 0 then (some (-101 : Int32)) else ((D_X8_isRow σ p2).bind fun r3 => if r3 = 0 then (some (-102 : Int32)) else ((D_X8_rowsHitBy σ p1).bind fun r5 => (D_X8_has r5 p2).bind fun r7 => if r7 = 0 then (some (0 : Int32)) else (some (1 : Int32))))
set_option maxRecDepth 100000 in
set_option maxHeartbeats 4000000 in
theorem B_X8_hits {x : CX} {cy : Nat → ClassId} {ad : Nat → Nat} {r : Int32} {σ : ST} (E : Ev x cy cX8_hits RX8 3 5 141) (K : RetI x cX8_hits .int r (wT ad cy σ)) (p1 : Int32) (p2 : Int32) (h : D_X8_hits σ p1 p2 = some r) : G x 0 0 0 [(0, .ref (ad 0)), (1, .int p1), (2, .int p2)] [] (wT ad cy σ) := by
  unfold D_X8_hits at h
  refine G.aload_n E dX8_hits_0 rfl 0 rfl ?_
  refine G.iload_n E dX8_hits_1 rfl 1 rfl ?_
  obtain ⟨r1, h2, h⟩ := bind_s h
  refine G.retI E (runV (st := []) (As := [.int p1]) E (C_X8_isPlayer h2) ck_X8_isPlayer (f425 E.fx) (f427 E.fx) (f3 E.fx) 0 8 rfl rfl rfl (by decide) (by decide) rfl (Nat.le_of_ble_eq_true rfl) dX8_hits_2 ⟨Nat.zero_le _, Nat.zero_le _⟩) ?_
  refine G.if_ne (tgt := 11) E dX8_hits_5 (by decide) (fun q => ?_) (fun q => ?_)
  · have h := ite_f h q
    refine G.aload_n E dX8_hits_11 rfl 0 rfl ?_
    refine G.iload_n E dX8_hits_12 rfl 2 rfl ?_
    obtain ⟨r3, h4, h⟩ := bind_s h
    refine G.retI E (runV (st := []) (As := [.int p2]) E (C_X8_isRow h4) ck_X8_isRow (f529 E.fx) (f531 E.fx) (f15 E.fx) 0 8 rfl rfl rfl (by decide) (by decide) rfl (Nat.le_of_ble_eq_true rfl) dX8_hits_13 ⟨Nat.zero_le _, Nat.zero_le _⟩) ?_
    refine G.if_ne (tgt := 22) E dX8_hits_16 (by decide) (fun q => ?_) (fun q => ?_)
    · have h := ite_f h q
      refine G.aload_n E dX8_hits_22 rfl 0 rfl ?_
      refine G.iload_n E dX8_hits_23 rfl 1 rfl ?_
      obtain ⟨r5, h6, h⟩ := bind_s h
      refine G.retI E (runV (st := []) (As := [.int p1]) E (C_X8_rowsHitBy h6) ck_X8_rowsHitBy (f429 E.fx) (f431 E.fx) (f4 E.fx) 0 8 rfl rfl rfl (by decide) (by decide) rfl (Nat.le_of_ble_eq_true rfl) dX8_hits_24 ⟨Nat.zero_le _, Nat.zero_le _⟩) ?_
      refine G.iload_n E dX8_hits_27 rfl 2 rfl ?_
      obtain ⟨r7, h8, h⟩ := bind_s h
      refine G.retI E (runS (st := []) (As := [.int r5, .int p2]) E (C_X8_has h8) ck_X8_has (f512 E.fx) (f480 E.fx) (by decide) (by decide) rfl (Nat.le_of_ble_eq_true rfl) dX8_hits_28 ⟨Nat.zero_le _, Nat.zero_le _⟩) ?_
      refine G.if_eq (tgt := 38) E dX8_hits_31 (by decide) (fun q => ?_) (fun q => ?_)
      · have h := ite_t h q
        refine G.iconst (v := 0) E dX8_hits_38 (by decide) ?_
        obtain rfl := Option.some.inj h
        exact K rfl _ _ dX8_hits_39
      · have h := ite_f h q
        refine G.iconst (v := 1) E dX8_hits_34 (by decide) ?_
        refine G.goto (tgt := 39) E dX8_hits_35 (by decide) ?_
        obtain rfl := Option.some.inj h
        exact K rfl _ _ dX8_hits_39
    · have h := ite_t h q
      refine G.bipush (v := -102) E dX8_hits_19 (by decide) ?_
      obtain rfl := Option.some.inj h
      exact K rfl _ _ dX8_hits_21
  · have h := ite_t h q
    refine G.bipush (v := -101) E dX8_hits_8 (by decide) ?_
    obtain rfl := Option.some.inj h
    exact K rfl _ _ dX8_hits_10
set_option maxRecDepth 100000 in
set_option maxHeartbeats 4000000 in
theorem C_X8_hits {l : Launch} {D : va_G} {cy : Nat → ClassId} {ad : Nat → Nat} {σ : ST} {p1 : Int32} {p2 : Int32} {r : Int32} (h : D_X8_hits σ p1 p2 = some r) : MI l yX8_hits cX8_hits 3 (some .int) 5 141 D cy (wT ad cy σ) [.ref (ad 0), .int p1, .int p2] r (wT ad cy σ) :=
  MI.mk (lv := [(0, .ref (ad 0)), (1, .int p1), (2, .int p2)]) (by decide) (Nat.le_of_ble_eq_true rfl) rfl (fun x _ _ E K => B_X8_hits E K p1 p2 h)

noncomputable def D_X8_trackBehind (σ : ST) (p1 : Int32) (p2 : Int32) : Option Int32 := if ((2 : Int32) * ((1 : Int32) <<< ((gI σ 2) &&& 31))) ≤ (((2 : Int32) * p1) + p2) then (some (((1 : Int32) <<< ((gI σ 2) &&& 31)) + ((((2 : Int32) * p1) + p2) &&& (((1 : Int32) <<< ((gI σ 2) &&& 31)) - (1 : Int32))))) else (some (((2 : Int32) * p1) + p2))
set_option maxRecDepth 100000 in
set_option maxHeartbeats 4000000 in
theorem B_X8_trackBehind {x : CX} {cy : Nat → ClassId} {ad : Nat → Nat} {r : Int32} {σ : ST} (E : Ev x cy cX8_trackBehind RX8 5 0 0) (K : RetI x cX8_trackBehind .int r (wT ad cy σ)) (p1 : Int32) (p2 : Int32) (h : D_X8_trackBehind σ p1 p2 = some r) : G x 0 0 0 [(0, .ref (ad 0)), (1, .int p1), (2, .int p2)] [] (wT ad cy σ) := by
  unfold D_X8_trackBehind at h
  refine G.iconst (v := 2) E dX8_trackBehind_0 (by decide) ?_
  refine G.iload_n E dX8_trackBehind_1 rfl 1 rfl ?_
  refine G.imul E dX8_trackBehind_2 ?_
  refine G.iload_n E dX8_trackBehind_3 rfl 2 rfl ?_
  refine G.iadd E dX8_trackBehind_4 ?_
  refine G.istore_n (lv' := [(3, .int (((2 : Int32) * p1) + p2)), (0, .ref (ad 0)), (1, .int p1), (2, .int p2)]) E dX8_trackBehind_5 rfl (by decide) rfl ?_
  refine G.iconst (v := 1) E dX8_trackBehind_6 (by decide) ?_
  refine G.aload_n E dX8_trackBehind_7 rfl 1 rfl ?_
  refine G.get E inX8 0 rfl rfl 10 (by decide) (f224 E.fx) rfl dX8_trackBehind_8 ?_
  refine G.ishl E dX8_trackBehind_11 ?_
  refine G.istore (lv' := [(4, .int ((1 : Int32) <<< ((gI σ 2) &&& 31))), (3, .int (((2 : Int32) * p1) + p2)), (0, .ref (ad 0)), (1, .int p1), (2, .int p2)]) E dX8_trackBehind_12 (by decide) rfl ?_
  refine G.iload_n E dX8_trackBehind_14 rfl 1 rfl ?_
  refine G.iconst (v := 2) E dX8_trackBehind_15 (by decide) ?_
  refine G.iload E dX8_trackBehind_16 0 rfl ?_
  refine G.imul E dX8_trackBehind_18 ?_
  refine G.icmp_ge (tgt := 26) E dX8_trackBehind_19 (by decide) (fun q => ?_) (fun q => ?_)
  · have h := ite_t h q
    refine G.iload E dX8_trackBehind_26 0 rfl ?_
    refine G.iload_n E dX8_trackBehind_28 rfl 1 rfl ?_
    refine G.iload E dX8_trackBehind_29 0 rfl ?_
    refine G.iconst (v := 1) E dX8_trackBehind_31 (by decide) ?_
    refine G.isub E dX8_trackBehind_32 ?_
    refine G.iand E dX8_trackBehind_33 ?_
    refine G.iadd E dX8_trackBehind_34 ?_
    obtain rfl := Option.some.inj h
    exact K rfl _ _ dX8_trackBehind_35
  · have h := ite_f h q
    refine G.iload_n E dX8_trackBehind_22 rfl 1 rfl ?_
    refine G.goto (tgt := 35) E dX8_trackBehind_23 (by decide) ?_
    obtain rfl := Option.some.inj h
    exact K rfl _ _ dX8_trackBehind_35
set_option maxRecDepth 100000 in
set_option maxHeartbeats 4000000 in
theorem C_X8_trackBehind {l : Launch} {D : va_G} {cy : Nat → ClassId} {ad : Nat → Nat} {σ : ST} {p1 : Int32} {p2 : Int32} {r : Int32} (h : D_X8_trackBehind σ p1 p2 = some r) : MI l yX8_trackBehind cX8_trackBehind 5 (some .int) 0 0 D cy (wT ad cy σ) [.ref (ad 0), .int p1, .int p2] r (wT ad cy σ) :=
  MI.mk (lv := [(0, .ref (ad 0)), (1, .int p1), (2, .int p2)]) (by decide) (Nat.le_of_ble_eq_true rfl) rfl (fun x _ _ E K => B_X8_trackBehind E K p1 p2 h)

noncomputable def D_X8_tailOf (σ : ST) (p1 : Int32) : Option Int32 := if (gI σ 1) ≤ 0 then (some (-1 : Int32)) else (if p1 < ((1 : Int32) <<< ((gI σ 2) &&& 31)) then (some (-1 : Int32)) else (some (p1 - ((1 : Int32) <<< ((gI σ 2) &&& 31)))))
set_option maxRecDepth 100000 in
set_option maxHeartbeats 4000000 in
theorem B_X8_tailOf {x : CX} {cy : Nat → ClassId} {ad : Nat → Nat} {r : Int32} {σ : ST} (E : Ev x cy cX8_tailOf RX8 3 0 0) (K : RetI x cX8_tailOf .int r (wT ad cy σ)) (p1 : Int32) (h : D_X8_tailOf σ p1 = some r) : G x 0 0 0 [(0, .ref (ad 0)), (1, .int p1)] [] (wT ad cy σ) := by
  unfold D_X8_tailOf at h
  refine G.iconst (v := 1) E dX8_tailOf_0 (by decide) ?_
  refine G.aload_n E dX8_tailOf_1 rfl 0 rfl ?_
  refine G.get E inX8 0 rfl rfl 10 (by decide) (f224 E.fx) rfl dX8_tailOf_2 ?_
  refine G.ishl E dX8_tailOf_5 ?_
  refine G.istore_n (lv' := [(2, .int ((1 : Int32) <<< ((gI σ 2) &&& 31))), (0, .ref (ad 0)), (1, .int p1)]) E dX8_tailOf_6 rfl (by decide) rfl ?_
  refine G.aload_n E dX8_tailOf_7 rfl 1 rfl ?_
  refine G.get E inX8 0 rfl rfl 9 (by decide) (f223 E.fx) rfl dX8_tailOf_8 ?_
  refine G.if_le (tgt := 25) E dX8_tailOf_11 (by decide) (fun q => ?_) (fun q => ?_)
  · have h := ite_t h q
    refine G.iconst (v := -1) E dX8_tailOf_25 (by decide) ?_
    obtain rfl := Option.some.inj h
    exact K rfl _ _ dX8_tailOf_26
  · have h := ite_f h q
    refine G.iload_n E dX8_tailOf_14 rfl 2 rfl ?_
    refine G.iload_n E dX8_tailOf_15 rfl 0 rfl ?_
    refine G.icmp_lt (tgt := 25) E dX8_tailOf_16 (by decide) (fun q => ?_) (fun q => ?_)
    · have h := ite_t h q
      refine G.iconst (v := -1) E dX8_tailOf_25 (by decide) ?_
      obtain rfl := Option.some.inj h
      exact K rfl _ _ dX8_tailOf_26
    · have h := ite_f h q
      refine G.iload_n E dX8_tailOf_19 rfl 2 rfl ?_
      refine G.iload_n E dX8_tailOf_20 rfl 0 rfl ?_
      refine G.isub E dX8_tailOf_21 ?_
      refine G.goto (tgt := 26) E dX8_tailOf_22 (by decide) ?_
      obtain rfl := Option.some.inj h
      exact K rfl _ _ dX8_tailOf_26
set_option maxRecDepth 100000 in
set_option maxHeartbeats 4000000 in
theorem C_X8_tailOf {l : Launch} {D : va_G} {cy : Nat → ClassId} {ad : Nat → Nat} {σ : ST} {p1 : Int32} {r : Int32} (h : D_X8_tailOf σ p1 = some r) : MI l yX8_tailOf cX8_tailOf 3 (some .int) 0 0 D cy (wT ad cy σ) [.ref (ad 0), .int p1] r (wT ad cy σ) :=
  MI.mk (lv := [(0, .ref (ad 0)), (1, .int p1)]) (by decide) (Nat.le_of_ble_eq_true rfl) rfl (fun x _ _ E K => B_X8_tailOf E K p1 h)

noncomputable def D_X8_hittersAt_b47 (rec18 : (Int32 × Int32 × Int32) → Option Int32) (σ : ST) (x2 : Int32) (x3 : Int32) (x4 : Int32) : Option Int32 := rec18 (x2, x3, (x4 + 1))
set_option maxRecDepth 100000 in
set_option maxHeartbeats 4000000 in
theorem B_X8_hittersAt_b47 {x : CX} {cy : Nat → ClassId} {ad : Nat → Nat} {r : Int32} {σ : ST} (E : Ev x cy cX8_hittersAt RX8 5 5 141) (K : RetI x cX8_hittersAt .int r (wT ad cy σ)) (rec18 : (Int32 × Int32 × Int32) → Option Int32) (hrec18 : ∀ a, rec18 a = some r → G x 0 0 18 [(0, .ref (ad 0)), (2, .int a.1), (3, .int a.2.1), (4, .int a.2.2)] [] (wT ad cy σ)) (σ9 : ST) (x2 : Int32) (x3 : Int32) (x4 : Int32) (h : D_X8_hittersAt_b47 rec18 σ x2 x3 x4 = some r) : G x 0 0 47 [(0, .ref (ad 0)), (2, .int x2), (3, .int x3), (4, .int x4)] [] (wT ad cy σ) := by
  unfold D_X8_hittersAt_b47 at h
  refine G.iinc (w := x4 + 1) (lv' := [(4, .int (x4 + 1)), (0, .ref (ad 0)), (2, .int x2), (3, .int x3)]) E dX8_hittersAt_47 3 rfl rfl (by decide) rfl ?_
  refine G.goto (tgt := 18) E dX8_hittersAt_50 (by decide) ?_
  refine G.sub (lv' := [(0, .ref (ad 0)), (2, .int x2), (3, .int x3), (4, .int (x4 + 1))]) [1, 2, 3, 0] rfl ?_
  exact hrec18 (x2, x3, (x4 + 1)) h
noncomputable def D_X8_hittersAt_L18_body (rec18 : (Int32 × Int32 × Int32) → Option Int32) (σ : ST) (x2 : Int32) (x3 : Int32) (x4 : Int32) : Option Int32 := if (gI σ 1) ≤ x4 then (some x3) else ((D_X8_rowsHitBy σ x4).bind fun r3 => (D_X8_has r3 x2).bind fun r5 => if r5 = 0 then (D_X8_hittersAt_b47 rec18 σ x2 x3 x4) else (D_X8_hittersAt_b47 rec18 σ x2 (x3 ||| ((1 : Int32) <<< (x4 &&& 31))) x4))
set_option maxRecDepth 100000 in
set_option maxHeartbeats 4000000 in
theorem B_X8_hittersAt_L18_body {x : CX} {cy : Nat → ClassId} {ad : Nat → Nat} {r : Int32} {σ : ST} (E : Ev x cy cX8_hittersAt RX8 5 5 141) (K : RetI x cX8_hittersAt .int r (wT ad cy σ)) (rec18 : (Int32 × Int32 × Int32) → Option Int32) (hrec18 : ∀ a, rec18 a = some r → G x 0 0 18 [(0, .ref (ad 0)), (2, .int a.1), (3, .int a.2.1), (4, .int a.2.2)] [] (wT ad cy σ)) (σ9 : ST) (x2 : Int32) (x3 : Int32) (x4 : Int32) (h : D_X8_hittersAt_L18_body rec18 σ x2 x3 x4 = some r) : G x 0 0 18 [(0, .ref (ad 0)), (2, .int x2), (3, .int x3), (4, .int x4)] [] (wT ad cy σ) := by
  unfold D_X8_hittersAt_L18_body at h
  refine G.iload E dX8_hittersAt_18 3 rfl ?_
  refine G.aload_n E dX8_hittersAt_20 rfl 0 rfl ?_
  refine G.get E inX8 0 rfl rfl 9 (by decide) (f223 E.fx) rfl dX8_hittersAt_21 ?_
  refine G.icmp_ge (tgt := 53) E dX8_hittersAt_24 (by decide) (fun q => ?_) (fun q => ?_)
  · have h := ite_t h q
    refine G.iload_n E dX8_hittersAt_53 rfl 2 rfl ?_
    obtain rfl := Option.some.inj h
    exact K rfl _ _ dX8_hittersAt_54
  · have h := ite_f h q
    refine G.aload_n E dX8_hittersAt_27 rfl 0 rfl ?_
    refine G.iload E dX8_hittersAt_28 3 rfl ?_
    obtain ⟨r3, h4, h⟩ := bind_s h
    refine G.retI E (runV (st := []) (As := [.int x4]) E (C_X8_rowsHitBy h4) ck_X8_rowsHitBy (f429 E.fx) (f431 E.fx) (f4 E.fx) 0 8 rfl rfl rfl (by decide) (by decide) rfl (Nat.le_of_ble_eq_true rfl) dX8_hittersAt_30 ⟨Nat.zero_le _, Nat.zero_le _⟩) ?_
    refine G.iload_n E dX8_hittersAt_33 rfl 1 rfl ?_
    obtain ⟨r5, h6, h⟩ := bind_s h
    refine G.retI E (runS (st := []) (As := [.int r3, .int x2]) E (C_X8_has h6) ck_X8_has (f512 E.fx) (f480 E.fx) (by decide) (by decide) rfl (Nat.le_of_ble_eq_true rfl) dX8_hittersAt_34 ⟨Nat.zero_le _, Nat.zero_le _⟩) ?_
    refine G.if_eq (tgt := 47) E dX8_hittersAt_37 (by decide) (fun q => ?_) (fun q => ?_)
    · have h := ite_t h q
      refine G.sub (lv' := [(0, .ref (ad 0)), (2, .int x2), (3, .int x3), (4, .int x4)]) [0, 1, 2, 3] rfl ?_
      exact B_X8_hittersAt_b47 E K rec18 hrec18 σ x2 x3 x4 h
    · have h := ite_f h q
      refine G.iload_n E dX8_hittersAt_40 rfl 2 rfl ?_
      refine G.iconst (v := 1) E dX8_hittersAt_41 (by decide) ?_
      refine G.iload E dX8_hittersAt_42 3 rfl ?_
      refine G.ishl E dX8_hittersAt_44 ?_
      refine G.ior E dX8_hittersAt_45 ?_
      refine G.istore_n (lv' := [(3, .int (x3 ||| ((1 : Int32) <<< (x4 &&& 31)))), (0, .ref (ad 0)), (2, .int x2), (4, .int x4)]) E dX8_hittersAt_46 rfl (by decide) rfl ?_
      refine G.sub (lv' := [(0, .ref (ad 0)), (2, .int x2), (3, .int (x3 ||| ((1 : Int32) <<< (x4 &&& 31)))), (4, .int x4)]) [1, 2, 0, 3] rfl ?_
      exact B_X8_hittersAt_b47 E K rec18 hrec18 σ x2 (x3 ||| ((1 : Int32) <<< (x4 &&& 31))) x4 h
noncomputable def D_X8_hittersAt_L18  (σ : ST) (x2 : Int32) (x3 : Int32) (x4 : Int32) : Option Int32 := itr (fun (rec18 : (Int32 × Int32 × Int32) → Option Int32) (a : (Int32 × Int32 × Int32)) => D_X8_hittersAt_L18_body rec18 σ a.1 a.2.1 a.2.2) 200 (x2, x3, x4)
set_option maxRecDepth 100000 in
set_option maxHeartbeats 4000000 in
theorem B_X8_hittersAt_L18 {x : CX} {cy : Nat → ClassId} {ad : Nat → Nat} {r : Int32} {σ : ST} (E : Ev x cy cX8_hittersAt RX8 5 5 141) (K : RetI x cX8_hittersAt .int r (wT ad cy σ))  (σ9 : ST) (x2 : Int32) (x3 : Int32) (x4 : Int32) (h : D_X8_hittersAt_L18 σ x2 x3 x4 = some r) : G x 0 0 18 [(0, .ref (ad 0)), (2, .int x2), (3, .int x3), (4, .int x4)] [] (wT ad cy σ) :=
  itr_ind (P := fun a => G x 0 0 18 [(0, .ref (ad 0)), (2, .int a.1), (3, .int a.2.1), (4, .int a.2.2)] [] (wT ad cy σ)) (fun rec18 hrec18 a h => B_X8_hittersAt_L18_body E K rec18 hrec18 σ a.1 a.2.1 a.2.2 h) 200 (x2, x3, x4) h
noncomputable def D_X8_hittersAt (σ : ST) (p1 : Int32) : Option Int32 := (D_X8_tailOf σ p1).bind fun r1 => if r1 = (-1 : Int32) then (some (0 : Int32)) else (D_X8_hittersAt_L18 σ r1 (0 : Int32) (0 : Int32))
set_option maxRecDepth 100000 in
set_option maxHeartbeats 4000000 in
theorem B_X8_hittersAt {x : CX} {cy : Nat → ClassId} {ad : Nat → Nat} {r : Int32} {σ : ST} (E : Ev x cy cX8_hittersAt RX8 5 5 141) (K : RetI x cX8_hittersAt .int r (wT ad cy σ)) (p1 : Int32) (h : D_X8_hittersAt σ p1 = some r) : G x 0 0 0 [(0, .ref (ad 0)), (1, .int p1)] [] (wT ad cy σ) := by
  unfold D_X8_hittersAt at h
  refine G.aload_n E dX8_hittersAt_0 rfl 0 rfl ?_
  refine G.iload_n E dX8_hittersAt_1 rfl 1 rfl ?_
  obtain ⟨r1, h2, h⟩ := bind_s h
  refine G.retI E (runV (st := []) (As := [.int p1]) E (C_X8_tailOf h2) ck_X8_tailOf (f545 E.fx) (f547 E.fx) (f18 E.fx) 0 8 rfl rfl rfl (by decide) (by decide) rfl (Nat.le_of_ble_eq_true rfl) dX8_hittersAt_2 ⟨Nat.zero_le _, Nat.zero_le _⟩) ?_
  refine G.istore_n (lv' := [(2, .int r1), (0, .ref (ad 0)), (1, .int p1)]) E dX8_hittersAt_5 rfl (by decide) rfl ?_
  refine G.iload_n E dX8_hittersAt_6 rfl 0 rfl ?_
  refine G.iconst (v := -1) E dX8_hittersAt_7 (by decide) ?_
  refine G.icmp_ne (tgt := 13) E dX8_hittersAt_8 (by decide) (fun q => ?_) (fun q => ?_)
  · have h := ite_f h q
    refine G.iconst (v := 0) E dX8_hittersAt_13 (by decide) ?_
    refine G.istore_n (lv' := [(3, .int (0 : Int32)), (2, .int r1), (0, .ref (ad 0)), (1, .int p1)]) E dX8_hittersAt_14 rfl (by decide) rfl ?_
    refine G.iconst (v := 0) E dX8_hittersAt_15 (by decide) ?_
    refine G.istore (lv' := [(4, .int (0 : Int32)), (3, .int (0 : Int32)), (2, .int r1), (0, .ref (ad 0)), (1, .int p1)]) E dX8_hittersAt_16 (by decide) rfl ?_
    refine G.sub (lv' := [(0, .ref (ad 0)), (2, .int r1), (3, .int (0 : Int32)), (4, .int (0 : Int32))]) [3, 2, 1, 0] rfl ?_
    exact B_X8_hittersAt_L18 E K σ r1 (0 : Int32) (0 : Int32) h
  · have h := ite_t h q
    refine G.iconst (v := 0) E dX8_hittersAt_11 (by decide) ?_
    obtain rfl := Option.some.inj h
    exact K rfl _ _ dX8_hittersAt_12
set_option maxRecDepth 100000 in
set_option maxHeartbeats 4000000 in
theorem C_X8_hittersAt {l : Launch} {D : va_G} {cy : Nat → ClassId} {ad : Nat → Nat} {σ : ST} {p1 : Int32} {r : Int32} (h : D_X8_hittersAt σ p1 = some r) : MI l yX8_hittersAt cX8_hittersAt 5 (some .int) 5 141 D cy (wT ad cy σ) [.ref (ad 0), .int p1] r (wT ad cy σ) :=
  MI.mk (lv := [(0, .ref (ad 0)), (1, .int p1)]) (by decide) (Nat.le_of_ble_eq_true rfl) rfl (fun x _ _ E K => B_X8_hittersAt E K p1 h)

noncomputable def D_X8_addWins_6_b25 (rec2 : (ST × Int32 × Int32) → Option ST) (σ : ST) (x0 : Int32) (x2 : Int32) (s0 : Int32) (s1 : Int32) (s2 : Int32) : Option ST := if s2 < 0 ∨ 4 ≤ s2.toNatClampNeg then none else (rec2 ((pA σ 3 s2.toNatClampNeg (s1 + s0)), x0, (x2 + 1)))
set_option maxRecDepth 100000 in
set_option maxHeartbeats 4000000 in
theorem B_X8_addWins_6_b25 {x : CX} {cy : Nat → ClassId} {ad : Nat → Nat} {r : ST} (E : Ev x cy cX8_addWins RX8 3 1 21) (K : RetV x cX8_addWins (wT ad cy r)) (rec2 : (ST × Int32 × Int32) → Option ST) (hrec2 : ∀ a, rec2 a = some r → G x 0 0 2 [(0, .int a.2.1), (1, .ref (ad 6)), (2, .int a.2.2)] [] (wT ad cy a.1)) (σ : ST) (x0 : Int32) (x2 : Int32) (s0 : Int32) (s1 : Int32) (s2 : Int32) (h : D_X8_addWins_6_b25 rec2 σ x0 x2 s0 s1 s2 = some r) : G x 0 0 25 [(0, .int x0), (1, .ref (ad 6)), (2, .int x2)] [.int s0, .int s1, .int s2, .ref (ad 6)] (wT ad cy σ) := by
  unfold D_X8_addWins_6_b25 at h
  refine G.iadd E dX8_addWins_25 ?_
  obtain ⟨hg, h⟩ := ite_n h
  refine G.iast (ws' := (wT ad cy (pA σ 3 s2.toNatClampNeg (s1 + s0)))) E 6 0 rfl rfl hg dX8_addWins_26 (wT_aI3 ad cy _ _ _) ?_
  refine G.iinc (w := x2 + 1) (lv' := [(2, .int (x2 + 1)), (0, .int x0), (1, .ref (ad 6))]) E dX8_addWins_27 2 rfl rfl (by decide) rfl ?_
  refine G.goto (tgt := 2) E dX8_addWins_30 (by decide) ?_
  refine G.sub (lv' := [(0, .int x0), (1, .ref (ad 6)), (2, .int (x2 + 1))]) [1, 2, 0] rfl ?_
  exact hrec2 ((pA σ 3 s2.toNatClampNeg (s1 + s0)), x0, (x2 + 1)) h
noncomputable def D_X8_addWins_6_L2_body (rec2 : (ST × Int32 × Int32) → Option ST) (σ : ST) (x0 : Int32) (x2 : Int32) : Option ST := if (4 : Int32) ≤ x2 then (some σ) else (if x2 < 0 ∨ 4 ≤ x2.toNatClampNeg then none else ((D_X8_has x0 x2).bind fun r1 => if r1 = 0 then (D_X8_addWins_6_b25 rec2 σ x0 x2 (0 : Int32) (gA σ 3 x2.toNatClampNeg) x2) else (D_X8_addWins_6_b25 rec2 σ x0 x2 (1 : Int32) (gA σ 3 x2.toNatClampNeg) x2)))
set_option maxRecDepth 100000 in
set_option maxHeartbeats 4000000 in
theorem B_X8_addWins_6_L2_body {x : CX} {cy : Nat → ClassId} {ad : Nat → Nat} {r : ST} (E : Ev x cy cX8_addWins RX8 3 1 21) (K : RetV x cX8_addWins (wT ad cy r)) (rec2 : (ST × Int32 × Int32) → Option ST) (hrec2 : ∀ a, rec2 a = some r → G x 0 0 2 [(0, .int a.2.1), (1, .ref (ad 6)), (2, .int a.2.2)] [] (wT ad cy a.1)) (σ : ST) (x0 : Int32) (x2 : Int32) (h : D_X8_addWins_6_L2_body rec2 σ x0 x2 = some r) : G x 0 0 2 [(0, .int x0), (1, .ref (ad 6)), (2, .int x2)] [] (wT ad cy σ) := by
  unfold D_X8_addWins_6_L2_body at h
  refine G.iload_n E dX8_addWins_2 rfl 2 rfl ?_
  refine G.aload_n E dX8_addWins_3 rfl 1 rfl ?_
  refine G.alen (v := 4) E 6 0 rfl rfl rfl dX8_addWins_4 ?_
  refine G.icmp_ge (tgt := 33) E dX8_addWins_5 (by decide) (fun q => ?_) (fun q => ?_)
  · have h := ite_t h q
    obtain rfl := Option.some.inj h
    exact K _ _ dX8_addWins_33
  · have h := ite_f h q
    refine G.aload_n E dX8_addWins_8 rfl 1 rfl ?_
    refine G.iload_n E dX8_addWins_9 rfl 2 rfl ?_
    refine G.dup2 E dX8_addWins_10 rfl rfl ?_
    obtain ⟨hg, h⟩ := ite_n h
    refine G.iald E 6 0 rfl rfl hg dX8_addWins_11 ?_
    refine G.iload_n E dX8_addWins_12 rfl 0 rfl ?_
    refine G.iload_n E dX8_addWins_13 rfl 2 rfl ?_
    obtain ⟨r1, h2, h⟩ := bind_s h
    refine G.retI E (runS (st := [.int (gA σ 3 x2.toNatClampNeg), .int x2, .ref (ad 6)]) (As := [.int x0, .int x2]) E (C_X8_has h2) ck_X8_has (f512 E.fx) (f480 E.fx) (by decide) (by decide) rfl (Nat.le_of_ble_eq_true rfl) dX8_addWins_14 ⟨Nat.zero_le _, Nat.zero_le _⟩) ?_
    refine G.if_eq (tgt := 24) E dX8_addWins_17 (by decide) (fun q => ?_) (fun q => ?_)
    · have h := ite_t h q
      refine G.iconst (v := 0) E dX8_addWins_24 (by decide) ?_
      refine G.sub (lv' := [(0, .int x0), (1, .ref (ad 6)), (2, .int x2)]) [0, 1, 2] rfl ?_
      exact B_X8_addWins_6_b25 E K rec2 hrec2 σ x0 x2 (0 : Int32) (gA σ 3 x2.toNatClampNeg) x2 h
    · have h := ite_f h q
      refine G.iconst (v := 1) E dX8_addWins_20 (by decide) ?_
      refine G.goto (tgt := 25) E dX8_addWins_21 (by decide) ?_
      refine G.sub (lv' := [(0, .int x0), (1, .ref (ad 6)), (2, .int x2)]) [0, 1, 2] rfl ?_
      exact B_X8_addWins_6_b25 E K rec2 hrec2 σ x0 x2 (1 : Int32) (gA σ 3 x2.toNatClampNeg) x2 h
noncomputable def D_X8_addWins_6_L2  (σ : ST) (x0 : Int32) (x2 : Int32) : Option ST := itr (fun (rec2 : (ST × Int32 × Int32) → Option ST) (a : (ST × Int32 × Int32)) => D_X8_addWins_6_L2_body rec2 a.1 a.2.1 a.2.2) 200 (σ, x0, x2)
set_option maxRecDepth 100000 in
set_option maxHeartbeats 4000000 in
theorem B_X8_addWins_6_L2 {x : CX} {cy : Nat → ClassId} {ad : Nat → Nat} {r : ST} (E : Ev x cy cX8_addWins RX8 3 1 21) (K : RetV x cX8_addWins (wT ad cy r))  (σ : ST) (x0 : Int32) (x2 : Int32) (h : D_X8_addWins_6_L2 σ x0 x2 = some r) : G x 0 0 2 [(0, .int x0), (1, .ref (ad 6)), (2, .int x2)] [] (wT ad cy σ) :=
  itr_ind (P := fun a => G x 0 0 2 [(0, .int a.2.1), (1, .ref (ad 6)), (2, .int a.2.2)] [] (wT ad cy a.1)) (fun rec2 hrec2 a h => B_X8_addWins_6_L2_body E K rec2 hrec2 a.1 a.2.1 a.2.2 h) 200 (σ, x0, x2) h
noncomputable def D_X8_addWins_6 (σ : ST) (p0 : Int32) : Option ST := D_X8_addWins_6_L2 σ p0 (0 : Int32)
set_option maxRecDepth 100000 in
set_option maxHeartbeats 4000000 in
theorem B_X8_addWins_6 {x : CX} {cy : Nat → ClassId} {ad : Nat → Nat} {r : ST} (E : Ev x cy cX8_addWins RX8 3 1 21) (K : RetV x cX8_addWins (wT ad cy r)) (σ : ST) (p0 : Int32) (h : D_X8_addWins_6 σ p0 = some r) : G x 0 0 0 [(0, .int p0), (1, .ref (ad 6))] [] (wT ad cy σ) := by
  unfold D_X8_addWins_6 at h
  refine G.iconst (v := 0) E dX8_addWins_0 (by decide) ?_
  refine G.istore_n (lv' := [(2, .int (0 : Int32)), (0, .int p0), (1, .ref (ad 6))]) E dX8_addWins_1 rfl (by decide) rfl ?_
  refine G.sub (lv' := [(0, .int p0), (1, .ref (ad 6)), (2, .int (0 : Int32))]) [1, 2, 0] rfl ?_
  exact B_X8_addWins_6_L2 E K σ p0 (0 : Int32) h
set_option maxRecDepth 100000 in
set_option maxHeartbeats 4000000 in
theorem C_X8_addWins_6 {l : Launch} {D : va_G} {cy : Nat → ClassId} {ad : Nat → Nat} {σ : ST} {p0 : Int32} {r : ST} (h : D_X8_addWins_6 σ p0 = some r) : MV l yX8_addWins cX8_addWins 3 none 1 21 D cy (wT ad cy σ) [.int p0, .ref (ad 6)]  (wT ad cy r) :=
  MV.mk (lv := [(0, .int p0), (1, .ref (ad 6))]) (by decide) (Nat.le_of_ble_eq_true rfl) rfl (fun x _ _ E K => B_X8_addWins_6 E K σ p0 h)

noncomputable def D_X8_toss_b12  (σ : ST) (x1 : Int32) : Option (Int32 × ST) := if (gI σ 1) = 0 then (some ((-103 : Int32), σ)) else (if (gI σ 6) < (9999 : Int32) then ((D_X8_trackBehind (pI (pI σ 6 ((gI σ 6) + (1 : Int32))) 7 ((gI (pI σ 6 ((gI σ 6) + (1 : Int32))) 7) + (1 : Int32))) (gI (pI (pI σ 6 ((gI σ 6) + (1 : Int32))) 7 ((gI (pI σ 6 ((gI σ 6) + (1 : Int32))) 7) + (1 : Int32))) 8) x1).bind fun r1 => (D_X8_hittersAt (pI (pI (pI σ 6 ((gI σ 6) + (1 : Int32))) 7 ((gI (pI σ 6 ((gI σ 6) + (1 : Int32))) 7) + (1 : Int32))) 8 r1) (gI (pI (pI (pI σ 6 ((gI σ 6) + (1 : Int32))) 7 ((gI (pI σ 6 ((gI σ 6) + (1 : Int32))) 7) + (1 : Int32))) 8 r1) 8)).bind fun r3 => if r3 = 0 then (some (r3, pI (pI (pI σ 6 ((gI σ 6) + (1 : Int32))) 7 ((gI (pI σ 6 ((gI σ 6) + (1 : Int32))) 7) + (1 : Int32))) 8 r1)) else ((D_X8_addWins_6 (pI (pI (pI σ 6 ((gI σ 6) + (1 : Int32))) 7 ((gI (pI σ 6 ((gI σ 6) + (1 : Int32))) 7) + (1 : Int32))) 8 r1) r3).bind fun r5 => (D_X1_beginGame r5).bind fun r7 => some (r3, r7))) else (some ((-104 : Int32), σ)))
set_option maxRecDepth 100000 in
set_option maxHeartbeats 4000000 in
theorem B_X8_toss_b12 {x : CX} {cy : Nat → ClassId} {ad : Nat → Nat} {r : (Int32 × ST)} (E : Ev x cy cX8_toss RX8 3 6 165) (K : RetI x cX8_toss .int r.1 (wT ad cy r.2))  (σ : ST) (x1 : Int32) (h : D_X8_toss_b12 σ x1 = some r) : G x 0 0 12 [(0, .ref (ad 0)), (1, .int x1)] [] (wT ad cy σ) := by
  unfold D_X8_toss_b12 at h
  refine G.aload_n E dX8_toss_12 rfl 0 rfl ?_
  refine G.get E inX8 0 rfl rfl 9 (by decide) (f223 E.fx) rfl dX8_toss_13 ?_
  refine G.if_ne (tgt := 22) E dX8_toss_16 (by decide) (fun q => ?_) (fun q => ?_)
  · have h := ite_f h q
    refine G.aload_n E dX8_toss_22 rfl 0 rfl ?_
    refine G.get E inX8 0 rfl rfl 1 (by decide) (f215 E.fx) rfl dX8_toss_23 ?_
    refine G.getN E inX1 3 rfl rfl 7 (by decide) (f131 E.fx) rfl dX8_toss_26 ?_
    refine G.sipush (v := 9999) E dX8_toss_29 (by decide) ?_
    refine G.icmp_lt (tgt := 38) E dX8_toss_32 (by decide) (fun q => ?_) (fun q => ?_)
    · have h := ite_t h q
      refine G.aload_n E dX8_toss_38 rfl 0 rfl ?_
      refine G.get E inX8 0 rfl rfl 1 (by decide) (f215 E.fx) rfl dX8_toss_39 ?_
      refine G.dup E dX8_toss_42 rfl ?_
      refine G.getN E inX1 3 rfl rfl 7 (by decide) (f131 E.fx) rfl dX8_toss_43 ?_
      refine G.iconst (v := 1) E dX8_toss_46 (by decide) ?_
      refine G.iadd E dX8_toss_47 ?_
      refine G.putN (ws' := (wT ad cy (pI σ 6 ((gI σ 6) + (1 : Int32))))) E inX1 tyX1 tyX1_ok nmX1 3 rfl rfl 7 (by decide) (f131 E.fx) rfl rfl rfl rfl (Nat.le_of_ble_eq_true rfl) dX8_toss_48 (wT_fI6 ad cy _ _) ?_
      refine G.aload_n E dX8_toss_51 rfl 0 rfl ?_
      refine G.get E inX8 0 rfl rfl 1 (by decide) (f215 E.fx) rfl dX8_toss_52 ?_
      refine G.dup E dX8_toss_55 rfl ?_
      refine G.getN E inX1 3 rfl rfl 8 (by decide) (f133 E.fx) rfl dX8_toss_56 ?_
      refine G.iconst (v := 1) E dX8_toss_59 (by decide) ?_
      refine G.iadd E dX8_toss_60 ?_
      refine G.putN (ws' := (wT ad cy (pI (pI σ 6 ((gI σ 6) + (1 : Int32))) 7 ((gI (pI σ 6 ((gI σ 6) + (1 : Int32))) 7) + (1 : Int32))))) E inX1 tyX1 tyX1_ok nmX1 3 rfl rfl 8 (by decide) (f133 E.fx) rfl rfl rfl rfl (Nat.le_of_ble_eq_true rfl) dX8_toss_61 (wT_fI7 ad cy _ _) ?_
      refine G.aload_n E dX8_toss_64 rfl 0 rfl ?_
      refine G.get E inX8 0 rfl rfl 1 (by decide) (f215 E.fx) rfl dX8_toss_65 ?_
      refine G.aload_n E dX8_toss_68 rfl 0 rfl ?_
      refine G.aload_n E dX8_toss_69 rfl 0 rfl ?_
      refine G.get E inX8 0 rfl rfl 1 (by decide) (f215 E.fx) rfl dX8_toss_70 ?_
      refine G.getN E inX1 3 rfl rfl 9 (by decide) (f135 E.fx) rfl dX8_toss_73 ?_
      refine G.iload_n E dX8_toss_76 rfl 1 rfl ?_
      obtain ⟨r1, h2, h⟩ := bind_s h
      refine G.retI E (runV (st := [.ref (ad 3)]) (As := [.int (gI (pI (pI σ 6 ((gI σ 6) + (1 : Int32))) 7 ((gI (pI σ 6 ((gI σ 6) + (1 : Int32))) 7) + (1 : Int32))) 8), .int x1]) E (C_X8_trackBehind h2) ck_X8_trackBehind (f537 E.fx) (f539 E.fx) (f16 E.fx) 0 8 rfl rfl rfl (by decide) (by decide) rfl (Nat.le_of_ble_eq_true rfl) dX8_toss_77 ⟨Nat.zero_le _, Nat.zero_le _⟩) ?_
      refine G.putN (ws' := (wT ad cy (pI (pI (pI σ 6 ((gI σ 6) + (1 : Int32))) 7 ((gI (pI σ 6 ((gI σ 6) + (1 : Int32))) 7) + (1 : Int32))) 8 r1))) E inX1 tyX1 tyX1_ok nmX1 3 rfl rfl 9 (by decide) (f135 E.fx) rfl rfl rfl rfl (Nat.le_of_ble_eq_true rfl) dX8_toss_80 (wT_fI8 ad cy _ _) ?_
      refine G.aload_n E dX8_toss_83 rfl 0 rfl ?_
      refine G.aload_n E dX8_toss_84 rfl 0 rfl ?_
      refine G.get E inX8 0 rfl rfl 1 (by decide) (f215 E.fx) rfl dX8_toss_85 ?_
      refine G.getN E inX1 3 rfl rfl 9 (by decide) (f135 E.fx) rfl dX8_toss_88 ?_
      obtain ⟨r3, h4, h⟩ := bind_s h
      refine G.retI E (runV (st := []) (As := [.int (gI (pI (pI (pI σ 6 ((gI σ 6) + (1 : Int32))) 7 ((gI (pI σ 6 ((gI σ 6) + (1 : Int32))) 7) + (1 : Int32))) 8 r1) 8)]) E (C_X8_hittersAt h4) ck_X8_hittersAt (f541 E.fx) (f543 E.fx) (f17 E.fx) 0 8 rfl rfl rfl (by decide) (by decide) rfl (Nat.le_of_ble_eq_true rfl) dX8_toss_91 ⟨Nat.zero_le _, Nat.zero_le _⟩) ?_
      refine G.istore_n (lv' := [(2, .int r3), (0, .ref (ad 0)), (1, .int x1)]) E dX8_toss_94 rfl (by decide) rfl ?_
      refine G.iload_n E dX8_toss_95 rfl 0 rfl ?_
      refine G.if_eq (tgt := 117) E dX8_toss_96 (by decide) (fun q => ?_) (fun q => ?_)
      · have h := ite_t h q
        refine G.iload_n E dX8_toss_117 rfl 0 rfl ?_
        obtain rfl := Option.some.inj h
        exact K rfl _ _ dX8_toss_118
      · have h := ite_f h q
        refine G.iload_n E dX8_toss_99 rfl 0 rfl ?_
        refine G.aload_n E dX8_toss_100 rfl 1 rfl ?_
        refine G.get E inX8 0 rfl rfl 1 (by decide) (f215 E.fx) rfl dX8_toss_101 ?_
        refine G.getN E inX1 3 rfl rfl 2 (by decide) (f121 E.fx) rfl dX8_toss_104 ?_
        obtain ⟨r5, h6, h⟩ := bind_s h
        refine G.retV E (runS (st := []) (As := [.int r3, .ref (ad 6)]) E (C_X8_addWins_6 h6) ck_X8_addWins (f549 E.fx) (f550 E.fx) (by decide) (by decide) rfl (Nat.le_of_ble_eq_true rfl) dX8_toss_107 ⟨Nat.zero_le _, Nat.zero_le _⟩) ?_
        refine G.aload_n E dX8_toss_110 rfl 1 rfl ?_
        refine G.get E inX8 0 rfl rfl 1 (by decide) (f215 E.fx) rfl dX8_toss_111 ?_
        obtain ⟨r7, h8, h⟩ := bind_s h
        refine G.retV E (runV (st := []) (As := []) E (C_X1_beginGame h8) ck_X1_beginGame (f552 E.fx) (f405 E.fx) (f406 E.fx) 3 1 rfl rfl rfl (by decide) (by decide) rfl (Nat.le_of_ble_eq_true rfl) dX8_toss_114 ⟨Nat.zero_le _, Nat.zero_le _⟩) ?_
        refine G.iload_n E dX8_toss_117 rfl 0 rfl ?_
        obtain rfl := Option.some.inj h
        exact K rfl _ _ dX8_toss_118
    · have h := ite_f h q
      refine G.bipush (v := -104) E dX8_toss_35 (by decide) ?_
      obtain rfl := Option.some.inj h
      exact K rfl _ _ dX8_toss_37
  · have h := ite_t h q
    refine G.bipush (v := -103) E dX8_toss_19 (by decide) ?_
    obtain rfl := Option.some.inj h
    exact K rfl _ _ dX8_toss_21
noncomputable def D_X8_toss (σ : ST) (p1 : Int32) : Option (Int32 × ST) := if p1 = 0 then (D_X8_toss_b12 σ p1) else (if p1 = (1 : Int32) then (D_X8_toss_b12 σ p1) else (some ((-102 : Int32), σ)))
set_option maxRecDepth 100000 in
set_option maxHeartbeats 4000000 in
theorem B_X8_toss {x : CX} {cy : Nat → ClassId} {ad : Nat → Nat} {r : (Int32 × ST)} (E : Ev x cy cX8_toss RX8 3 6 165) (K : RetI x cX8_toss .int r.1 (wT ad cy r.2)) (σ : ST) (p1 : Int32) (h : D_X8_toss σ p1 = some r) : G x 0 0 0 [(0, .ref (ad 0)), (1, .int p1)] [] (wT ad cy σ) := by
  unfold D_X8_toss at h
  refine G.iload_n E dX8_toss_0 rfl 1 rfl ?_
  refine G.if_eq (tgt := 12) E dX8_toss_1 (by decide) (fun q => ?_) (fun q => ?_)
  · have h := ite_t h q
    refine G.sub (lv' := [(0, .ref (ad 0)), (1, .int p1)]) [0, 1] rfl ?_
    exact B_X8_toss_b12 E K σ p1 h
  · have h := ite_f h q
    refine G.iload_n E dX8_toss_4 rfl 1 rfl ?_
    refine G.iconst (v := 1) E dX8_toss_5 (by decide) ?_
    refine G.icmp_eq (tgt := 12) E dX8_toss_6 (by decide) (fun q => ?_) (fun q => ?_)
    · have h := ite_t h q
      refine G.sub (lv' := [(0, .ref (ad 0)), (1, .int p1)]) [0, 1] rfl ?_
      exact B_X8_toss_b12 E K σ p1 h
    · have h := ite_f h q
      refine G.bipush (v := -102) E dX8_toss_9 (by decide) ?_
      obtain rfl := Option.some.inj h
      exact K rfl _ _ dX8_toss_11
set_option maxRecDepth 100000 in
set_option maxHeartbeats 4000000 in
theorem C_X8_toss {l : Launch} {D : va_G} {cy : Nat → ClassId} {ad : Nat → Nat} {σ : ST} {p1 : Int32} {r : (Int32 × ST)} (h : D_X8_toss σ p1 = some r) : MI l yX8_toss cX8_toss 3 (some .int) 6 165 D cy (wT ad cy σ) [.ref (ad 0), .int p1] r.1 (wT ad cy r.2) :=
  MI.mk (lv := [(0, .ref (ad 0)), (1, .int p1)]) (by decide) (Nat.le_of_ble_eq_true rfl) rfl (fun x _ _ E K => B_X8_toss E K σ p1 h)

noncomputable def D_X8_anew (σ : ST)  : Option (Int32 × ST) := if (gI σ 1) = 0 then (some ((-103 : Int32), σ)) else ((D_X1_beginGame σ).bind fun r1 => some (gI σ 7, r1))
set_option maxRecDepth 100000 in
set_option maxHeartbeats 4000000 in
theorem B_X8_anew {x : CX} {cy : Nat → ClassId} {ad : Nat → Nat} {r : (Int32 × ST)} (E : Ev x cy cX8_anew RX8 2 1 20) (K : RetI x cX8_anew .int r.1 (wT ad cy r.2)) (σ : ST)  (h : D_X8_anew σ = some r) : G x 0 0 0 [(0, .ref (ad 0))] [] (wT ad cy σ) := by
  unfold D_X8_anew at h
  refine G.aload_n E dX8_anew_0 rfl 0 rfl ?_
  refine G.get E inX8 0 rfl rfl 9 (by decide) (f223 E.fx) rfl dX8_anew_1 ?_
  refine G.if_ne (tgt := 10) E dX8_anew_4 (by decide) (fun q => ?_) (fun q => ?_)
  · have h := ite_f h q
    refine G.aload_n E dX8_anew_10 rfl 0 rfl ?_
    refine G.get E inX8 0 rfl rfl 1 (by decide) (f215 E.fx) rfl dX8_anew_11 ?_
    refine G.getN E inX1 3 rfl rfl 8 (by decide) (f133 E.fx) rfl dX8_anew_14 ?_
    refine G.istore_n (lv' := [(1, .int (gI σ 7)), (0, .ref (ad 0))]) E dX8_anew_17 rfl (by decide) rfl ?_
    refine G.aload_n E dX8_anew_18 rfl 1 rfl ?_
    refine G.get E inX8 0 rfl rfl 1 (by decide) (f215 E.fx) rfl dX8_anew_19 ?_
    obtain ⟨r1, h2, h⟩ := bind_s h
    refine G.retV E (runV (st := []) (As := []) E (C_X1_beginGame h2) ck_X1_beginGame (f552 E.fx) (f405 E.fx) (f406 E.fx) 3 1 rfl rfl rfl (by decide) (by decide) rfl (Nat.le_of_ble_eq_true rfl) dX8_anew_22 ⟨Nat.zero_le _, Nat.zero_le _⟩) ?_
    refine G.iload_n E dX8_anew_25 rfl 0 rfl ?_
    obtain rfl := Option.some.inj h
    exact K rfl _ _ dX8_anew_26
  · have h := ite_t h q
    refine G.bipush (v := -103) E dX8_anew_7 (by decide) ?_
    obtain rfl := Option.some.inj h
    exact K rfl _ _ dX8_anew_9
set_option maxRecDepth 100000 in
set_option maxHeartbeats 4000000 in
theorem C_X8_anew {l : Launch} {D : va_G} {cy : Nat → ClassId} {ad : Nat → Nat} {σ : ST}  {r : (Int32 × ST)} (h : D_X8_anew σ = some r) : MI l yX8_anew cX8_anew 2 (some .int) 1 20 D cy (wT ad cy σ) [.ref (ad 0)] r.1 (wT ad cy r.2) :=
  MI.mk (lv := [(0, .ref (ad 0))]) (by decide) (Nat.le_of_ble_eq_true rfl) rfl (fun x _ _ E K => B_X8_anew E K σ h)

noncomputable def D_X8_bet (σ : ST) (p1 : Int32) (p2 : Int32) : Option (Int32 × ST) := (D_X8_isPlayer σ p1).bind fun r1 => if r1 = 0 then (some ((-101 : Int32), σ)) else ((D_X8_isRow σ p2).bind fun r3 => if r3 = 0 then (some ((-102 : Int32), σ)) else (if p1 < 0 ∨ 4 ≤ p1.toNatClampNeg then none else (if p1 < 0 ∨ 4 ≤ p1.toNatClampNeg then none else (some (gA σ 2 p1.toNatClampNeg, pA σ 2 p1.toNatClampNeg p2)))))
set_option maxRecDepth 100000 in
set_option maxHeartbeats 4000000 in
theorem B_X8_bet {x : CX} {cy : Nat → ClassId} {ad : Nat → Nat} {r : (Int32 × ST)} (E : Ev x cy cX8_bet RX8 4 1 21) (K : RetI x cX8_bet .int r.1 (wT ad cy r.2)) (σ : ST) (p1 : Int32) (p2 : Int32) (h : D_X8_bet σ p1 p2 = some r) : G x 0 0 0 [(0, .ref (ad 0)), (1, .int p1), (2, .int p2)] [] (wT ad cy σ) := by
  unfold D_X8_bet at h
  refine G.aload_n E dX8_bet_0 rfl 0 rfl ?_
  refine G.iload_n E dX8_bet_1 rfl 1 rfl ?_
  obtain ⟨r1, h2, h⟩ := bind_s h
  refine G.retI E (runV (st := []) (As := [.int p1]) E (C_X8_isPlayer h2) ck_X8_isPlayer (f425 E.fx) (f427 E.fx) (f3 E.fx) 0 8 rfl rfl rfl (by decide) (by decide) rfl (Nat.le_of_ble_eq_true rfl) dX8_bet_2 ⟨Nat.zero_le _, Nat.zero_le _⟩) ?_
  refine G.if_ne (tgt := 11) E dX8_bet_5 (by decide) (fun q => ?_) (fun q => ?_)
  · have h := ite_f h q
    refine G.aload_n E dX8_bet_11 rfl 0 rfl ?_
    refine G.iload_n E dX8_bet_12 rfl 2 rfl ?_
    obtain ⟨r3, h4, h⟩ := bind_s h
    refine G.retI E (runV (st := []) (As := [.int p2]) E (C_X8_isRow h4) ck_X8_isRow (f529 E.fx) (f531 E.fx) (f15 E.fx) 0 8 rfl rfl rfl (by decide) (by decide) rfl (Nat.le_of_ble_eq_true rfl) dX8_bet_13 ⟨Nat.zero_le _, Nat.zero_le _⟩) ?_
    refine G.if_ne (tgt := 22) E dX8_bet_16 (by decide) (fun q => ?_) (fun q => ?_)
    · have h := ite_f h q
      refine G.aload_n E dX8_bet_22 rfl 0 rfl ?_
      refine G.get E inX8 0 rfl rfl 1 (by decide) (f215 E.fx) rfl dX8_bet_23 ?_
      refine G.getN E inX1 3 rfl rfl 1 (by decide) (f119 E.fx) rfl dX8_bet_26 ?_
      refine G.iload_n E dX8_bet_29 rfl 1 rfl ?_
      obtain ⟨hg, h⟩ := ite_n h
      refine G.iald E 5 0 rfl rfl hg dX8_bet_30 ?_
      refine G.istore_n (lv' := [(3, .int (gA σ 2 p1.toNatClampNeg)), (0, .ref (ad 0)), (1, .int p1), (2, .int p2)]) E dX8_bet_31 rfl (by decide) rfl ?_
      refine G.aload_n E dX8_bet_32 rfl 1 rfl ?_
      refine G.get E inX8 0 rfl rfl 1 (by decide) (f215 E.fx) rfl dX8_bet_33 ?_
      refine G.getN E inX1 3 rfl rfl 1 (by decide) (f119 E.fx) rfl dX8_bet_36 ?_
      refine G.iload_n E dX8_bet_39 rfl 2 rfl ?_
      refine G.iload_n E dX8_bet_40 rfl 3 rfl ?_
      obtain ⟨hg, h⟩ := ite_n h
      refine G.iast (ws' := (wT ad cy (pA σ 2 p1.toNatClampNeg p2))) E 5 0 rfl rfl hg dX8_bet_41 (wT_aI2 ad cy _ _ _) ?_
      refine G.iload_n E dX8_bet_42 rfl 0 rfl ?_
      obtain rfl := Option.some.inj h
      exact K rfl _ _ dX8_bet_43
    · have h := ite_t h q
      refine G.bipush (v := -102) E dX8_bet_19 (by decide) ?_
      obtain rfl := Option.some.inj h
      exact K rfl _ _ dX8_bet_21
  · have h := ite_t h q
    refine G.bipush (v := -101) E dX8_bet_8 (by decide) ?_
    obtain rfl := Option.some.inj h
    exact K rfl _ _ dX8_bet_10
set_option maxRecDepth 100000 in
set_option maxHeartbeats 4000000 in
theorem C_X8_bet {l : Launch} {D : va_G} {cy : Nat → ClassId} {ad : Nat → Nat} {σ : ST} {p1 : Int32} {p2 : Int32} {r : (Int32 × ST)} (h : D_X8_bet σ p1 p2 = some r) : MI l yX8_bet cX8_bet 4 (some .int) 1 21 D cy (wT ad cy σ) [.ref (ad 0), .int p1, .int p2] r.1 (wT ad cy r.2) :=
  MI.mk (lv := [(0, .ref (ad 0)), (1, .int p1), (2, .int p2)]) (by decide) (Nat.le_of_ble_eq_true rfl) rfl (fun x _ _ E K => B_X8_bet E K σ p1 p2 h)

noncomputable def D_X8_be (σ : ST) (p1 : Int32) (p2 : Int32) : Option (Int32 × ST) := (D_X8_isPlayer σ p1).bind fun r1 => if r1 = 0 then (some ((-101 : Int32), σ)) else ((D_X8_isKind σ p2).bind fun r3 => if r3 = 0 then (some ((-102 : Int32), σ)) else (if p1 < 0 ∨ 4 ≤ p1.toNatClampNeg then none else (if p1 < 0 ∨ 4 ≤ p1.toNatClampNeg then none else (some (gA σ 1 p1.toNatClampNeg, pA σ 1 p1.toNatClampNeg p2)))))
set_option maxRecDepth 100000 in
set_option maxHeartbeats 4000000 in
theorem B_X8_be {x : CX} {cy : Nat → ClassId} {ad : Nat → Nat} {r : (Int32 × ST)} (E : Ev x cy cX8_be RX8 4 1 21) (K : RetI x cX8_be .int r.1 (wT ad cy r.2)) (σ : ST) (p1 : Int32) (p2 : Int32) (h : D_X8_be σ p1 p2 = some r) : G x 0 0 0 [(0, .ref (ad 0)), (1, .int p1), (2, .int p2)] [] (wT ad cy σ) := by
  unfold D_X8_be at h
  refine G.aload_n E dX8_be_0 rfl 0 rfl ?_
  refine G.iload_n E dX8_be_1 rfl 1 rfl ?_
  obtain ⟨r1, h2, h⟩ := bind_s h
  refine G.retI E (runV (st := []) (As := [.int p1]) E (C_X8_isPlayer h2) ck_X8_isPlayer (f425 E.fx) (f427 E.fx) (f3 E.fx) 0 8 rfl rfl rfl (by decide) (by decide) rfl (Nat.le_of_ble_eq_true rfl) dX8_be_2 ⟨Nat.zero_le _, Nat.zero_le _⟩) ?_
  refine G.if_ne (tgt := 11) E dX8_be_5 (by decide) (fun q => ?_) (fun q => ?_)
  · have h := ite_f h q
    refine G.aload_n E dX8_be_11 rfl 0 rfl ?_
    refine G.iload_n E dX8_be_12 rfl 2 rfl ?_
    obtain ⟨r3, h4, h⟩ := bind_s h
    refine G.retI E (runV (st := []) (As := [.int p2]) E (C_X8_isKind h4) ck_X8_isKind (f437 E.fx) (f439 E.fx) (f6 E.fx) 0 8 rfl rfl rfl (by decide) (by decide) rfl (Nat.le_of_ble_eq_true rfl) dX8_be_13 ⟨Nat.zero_le _, Nat.zero_le _⟩) ?_
    refine G.if_ne (tgt := 22) E dX8_be_16 (by decide) (fun q => ?_) (fun q => ?_)
    · have h := ite_f h q
      refine G.aload_n E dX8_be_22 rfl 0 rfl ?_
      refine G.get E inX8 0 rfl rfl 1 (by decide) (f215 E.fx) rfl dX8_be_23 ?_
      refine G.getN E inX1 3 rfl rfl 0 (by decide) (f117 E.fx) rfl dX8_be_26 ?_
      refine G.iload_n E dX8_be_29 rfl 1 rfl ?_
      obtain ⟨hg, h⟩ := ite_n h
      refine G.iald E 4 0 rfl rfl hg dX8_be_30 ?_
      refine G.istore_n (lv' := [(3, .int (gA σ 1 p1.toNatClampNeg)), (0, .ref (ad 0)), (1, .int p1), (2, .int p2)]) E dX8_be_31 rfl (by decide) rfl ?_
      refine G.aload_n E dX8_be_32 rfl 1 rfl ?_
      refine G.get E inX8 0 rfl rfl 1 (by decide) (f215 E.fx) rfl dX8_be_33 ?_
      refine G.getN E inX1 3 rfl rfl 0 (by decide) (f117 E.fx) rfl dX8_be_36 ?_
      refine G.iload_n E dX8_be_39 rfl 2 rfl ?_
      refine G.iload_n E dX8_be_40 rfl 3 rfl ?_
      obtain ⟨hg, h⟩ := ite_n h
      refine G.iast (ws' := (wT ad cy (pA σ 1 p1.toNatClampNeg p2))) E 4 0 rfl rfl hg dX8_be_41 (wT_aI1 ad cy _ _ _) ?_
      refine G.iload_n E dX8_be_42 rfl 0 rfl ?_
      obtain rfl := Option.some.inj h
      exact K rfl _ _ dX8_be_43
    · have h := ite_t h q
      refine G.bipush (v := -102) E dX8_be_19 (by decide) ?_
      obtain rfl := Option.some.inj h
      exact K rfl _ _ dX8_be_21
  · have h := ite_t h q
    refine G.bipush (v := -101) E dX8_be_8 (by decide) ?_
    obtain rfl := Option.some.inj h
    exact K rfl _ _ dX8_be_10
set_option maxRecDepth 100000 in
set_option maxHeartbeats 4000000 in
theorem C_X8_be {l : Launch} {D : va_G} {cy : Nat → ClassId} {ad : Nat → Nat} {σ : ST} {p1 : Int32} {p2 : Int32} {r : (Int32 × ST)} (h : D_X8_be σ p1 p2 = some r) : MI l yX8_be cX8_be 4 (some .int) 1 21 D cy (wT ad cy σ) [.ref (ad 0), .int p1, .int p2] r.1 (wT ad cy r.2) :=
  MI.mk (lv := [(0, .ref (ad 0)), (1, .int p1), (2, .int p2)]) (by decide) (Nat.le_of_ble_eq_true rfl) rfl (fun x _ _ E K => B_X8_be E K σ p1 p2 h)

noncomputable def D_X7_chance (σ : ST) (p1 : Int32) (p2 : Int32) (p3 : Int32) : Option (Int32 × ST) := (D_X7_run σ (p1 ||| p2) p3).bind fun r1 => (D_X7_sharesOf r1.2 (p1 ||| p2)).bind fun r3 => if (lg_cmp r3 (0 : Int64)) = 0 then (some ((0 : Int32), r1.2)) else ((D_X7_sharesOf r1.2 p1).bind fun r5 => if r3 = 0 then none else (some ((((1000000 : Int64) * r5) / r3).toInt32, r1.2)))
set_option maxRecDepth 100000 in
set_option maxHeartbeats 4000000 in
theorem B_X7_chance {x : CX} {cy : Nat → ClassId} {ad : Nat → Nat} {r : (Int32 × ST)} (E : Ev x cy cX7_chance RX7 6 3 77) (K : RetI x cX7_chance .int r.1 (wT ad cy r.2)) (σ : ST) (p1 : Int32) (p2 : Int32) (p3 : Int32) (h : D_X7_chance σ p1 p2 p3 = some r) : G x 0 0 0 [(0, .ref (ad 17)), (1, .int p1), (2, .int p2), (3, .int p3)] [] (wT ad cy σ) := by
  unfold D_X7_chance at h
  refine G.aload_n E dX7_chance_0 rfl 0 rfl ?_
  refine G.iload_n E dX7_chance_1 rfl 1 rfl ?_
  refine G.iload_n E dX7_chance_2 rfl 2 rfl ?_
  refine G.ior E dX7_chance_3 ?_
  refine G.iload_n E dX7_chance_4 rfl 3 rfl ?_
  obtain ⟨r1, h2, h⟩ := bind_s h
  refine G.retL E (runV (st := []) (As := [.int (p1 ||| p2), .int p3]) E (C_X7_run h2) ck_X7_run (f471 E.fx) (f473 E.fx) (f7 E.fx) 17 7 rfl rfl rfl (by decide) (by decide) rfl (Nat.le_of_ble_eq_true rfl) dX7_chance_5 ⟨Nat.zero_le _, Nat.zero_le _⟩) ?_
  refine G.pop2 E dX7_chance_8 rfl ?_
  refine G.aload_n E dX7_chance_9 rfl 0 rfl ?_
  refine G.iload_n E dX7_chance_10 rfl 1 rfl ?_
  refine G.iload_n E dX7_chance_11 rfl 2 rfl ?_
  refine G.ior E dX7_chance_12 ?_
  obtain ⟨r3, h4, h⟩ := bind_s h
  refine G.retL E (runV (st := []) (As := [.int (p1 ||| p2)]) E (C_X7_sharesOf h4) ck_X7_sharesOf (f493 E.fx) (f495 E.fx) (f11 E.fx) 17 7 rfl rfl rfl (by decide) (by decide) rfl (Nat.le_of_ble_eq_true rfl) dX7_chance_13 ⟨Nat.zero_le _, Nat.zero_le _⟩) ?_
  refine G.lstore (lv' := [(4, .long r3), (0, .ref (ad 17)), (1, .int p1), (2, .int p2), (3, .int p3)]) E dX7_chance_16 (by decide) rfl ?_
  refine G.lload E dX7_chance_18 0 rfl ?_
  refine G.lconst (v := 0) E dX7_chance_20 (by decide) ?_
  refine G.lcmp E dX7_chance_21 ?_
  refine G.if_ne (tgt := 29) E dX7_chance_22 (by decide) (fun q => ?_) (fun q => ?_)
  · have h := ite_f h q
    refine G.ldc2 E (f573 E.fx) dX7_chance_29 ?_
    refine G.aload_n E dX7_chance_32 rfl 1 rfl ?_
    refine G.iload_n E dX7_chance_33 rfl 2 rfl ?_
    obtain ⟨r5, h6, h⟩ := bind_s h
    refine G.retL E (runV (st := [.long (1000000 : Int64)]) (As := [.int p1]) E (C_X7_sharesOf h6) ck_X7_sharesOf (f493 E.fx) (f495 E.fx) (f11 E.fx) 17 7 rfl rfl rfl (by decide) (by decide) rfl (Nat.le_of_ble_eq_true rfl) dX7_chance_34 ⟨Nat.zero_le _, Nat.zero_le _⟩) ?_
    refine G.lmul E dX7_chance_37 ?_
    refine G.lload E dX7_chance_38 0 rfl ?_
    obtain ⟨hg, h⟩ := ite_n h
    refine G.ldiv E dX7_chance_40 hg ?_
    refine G.l2i E dX7_chance_41 ?_
    obtain rfl := Option.some.inj h
    exact K rfl _ _ dX7_chance_42
  · have h := ite_t h q
    refine G.iconst (v := 0) E dX7_chance_25 (by decide) ?_
    refine G.goto (tgt := 42) E dX7_chance_26 (by decide) ?_
    obtain rfl := Option.some.inj h
    exact K rfl _ _ dX7_chance_42
set_option maxRecDepth 100000 in
set_option maxHeartbeats 4000000 in
theorem C_X7_chance {l : Launch} {D : va_G} {cy : Nat → ClassId} {ad : Nat → Nat} {σ : ST} {p1 : Int32} {p2 : Int32} {p3 : Int32} {r : (Int32 × ST)} (h : D_X7_chance σ p1 p2 p3 = some r) : MI l yX7_chance cX7_chance 6 (some .int) 3 77 D cy (wT ad cy σ) [.ref (ad 17), .int p1, .int p2, .int p3] r.1 (wT ad cy r.2) :=
  MI.mk (lv := [(0, .ref (ad 17)), (1, .int p1), (2, .int p2), (3, .int p3)]) (by decide) (Nat.le_of_ble_eq_true rfl) rfl (fun x _ _ E K => B_X7_chance E K σ p1 p2 p3 h)

noncomputable def D_X8_duel (σ : ST) (p1 : Int32) (p2 : Int32) : Option (Int32 × ST) := (D_X8_isPlayer σ p1).bind fun r1 => if r1 = 0 then (some ((-101 : Int32), σ)) else ((D_X8_isPlayer σ p2).bind fun r3 => if r3 = 0 then (some ((-101 : Int32), σ)) else (if p1 = p2 then (some ((-101 : Int32), σ)) else ((D_X8_rowsHitBy σ p1).bind fun r5 => (D_X8_rowsHitBy σ p2).bind fun r7 => (D_X7_chance σ r5 r7 (gI σ 2)).bind fun r9 => some (r9.1, r9.2))))
set_option maxRecDepth 100000 in
set_option maxHeartbeats 4000000 in
theorem B_X8_duel {x : CX} {cy : Nat → ClassId} {ad : Nat → Nat} {r : (Int32 × ST)} (E : Ev x cy cX8_duel RX8 3 5 141) (K : RetI x cX8_duel .int r.1 (wT ad cy r.2)) (σ : ST) (p1 : Int32) (p2 : Int32) (h : D_X8_duel σ p1 p2 = some r) : G x 0 0 0 [(0, .ref (ad 0)), (1, .int p1), (2, .int p2)] [] (wT ad cy σ) := by
  unfold D_X8_duel at h
  refine G.aload_n E dX8_duel_0 rfl 0 rfl ?_
  refine G.iload_n E dX8_duel_1 rfl 1 rfl ?_
  obtain ⟨r1, h2, h⟩ := bind_s h
  refine G.retI E (runV (st := []) (As := [.int p1]) E (C_X8_isPlayer h2) ck_X8_isPlayer (f425 E.fx) (f427 E.fx) (f3 E.fx) 0 8 rfl rfl rfl (by decide) (by decide) rfl (Nat.le_of_ble_eq_true rfl) dX8_duel_2 ⟨Nat.zero_le _, Nat.zero_le _⟩) ?_
  refine G.if_eq (tgt := 21) E dX8_duel_5 (by decide) (fun q => ?_) (fun q => ?_)
  · have h := ite_t h q
    refine G.bipush (v := -101) E dX8_duel_21 (by decide) ?_
    obtain rfl := Option.some.inj h
    exact K rfl _ _ dX8_duel_23
  · have h := ite_f h q
    refine G.aload_n E dX8_duel_8 rfl 0 rfl ?_
    refine G.iload_n E dX8_duel_9 rfl 2 rfl ?_
    obtain ⟨r3, h4, h⟩ := bind_s h
    refine G.retI E (runV (st := []) (As := [.int p2]) E (C_X8_isPlayer h4) ck_X8_isPlayer (f425 E.fx) (f427 E.fx) (f3 E.fx) 0 8 rfl rfl rfl (by decide) (by decide) rfl (Nat.le_of_ble_eq_true rfl) dX8_duel_10 ⟨Nat.zero_le _, Nat.zero_le _⟩) ?_
    refine G.if_eq (tgt := 21) E dX8_duel_13 (by decide) (fun q => ?_) (fun q => ?_)
    · have h := ite_t h q
      refine G.bipush (v := -101) E dX8_duel_21 (by decide) ?_
      obtain rfl := Option.some.inj h
      exact K rfl _ _ dX8_duel_23
    · have h := ite_f h q
      refine G.iload_n E dX8_duel_16 rfl 1 rfl ?_
      refine G.iload_n E dX8_duel_17 rfl 2 rfl ?_
      refine G.icmp_ne (tgt := 24) E dX8_duel_18 (by decide) (fun q => ?_) (fun q => ?_)
      · have h := ite_f h q
        refine G.aload_n E dX8_duel_24 rfl 0 rfl ?_
        refine G.get E inX8 0 rfl rfl 3 (by decide) (f217 E.fx) rfl dX8_duel_25 ?_
        refine G.aload_n E dX8_duel_28 rfl 0 rfl ?_
        refine G.iload_n E dX8_duel_29 rfl 1 rfl ?_
        obtain ⟨r5, h6, h⟩ := bind_s h
        refine G.retI E (runV (st := [.ref (ad 17)]) (As := [.int p1]) E (C_X8_rowsHitBy h6) ck_X8_rowsHitBy (f429 E.fx) (f431 E.fx) (f4 E.fx) 0 8 rfl rfl rfl (by decide) (by decide) rfl (Nat.le_of_ble_eq_true rfl) dX8_duel_30 ⟨Nat.zero_le _, Nat.zero_le _⟩) ?_
        refine G.aload_n E dX8_duel_33 rfl 0 rfl ?_
        refine G.iload_n E dX8_duel_34 rfl 2 rfl ?_
        obtain ⟨r7, h8, h⟩ := bind_s h
        refine G.retI E (runV (st := [.int r5, .ref (ad 17)]) (As := [.int p2]) E (C_X8_rowsHitBy h8) ck_X8_rowsHitBy (f429 E.fx) (f431 E.fx) (f4 E.fx) 0 8 rfl rfl rfl (by decide) (by decide) rfl (Nat.le_of_ble_eq_true rfl) dX8_duel_35 ⟨Nat.zero_le _, Nat.zero_le _⟩) ?_
        refine G.aload_n E dX8_duel_38 rfl 0 rfl ?_
        refine G.get E inX8 0 rfl rfl 10 (by decide) (f224 E.fx) rfl dX8_duel_39 ?_
        obtain ⟨r9, h10, h⟩ := bind_s h
        refine G.retI E (runV (st := []) (As := [.int r5, .int r7, .int (gI σ 2)]) E (C_X7_chance h10) ck_X7_chance (f569 E.fx) (f570 E.fx) (f571 E.fx) 17 7 rfl rfl rfl (by decide) (by decide) rfl (Nat.le_of_ble_eq_true rfl) dX8_duel_42 ⟨Nat.zero_le _, Nat.zero_le _⟩) ?_
        obtain rfl := Option.some.inj h
        exact K rfl _ _ dX8_duel_45
      · have h := ite_t h q
        refine G.bipush (v := -101) E dX8_duel_21 (by decide) ?_
        obtain rfl := Option.some.inj h
        exact K rfl _ _ dX8_duel_23
set_option maxRecDepth 100000 in
set_option maxHeartbeats 4000000 in
theorem C_X8_duel {l : Launch} {D : va_G} {cy : Nat → ClassId} {ad : Nat → Nat} {σ : ST} {p1 : Int32} {p2 : Int32} {r : (Int32 × ST)} (h : D_X8_duel σ p1 p2 = some r) : MI l yX8_duel cX8_duel 3 (some .int) 5 141 D cy (wT ad cy σ) [.ref (ad 0), .int p1, .int p2] r.1 (wT ad cy r.2) :=
  MI.mk (lv := [(0, .ref (ad 0)), (1, .int p1), (2, .int p2)]) (by decide) (Nat.le_of_ble_eq_true rfl) rfl (fun x _ _ E K => B_X8_duel E K σ p1 p2 h)
