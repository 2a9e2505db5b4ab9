noncomputable def D_X9_wonByAll_L4_body (rec4 : (Int32 × Int32) → Option Int32) (σ : ST) (x1 : Int32) (x2 : Int32) : Option Int32 := if (gI σ 1) ≤ x2 then (some x1) else (if x2 < 0 ∨ 4 ≤ x2.toNatClampNeg then none else (rec4 ((x1 + (gA σ 2 x2.toNatClampNeg)), (x2 + 1))))
set_option maxRecDepth 100000 in
set_option maxHeartbeats 4000000 in
theorem B_X9_wonByAll_L4_body {x : CX} {cy : Nat → ClassId} {ad : Nat → Nat} {r : Int32} {σ : ST} (E : Ev x cy cX9_wonByAll RX9 3 0 0) (K : RetI x cX9_wonByAll .int r (wM ad cy σ)) (rec4 : (Int32 × Int32) → Option Int32) (hrec4 : ∀ a, rec4 a = some r → G x 0 0 4 [(0, .ref (ad 0)), (1, .int a.1), (2, .int a.2)] [] (wM ad cy σ)) (σ9 : ST) (x1 : Int32) (x2 : Int32) (h : D_X9_wonByAll_L4_body rec4 σ x1 x2 = some r) : G x 0 0 4 [(0, .ref (ad 0)), (1, .int x1), (2, .int x2)] [] (wM ad cy σ) := by
  unfold D_X9_wonByAll_L4_body at h
  refine G.iload_n E dX9_wonByAll_4 rfl 2 rfl ?_
  refine G.aload_n E dX9_wonByAll_5 rfl 0 rfl ?_
  refine G.get E inX9 0 rfl rfl 1 (by decide) (f699 E.fx) rfl dX9_wonByAll_6 ?_
  refine G.icmp_ge (tgt := 27) E dX9_wonByAll_9 (by decide) (fun q => ?_) (fun q => ?_)
  · have h := ite_t h q
    refine G.iload_n E dX9_wonByAll_27 rfl 1 rfl ?_
    obtain rfl := Option.some.inj h
    exact K rfl _ _ dX9_wonByAll_28
  · have h := ite_f h q
    refine G.iload_n E dX9_wonByAll_12 rfl 1 rfl ?_
    refine G.aload_n E dX9_wonByAll_13 rfl 0 rfl ?_
    refine G.get E inX9 0 rfl rfl 5 (by decide) (f703 E.fx) rfl dX9_wonByAll_14 ?_
    refine G.iload_n E dX9_wonByAll_17 rfl 2 rfl ?_
    obtain ⟨hg, h⟩ := ite_n h
    refine G.iald E 3 0 rfl rfl hg dX9_wonByAll_18 ?_
    refine G.iadd E dX9_wonByAll_19 ?_
    refine G.istore_n (lv' := [(1, .int (x1 + (gA σ 2 x2.toNatClampNeg))), (0, .ref (ad 0)), (2, .int x2)]) E dX9_wonByAll_20 rfl (by decide) rfl ?_
    refine G.iinc (w := x2 + 1) (lv' := [(2, .int (x2 + 1)), (1, .int (x1 + (gA σ 2 x2.toNatClampNeg))), (0, .ref (ad 0))]) E dX9_wonByAll_21 2 rfl rfl (by decide) rfl ?_
    refine G.goto (tgt := 4) E dX9_wonByAll_24 (by decide) ?_
    refine G.sub (lv' := [(0, .ref (ad 0)), (1, .int (x1 + (gA σ 2 x2.toNatClampNeg))), (2, .int (x2 + 1))]) [2, 1, 0] rfl ?_
    exact hrec4 ((x1 + (gA σ 2 x2.toNatClampNeg)), (x2 + 1)) h
noncomputable def D_X9_wonByAll_L4  (σ : ST) (x1 : Int32) (x2 : Int32) : Option Int32 := itr (fun (rec4 : (Int32 × Int32) → Option Int32) (a : (Int32 × Int32)) => D_X9_wonByAll_L4_body rec4 σ a.1 a.2) 200 (x1, x2)
set_option maxRecDepth 100000 in
set_option maxHeartbeats 4000000 in
theorem B_X9_wonByAll_L4 {x : CX} {cy : Nat → ClassId} {ad : Nat → Nat} {r : Int32} {σ : ST} (E : Ev x cy cX9_wonByAll RX9 3 0 0) (K : RetI x cX9_wonByAll .int r (wM ad cy σ))  (σ9 : ST) (x1 : Int32) (x2 : Int32) (h : D_X9_wonByAll_L4 σ x1 x2 = some r) : G x 0 0 4 [(0, .ref (ad 0)), (1, .int x1), (2, .int x2)] [] (wM ad cy σ) :=
  itr_ind (P := fun a => G x 0 0 4 [(0, .ref (ad 0)), (1, .int a.1), (2, .int a.2)] [] (wM ad cy σ)) (fun rec4 hrec4 a h => B_X9_wonByAll_L4_body E K rec4 hrec4 σ a.1 a.2 h) 200 (x1, x2) h
noncomputable def D_X9_wonByAll (σ : ST)  : Option Int32 := D_X9_wonByAll_L4 σ (0 : Int32) (0 : Int32)
set_option maxRecDepth 100000 in
set_option maxHeartbeats 4000000 in
theorem B_X9_wonByAll {x : CX} {cy : Nat → ClassId} {ad : Nat → Nat} {r : Int32} {σ : ST} (E : Ev x cy cX9_wonByAll RX9 3 0 0) (K : RetI x cX9_wonByAll .int r (wM ad cy σ))  (h : D_X9_wonByAll σ = some r) : G x 0 0 0 [(0, .ref (ad 0))] [] (wM ad cy σ) := by
  unfold D_X9_wonByAll at h
  refine G.iconst (v := 0) E dX9_wonByAll_0 (by decide) ?_
  refine G.istore_n (lv' := [(1, .int (0 : Int32)), (0, .ref (ad 0))]) E dX9_wonByAll_1 rfl (by decide) rfl ?_
  refine G.iconst (v := 0) E dX9_wonByAll_2 (by decide) ?_
  refine G.istore_n (lv' := [(2, .int (0 : Int32)), (1, .int (0 : Int32)), (0, .ref (ad 0))]) E dX9_wonByAll_3 rfl (by decide) rfl ?_
  refine G.sub (lv' := [(0, .ref (ad 0)), (1, .int (0 : Int32)), (2, .int (0 : Int32))]) [2, 1, 0] rfl ?_
  exact B_X9_wonByAll_L4 E K σ (0 : Int32) (0 : Int32) h
set_option maxRecDepth 100000 in
set_option maxHeartbeats 4000000 in
theorem C_X9_wonByAll {l : Launch} {D : va_G} {cy : Nat → ClassId} {ad : Nat → Nat} {σ : ST}  {r : Int32} (h : D_X9_wonByAll σ = some r) : MI l yX9_wonByAll cX9_wonByAll 3 (some .int) 0 0 D cy (wM ad cy σ) [.ref (ad 0)] r (wM ad cy σ) :=
  MI.mk (lv := [(0, .ref (ad 0))]) (by decide) (Nat.le_of_ble_eq_true rfl) rfl (fun x _ _ E K => B_X9_wonByAll E K  h)

noncomputable def D_X9_howMany (σ : ST) (p1 : Int32) : Option Int32 := if p1.toInt < 0 ∨ 8 < p1.toInt then (some (-102 : Int32)) else (if p1 = 0 then (some (gI σ 1)) else (if p1 = 1 then (some (gI σ 2)) else (if p1 = 2 then (some (gI σ 3)) else (if p1 = 3 then (some (gI σ 5)) else (if p1 = 4 then ((D_X9_tailNow σ).bind fun r1 => some r1) else (if p1 = 5 then ((D_X9_wonByAll σ).bind fun r3 => some r3) else (if p1 = 6 then (some (gI σ 6)) else (if p1 = 7 then (some (gI σ 7)) else (if p1 = 8 then (some (gI σ 0)) else (none))))))))))
set_option maxRecDepth 100000 in
set_option maxHeartbeats 4000000 in
theorem B_X9_howMany {x : CX} {cy : Nat → ClassId} {ad : Nat → Nat} {r : Int32} {σ : ST} (E : Ev x cy cX9_howMany RX9 2 2 40) (K : RetI x cX9_howMany .int r (wM ad cy σ)) (p1 : Int32) (h : D_X9_howMany σ p1 = some r) : G x 0 0 0 [(0, .ref (ad 0)), (1, .int p1)] [] (wM ad cy σ) := by
  unfold D_X9_howMany at h
  refine G.iload_n E dX9_howMany_0 rfl 1 rfl ?_
  by_cases q : p1.toInt < 0 ∨ 8 < p1.toInt
  · have h := ite_t h q
    refine G.tableOut (tgt := 97) E dX9_howMany_1 q (by decide) ?_
    refine G.bipush (v := -102) E dX9_howMany_97 (by decide) ?_
    obtain rfl := Option.some.inj h
    exact K rfl _ _ dX9_howMany_99
  have h := ite_f h q
  by_cases q0 : p1 = 0
  · have h := ite_t h q0
    refine G.tableAt (n := 0) (off := 51) (tgt := 52) E q0 dX9_howMany_1 (by decide) (by decide) (by decide) (by decide) ?_
    refine G.aload_n E dX9_howMany_52 rfl 0 rfl ?_
    refine G.get E inX9 0 rfl rfl 1 (by decide) (f699 E.fx) rfl dX9_howMany_53 ?_
    obtain rfl := Option.some.inj h
    exact K rfl _ _ dX9_howMany_56
  have h := ite_f h q0
  by_cases q1 : p1 = 1
  · have h := ite_t h q1
    refine G.tableAt (n := 1) (off := 56) (tgt := 57) E q1 dX9_howMany_1 (by decide) (by decide) (by decide) (by decide) ?_
    refine G.aload_n E dX9_howMany_57 rfl 0 rfl ?_
    refine G.get E inX9 0 rfl rfl 2 (by decide) (f700 E.fx) rfl dX9_howMany_58 ?_
    obtain rfl := Option.some.inj h
    exact K rfl _ _ dX9_howMany_61
  have h := ite_f h q1
  by_cases q2 : p1 = 2
  · have h := ite_t h q2
    refine G.tableAt (n := 2) (off := 61) (tgt := 62) E q2 dX9_howMany_1 (by decide) (by decide) (by decide) (by decide) ?_
    refine G.aload_n E dX9_howMany_62 rfl 0 rfl ?_
    refine G.get E inX9 0 rfl rfl 6 (by decide) (f704 E.fx) rfl dX9_howMany_63 ?_
    obtain rfl := Option.some.inj h
    exact K rfl _ _ dX9_howMany_66
  have h := ite_f h q2
  by_cases q3 : p1 = 3
  · have h := ite_t h q3
    refine G.tableAt (n := 3) (off := 66) (tgt := 67) E q3 dX9_howMany_1 (by decide) (by decide) (by decide) (by decide) ?_
    refine G.aload_n E dX9_howMany_67 rfl 0 rfl ?_
    refine G.get E inX9 0 rfl rfl 8 (by decide) (f706 E.fx) rfl dX9_howMany_68 ?_
    obtain rfl := Option.some.inj h
    exact K rfl _ _ dX9_howMany_71
  have h := ite_f h q3
  by_cases q4 : p1 = 4
  · have h := ite_t h q4
    refine G.tableAt (n := 4) (off := 71) (tgt := 72) E q4 dX9_howMany_1 (by decide) (by decide) (by decide) (by decide) ?_
    refine G.aload_n E dX9_howMany_72 rfl 0 rfl ?_
    obtain ⟨r1, h2, h⟩ := bind_s h
    refine G.retI E (runV (st := []) (As := []) E (C_X9_tailNow h2) ck_X9_tailNow (f1073 E.fx) (f1075 E.fx) (f64 E.fx) 0 9 rfl rfl rfl (by decide) (by decide) rfl (Nat.le_of_ble_eq_true rfl) dX9_howMany_73 ⟨Nat.zero_le _, Nat.zero_le _⟩) ?_
    obtain rfl := Option.some.inj h
    exact K rfl _ _ dX9_howMany_76
  have h := ite_f h q4
  by_cases q5 : p1 = 5
  · have h := ite_t h q5
    refine G.tableAt (n := 5) (off := 76) (tgt := 77) E q5 dX9_howMany_1 (by decide) (by decide) (by decide) (by decide) ?_
    refine G.aload_n E dX9_howMany_77 rfl 0 rfl ?_
    obtain ⟨r3, h4, h⟩ := bind_s h
    refine G.retI E (runV (st := []) (As := []) E (C_X9_wonByAll h4) ck_X9_wonByAll (f1077 E.fx) (f1079 E.fx) (f65 E.fx) 0 9 rfl rfl rfl (by decide) (by decide) rfl (Nat.le_of_ble_eq_true rfl) dX9_howMany_78 ⟨Nat.zero_le _, Nat.zero_le _⟩) ?_
    obtain rfl := Option.some.inj h
    exact K rfl _ _ dX9_howMany_81
  have h := ite_f h q5
  by_cases q6 : p1 = 6
  · have h := ite_t h q6
    refine G.tableAt (n := 6) (off := 81) (tgt := 82) E q6 dX9_howMany_1 (by decide) (by decide) (by decide) (by decide) ?_
    refine G.aload_n E dX9_howMany_82 rfl 0 rfl ?_
    refine G.get E inX9 0 rfl rfl 9 (by decide) (f707 E.fx) rfl dX9_howMany_83 ?_
    obtain rfl := Option.some.inj h
    exact K rfl _ _ dX9_howMany_86
  have h := ite_f h q6
  by_cases q7 : p1 = 7
  · have h := ite_t h q7
    refine G.tableAt (n := 7) (off := 86) (tgt := 87) E q7 dX9_howMany_1 (by decide) (by decide) (by decide) (by decide) ?_
    refine G.aload_n E dX9_howMany_87 rfl 0 rfl ?_
    refine G.get E inX9 0 rfl rfl 13 (by decide) (f711 E.fx) rfl dX9_howMany_88 ?_
    obtain rfl := Option.some.inj h
    exact K rfl _ _ dX9_howMany_91
  have h := ite_f h q7
  by_cases q8 : p1 = 8
  · have h := ite_t h q8
    refine G.tableAt (n := 8) (off := 91) (tgt := 92) E q8 dX9_howMany_1 (by decide) (by decide) (by decide) (by decide) ?_
    refine G.aload_n E dX9_howMany_92 rfl 0 rfl ?_
    refine G.get E inX9 0 rfl rfl 0 (by decide) (f698 E.fx) rfl dX9_howMany_93 ?_
    obtain rfl := Option.some.inj h
    exact K rfl _ _ dX9_howMany_96
  have h := ite_f h q8
  cases h
set_option maxRecDepth 100000 in
set_option maxHeartbeats 4000000 in
theorem C_X9_howMany {l : Launch} {D : va_G} {cy : Nat → ClassId} {ad : Nat → Nat} {σ : ST} {p1 : Int32} {r : Int32} (h : D_X9_howMany σ p1 = some r) : MI l yX9_howMany cX9_howMany 2 (some .int) 2 40 D cy (wM ad cy σ) [.ref (ad 0), .int p1] r (wM ad cy σ) :=
  MI.mk (lv := [(0, .ref (ad 0)), (1, .int p1)]) (by decide) (Nat.le_of_ble_eq_true rfl) rfl (fun x _ _ E K => B_X9_howMany E K p1 h)

noncomputable def D_X9_count (σ : ST) (p1 : Int32) : Option Int32 := (D_X9_howMany σ p1).bind fun r1 => some r1
set_option maxRecDepth 100000 in
set_option maxHeartbeats 4000000 in
theorem B_X9_count {x : CX} {cy : Nat → ClassId} {ad : Nat → Nat} {r : Int32} {σ : ST} (E : Ev x cy cX9_count RX9 2 3 61) (K : RetI x cX9_count .int r (wM ad cy σ)) (p1 : Int32) (h : D_X9_count σ p1 = some r) : G x 0 0 0 [(0, .ref (ad 0)), (1, .int p1)] [] (wM ad cy σ) := by
  unfold D_X9_count at h
  refine G.aload_n E dX9_count_0 rfl 0 rfl ?_
  refine G.iload_n E dX9_count_1 rfl 1 rfl ?_
  obtain ⟨r1, h2, h⟩ := bind_s h
  refine G.retI E (runV (st := []) (As := [.int p1]) E (C_X9_howMany h2) ck_X9_howMany (f1069 E.fx) (f1071 E.fx) (f63 E.fx) 0 9 rfl rfl rfl (by decide) (by decide) rfl (Nat.le_of_ble_eq_true rfl) dX9_count_2 ⟨Nat.zero_le _, Nat.zero_le _⟩) ?_
  obtain rfl := Option.some.inj h
  exact K rfl _ _ dX9_count_5
set_option maxRecDepth 100000 in
set_option maxHeartbeats 4000000 in
theorem C_X9_count {l : Launch} {D : va_G} {cy : Nat → ClassId} {ad : Nat → Nat} {σ : ST} {p1 : Int32} {r : Int32} (h : D_X9_count σ p1 = some r) : MI l yX9_count cX9_count 2 (some .int) 3 61 D cy (wM ad cy σ) [.ref (ad 0), .int p1] r (wM ad cy σ) :=
  MI.mk (lv := [(0, .ref (ad 0)), (1, .int p1)]) (by decide) (Nat.le_of_ble_eq_true rfl) rfl (fun x _ _ E K => B_X9_count E K p1 h)

noncomputable def D_X9_mix (σ : ST) (p1 : Int64) : Option ST := some (pJ σ 1 (((31 : Int64) * (gJ σ 1)) + p1))
set_option maxRecDepth 100000 in
set_option maxHeartbeats 4000000 in
theorem B_X9_mix {x : CX} {cy : Nat → ClassId} {ad : Nat → Nat} {r : ST} (E : Ev x cy cX9_mix RX9 3 0 0) (K : RetV x cX9_mix (wM ad cy r)) (σ : ST) (p1 : Int64) (h : D_X9_mix σ p1 = some r) : G x 0 0 0 [(0, .ref (ad 0)), (1, .long p1)] [] (wM ad cy σ) := by
  unfold D_X9_mix at h
  refine G.aload_n E dX9_mix_0 rfl 0 rfl ?_
  refine G.ldc2 E (f1094 E.fx) dX9_mix_1 ?_
  refine G.aload_n E dX9_mix_4 rfl 0 rfl ?_
  refine G.get E inX9 0 rfl rfl 36 (by decide) (f734 E.fx) rfl dX9_mix_5 ?_
  refine G.lmul E dX9_mix_8 ?_
  refine G.lload_n E dX9_mix_9 rfl 1 rfl ?_
  refine G.ladd E dX9_mix_10 ?_
  refine G.put (ws' := (wM ad cy (pJ σ 1 (((31 : Int64) * (gJ σ 1)) + p1)))) E inX9 tyX9 tyX9_ok nmX9 0 rfl rfl 36 (by decide) (f734 E.fx) rfl rfl rfl rfl (Nat.le_of_ble_eq_true rfl) dX9_mix_11 (wM_fJ1 ad cy _ _) ?_
  obtain rfl := Option.some.inj h
  exact K _ _ dX9_mix_14
set_option maxRecDepth 100000 in
set_option maxHeartbeats 4000000 in
theorem C_X9_mix {l : Launch} {D : va_G} {cy : Nat → ClassId} {ad : Nat → Nat} {σ : ST} {p1 : Int64} {r : ST} (h : D_X9_mix σ p1 = some r) : MV l yX9_mix cX9_mix 3 none 0 0 D cy (wM ad cy σ) [.ref (ad 0), .long p1]  (wM ad cy r) :=
  MV.mk (lv := [(0, .ref (ad 0)), (1, .long p1)]) (by decide) (Nat.le_of_ble_eq_true rfl) rfl (fun x _ _ E K => B_X9_mix E K σ p1 h)

noncomputable def D_X9_mixPlayer_L2_body (rec2 : (ST × Int32 × Int32) → Option ST) (σ : ST) (x1 : Int32) (x2 : Int32) : Option ST := if (7 : Int32) ≤ x2 then ((D_X9_answerNow σ x1 (0 : Int32)).bind fun r1 => (D_X9_mix r1.2 r1.1.toInt64).bind fun r3 => (D_X9_answerNow r3 x1 (1 : Int32)).bind fun r5 => (D_X9_mix r5.2 r5.1.toInt64).bind fun r7 => (D_X9_oddsNow r7 x1 (9 : Int32) (0 : Int32)).bind fun r9 => (D_X9_mix r9.2 r9.1.toInt64).bind fun r11 => (D_X9_oddsNow r11 x1 (9 : Int32) (1 : Int32)).bind fun r13 => (D_X9_mix r13.2 r13.1.toInt64).bind fun r15 => some r15) else ((D_X9_playerNow σ x1 x2).bind fun r17 => (D_X9_mix r17.2 r17.1.toInt64).bind fun r19 => rec2 (r19, x1, (x2 + 1)))
set_option maxRecDepth 100000 in
set_option maxHeartbeats 4000000 in
theorem B_X9_mixPlayer_L2_body {x : CX} {cy : Nat → ClassId} {ad : Nat → Nat} {r : ST} (E : Ev x cy cX9_mixPlayer RX9 3 6 145) (K : RetV x cX9_mixPlayer (wM ad cy r)) (rec2 : (ST × Int32 × Int32) → Option ST) (hrec2 : ∀ a, rec2 a = some r → G x 0 0 2 [(0, .ref (ad 0)), (1, .int a.2.1), (2, .int a.2.2)] [] (wM ad cy a.1)) (σ : ST) (x1 : Int32) (x2 : Int32) (h : D_X9_mixPlayer_L2_body rec2 σ x1 x2 = some r) : G x 0 0 2 [(0, .ref (ad 0)), (1, .int x1), (2, .int x2)] [] (wM ad cy σ) := by
  unfold D_X9_mixPlayer_L2_body at h
  refine G.iload_n E dX9_mixPlayer_2 rfl 2 rfl ?_
  refine G.bipush (v := 7) E dX9_mixPlayer_3 (by decide) ?_
  refine G.icmp_ge (tgt := 25) E dX9_mixPlayer_5 (by decide) (fun q => ?_) (fun q => ?_)
  · have h := ite_t h q
    refine G.aload_n E dX9_mixPlayer_25 rfl 0 rfl ?_
    refine G.aload_n E dX9_mixPlayer_26 rfl 0 rfl ?_
    refine G.iload_n E dX9_mixPlayer_27 rfl 1 rfl ?_
    refine G.iconst (v := 0) E dX9_mixPlayer_28 (by decide) ?_
    obtain ⟨r1, h2, h⟩ := bind_s h
    refine G.retI E (runV (st := [.ref (ad 0)]) (As := [.int x1, .int (0 : Int32)]) E (C_X9_answerNow h2) ck_X9_answerNow (f970 E.fx) (f972 E.fx) (f49 E.fx) 0 9 rfl rfl rfl (by decide) (by decide) rfl (Nat.le_of_ble_eq_true rfl) dX9_mixPlayer_29 ⟨Nat.zero_le _, Nat.zero_le _⟩) ?_
    refine G.i2l E dX9_mixPlayer_32 ?_
    obtain ⟨r3, h4, h⟩ := bind_s h
    refine G.retV E (runV (st := []) (As := [.long r1.1.toInt64]) E (C_X9_mix h4) ck_X9_mix (f1090 E.fx) (f1092 E.fx) (f67 E.fx) 0 9 rfl rfl rfl (by decide) (by decide) rfl (Nat.le_of_ble_eq_true rfl) dX9_mixPlayer_33 ⟨Nat.zero_le _, Nat.zero_le _⟩) ?_
    refine G.aload_n E dX9_mixPlayer_36 rfl 0 rfl ?_
    refine G.aload_n E dX9_mixPlayer_37 rfl 0 rfl ?_
    refine G.iload_n E dX9_mixPlayer_38 rfl 1 rfl ?_
    refine G.iconst (v := 1) E dX9_mixPlayer_39 (by decide) ?_
    obtain ⟨r5, h6, h⟩ := bind_s h
    refine G.retI E (runV (st := [.ref (ad 0)]) (As := [.int x1, .int (1 : Int32)]) E (C_X9_answerNow h6) ck_X9_answerNow (f970 E.fx) (f972 E.fx) (f49 E.fx) 0 9 rfl rfl rfl (by decide) (by decide) rfl (Nat.le_of_ble_eq_true rfl) dX9_mixPlayer_40 ⟨Nat.zero_le _, Nat.zero_le _⟩) ?_
    refine G.i2l E dX9_mixPlayer_43 ?_
    obtain ⟨r7, h8, h⟩ := bind_s h
    refine G.retV E (runV (st := []) (As := [.long r5.1.toInt64]) E (C_X9_mix h8) ck_X9_mix (f1090 E.fx) (f1092 E.fx) (f67 E.fx) 0 9 rfl rfl rfl (by decide) (by decide) rfl (Nat.le_of_ble_eq_true rfl) dX9_mixPlayer_44 ⟨Nat.zero_le _, Nat.zero_le _⟩) ?_
    refine G.aload_n E dX9_mixPlayer_47 rfl 0 rfl ?_
    refine G.aload_n E dX9_mixPlayer_48 rfl 0 rfl ?_
    refine G.iload_n E dX9_mixPlayer_49 rfl 1 rfl ?_
    refine G.bipush (v := 9) E dX9_mixPlayer_50 (by decide) ?_
    refine G.iconst (v := 0) E dX9_mixPlayer_52 (by decide) ?_
    obtain ⟨r9, h10, h⟩ := bind_s h
    refine G.retI E (runV (st := [.ref (ad 0)]) (As := [.int x1, .int (9 : Int32), .int (0 : Int32)]) E (C_X9_oddsNow h10) ck_X9_oddsNow (f1010 E.fx) (f1012 E.fx) (f56 E.fx) 0 9 rfl rfl rfl (by decide) (by decide) rfl (Nat.le_of_ble_eq_true rfl) dX9_mixPlayer_53 ⟨Nat.zero_le _, Nat.zero_le _⟩) ?_
    refine G.i2l E dX9_mixPlayer_56 ?_
    obtain ⟨r11, h12, h⟩ := bind_s h
    refine G.retV E (runV (st := []) (As := [.long r9.1.toInt64]) E (C_X9_mix h12) ck_X9_mix (f1090 E.fx) (f1092 E.fx) (f67 E.fx) 0 9 rfl rfl rfl (by decide) (by decide) rfl (Nat.le_of_ble_eq_true rfl) dX9_mixPlayer_57 ⟨Nat.zero_le _, Nat.zero_le _⟩) ?_
    refine G.aload_n E dX9_mixPlayer_60 rfl 0 rfl ?_
    refine G.aload_n E dX9_mixPlayer_61 rfl 0 rfl ?_
    refine G.iload_n E dX9_mixPlayer_62 rfl 1 rfl ?_
    refine G.bipush (v := 9) E dX9_mixPlayer_63 (by decide) ?_
    refine G.iconst (v := 1) E dX9_mixPlayer_65 (by decide) ?_
    obtain ⟨r13, h14, h⟩ := bind_s h
    refine G.retI E (runV (st := [.ref (ad 0)]) (As := [.int x1, .int (9 : Int32), .int (1 : Int32)]) E (C_X9_oddsNow h14) ck_X9_oddsNow (f1010 E.fx) (f1012 E.fx) (f56 E.fx) 0 9 rfl rfl rfl (by decide) (by decide) rfl (Nat.le_of_ble_eq_true rfl) dX9_mixPlayer_66 ⟨Nat.zero_le _, Nat.zero_le _⟩) ?_
    refine G.i2l E dX9_mixPlayer_69 ?_
    obtain ⟨r15, h16, h⟩ := bind_s h
    refine G.retV E (runV (st := []) (As := [.long r13.1.toInt64]) E (C_X9_mix h16) ck_X9_mix (f1090 E.fx) (f1092 E.fx) (f67 E.fx) 0 9 rfl rfl rfl (by decide) (by decide) rfl (Nat.le_of_ble_eq_true rfl) dX9_mixPlayer_70 ⟨Nat.zero_le _, Nat.zero_le _⟩) ?_
    obtain rfl := Option.some.inj h
    exact K _ _ dX9_mixPlayer_73
  · have h := ite_f h q
    refine G.aload_n E dX9_mixPlayer_8 rfl 0 rfl ?_
    refine G.aload_n E dX9_mixPlayer_9 rfl 0 rfl ?_
    refine G.iload_n E dX9_mixPlayer_10 rfl 1 rfl ?_
    refine G.iload_n E dX9_mixPlayer_11 rfl 2 rfl ?_
    obtain ⟨r17, h18, h⟩ := bind_s h
    refine G.retI E (runV (st := [.ref (ad 0)]) (As := [.int x1, .int x2]) E (C_X9_playerNow h18) ck_X9_playerNow (f856 E.fx) (f858 E.fx) (f31 E.fx) 0 9 rfl rfl rfl (by decide) (by decide) rfl (Nat.le_of_ble_eq_true rfl) dX9_mixPlayer_12 ⟨Nat.zero_le _, Nat.zero_le _⟩) ?_
    refine G.i2l E dX9_mixPlayer_15 ?_
    obtain ⟨r19, h20, h⟩ := bind_s h
    refine G.retV E (runV (st := []) (As := [.long r17.1.toInt64]) E (C_X9_mix h20) ck_X9_mix (f1090 E.fx) (f1092 E.fx) (f67 E.fx) 0 9 rfl rfl rfl (by decide) (by decide) rfl (Nat.le_of_ble_eq_true rfl) dX9_mixPlayer_16 ⟨Nat.zero_le _, Nat.zero_le _⟩) ?_
    refine G.iinc (w := x2 + 1) (lv' := [(2, .int (x2 + 1)), (0, .ref (ad 0)), (1, .int x1)]) E dX9_mixPlayer_19 2 rfl rfl (by decide) rfl ?_
    refine G.goto (tgt := 2) E dX9_mixPlayer_22 (by decide) ?_
    refine G.sub (lv' := [(0, .ref (ad 0)), (1, .int x1), (2, .int (x2 + 1))]) [1, 2, 0] rfl ?_
    exact hrec2 (r19, x1, (x2 + 1)) h
noncomputable def D_X9_mixPlayer_L2  (σ : ST) (x1 : Int32) (x2 : Int32) : Option ST := itr (fun (rec2 : (ST × Int32 × Int32) → Option ST) (a : (ST × Int32 × Int32)) => D_X9_mixPlayer_L2_body rec2 a.1 a.2.1 a.2.2) 200 (σ, x1, x2)
set_option maxRecDepth 100000 in
set_option maxHeartbeats 4000000 in
theorem B_X9_mixPlayer_L2 {x : CX} {cy : Nat → ClassId} {ad : Nat → Nat} {r : ST} (E : Ev x cy cX9_mixPlayer RX9 3 6 145) (K : RetV x cX9_mixPlayer (wM ad cy r))  (σ : ST) (x1 : Int32) (x2 : Int32) (h : D_X9_mixPlayer_L2 σ x1 x2 = some r) : G x 0 0 2 [(0, .ref (ad 0)), (1, .int x1), (2, .int x2)] [] (wM ad cy σ) :=
  itr_ind (P := fun a => G x 0 0 2 [(0, .ref (ad 0)), (1, .int a.2.1), (2, .int a.2.2)] [] (wM ad cy a.1)) (fun rec2 hrec2 a h => B_X9_mixPlayer_L2_body E K rec2 hrec2 a.1 a.2.1 a.2.2 h) 200 (σ, x1, x2) h
noncomputable def D_X9_mixPlayer (σ : ST) (p1 : Int32) : Option ST := D_X9_mixPlayer_L2 σ p1 (0 : Int32)
set_option maxRecDepth 100000 in
set_option maxHeartbeats 4000000 in
theorem B_X9_mixPlayer {x : CX} {cy : Nat → ClassId} {ad : Nat → Nat} {r : ST} (E : Ev x cy cX9_mixPlayer RX9 3 6 145) (K : RetV x cX9_mixPlayer (wM ad cy r)) (σ : ST) (p1 : Int32) (h : D_X9_mixPlayer σ p1 = some r) : G x 0 0 0 [(0, .ref (ad 0)), (1, .int p1)] [] (wM ad cy σ) := by
  unfold D_X9_mixPlayer at h
  refine G.iconst (v := 0) E dX9_mixPlayer_0 (by decide) ?_
  refine G.istore_n (lv' := [(2, .int (0 : Int32)), (0, .ref (ad 0)), (1, .int p1)]) E dX9_mixPlayer_1 rfl (by decide) rfl ?_
  refine G.sub (lv' := [(0, .ref (ad 0)), (1, .int p1), (2, .int (0 : Int32))]) [1, 2, 0] rfl ?_
  exact B_X9_mixPlayer_L2 E K σ p1 (0 : Int32) h
set_option maxRecDepth 100000 in
set_option maxHeartbeats 4000000 in
theorem C_X9_mixPlayer {l : Launch} {D : va_G} {cy : Nat → ClassId} {ad : Nat → Nat} {σ : ST} {p1 : Int32} {r : ST} (h : D_X9_mixPlayer σ p1 = some r) : MV l yX9_mixPlayer cX9_mixPlayer 3 none 6 145 D cy (wM ad cy σ) [.ref (ad 0), .int p1]  (wM ad cy r) :=
  MV.mk (lv := [(0, .ref (ad 0)), (1, .int p1)]) (by decide) (Nat.le_of_ble_eq_true rfl) rfl (fun x _ _ E K => B_X9_mixPlayer E K σ p1 h)

noncomputable def D_X9_digest_L95_body (rec95 : (ST × Int32) → Option (Int64 × ST)) (σ : ST) (x1 : Int32) : Option (Int64 × ST) := if (9 : Int32) ≤ x1 then (some (gJ σ 1, σ)) else ((D_X9_howMany σ x1).bind fun r9 => (D_X9_mix σ r9.toInt64).bind fun r11 => rec95 (r11, (x1 + 1)))
set_option maxRecDepth 100000 in
set_option maxHeartbeats 4000000 in
theorem B_X9_digest_L95_body {x : CX} {cy : Nat → ClassId} {ad : Nat → Nat} {r : (Int64 × ST)} (E : Ev x cy cX9_digest RX9 2 7 171) (K : RetL x cX9_digest r.1 (wM ad cy r.2)) (rec95 : (ST × Int32) → Option (Int64 × ST)) (hrec95 : ∀ a, rec95 a = some r → G x 0 0 95 [(0, .ref (ad 0)), (1, .int a.2)] [] (wM ad cy a.1)) (σ : ST) (x1 : Int32) (h : D_X9_digest_L95_body rec95 σ x1 = some r) : G x 0 0 95 [(0, .ref (ad 0)), (1, .int x1)] [] (wM ad cy σ) := by
  unfold D_X9_digest_L95_body at h
  refine G.iload_n E dX9_digest_95 rfl 1 rfl ?_
  refine G.bipush (v := 9) E dX9_digest_96 (by decide) ?_
  refine G.icmp_ge (tgt := 117) E dX9_digest_98 (by decide) (fun q => ?_) (fun q => ?_)
  · have h := ite_t h q
    refine G.aload_n E dX9_digest_117 rfl 0 rfl ?_
    refine G.get E inX9 0 rfl rfl 36 (by decide) (f734 E.fx) rfl dX9_digest_118 ?_
    obtain rfl := Option.some.inj h
    exact K _ _ dX9_digest_121
  · have h := ite_f h q
    refine G.aload_n E dX9_digest_101 rfl 0 rfl ?_
    refine G.aload_n E dX9_digest_102 rfl 0 rfl ?_
    refine G.iload_n E dX9_digest_103 rfl 1 rfl ?_
    obtain ⟨r9, h10, h⟩ := bind_s h
    refine G.retI E (runV (st := [.ref (ad 0)]) (As := [.int x1]) E (C_X9_howMany h10) ck_X9_howMany (f1069 E.fx) (f1071 E.fx) (f63 E.fx) 0 9 rfl rfl rfl (by decide) (by decide) rfl (Nat.le_of_ble_eq_true rfl) dX9_digest_104 ⟨Nat.zero_le _, Nat.zero_le _⟩) ?_
    refine G.i2l E dX9_digest_107 ?_
    obtain ⟨r11, h12, h⟩ := bind_s h
    refine G.retV E (runV (st := []) (As := [.long r9.toInt64]) E (C_X9_mix h12) ck_X9_mix (f1090 E.fx) (f1092 E.fx) (f67 E.fx) 0 9 rfl rfl rfl (by decide) (by decide) rfl (Nat.le_of_ble_eq_true rfl) dX9_digest_108 ⟨Nat.zero_le _, Nat.zero_le _⟩) ?_
    refine G.iinc (w := x1 + 1) (lv' := [(1, .int (x1 + 1)), (0, .ref (ad 0))]) E dX9_digest_111 1 rfl rfl (by decide) rfl ?_
    refine G.goto (tgt := 95) E dX9_digest_114 (by decide) ?_
    refine G.sub (lv' := [(0, .ref (ad 0)), (1, .int (x1 + 1))]) [1, 0] rfl ?_
    exact hrec95 (r11, (x1 + 1)) h
noncomputable def D_X9_digest_L95  (σ : ST) (x1 : Int32) : Option (Int64 × ST) := itr (fun (rec95 : (ST × Int32) → Option (Int64 × ST)) (a : (ST × Int32)) => D_X9_digest_L95_body rec95 a.1 a.2) 200 (σ, x1)
set_option maxRecDepth 100000 in
set_option maxHeartbeats 4000000 in
theorem B_X9_digest_L95 {x : CX} {cy : Nat → ClassId} {ad : Nat → Nat} {r : (Int64 × ST)} (E : Ev x cy cX9_digest RX9 2 7 171) (K : RetL x cX9_digest r.1 (wM ad cy r.2))  (σ : ST) (x1 : Int32) (h : D_X9_digest_L95 σ x1 = some r) : G x 0 0 95 [(0, .ref (ad 0)), (1, .int x1)] [] (wM ad cy σ) :=
  itr_ind (P := fun a => G x 0 0 95 [(0, .ref (ad 0)), (1, .int a.2)] [] (wM ad cy a.1)) (fun rec95 hrec95 a h => B_X9_digest_L95_body E K rec95 hrec95 a.1 a.2 h) 200 (σ, x1) h
noncomputable def D_X9_digest_L68_body (rec68 : (ST × Int32) → Option (Int64 × ST)) (σ : ST) (x1 : Int32) : Option (Int64 × ST) := if (gI σ 7) ≤ x1 then (D_X9_digest_L95 σ (0 : Int32)) else (if x1 < 0 ∨ 28 ≤ x1.toNatClampNeg then none else ((D_X9_mix σ ((gA σ 6 x1.toNatClampNeg).toInt64)).bind fun r13 => rec68 (r13, (x1 + 1))))
set_option maxRecDepth 100000 in
set_option maxHeartbeats 4000000 in
theorem B_X9_digest_L68_body {x : CX} {cy : Nat → ClassId} {ad : Nat → Nat} {r : (Int64 × ST)} (E : Ev x cy cX9_digest RX9 2 7 171) (K : RetL x cX9_digest r.1 (wM ad cy r.2)) (rec68 : (ST × Int32) → Option (Int64 × ST)) (hrec68 : ∀ a, rec68 a = some r → G x 0 0 68 [(0, .ref (ad 0)), (1, .int a.2)] [] (wM ad cy a.1)) (σ : ST) (x1 : Int32) (h : D_X9_digest_L68_body rec68 σ x1 = some r) : G x 0 0 68 [(0, .ref (ad 0)), (1, .int x1)] [] (wM ad cy σ) := by
  unfold D_X9_digest_L68_body at h
  refine G.iload_n E dX9_digest_68 rfl 1 rfl ?_
  refine G.aload_n E dX9_digest_69 rfl 0 rfl ?_
  refine G.get E inX9 0 rfl rfl 13 (by decide) (f711 E.fx) rfl dX9_digest_70 ?_
  refine G.icmp_ge (tgt := 93) E dX9_digest_73 (by decide) (fun q => ?_) (fun q => ?_)
  · have h := ite_t h q
    refine G.iconst (v := 0) E dX9_digest_93 (by decide) ?_
    refine G.istore_n (lv' := [(1, .int (0 : Int32)), (0, .ref (ad 0))]) E dX9_digest_94 rfl (by decide) rfl ?_
    refine G.sub (lv' := [(0, .ref (ad 0)), (1, .int (0 : Int32))]) [1, 0] rfl ?_
    exact B_X9_digest_L95 E K σ (0 : Int32) h
  · have h := ite_f h q
    refine G.aload_n E dX9_digest_76 rfl 0 rfl ?_
    refine G.aload_n E dX9_digest_77 rfl 0 rfl ?_
    refine G.get E inX9 0 rfl rfl 14 (by decide) (f712 E.fx) rfl dX9_digest_78 ?_
    refine G.iload_n E dX9_digest_81 rfl 1 rfl ?_
    obtain ⟨hg, h⟩ := ite_n h
    refine G.bald E 7 4 rfl rfl hg dX9_digest_82 ?_
    refine G.i2l E dX9_digest_83 ?_
    obtain ⟨r13, h14, h⟩ := bind_s h
    refine G.retV E (runV (st := []) (As := [.long ((gA σ 6 x1.toNatClampNeg).toInt64)]) E (C_X9_mix h14) ck_X9_mix (f1090 E.fx) (f1092 E.fx) (f67 E.fx) 0 9 rfl rfl rfl (by decide) (by decide) rfl (Nat.le_of_ble_eq_true rfl) dX9_digest_84 ⟨Nat.zero_le _, Nat.zero_le _⟩) ?_
    refine G.iinc (w := x1 + 1) (lv' := [(1, .int (x1 + 1)), (0, .ref (ad 0))]) E dX9_digest_87 1 rfl rfl (by decide) rfl ?_
    refine G.goto (tgt := 68) E dX9_digest_90 (by decide) ?_
    refine G.sub (lv' := [(0, .ref (ad 0)), (1, .int (x1 + 1))]) [1, 0] rfl ?_
    exact hrec68 (r13, (x1 + 1)) h
noncomputable def D_X9_digest_L68  (σ : ST) (x1 : Int32) : Option (Int64 × ST) := itr (fun (rec68 : (ST × Int32) → Option (Int64 × ST)) (a : (ST × Int32)) => D_X9_digest_L68_body rec68 a.1 a.2) 200 (σ, x1)
set_option maxRecDepth 100000 in
set_option maxHeartbeats 4000000 in
theorem B_X9_digest_L68 {x : CX} {cy : Nat → ClassId} {ad : Nat → Nat} {r : (Int64 × ST)} (E : Ev x cy cX9_digest RX9 2 7 171) (K : RetL x cX9_digest r.1 (wM ad cy r.2))  (σ : ST) (x1 : Int32) (h : D_X9_digest_L68 σ x1 = some r) : G x 0 0 68 [(0, .ref (ad 0)), (1, .int x1)] [] (wM ad cy σ) :=
  itr_ind (P := fun a => G x 0 0 68 [(0, .ref (ad 0)), (1, .int a.2)] [] (wM ad cy a.1)) (fun rec68 hrec68 a h => B_X9_digest_L68_body E K rec68 hrec68 a.1 a.2 h) 200 (σ, x1) h
noncomputable def D_X9_digest_b66  (σ : ST)  : Option (Int64 × ST) := D_X9_digest_L68 σ (0 : Int32)
set_option maxRecDepth 100000 in
set_option maxHeartbeats 4000000 in
theorem B_X9_digest_b66 {x : CX} {cy : Nat → ClassId} {ad : Nat → Nat} {r : (Int64 × ST)} (E : Ev x cy cX9_digest RX9 2 7 171) (K : RetL x cX9_digest r.1 (wM ad cy r.2))  (σ : ST)  (h : D_X9_digest_b66 σ = some r) : G x 0 0 66 [(0, .ref (ad 0))] [] (wM ad cy σ) := by
  unfold D_X9_digest_b66 at h
  refine G.iconst (v := 0) E dX9_digest_66 (by decide) ?_
  refine G.istore_n (lv' := [(1, .int (0 : Int32)), (0, .ref (ad 0))]) E dX9_digest_67 rfl (by decide) rfl ?_
  refine G.sub (lv' := [(0, .ref (ad 0)), (1, .int (0 : Int32))]) [1, 0] rfl ?_
  exact B_X9_digest_L68 E K σ (0 : Int32) h
noncomputable def D_X9_digest_L9_body (rec9 : (ST × Int32) → Option (Int64 × ST)) (σ : ST) (x1 : Int32) : Option (Int64 × ST) := if (gI σ 1) ≤ x1 then ((D_X9_duel σ (0 : Int32) (1 : Int32)).bind fun r1 => (D_X9_mix r1.2 r1.1.toInt64).bind fun r3 => (D_X9_duel r3 (1 : Int32) (0 : Int32)).bind fun r5 => (D_X9_mix r5.2 r5.1.toInt64).bind fun r7 => if (gI r7 1) ≤ 0 then (D_X9_digest_b66 r7) else ((D_X9_ringNow r7).bind fun r15 => (D_X9_mix r15.2 r15.1.toInt64).bind fun r17 => D_X9_digest_b66 r17)) else ((D_X9_mixPlayer σ x1).bind fun r19 => rec9 (r19, (x1 + 1)))
set_option maxRecDepth 100000 in
set_option maxHeartbeats 4000000 in
theorem B_X9_digest_L9_body {x : CX} {cy : Nat → ClassId} {ad : Nat → Nat} {r : (Int64 × ST)} (E : Ev x cy cX9_digest RX9 2 7 171) (K : RetL x cX9_digest r.1 (wM ad cy r.2)) (rec9 : (ST × Int32) → Option (Int64 × ST)) (hrec9 : ∀ a, rec9 a = some r → G x 0 0 9 [(0, .ref (ad 0)), (1, .int a.2)] [] (wM ad cy a.1)) (σ : ST) (x1 : Int32) (h : D_X9_digest_L9_body rec9 σ x1 = some r) : G x 0 0 9 [(0, .ref (ad 0)), (1, .int x1)] [] (wM ad cy σ) := by
  unfold D_X9_digest_L9_body at h
  refine G.iload_n E dX9_digest_9 rfl 1 rfl ?_
  refine G.aload_n E dX9_digest_10 rfl 0 rfl ?_
  refine G.get E inX9 0 rfl rfl 1 (by decide) (f699 E.fx) rfl dX9_digest_11 ?_
  refine G.icmp_ge (tgt := 28) E dX9_digest_14 (by decide) (fun q => ?_) (fun q => ?_)
  · have h := ite_t h q
    refine G.aload_n E dX9_digest_28 rfl 0 rfl ?_
    refine G.aload_n E dX9_digest_29 rfl 0 rfl ?_
    refine G.iconst (v := 0) E dX9_digest_30 (by decide) ?_
    refine G.iconst (v := 1) E dX9_digest_31 (by decide) ?_
    obtain ⟨r1, h2, h⟩ := bind_s h
    refine G.retI E (runV (st := [.ref (ad 0)]) (As := [.int (0 : Int32), .int (1 : Int32)]) E (C_X9_duel h2) ck_X9_duel (f1095 E.fx) (f954 E.fx) (f955 E.fx) 0 9 rfl rfl rfl (by decide) (by decide) rfl (Nat.le_of_ble_eq_true rfl) dX9_digest_32 ⟨Nat.zero_le _, Nat.zero_le _⟩) ?_
    refine G.i2l E dX9_digest_35 ?_
    obtain ⟨r3, h4, h⟩ := bind_s h
    refine G.retV E (runV (st := []) (As := [.long r1.1.toInt64]) E (C_X9_mix h4) ck_X9_mix (f1090 E.fx) (f1092 E.fx) (f67 E.fx) 0 9 rfl rfl rfl (by decide) (by decide) rfl (Nat.le_of_ble_eq_true rfl) dX9_digest_36 ⟨Nat.zero_le _, Nat.zero_le _⟩) ?_
    refine G.aload_n E dX9_digest_39 rfl 0 rfl ?_
    refine G.aload_n E dX9_digest_40 rfl 0 rfl ?_
    refine G.iconst (v := 1) E dX9_digest_41 (by decide) ?_
    refine G.iconst (v := 0) E dX9_digest_42 (by decide) ?_
    obtain ⟨r5, h6, h⟩ := bind_s h
    refine G.retI E (runV (st := [.ref (ad 0)]) (As := [.int (1 : Int32), .int (0 : Int32)]) E (C_X9_duel h6) ck_X9_duel (f1095 E.fx) (f954 E.fx) (f955 E.fx) 0 9 rfl rfl rfl (by decide) (by decide) rfl (Nat.le_of_ble_eq_true rfl) dX9_digest_43 ⟨Nat.zero_le _, Nat.zero_le _⟩) ?_
    refine G.i2l E dX9_digest_46 ?_
    obtain ⟨r7, h8, h⟩ := bind_s h
    refine G.retV E (runV (st := []) (As := [.long r5.1.toInt64]) E (C_X9_mix h8) ck_X9_mix (f1090 E.fx) (f1092 E.fx) (f67 E.fx) 0 9 rfl rfl rfl (by decide) (by decide) rfl (Nat.le_of_ble_eq_true rfl) dX9_digest_47 ⟨Nat.zero_le _, Nat.zero_le _⟩) ?_
    refine G.aload_n E dX9_digest_50 rfl 0 rfl ?_
    refine G.get E inX9 0 rfl rfl 1 (by decide) (f699 E.fx) rfl dX9_digest_51 ?_
    refine G.if_le (tgt := 66) E dX9_digest_54 (by decide) (fun q => ?_) (fun q => ?_)
    · have h := ite_t h q
      refine G.sub (lv' := [(0, .ref (ad 0))]) [0] rfl ?_
      exact B_X9_digest_b66 E K r7 h
    · have h := ite_f h q
      refine G.aload_n E dX9_digest_57 rfl 0 rfl ?_
      refine G.aload_n E dX9_digest_58 rfl 0 rfl ?_
      obtain ⟨r15, h16, h⟩ := bind_s h
      refine G.retI E (runV (st := [.ref (ad 0)]) (As := []) E (C_X9_ringNow h16) ck_X9_ringNow (f990 E.fx) (f992 E.fx) (f52 E.fx) 0 9 rfl rfl rfl (by decide) (by decide) rfl (Nat.le_of_ble_eq_true rfl) dX9_digest_59 ⟨Nat.zero_le _, Nat.zero_le _⟩) ?_
      refine G.i2l E dX9_digest_62 ?_
      obtain ⟨r17, h18, h⟩ := bind_s h
      refine G.retV E (runV (st := []) (As := [.long r15.1.toInt64]) E (C_X9_mix h18) ck_X9_mix (f1090 E.fx) (f1092 E.fx) (f67 E.fx) 0 9 rfl rfl rfl (by decide) (by decide) rfl (Nat.le_of_ble_eq_true rfl) dX9_digest_63 ⟨Nat.zero_le _, Nat.zero_le _⟩) ?_
      refine G.sub (lv' := [(0, .ref (ad 0))]) [0] rfl ?_
      exact B_X9_digest_b66 E K r17 h
  · have h := ite_f h q
    refine G.aload_n E dX9_digest_17 rfl 0 rfl ?_
    refine G.iload_n E dX9_digest_18 rfl 1 rfl ?_
    obtain ⟨r19, h20, h⟩ := bind_s h
    refine G.retV E (runV (st := []) (As := [.int x1]) E (C_X9_mixPlayer h20) ck_X9_mixPlayer (f1086 E.fx) (f1088 E.fx) (f66 E.fx) 0 9 rfl rfl rfl (by decide) (by decide) rfl (Nat.le_of_ble_eq_true rfl) dX9_digest_19 ⟨Nat.zero_le _, Nat.zero_le _⟩) ?_
    refine G.iinc (w := x1 + 1) (lv' := [(1, .int (x1 + 1)), (0, .ref (ad 0))]) E dX9_digest_22 1 rfl rfl (by decide) rfl ?_
    refine G.goto (tgt := 9) E dX9_digest_25 (by decide) ?_
    refine G.sub (lv' := [(0, .ref (ad 0)), (1, .int (x1 + 1))]) [1, 0] rfl ?_
    exact hrec9 (r19, (x1 + 1)) h
noncomputable def D_X9_digest_L9  (σ : ST) (x1 : Int32) : Option (Int64 × ST) := itr (fun (rec9 : (ST × Int32) → Option (Int64 × ST)) (a : (ST × Int32)) => D_X9_digest_L9_body rec9 a.1 a.2) 200 (σ, x1)
set_option maxRecDepth 100000 in
set_option maxHeartbeats 4000000 in
theorem B_X9_digest_L9 {x : CX} {cy : Nat → ClassId} {ad : Nat → Nat} {r : (Int64 × ST)} (E : Ev x cy cX9_digest RX9 2 7 171) (K : RetL x cX9_digest r.1 (wM ad cy r.2))  (σ : ST) (x1 : Int32) (h : D_X9_digest_L9 σ x1 = some r) : G x 0 0 9 [(0, .ref (ad 0)), (1, .int x1)] [] (wM ad cy σ) :=
  itr_ind (P := fun a => G x 0 0 9 [(0, .ref (ad 0)), (1, .int a.2)] [] (wM ad cy a.1)) (fun rec9 hrec9 a h => B_X9_digest_L9_body E K rec9 hrec9 a.1 a.2 h) 200 (σ, x1) h
noncomputable def D_X9_digest (σ : ST)  : Option (Int64 × ST) := D_X9_digest_L9 (pJ σ 1 (1297 : Int64)) (0 : Int32)
set_option maxRecDepth 100000 in
set_option maxHeartbeats 4000000 in
theorem B_X9_digest {x : CX} {cy : Nat → ClassId} {ad : Nat → Nat} {r : (Int64 × ST)} (E : Ev x cy cX9_digest RX9 2 7 171) (K : RetL x cX9_digest r.1 (wM ad cy r.2)) (σ : ST)  (h : D_X9_digest σ = some r) : G x 0 0 0 [(0, .ref (ad 0))] [] (wM ad cy σ) := by
  unfold D_X9_digest at h
  refine G.aload_n E dX9_digest_0 rfl 0 rfl ?_
  refine G.ldc2 E (f1085 E.fx) dX9_digest_1 ?_
  refine G.put (ws' := (wM ad cy (pJ σ 1 (1297 : Int64)))) E inX9 tyX9 tyX9_ok nmX9 0 rfl rfl 36 (by decide) (f734 E.fx) rfl rfl rfl rfl (Nat.le_of_ble_eq_true rfl) dX9_digest_4 (wM_fJ1 ad cy _ _) ?_
  refine G.iconst (v := 0) E dX9_digest_7 (by decide) ?_
  refine G.istore_n (lv' := [(1, .int (0 : Int32)), (0, .ref (ad 0))]) E dX9_digest_8 rfl (by decide) rfl ?_
  refine G.sub (lv' := [(0, .ref (ad 0)), (1, .int (0 : Int32))]) [1, 0] rfl ?_
  exact B_X9_digest_L9 E K (pJ σ 1 (1297 : Int64)) (0 : Int32) h
set_option maxRecDepth 100000 in
set_option maxHeartbeats 4000000 in
theorem C_X9_digest {l : Launch} {D : va_G} {cy : Nat → ClassId} {ad : Nat → Nat} {σ : ST}  {r : (Int64 × ST)} (h : D_X9_digest σ = some r) : ML l yX9_digest cX9_digest 2 (some .long) 7 171 D cy (wM ad cy σ) [.ref (ad 0)] r.1 (wM ad cy r.2) :=
  ML.mk (lv := [(0, .ref (ad 0))]) (by decide) (Nat.le_of_ble_eq_true rfl) rfl (fun x _ _ E K => B_X9_digest E K σ h)
