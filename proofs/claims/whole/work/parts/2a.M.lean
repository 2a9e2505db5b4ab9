noncomputable def D_X9_within (p0 : Int32) (p1 : Int32) (p2 : Int32) : Option Int32 := if p0 < p1 then (some (0 : Int32)) else (if p2 < p0 then (some (0 : Int32)) else (some (1 : Int32)))
set_option maxRecDepth 100000 in
set_option maxHeartbeats 4000000 in
theorem B_X9_within {x : CX} {cy : Nat → ClassId} {ws : va_W} {r : Int32} (E : Ev x cy cX9_within RX9 3 0 0) (K : RetI x cX9_within .boolean r ws) (p0 : Int32) (p1 : Int32) (p2 : Int32) (h : D_X9_within p0 p1 p2 = some r) : G x 0 0 0 [(0, .int p0), (1, .int p1), (2, .int p2)] [] ws := by
  unfold D_X9_within at h
  refine G.iload_n E dX9_within_0 rfl 0 rfl ?_
  refine G.iload_n E dX9_within_1 rfl 1 rfl ?_
  refine G.icmp_lt (tgt := 14) E dX9_within_2 (by decide) (fun q => ?_) (fun q => ?_)
  · have h := ite_t h q
    refine G.iconst (v := 0) E dX9_within_14 (by decide) ?_
    obtain rfl := Option.some.inj h
    exact K rfl _ _ dX9_within_15
  · have h := ite_f h q
    refine G.iload_n E dX9_within_5 rfl 0 rfl ?_
    refine G.iload_n E dX9_within_6 rfl 2 rfl ?_
    refine G.icmp_gt (tgt := 14) E dX9_within_7 (by decide) (fun q => ?_) (fun q => ?_)
    · have h := ite_t h q
      refine G.iconst (v := 0) E dX9_within_14 (by decide) ?_
      obtain rfl := Option.some.inj h
      exact K rfl _ _ dX9_within_15
    · have h := ite_f h q
      refine G.iconst (v := 1) E dX9_within_10 (by decide) ?_
      refine G.goto (tgt := 15) E dX9_within_11 (by decide) ?_
      obtain rfl := Option.some.inj h
      exact K rfl _ _ dX9_within_15
set_option maxRecDepth 100000 in
set_option maxHeartbeats 4000000 in
theorem C_X9_within {l : Launch} {D : va_G} {cy : Nat → ClassId} {ws : va_W} {p0 : Int32} {p1 : Int32} {p2 : Int32} {r : Int32} (h : D_X9_within p0 p1 p2 = some r) : MI l yX9_within cX9_within 3 (some .boolean) 0 0 D cy ws [.int p0, .int p1, .int p2] r ws :=
  MI.mk (lv := [(0, .int p0), (1, .int p1), (2, .int p2)]) (by decide) (Nat.le_of_ble_eq_true rfl) rfl (fun x _ _ E K => B_X9_within E K p0 p1 p2 h)

noncomputable def D_X9_letter (σ : ST) (p1 : Int32) : Option (Int32 × ST) := (D_X9_within p1 (32 : Int32) (126 : Int32)).bind fun r1 => if r1 = 0 then (some ((-102 : Int32), σ)) else (if (gI σ 7) = (28 : Int32) then (some ((-104 : Int32), σ)) else (if (gI σ 7) < 0 ∨ 28 ≤ (gI σ 7).toNatClampNeg then none else (some (gI (pI (pA σ 6 (gI σ 7).toNatClampNeg (vp_nar .byte p1.toInt8.toInt32)) 7 ((gI (pA σ 6 (gI σ 7).toNatClampNeg (vp_nar .byte p1.toInt8.toInt32)) 7) + (1 : Int32))) 7, pI (pA σ 6 (gI σ 7).toNatClampNeg (vp_nar .byte p1.toInt8.toInt32)) 7 ((gI (pA σ 6 (gI σ 7).toNatClampNeg (vp_nar .byte p1.toInt8.toInt32)) 7) + (1 : Int32))))))
set_option maxRecDepth 100000 in
set_option maxHeartbeats 4000000 in
theorem B_X9_letter {x : CX} {cy : Nat → ClassId} {ad : Nat → Nat} {r : (Int32 × ST)} (E : Ev x cy cX9_letter RX9 2 1 22) (K : RetI x cX9_letter .int r.1 (wM ad cy r.2)) (σ : ST) (p1 : Int32) (h : D_X9_letter σ p1 = some r) : G x 0 0 0 [(0, .ref (ad 0)), (1, .int p1)] [] (wM ad cy σ) := by
  unfold D_X9_letter at h
  refine G.iload_n E dX9_letter_0 rfl 1 rfl ?_
  refine G.bipush (v := 32) E dX9_letter_1 (by decide) ?_
  refine G.bipush (v := 126) E dX9_letter_3 (by decide) ?_
  obtain ⟨r1, h2, h⟩ := bind_s h
  refine G.retI E (runS (st := []) (As := [.int p1, .int (32 : Int32), .int (126 : Int32)]) E (C_X9_within h2) ck_X9_within (f814 E.fx) (f815 E.fx) (by decide) (by decide) rfl (Nat.le_of_ble_eq_true rfl) dX9_letter_5 ⟨Nat.zero_le _, Nat.zero_le _⟩) ?_
  refine G.if_ne (tgt := 14) E dX9_letter_8 (by decide) (fun q => ?_) (fun q => ?_)
  · have h := ite_f h q
    refine G.aload_n E dX9_letter_14 rfl 0 rfl ?_
    refine G.get E inX9 0 rfl rfl 13 (by decide) (f711 E.fx) rfl dX9_letter_15 ?_
    refine G.bipush (v := 28) E dX9_letter_18 (by decide) ?_
    refine G.icmp_ne (tgt := 26) E dX9_letter_20 (by decide) (fun q => ?_) (fun q => ?_)
    · have h := ite_f h q
      refine G.aload_n E dX9_letter_26 rfl 0 rfl ?_
      refine G.get E inX9 0 rfl rfl 14 (by decide) (f712 E.fx) rfl dX9_letter_27 ?_
      refine G.aload_n E dX9_letter_30 rfl 0 rfl ?_
      refine G.get E inX9 0 rfl rfl 13 (by decide) (f711 E.fx) rfl dX9_letter_31 ?_
      refine G.iload_n E dX9_letter_34 rfl 1 rfl ?_
      refine G.i2b E dX9_letter_35 ?_
      obtain ⟨hg, h⟩ := ite_n h
      refine G.bast (ws' := (wM ad cy (pA σ 6 (gI σ 7).toNatClampNeg (vp_nar .byte p1.toInt8.toInt32)))) E 7 4 rfl rfl hg dX9_letter_36 (wM_aI6 ad cy _ _ _) ?_
      refine G.aload_n E dX9_letter_37 rfl 0 rfl ?_
      refine G.dup E dX9_letter_38 rfl ?_
      refine G.get E inX9 0 rfl rfl 13 (by decide) (f711 E.fx) rfl dX9_letter_39 ?_
      refine G.iconst (v := 1) E dX9_letter_42 (by decide) ?_
      refine G.iadd E dX9_letter_43 ?_
      refine G.put (ws' := (wM ad cy (pI (pA σ 6 (gI σ 7).toNatClampNeg (vp_nar .byte p1.toInt8.toInt32)) 7 ((gI (pA σ 6 (gI σ 7).toNatClampNeg (vp_nar .byte p1.toInt8.toInt32)) 7) + (1 : Int32))))) E inX9 tyX9 tyX9_ok nmX9 0 rfl rfl 13 (by decide) (f711 E.fx) rfl rfl rfl rfl (Nat.le_of_ble_eq_true rfl) dX9_letter_44 (wM_fI7 ad cy _ _) ?_
      refine G.aload_n E dX9_letter_47 rfl 0 rfl ?_
      refine G.get E inX9 0 rfl rfl 13 (by decide) (f711 E.fx) rfl dX9_letter_48 ?_
      obtain rfl := Option.some.inj h
      exact K rfl _ _ dX9_letter_51
    · have h := ite_t h q
      refine G.bipush (v := -104) E dX9_letter_23 (by decide) ?_
      obtain rfl := Option.some.inj h
      exact K rfl _ _ dX9_letter_25
  · have h := ite_t h q
    refine G.bipush (v := -102) E dX9_letter_11 (by decide) ?_
    obtain rfl := Option.some.inj h
    exact K rfl _ _ dX9_letter_13
set_option maxRecDepth 100000 in
set_option maxHeartbeats 4000000 in
theorem C_X9_letter {l : Launch} {D : va_G} {cy : Nat → ClassId} {ad : Nat → Nat} {σ : ST} {p1 : Int32} {r : (Int32 × ST)} (h : D_X9_letter σ p1 = some r) : MI l yX9_letter cX9_letter 2 (some .int) 1 22 D cy (wM ad cy σ) [.ref (ad 0), .int p1] r.1 (wM ad cy r.2) :=
  MI.mk (lv := [(0, .ref (ad 0)), (1, .int p1)]) (by decide) (Nat.le_of_ble_eq_true rfl) rfl (fun x _ _ E K => B_X9_letter E K σ p1 h)

noncomputable def D_X9_blank (σ : ST)  : Option (Int32 × ST) := some (gI σ 7, pI σ 7 (0 : Int32))
set_option maxRecDepth 100000 in
set_option maxHeartbeats 4000000 in
theorem B_X9_blank {x : CX} {cy : Nat → ClassId} {ad : Nat → Nat} {r : (Int32 × ST)} (E : Ev x cy cX9_blank RX9 2 0 0) (K : RetI x cX9_blank .int r.1 (wM ad cy r.2)) (σ : ST)  (h : D_X9_blank σ = some r) : G x 0 0 0 [(0, .ref (ad 0))] [] (wM ad cy σ) := by
  unfold D_X9_blank at h
  refine G.aload_n E dX9_blank_0 rfl 0 rfl ?_
  refine G.get E inX9 0 rfl rfl 13 (by decide) (f711 E.fx) rfl dX9_blank_1 ?_
  refine G.istore_n (lv' := [(1, .int (gI σ 7)), (0, .ref (ad 0))]) E dX9_blank_4 rfl (by decide) rfl ?_
  refine G.aload_n E dX9_blank_5 rfl 1 rfl ?_
  refine G.iconst (v := 0) E dX9_blank_6 (by decide) ?_
  refine G.put (ws' := (wM ad cy (pI σ 7 (0 : Int32)))) E inX9 tyX9 tyX9_ok nmX9 0 rfl rfl 13 (by decide) (f711 E.fx) rfl rfl rfl rfl (Nat.le_of_ble_eq_true rfl) dX9_blank_7 (wM_fI7 ad cy _ _) ?_
  refine G.iload_n E dX9_blank_10 rfl 0 rfl ?_
  obtain rfl := Option.some.inj h
  exact K rfl _ _ dX9_blank_11
set_option maxRecDepth 100000 in
set_option maxHeartbeats 4000000 in
theorem C_X9_blank {l : Launch} {D : va_G} {cy : Nat → ClassId} {ad : Nat → Nat} {σ : ST}  {r : (Int32 × ST)} (h : D_X9_blank σ = some r) : MI l yX9_blank cX9_blank 2 (some .int) 0 0 D cy (wM ad cy σ) [.ref (ad 0)] r.1 (wM ad cy r.2) :=
  MI.mk (lv := [(0, .ref (ad 0))]) (by decide) (Nat.le_of_ble_eq_true rfl) rfl (fun x _ _ E K => B_X9_blank E K σ h)

noncomputable def D_X9_at (σ : ST) (p1 : Int32) : Option Int32 := if (gI σ 7) ≤ p1 then (some (0 : Int32)) else (if p1 < 0 ∨ 28 ≤ p1.toNatClampNeg then none else (some (gA σ 6 p1.toNatClampNeg)))
set_option maxRecDepth 100000 in
set_option maxHeartbeats 4000000 in
theorem B_X9_at {x : CX} {cy : Nat → ClassId} {ad : Nat → Nat} {r : Int32} {σ : ST} (E : Ev x cy cX9_at RX9 2 0 0) (K : RetI x cX9_at .int r (wM ad cy σ)) (p1 : Int32) (h : D_X9_at σ p1 = some r) : G x 0 0 0 [(0, .ref (ad 0)), (1, .int p1)] [] (wM ad cy σ) := by
  unfold D_X9_at at h
  refine G.iload_n E dX9_at_0 rfl 1 rfl ?_
  refine G.aload_n E dX9_at_1 rfl 0 rfl ?_
  refine G.get E inX9 0 rfl rfl 13 (by decide) (f711 E.fx) rfl dX9_at_2 ?_
  refine G.icmp_ge (tgt := 17) E dX9_at_5 (by decide) (fun q => ?_) (fun q => ?_)
  · have h := ite_t h q
    refine G.iconst (v := 0) E dX9_at_17 (by decide) ?_
    obtain rfl := Option.some.inj h
    exact K rfl _ _ dX9_at_18
  · have h := ite_f h q
    refine G.aload_n E dX9_at_8 rfl 0 rfl ?_
    refine G.get E inX9 0 rfl rfl 14 (by decide) (f712 E.fx) rfl dX9_at_9 ?_
    refine G.iload_n E dX9_at_12 rfl 1 rfl ?_
    obtain ⟨hg, h⟩ := ite_n h
    refine G.bald E 7 4 rfl rfl hg dX9_at_13 ?_
    refine G.goto (tgt := 18) E dX9_at_14 (by decide) ?_
    obtain rfl := Option.some.inj h
    exact K rfl _ _ dX9_at_18
set_option maxRecDepth 100000 in
set_option maxHeartbeats 4000000 in
theorem C_X9_at {l : Launch} {D : va_G} {cy : Nat → ClassId} {ad : Nat → Nat} {σ : ST} {p1 : Int32} {r : Int32} (h : D_X9_at σ p1 = some r) : MI l yX9_at cX9_at 2 (some .int) 0 0 D cy (wM ad cy σ) [.ref (ad 0), .int p1] r (wM ad cy σ) :=
  MI.mk (lv := [(0, .ref (ad 0)), (1, .int p1)]) (by decide) (Nat.le_of_ble_eq_true rfl) rfl (fun x _ _ E K => B_X9_at E K p1 h)

noncomputable def D_X9_kindBy (p0 : Int32) : Option Int32 := if p0.toInt < 98 ∨ 112 < p0.toInt then (some (-1 : Int32)) else (if p0 = 98 then (some (4 : Int32)) else (if p0 = 99 then (some (-1 : Int32)) else (if p0 = 100 then (some (-1 : Int32)) else (if p0 = 101 then (some (3 : Int32)) else (if p0 = 102 then (some (-1 : Int32)) else (if p0 = 103 then (some (-1 : Int32)) else (if p0 = 104 then (some (-1 : Int32)) else (if p0 = 105 then (some (-1 : Int32)) else (if p0 = 106 then (some (-1 : Int32)) else (if p0 = 107 then (some (-1 : Int32)) else (if p0 = 108 then (some (-1 : Int32)) else (if p0 = 109 then (some (1 : Int32)) else (if p0 = 110 then (some (-1 : Int32)) else (if p0 = 111 then (some (2 : Int32)) else (if p0 = 112 then (some (0 : Int32)) else (none))))))))))))))))
set_option maxRecDepth 100000 in
set_option maxHeartbeats 4000000 in
theorem B_X9_kindBy {x : CX} {cy : Nat → ClassId} {ws : va_W} {r : Int32} (E : Ev x cy cX9_kindBy RX9 1 0 0) (K : RetI x cX9_kindBy .int r ws) (p0 : Int32) (h : D_X9_kindBy p0 = some r) : G x 0 0 0 [(0, .int p0)] [] ws := by
  unfold D_X9_kindBy at h
  refine G.iload_n E dX9_kindBy_0 rfl 0 rfl ?_
  by_cases q : p0.toInt < 98 ∨ 112 < p0.toInt
  · have h := ite_t h q
    refine G.tableOut (tgt := 86) E dX9_kindBy_1 q (by decide) ?_
    refine G.iconst (v := -1) E dX9_kindBy_86 (by decide) ?_
    obtain rfl := Option.some.inj h
    exact K rfl _ _ dX9_kindBy_87
  have h := ite_f h q
  by_cases q0 : p0 = 98
  · have h := ite_t h q0
    refine G.tableAt (n := 98) (off := 83) (tgt := 84) E q0 dX9_kindBy_1 (by decide) (by decide) (by decide) (by decide) ?_
    refine G.iconst (v := 4) E dX9_kindBy_84 (by decide) ?_
    obtain rfl := Option.some.inj h
    exact K rfl _ _ dX9_kindBy_85
  have h := ite_f h q0
  by_cases q1 : p0 = 99
  · have h := ite_t h q1
    refine G.tableAt (n := 99) (off := 85) (tgt := 86) E q1 dX9_kindBy_1 (by decide) (by decide) (by decide) (by decide) ?_
    refine G.iconst (v := -1) E dX9_kindBy_86 (by decide) ?_
    obtain rfl := Option.some.inj h
    exact K rfl _ _ dX9_kindBy_87
  have h := ite_f h q1
  by_cases q2 : p0 = 100
  · have h := ite_t h q2
    refine G.tableAt (n := 100) (off := 85) (tgt := 86) E q2 dX9_kindBy_1 (by decide) (by decide) (by decide) (by decide) ?_
    refine G.iconst (v := -1) E dX9_kindBy_86 (by decide) ?_
    obtain rfl := Option.some.inj h
    exact K rfl _ _ dX9_kindBy_87
  have h := ite_f h q2
  by_cases q3 : p0 = 101
  · have h := ite_t h q3
    refine G.tableAt (n := 101) (off := 81) (tgt := 82) E q3 dX9_kindBy_1 (by decide) (by decide) (by decide) (by decide) ?_
    refine G.iconst (v := 3) E dX9_kindBy_82 (by decide) ?_
    obtain rfl := Option.some.inj h
    exact K rfl _ _ dX9_kindBy_83
  have h := ite_f h q3
  by_cases q4 : p0 = 102
  · have h := ite_t h q4
    refine G.tableAt (n := 102) (off := 85) (tgt := 86) E q4 dX9_kindBy_1 (by decide) (by decide) (by decide) (by decide) ?_
    refine G.iconst (v := -1) E dX9_kindBy_86 (by decide) ?_
    obtain rfl := Option.some.inj h
    exact K rfl _ _ dX9_kindBy_87
  have h := ite_f h q4
  by_cases q5 : p0 = 103
  · have h := ite_t h q5
    refine G.tableAt (n := 103) (off := 85) (tgt := 86) E q5 dX9_kindBy_1 (by decide) (by decide) (by decide) (by decide) ?_
    refine G.iconst (v := -1) E dX9_kindBy_86 (by decide) ?_
    obtain rfl := Option.some.inj h
    exact K rfl _ _ dX9_kindBy_87
  have h := ite_f h q5
  by_cases q6 : p0 = 104
  · have h := ite_t h q6
    refine G.tableAt (n := 104) (off := 85) (tgt := 86) E q6 dX9_kindBy_1 (by decide) (by decide) (by decide) (by decide) ?_
    refine G.iconst (v := -1) E dX9_kindBy_86 (by decide) ?_
    obtain rfl := Option.some.inj h
    exact K rfl _ _ dX9_kindBy_87
  have h := ite_f h q6
  by_cases q7 : p0 = 105
  · have h := ite_t h q7
    refine G.tableAt (n := 105) (off := 85) (tgt := 86) E q7 dX9_kindBy_1 (by decide) (by decide) (by decide) (by decide) ?_
    refine G.iconst (v := -1) E dX9_kindBy_86 (by decide) ?_
    obtain rfl := Option.some.inj h
    exact K rfl _ _ dX9_kindBy_87
  have h := ite_f h q7
  by_cases q8 : p0 = 106
  · have h := ite_t h q8
    refine G.tableAt (n := 106) (off := 85) (tgt := 86) E q8 dX9_kindBy_1 (by decide) (by decide) (by decide) (by decide) ?_
    refine G.iconst (v := -1) E dX9_kindBy_86 (by decide) ?_
    obtain rfl := Option.some.inj h
    exact K rfl _ _ dX9_kindBy_87
  have h := ite_f h q8
  by_cases q9 : p0 = 107
  · have h := ite_t h q9
    refine G.tableAt (n := 107) (off := 85) (tgt := 86) E q9 dX9_kindBy_1 (by decide) (by decide) (by decide) (by decide) ?_
    refine G.iconst (v := -1) E dX9_kindBy_86 (by decide) ?_
    obtain rfl := Option.some.inj h
    exact K rfl _ _ dX9_kindBy_87
  have h := ite_f h q9
  by_cases q10 : p0 = 108
  · have h := ite_t h q10
    refine G.tableAt (n := 108) (off := 85) (tgt := 86) E q10 dX9_kindBy_1 (by decide) (by decide) (by decide) (by decide) ?_
    refine G.iconst (v := -1) E dX9_kindBy_86 (by decide) ?_
    obtain rfl := Option.some.inj h
    exact K rfl _ _ dX9_kindBy_87
  have h := ite_f h q10
  by_cases q11 : p0 = 109
  · have h := ite_t h q11
    refine G.tableAt (n := 109) (off := 77) (tgt := 78) E q11 dX9_kindBy_1 (by decide) (by decide) (by decide) (by decide) ?_
    refine G.iconst (v := 1) E dX9_kindBy_78 (by decide) ?_
    obtain rfl := Option.some.inj h
    exact K rfl _ _ dX9_kindBy_79
  have h := ite_f h q11
  by_cases q12 : p0 = 110
  · have h := ite_t h q12
    refine G.tableAt (n := 110) (off := 85) (tgt := 86) E q12 dX9_kindBy_1 (by decide) (by decide) (by decide) (by decide) ?_
    refine G.iconst (v := -1) E dX9_kindBy_86 (by decide) ?_
    obtain rfl := Option.some.inj h
    exact K rfl _ _ dX9_kindBy_87
  have h := ite_f h q12
  by_cases q13 : p0 = 111
  · have h := ite_t h q13
    refine G.tableAt (n := 111) (off := 79) (tgt := 80) E q13 dX9_kindBy_1 (by decide) (by decide) (by decide) (by decide) ?_
    refine G.iconst (v := 2) E dX9_kindBy_80 (by decide) ?_
    obtain rfl := Option.some.inj h
    exact K rfl _ _ dX9_kindBy_81
  have h := ite_f h q13
  by_cases q14 : p0 = 112
  · have h := ite_t h q14
    refine G.tableAt (n := 112) (off := 75) (tgt := 76) E q14 dX9_kindBy_1 (by decide) (by decide) (by decide) (by decide) ?_
    refine G.iconst (v := 0) E dX9_kindBy_76 (by decide) ?_
    obtain rfl := Option.some.inj h
    exact K rfl _ _ dX9_kindBy_77
  have h := ite_f h q14
  cases h
set_option maxRecDepth 100000 in
set_option maxHeartbeats 4000000 in
theorem C_X9_kindBy {l : Launch} {D : va_G} {cy : Nat → ClassId} {ws : va_W} {p0 : Int32} {r : Int32} (h : D_X9_kindBy p0 = some r) : MI l yX9_kindBy cX9_kindBy 1 (some .int) 0 0 D cy ws [.int p0] r ws :=
  MI.mk (lv := [(0, .int p0)]) (by decide) (Nat.le_of_ble_eq_true rfl) rfl (fun x _ _ E K => B_X9_kindBy E K p0 h)

noncomputable def D_X9_readPlayer_b48 (rec18 : (Int32 × Int32) → Option Int32) (σ : ST) (x1 : Int32) (x2 : Int32) : Option Int32 := rec18 (x1, (x2 + 1))
set_option maxRecDepth 100000 in
set_option maxHeartbeats 4000000 in
theorem B_X9_readPlayer_b48 {x : CX} {cy : Nat → ClassId} {ad : Nat → Nat} {r : Int32} {σ : ST} (E : Ev x cy cX9_readPlayer RX9 3 1 21) (K : RetI x cX9_readPlayer .int r (wM ad cy σ)) (rec18 : (Int32 × Int32) → Option Int32) (hrec18 : ∀ a, rec18 a = some r → G x 0 0 18 [(0, .ref (ad 0)), (1, .int a.1), (2, .int a.2)] [] (wM ad cy σ)) (σ9 : ST) (x1 : Int32) (x2 : Int32) (h : D_X9_readPlayer_b48 rec18 σ x1 x2 = some r) : G x 0 0 48 [(0, .ref (ad 0)), (1, .int x1), (2, .int x2)] [] (wM ad cy σ) := by
  unfold D_X9_readPlayer_b48 at h
  refine G.iinc (w := x2 + 1) (lv' := [(2, .int (x2 + 1)), (0, .ref (ad 0)), (1, .int x1)]) E dX9_readPlayer_48 2 rfl rfl (by decide) rfl ?_
  refine G.goto (tgt := 18) E dX9_readPlayer_51 (by decide) ?_
  refine G.sub (lv' := [(0, .ref (ad 0)), (1, .int x1), (2, .int (x2 + 1))]) [1, 2, 0] rfl ?_
  exact hrec18 (x1, (x2 + 1)) h
noncomputable def D_X9_readPlayer_L18_body (rec18 : (Int32 × Int32) → Option Int32) (σ : ST) (x1 : Int32) (x2 : Int32) : Option Int32 := if (x1 + (gI σ 9)) < x2 then (some x2) else ((D_X9_at σ x2).bind fun r5 => if r5 = (104 : Int32) then (D_X9_readPlayer_b48 rec18 σ x1 x2) else ((D_X9_at σ x2).bind fun r7 => if r7 = (116 : Int32) then (D_X9_readPlayer_b48 rec18 σ x1 x2) else (some x2)))
set_option maxRecDepth 100000 in
set_option maxHeartbeats 4000000 in
theorem B_X9_readPlayer_L18_body {x : CX} {cy : Nat → ClassId} {ad : Nat → Nat} {r : Int32} {σ : ST} (E : Ev x cy cX9_readPlayer RX9 3 1 21) (K : RetI x cX9_readPlayer .int r (wM ad cy σ)) (rec18 : (Int32 × Int32) → Option Int32) (hrec18 : ∀ a, rec18 a = some r → G x 0 0 18 [(0, .ref (ad 0)), (1, .int a.1), (2, .int a.2)] [] (wM ad cy σ)) (σ9 : ST) (x1 : Int32) (x2 : Int32) (h : D_X9_readPlayer_L18_body rec18 σ x1 x2 = some r) : G x 0 0 18 [(0, .ref (ad 0)), (1, .int x1), (2, .int x2)] [] (wM ad cy σ) := by
  unfold D_X9_readPlayer_L18_body at h
  refine G.iload_n E dX9_readPlayer_18 rfl 2 rfl ?_
  refine G.iload_n E dX9_readPlayer_19 rfl 1 rfl ?_
  refine G.aload_n E dX9_readPlayer_20 rfl 0 rfl ?_
  refine G.get E inX9 0 rfl rfl 16 (by decide) (f714 E.fx) rfl dX9_readPlayer_21 ?_
  refine G.iadd E dX9_readPlayer_24 ?_
  refine G.icmp_gt (tgt := 54) E dX9_readPlayer_25 (by decide) (fun q => ?_) (fun q => ?_)
  · have h := ite_t h q
    refine G.iload_n E dX9_readPlayer_54 rfl 2 rfl ?_
    obtain rfl := Option.some.inj h
    exact K rfl _ _ dX9_readPlayer_55
  · have h := ite_f h q
    refine G.aload_n E dX9_readPlayer_28 rfl 0 rfl ?_
    refine G.iload_n E dX9_readPlayer_29 rfl 2 rfl ?_
    obtain ⟨r5, h6, h⟩ := bind_s h
    refine G.retI E (runV (st := []) (As := [.int x2]) E (C_X9_at h6) ck_X9_at (f829 E.fx) (f831 E.fx) (f27 E.fx) 0 9 rfl rfl rfl (by decide) (by decide) rfl (Nat.le_of_ble_eq_true rfl) dX9_readPlayer_30 ⟨Nat.zero_le _, Nat.zero_le _⟩) ?_
    refine G.bipush (v := 104) E dX9_readPlayer_33 (by decide) ?_
    refine G.icmp_eq (tgt := 48) E dX9_readPlayer_35 (by decide) (fun q => ?_) (fun q => ?_)
    · have h := ite_t h q
      refine G.sub (lv' := [(0, .ref (ad 0)), (1, .int x1), (2, .int x2)]) [0, 1, 2] rfl ?_
      exact B_X9_readPlayer_b48 E K rec18 hrec18 σ x1 x2 h
    · have h := ite_f h q
      refine G.aload_n E dX9_readPlayer_38 rfl 0 rfl ?_
      refine G.iload_n E dX9_readPlayer_39 rfl 2 rfl ?_
      obtain ⟨r7, h8, h⟩ := bind_s h
      refine G.retI E (runV (st := []) (As := [.int x2]) E (C_X9_at h8) ck_X9_at (f829 E.fx) (f831 E.fx) (f27 E.fx) 0 9 rfl rfl rfl (by decide) (by decide) rfl (Nat.le_of_ble_eq_true rfl) dX9_readPlayer_40 ⟨Nat.zero_le _, Nat.zero_le _⟩) ?_
      refine G.bipush (v := 116) E dX9_readPlayer_43 (by decide) ?_
      refine G.icmp_ne (tgt := 54) E dX9_readPlayer_45 (by decide) (fun q => ?_) (fun q => ?_)
      · have h := ite_f h q
        refine G.iload_n E dX9_readPlayer_54 rfl 2 rfl ?_
        obtain rfl := Option.some.inj h
        exact K rfl _ _ dX9_readPlayer_55
      · have h := ite_t h q
        refine G.sub (lv' := [(0, .ref (ad 0)), (1, .int x1), (2, .int x2)]) [0, 1, 2] rfl ?_
        exact B_X9_readPlayer_b48 E K rec18 hrec18 σ x1 x2 h
noncomputable def D_X9_readPlayer_L18  (σ : ST) (x1 : Int32) (x2 : Int32) : Option Int32 := itr (fun (rec18 : (Int32 × Int32) → Option Int32) (a : (Int32 × Int32)) => D_X9_readPlayer_L18_body rec18 σ a.1 a.2) 200 (x1, x2)
set_option maxRecDepth 100000 in
set_option maxHeartbeats 4000000 in
theorem B_X9_readPlayer_L18 {x : CX} {cy : Nat → ClassId} {ad : Nat → Nat} {r : Int32} {σ : ST} (E : Ev x cy cX9_readPlayer RX9 3 1 21) (K : RetI x cX9_readPlayer .int r (wM ad cy σ))  (σ9 : ST) (x1 : Int32) (x2 : Int32) (h : D_X9_readPlayer_L18 σ x1 x2 = some r) : G x 0 0 18 [(0, .ref (ad 0)), (1, .int x1), (2, .int x2)] [] (wM ad cy σ) :=
  itr_ind (P := fun a => G x 0 0 18 [(0, .ref (ad 0)), (1, .int a.1), (2, .int a.2)] [] (wM ad cy σ)) (fun rec18 hrec18 a h => B_X9_readPlayer_L18_body E K rec18 hrec18 σ a.1 a.2 h) 200 (x1, x2) h
noncomputable def D_X9_readPlayer (σ : ST) (p1 : Int32) : Option Int32 := (D_X9_at σ p1).bind fun r1 => (D_X9_kindBy r1).bind fun r3 => if r3 = (-1 : Int32) then (some p1) else (D_X9_readPlayer_L18 σ p1 (p1 + (1 : Int32)))
set_option maxRecDepth 100000 in
set_option maxHeartbeats 4000000 in
theorem B_X9_readPlayer {x : CX} {cy : Nat → ClassId} {ad : Nat → Nat} {r : Int32} {σ : ST} (E : Ev x cy cX9_readPlayer RX9 3 1 21) (K : RetI x cX9_readPlayer .int r (wM ad cy σ)) (p1 : Int32) (h : D_X9_readPlayer σ p1 = some r) : G x 0 0 0 [(0, .ref (ad 0)), (1, .int p1)] [] (wM ad cy σ) := by
  unfold D_X9_readPlayer at h
  refine G.aload_n E dX9_readPlayer_0 rfl 0 rfl ?_
  refine G.iload_n E dX9_readPlayer_1 rfl 1 rfl ?_
  obtain ⟨r1, h2, h⟩ := bind_s h
  refine G.retI E (runV (st := []) (As := [.int p1]) E (C_X9_at h2) ck_X9_at (f829 E.fx) (f831 E.fx) (f27 E.fx) 0 9 rfl rfl rfl (by decide) (by decide) rfl (Nat.le_of_ble_eq_true rfl) dX9_readPlayer_2 ⟨Nat.zero_le _, Nat.zero_le _⟩) ?_
  obtain ⟨r3, h4, h⟩ := bind_s h
  refine G.retI E (runS (st := []) (As := [.int r1]) E (C_X9_kindBy h4) ck_X9_kindBy (f837 E.fx) (f838 E.fx) (by decide) (by decide) rfl (Nat.le_of_ble_eq_true rfl) dX9_readPlayer_5 ⟨Nat.zero_le _, Nat.zero_le _⟩) ?_
  refine G.iconst (v := -1) E dX9_readPlayer_8 (by decide) ?_
  refine G.icmp_ne (tgt := 14) E dX9_readPlayer_9 (by decide) (fun q => ?_) (fun q => ?_)
  · have h := ite_f h q
    refine G.iload_n E dX9_readPlayer_14 rfl 1 rfl ?_
    refine G.iconst (v := 1) E dX9_readPlayer_15 (by decide) ?_
    refine G.iadd E dX9_readPlayer_16 ?_
    refine G.istore_n (lv' := [(2, .int (p1 + (1 : Int32))), (0, .ref (ad 0)), (1, .int p1)]) E dX9_readPlayer_17 rfl (by decide) rfl ?_
    refine G.sub (lv' := [(0, .ref (ad 0)), (1, .int p1), (2, .int (p1 + (1 : Int32)))]) [1, 2, 0] rfl ?_
    exact B_X9_readPlayer_L18 E K σ p1 (p1 + (1 : Int32)) h
  · have h := ite_t h q
    refine G.iload_n E dX9_readPlayer_12 rfl 1 rfl ?_
    obtain rfl := Option.some.inj h
    exact K rfl _ _ dX9_readPlayer_13
set_option maxRecDepth 100000 in
set_option maxHeartbeats 4000000 in
theorem C_X9_readPlayer {l : Launch} {D : va_G} {cy : Nat → ClassId} {ad : Nat → Nat} {σ : ST} {p1 : Int32} {r : Int32} (h : D_X9_readPlayer σ p1 = some r) : MI l yX9_readPlayer cX9_readPlayer 3 (some .int) 1 21 D cy (wM ad cy σ) [.ref (ad 0), .int p1] r (wM ad cy σ) :=
  MI.mk (lv := [(0, .ref (ad 0)), (1, .int p1)]) (by decide) (Nat.le_of_ble_eq_true rfl) rfl (fun x _ _ E K => B_X9_readPlayer E K p1 h)

noncomputable def D_X9_read_b112 (rec50 : (ST × Int32) → Option (Int32 × ST)) (σ : ST) (x1 : Int32) : Option (Int32 × ST) := if (gI (pI σ 8 (0 : Int32)) 10) = (4 : Int32) then (some (x1, pI σ 8 (0 : Int32))) else ((D_X9_at (pI σ 8 (0 : Int32)) x1).bind fun r9 => if r9 = (44 : Int32) then (rec50 ((pI σ 8 (0 : Int32)), (x1 + 1))) else (some (x1, pI σ 8 (0 : Int32))))
set_option maxRecDepth 100000 in
set_option maxHeartbeats 4000000 in
theorem B_X9_read_b112 {x : CX} {cy : Nat → ClassId} {ad : Nat → Nat} {r : (Int32 × ST)} (E : Ev x cy cX9_read RX9 3 2 43) (K : RetI x cX9_read .int r.1 (wM ad cy r.2)) (rec50 : (ST × Int32) → Option (Int32 × ST)) (hrec50 : ∀ a, rec50 a = some r → G x 0 0 50 [(0, .ref (ad 0)), (1, .int a.2)] [] (wM ad cy a.1)) (σ : ST) (x1 : Int32) (h : D_X9_read_b112 rec50 σ x1 = some r) : G x 0 0 112 [(0, .ref (ad 0)), (1, .int x1)] [.int (0 : Int32), .ref (ad 0)] (wM ad cy σ) := by
  unfold D_X9_read_b112 at h
  refine G.put (ws' := (wM ad cy (pI σ 8 (0 : Int32)))) E inX9 tyX9 tyX9_ok nmX9 0 rfl rfl 15 (by decide) (f713 E.fx) rfl rfl rfl rfl (Nat.le_of_ble_eq_true rfl) dX9_read_112 (wM_fI8 ad cy _ _) ?_
  refine G.aload_n E dX9_read_115 rfl 0 rfl ?_
  refine G.get E inX9 0 rfl rfl 17 (by decide) (f715 E.fx) rfl dX9_read_116 ?_
  refine G.iconst (v := 4) E dX9_read_119 (by decide) ?_
  refine G.icmp_eq (tgt := 133) E dX9_read_120 (by decide) (fun q => ?_) (fun q => ?_)
  · have h := ite_t h q
    refine G.iload_n E dX9_read_133 rfl 1 rfl ?_
    obtain rfl := Option.some.inj h
    exact K rfl _ _ dX9_read_134
  · have h := ite_f h q
    refine G.aload_n E dX9_read_123 rfl 0 rfl ?_
    refine G.iload_n E dX9_read_124 rfl 1 rfl ?_
    obtain ⟨r9, h10, h⟩ := bind_s h
    refine G.retI E (runV (st := []) (As := [.int x1]) E (C_X9_at h10) ck_X9_at (f829 E.fx) (f831 E.fx) (f27 E.fx) 0 9 rfl rfl rfl (by decide) (by decide) rfl (Nat.le_of_ble_eq_true rfl) dX9_read_125 ⟨Nat.zero_le _, Nat.zero_le _⟩) ?_
    refine G.bipush (v := 44) E dX9_read_128 (by decide) ?_
    refine G.icmp_eq (tgt := 135) E dX9_read_130 (by decide) (fun q => ?_) (fun q => ?_)
    · have h := ite_t h q
      refine G.iinc (w := x1 + 1) (lv' := [(1, .int (x1 + 1)), (0, .ref (ad 0))]) E dX9_read_135 1 rfl rfl (by decide) rfl ?_
      refine G.goto (tgt := 50) E dX9_read_138 (by decide) ?_
      refine G.sub (lv' := [(0, .ref (ad 0)), (1, .int (x1 + 1))]) [1, 0] rfl ?_
      exact hrec50 ((pI σ 8 (0 : Int32)), (x1 + 1)) h
    · have h := ite_f h q
      refine G.iload_n E dX9_read_133 rfl 1 rfl ?_
      obtain rfl := Option.some.inj h
      exact K rfl _ _ dX9_read_134
noncomputable def D_X9_read_b111 (rec50 : (ST × Int32) → Option (Int32 × ST)) (σ : ST) (x1 : Int32) : Option (Int32 × ST) := D_X9_read_b112 rec50 σ x1
set_option maxRecDepth 100000 in
set_option maxHeartbeats 4000000 in
theorem B_X9_read_b111 {x : CX} {cy : Nat → ClassId} {ad : Nat → Nat} {r : (Int32 × ST)} (E : Ev x cy cX9_read RX9 3 2 43) (K : RetI x cX9_read .int r.1 (wM ad cy r.2)) (rec50 : (ST × Int32) → Option (Int32 × ST)) (hrec50 : ∀ a, rec50 a = some r → G x 0 0 50 [(0, .ref (ad 0)), (1, .int a.2)] [] (wM ad cy a.1)) (σ : ST) (x1 : Int32) (h : D_X9_read_b111 rec50 σ x1 = some r) : G x 0 0 111 [(0, .ref (ad 0)), (1, .int x1)] [.ref (ad 0)] (wM ad cy σ) := by
  unfold D_X9_read_b111 at h
  refine G.iconst (v := 0) E dX9_read_111 (by decide) ?_
  refine G.sub (lv' := [(0, .ref (ad 0)), (1, .int x1)]) [0, 1] rfl ?_
  exact B_X9_read_b112 E K rec50 hrec50 σ x1 h
noncomputable def D_X9_read_b112v1 (rec50 : (ST × Int32) → Option (Int32 × ST)) (σ : ST) (x1 : Int32) : Option (Int32 × ST) := if (gI (pI σ 8 (1 : Int32)) 10) = (4 : Int32) then (some (x1, pI σ 8 (1 : Int32))) else ((D_X9_at (pI σ 8 (1 : Int32)) x1).bind fun r11 => if r11 = (44 : Int32) then (rec50 ((pI σ 8 (1 : Int32)), (x1 + 1))) else (some (x1, pI σ 8 (1 : Int32))))
set_option maxRecDepth 100000 in
set_option maxHeartbeats 4000000 in
theorem B_X9_read_b112v1 {x : CX} {cy : Nat → ClassId} {ad : Nat → Nat} {r : (Int32 × ST)} (E : Ev x cy cX9_read RX9 3 2 43) (K : RetI x cX9_read .int r.1 (wM ad cy r.2)) (rec50 : (ST × Int32) → Option (Int32 × ST)) (hrec50 : ∀ a, rec50 a = some r → G x 0 0 50 [(0, .ref (ad 0)), (1, .int a.2)] [] (wM ad cy a.1)) (σ : ST) (x1 : Int32) (h : D_X9_read_b112v1 rec50 σ x1 = some r) : G x 0 0 112 [(0, .ref (ad 0)), (1, .int x1)] [.int (1 : Int32), .ref (ad 0)] (wM ad cy σ) := by
  unfold D_X9_read_b112v1 at h
  refine G.put (ws' := (wM ad cy (pI σ 8 (1 : Int32)))) E inX9 tyX9 tyX9_ok nmX9 0 rfl rfl 15 (by decide) (f713 E.fx) rfl rfl rfl rfl (Nat.le_of_ble_eq_true rfl) dX9_read_112 (wM_fI8 ad cy _ _) ?_
  refine G.aload_n E dX9_read_115 rfl 0 rfl ?_
  refine G.get E inX9 0 rfl rfl 17 (by decide) (f715 E.fx) rfl dX9_read_116 ?_
  refine G.iconst (v := 4) E dX9_read_119 (by decide) ?_
  refine G.icmp_eq (tgt := 133) E dX9_read_120 (by decide) (fun q => ?_) (fun q => ?_)
  · have h := ite_t h q
    refine G.iload_n E dX9_read_133 rfl 1 rfl ?_
    obtain rfl := Option.some.inj h
    exact K rfl _ _ dX9_read_134
  · have h := ite_f h q
    refine G.aload_n E dX9_read_123 rfl 0 rfl ?_
    refine G.iload_n E dX9_read_124 rfl 1 rfl ?_
    obtain ⟨r11, h12, h⟩ := bind_s h
    refine G.retI E (runV (st := []) (As := [.int x1]) E (C_X9_at h12) ck_X9_at (f829 E.fx) (f831 E.fx) (f27 E.fx) 0 9 rfl rfl rfl (by decide) (by decide) rfl (Nat.le_of_ble_eq_true rfl) dX9_read_125 ⟨Nat.zero_le _, Nat.zero_le _⟩) ?_
    refine G.bipush (v := 44) E dX9_read_128 (by decide) ?_
    refine G.icmp_eq (tgt := 135) E dX9_read_130 (by decide) (fun q => ?_) (fun q => ?_)
    · have h := ite_t h q
      refine G.iinc (w := x1 + 1) (lv' := [(1, .int (x1 + 1)), (0, .ref (ad 0))]) E dX9_read_135 1 rfl rfl (by decide) rfl ?_
      refine G.goto (tgt := 50) E dX9_read_138 (by decide) ?_
      refine G.sub (lv' := [(0, .ref (ad 0)), (1, .int (x1 + 1))]) [1, 0] rfl ?_
      exact hrec50 ((pI σ 8 (1 : Int32)), (x1 + 1)) h
    · have h := ite_f h q
      refine G.iload_n E dX9_read_133 rfl 1 rfl ?_
      obtain rfl := Option.some.inj h
      exact K rfl _ _ dX9_read_134
noncomputable def D_X9_read_L50_body (rec50 : (ST × Int32) → Option (Int32 × ST)) (σ : ST) (x1 : Int32) : Option (Int32 × ST) := if (4 : Int32) ≤ (gI σ 10) then (some (x1, σ)) else ((D_X9_readPlayer σ x1).bind fun r7 => if r7 = ((x1 + (1 : Int32)) + (gI σ 9)) then (if r7 = (gI (pI σ 10 ((gI σ 10) + (1 : Int32))) 7) then (if (gI (pI σ 10 ((gI σ 10) + (1 : Int32))) 10) ≤ (1 : Int32) then (D_X9_read_b111 rec50 (pI σ 10 ((gI σ 10) + (1 : Int32))) r7) else (D_X9_read_b112v1 rec50 (pI σ 10 ((gI σ 10) + (1 : Int32))) r7)) else (D_X9_read_b111 rec50 (pI σ 10 ((gI σ 10) + (1 : Int32))) r7)) else (some (r7, σ)))
set_option maxRecDepth 100000 in
set_option maxHeartbeats 4000000 in
theorem B_X9_read_L50_body {x : CX} {cy : Nat → ClassId} {ad : Nat → Nat} {r : (Int32 × ST)} (E : Ev x cy cX9_read RX9 3 2 43) (K : RetI x cX9_read .int r.1 (wM ad cy r.2)) (rec50 : (ST × Int32) → Option (Int32 × ST)) (hrec50 : ∀ a, rec50 a = some r → G x 0 0 50 [(0, .ref (ad 0)), (1, .int a.2)] [] (wM ad cy a.1)) (σ : ST) (x1 : Int32) (h : D_X9_read_L50_body rec50 σ x1 = some r) : G x 0 0 50 [(0, .ref (ad 0)), (1, .int x1)] [] (wM ad cy σ) := by
  unfold D_X9_read_L50_body at h
  refine G.aload_n E dX9_read_50 rfl 0 rfl ?_
  refine G.get E inX9 0 rfl rfl 17 (by decide) (f715 E.fx) rfl dX9_read_51 ?_
  refine G.iconst (v := 4) E dX9_read_54 (by decide) ?_
  refine G.icmp_ge (tgt := 141) E dX9_read_55 (by decide) (fun q => ?_) (fun q => ?_)
  · have h := ite_t h q
    refine G.iload_n E dX9_read_141 rfl 1 rfl ?_
    obtain rfl := Option.some.inj h
    exact K rfl _ _ dX9_read_142
  · have h := ite_f h q
    refine G.aload_n E dX9_read_58 rfl 0 rfl ?_
    refine G.iload_n E dX9_read_59 rfl 1 rfl ?_
    obtain ⟨r7, h8, h⟩ := bind_s h
    refine G.retI E (runV (st := []) (As := [.int x1]) E (C_X9_readPlayer h8) ck_X9_readPlayer (f833 E.fx) (f835 E.fx) (f28 E.fx) 0 9 rfl rfl rfl (by decide) (by decide) rfl (Nat.le_of_ble_eq_true rfl) dX9_read_60 ⟨Nat.zero_le _, Nat.zero_le _⟩) ?_
    refine G.istore_n (lv' := [(2, .int r7), (0, .ref (ad 0)), (1, .int x1)]) E dX9_read_63 rfl (by decide) rfl ?_
    refine G.iload_n E dX9_read_64 rfl 0 rfl ?_
    refine G.iload_n E dX9_read_65 rfl 2 rfl ?_
    refine G.iconst (v := 1) E dX9_read_66 (by decide) ?_
    refine G.iadd E dX9_read_67 ?_
    refine G.aload_n E dX9_read_68 rfl 1 rfl ?_
    refine G.get E inX9 0 rfl rfl 16 (by decide) (f714 E.fx) rfl dX9_read_69 ?_
    refine G.iadd E dX9_read_72 ?_
    refine G.icmp_eq (tgt := 78) E dX9_read_73 (by decide) (fun q => ?_) (fun q => ?_)
    · have h := ite_t h q
      refine G.aload_n E dX9_read_78 rfl 1 rfl ?_
      refine G.dup E dX9_read_79 rfl ?_
      refine G.get E inX9 0 rfl rfl 17 (by decide) (f715 E.fx) rfl dX9_read_80 ?_
      refine G.iconst (v := 1) E dX9_read_83 (by decide) ?_
      refine G.iadd E dX9_read_84 ?_
      refine G.put (ws' := (wM ad cy (pI σ 10 ((gI σ 10) + (1 : Int32))))) E inX9 tyX9 tyX9_ok nmX9 0 rfl rfl 17 (by decide) (f715 E.fx) rfl rfl rfl rfl (Nat.le_of_ble_eq_true rfl) dX9_read_85 (wM_fI10 ad cy _ _) ?_
      refine G.iload_n E dX9_read_88 rfl 0 rfl ?_
      refine G.istore_n (lv' := [(1, .int r7), (2, .int r7), (0, .ref (ad 0))]) E dX9_read_89 rfl (by decide) rfl ?_
      refine G.aload_n E dX9_read_90 rfl 2 rfl ?_
      refine G.iload_n E dX9_read_91 rfl 0 rfl ?_
      refine G.aload_n E dX9_read_92 rfl 2 rfl ?_
      refine G.get E inX9 0 rfl rfl 13 (by decide) (f711 E.fx) rfl dX9_read_93 ?_
      refine G.icmp_ne (tgt := 111) E dX9_read_96 (by decide) (fun q => ?_) (fun q => ?_)
      · have h := ite_f h q
        refine G.sub (lv' := [(0, .ref (ad 0)), (1, .int r7)]) [2, 0] rfl ?_
        exact B_X9_read_b111 E K rec50 hrec50 (pI σ 10 ((gI σ 10) + (1 : Int32))) r7 h
      · have h := ite_t h q
        refine G.aload_n E dX9_read_99 rfl 2 rfl ?_
        refine G.get E inX9 0 rfl rfl 17 (by decide) (f715 E.fx) rfl dX9_read_100 ?_
        refine G.iconst (v := 1) E dX9_read_103 (by decide) ?_
        refine G.icmp_le (tgt := 111) E dX9_read_104 (by decide) (fun q => ?_) (fun q => ?_)
        · have h := ite_t h q
          refine G.sub (lv' := [(0, .ref (ad 0)), (1, .int r7)]) [2, 0] rfl ?_
          exact B_X9_read_b111 E K rec50 hrec50 (pI σ 10 ((gI σ 10) + (1 : Int32))) r7 h
        · have h := ite_f h q
          refine G.iconst (v := 1) E dX9_read_107 (by decide) ?_
          refine G.goto (tgt := 112) E dX9_read_108 (by decide) ?_
          refine G.sub (lv' := [(0, .ref (ad 0)), (1, .int r7)]) [2, 0] rfl ?_
          exact B_X9_read_b112v1 E K rec50 hrec50 (pI σ 10 ((gI σ 10) + (1 : Int32))) r7 h
    · have h := ite_f h q
      refine G.iload_n E dX9_read_76 rfl 0 rfl ?_
      obtain rfl := Option.some.inj h
      exact K rfl _ _ dX9_read_77
noncomputable def D_X9_read_L50  (σ : ST) (x1 : Int32) : Option (Int32 × ST) := itr (fun (rec50 : (ST × Int32) → Option (Int32 × ST)) (a : (ST × Int32)) => D_X9_read_L50_body rec50 a.1 a.2) 200 (σ, x1)
set_option maxRecDepth 100000 in
set_option maxHeartbeats 4000000 in
theorem B_X9_read_L50 {x : CX} {cy : Nat → ClassId} {ad : Nat → Nat} {r : (Int32 × ST)} (E : Ev x cy cX9_read RX9 3 2 43) (K : RetI x cX9_read .int r.1 (wM ad cy r.2))  (σ : ST) (x1 : Int32) (h : D_X9_read_L50 σ x1 = some r) : G x 0 0 50 [(0, .ref (ad 0)), (1, .int x1)] [] (wM ad cy σ) :=
  itr_ind (P := fun a => G x 0 0 50 [(0, .ref (ad 0)), (1, .int a.2)] [] (wM ad cy a.1)) (fun rec50 hrec50 a h => B_X9_read_L50_body E K rec50 hrec50 a.1 a.2 h) 200 (σ, x1) h
noncomputable def D_X9_read (σ : ST)  : Option (Int32 × ST) := (D_X9_at (pI (pI σ 8 (0 : Int32)) 10 (0 : Int32)) (0 : Int32)).bind fun r1 => (D_X9_within (gI (pI (pI (pI σ 8 (0 : Int32)) 10 (0 : Int32)) 9 (r1 - (48 : Int32))) 9) (2 : Int32) (4 : Int32)).bind fun r3 => if r3 = 0 then (some ((0 : Int32), pI (pI (pI σ 8 (0 : Int32)) 10 (0 : Int32)) 9 (r1 - (48 : Int32)))) else ((D_X9_at (pI (pI (pI σ 8 (0 : Int32)) 10 (0 : Int32)) 9 (r1 - (48 : Int32))) (1 : Int32)).bind fun r5 => if r5 = (59 : Int32) then (D_X9_read_L50 (pI (pI (pI σ 8 (0 : Int32)) 10 (0 : Int32)) 9 (r1 - (48 : Int32))) (2 : Int32)) else (some ((1 : Int32), pI (pI (pI σ 8 (0 : Int32)) 10 (0 : Int32)) 9 (r1 - (48 : Int32)))))
set_option maxRecDepth 100000 in
set_option maxHeartbeats 4000000 in
theorem B_X9_read {x : CX} {cy : Nat → ClassId} {ad : Nat → Nat} {r : (Int32 × ST)} (E : Ev x cy cX9_read RX9 3 2 43) (K : RetI x cX9_read .int r.1 (wM ad cy r.2)) (σ : ST)  (h : D_X9_read σ = some r) : G x 0 0 0 [(0, .ref (ad 0))] [] (wM ad cy σ) := by
  unfold D_X9_read at h
  refine G.aload_n E dX9_read_0 rfl 0 rfl ?_
  refine G.iconst (v := 0) E dX9_read_1 (by decide) ?_
  refine G.put (ws' := (wM ad cy (pI σ 8 (0 : Int32)))) E inX9 tyX9 tyX9_ok nmX9 0 rfl rfl 15 (by decide) (f713 E.fx) rfl rfl rfl rfl (Nat.le_of_ble_eq_true rfl) dX9_read_2 (wM_fI8 ad cy _ _) ?_
  refine G.aload_n E dX9_read_5 rfl 0 rfl ?_
  refine G.iconst (v := 0) E dX9_read_6 (by decide) ?_
  refine G.put (ws' := (wM ad cy (pI (pI σ 8 (0 : Int32)) 10 (0 : Int32)))) E inX9 tyX9 tyX9_ok nmX9 0 rfl rfl 17 (by decide) (f715 E.fx) rfl rfl rfl rfl (Nat.le_of_ble_eq_true rfl) dX9_read_7 (wM_fI10 ad cy _ _) ?_
  refine G.aload_n E dX9_read_10 rfl 0 rfl ?_
  refine G.aload_n E dX9_read_11 rfl 0 rfl ?_
  refine G.iconst (v := 0) E dX9_read_12 (by decide) ?_
  obtain ⟨r1, h2, h⟩ := bind_s h
  refine G.retI E (runV (st := [.ref (ad 0)]) (As := [.int (0 : Int32)]) E (C_X9_at h2) ck_X9_at (f829 E.fx) (f831 E.fx) (f27 E.fx) 0 9 rfl rfl rfl (by decide) (by decide) rfl (Nat.le_of_ble_eq_true rfl) dX9_read_13 ⟨Nat.zero_le _, Nat.zero_le _⟩) ?_
  refine G.bipush (v := 48) E dX9_read_16 (by decide) ?_
  refine G.isub E dX9_read_18 ?_
  refine G.put (ws' := (wM ad cy (pI (pI (pI σ 8 (0 : Int32)) 10 (0 : Int32)) 9 (r1 - (48 : Int32))))) E inX9 tyX9 tyX9_ok nmX9 0 rfl rfl 16 (by decide) (f714 E.fx) rfl rfl rfl rfl (Nat.le_of_ble_eq_true rfl) dX9_read_19 (wM_fI9 ad cy _ _) ?_
  refine G.aload_n E dX9_read_22 rfl 0 rfl ?_
  refine G.get E inX9 0 rfl rfl 16 (by decide) (f714 E.fx) rfl dX9_read_23 ?_
  refine G.iconst (v := 2) E dX9_read_26 (by decide) ?_
  refine G.iconst (v := 4) E dX9_read_27 (by decide) ?_
  obtain ⟨r3, h4, h⟩ := bind_s h
  refine G.retI E (runS (st := []) (As := [.int (gI (pI (pI (pI σ 8 (0 : Int32)) 10 (0 : Int32)) 9 (r1 - (48 : Int32))) 9), .int (2 : Int32), .int (4 : Int32)]) E (C_X9_within h4) ck_X9_within (f814 E.fx) (f815 E.fx) (by decide) (by decide) rfl (Nat.le_of_ble_eq_true rfl) dX9_read_28 ⟨Nat.zero_le _, Nat.zero_le _⟩) ?_
  refine G.if_ne (tgt := 36) E dX9_read_31 (by decide) (fun q => ?_) (fun q => ?_)
  · have h := ite_f h q
    refine G.aload_n E dX9_read_36 rfl 0 rfl ?_
    refine G.iconst (v := 1) E dX9_read_37 (by decide) ?_
    obtain ⟨r5, h6, h⟩ := bind_s h
    refine G.retI E (runV (st := []) (As := [.int (1 : Int32)]) E (C_X9_at h6) ck_X9_at (f829 E.fx) (f831 E.fx) (f27 E.fx) 0 9 rfl rfl rfl (by decide) (by decide) rfl (Nat.le_of_ble_eq_true rfl) dX9_read_38 ⟨Nat.zero_le _, Nat.zero_le _⟩) ?_
    refine G.bipush (v := 59) E dX9_read_41 (by decide) ?_
    refine G.icmp_eq (tgt := 48) E dX9_read_43 (by decide) (fun q => ?_) (fun q => ?_)
    · have h := ite_t h q
      refine G.iconst (v := 2) E dX9_read_48 (by decide) ?_
      refine G.istore_n (lv' := [(1, .int (2 : Int32)), (0, .ref (ad 0))]) E dX9_read_49 rfl (by decide) rfl ?_
      refine G.sub (lv' := [(0, .ref (ad 0)), (1, .int (2 : Int32))]) [1, 0] rfl ?_
      exact B_X9_read_L50 E K (pI (pI (pI σ 8 (0 : Int32)) 10 (0 : Int32)) 9 (r1 - (48 : Int32))) (2 : Int32) h
    · have h := ite_f h q
      refine G.iconst (v := 1) E dX9_read_46 (by decide) ?_
      obtain rfl := Option.some.inj h
      exact K rfl _ _ dX9_read_47
  · have h := ite_t h q
    refine G.iconst (v := 0) E dX9_read_34 (by decide) ?_
    obtain rfl := Option.some.inj h
    exact K rfl _ _ dX9_read_35
set_option maxRecDepth 100000 in
set_option maxHeartbeats 4000000 in
theorem C_X9_read {l : Launch} {D : va_G} {cy : Nat → ClassId} {ad : Nat → Nat} {σ : ST}  {r : (Int32 × ST)} (h : D_X9_read σ = some r) : MI l yX9_read cX9_read 3 (some .int) 2 43 D cy (wM ad cy σ) [.ref (ad 0)] r.1 (wM ad cy r.2) :=
  MI.mk (lv := [(0, .ref (ad 0))]) (by decide) (Nat.le_of_ble_eq_true rfl) rfl (fun x _ _ E K => B_X9_read E K σ h)

noncomputable def D_X9_fault (σ : ST)  : Option (Int32 × ST) := (D_X9_read σ).bind fun r1 => some (r1.1, r1.2)
set_option maxRecDepth 100000 in
set_option maxHeartbeats 4000000 in
theorem B_X9_fault {x : CX} {cy : Nat → ClassId} {ad : Nat → Nat} {r : (Int32 × ST)} (E : Ev x cy cX9_fault RX9 1 3 65) (K : RetI x cX9_fault .int r.1 (wM ad cy r.2)) (σ : ST)  (h : D_X9_fault σ = some r) : G x 0 0 0 [(0, .ref (ad 0))] [] (wM ad cy σ) := by
  unfold D_X9_fault at h
  refine G.aload_n E dX9_fault_0 rfl 0 rfl ?_
  obtain ⟨r1, h2, h⟩ := bind_s h
  refine G.retI E (runV (st := []) (As := []) E (C_X9_read h2) ck_X9_read (f825 E.fx) (f827 E.fx) (f26 E.fx) 0 9 rfl rfl rfl (by decide) (by decide) rfl (Nat.le_of_ble_eq_true rfl) dX9_fault_1 ⟨Nat.zero_le _, Nat.zero_le _⟩) ?_
  obtain rfl := Option.some.inj h
  exact K rfl _ _ dX9_fault_4
set_option maxRecDepth 100000 in
set_option maxHeartbeats 4000000 in
theorem C_X9_fault {l : Launch} {D : va_G} {cy : Nat → ClassId} {ad : Nat → Nat} {σ : ST}  {r : (Int32 × ST)} (h : D_X9_fault σ = some r) : MI l yX9_fault cX9_fault 1 (some .int) 3 65 D cy (wM ad cy σ) [.ref (ad 0)] r.1 (wM ad cy r.2) :=
  MI.mk (lv := [(0, .ref (ad 0))]) (by decide) (Nat.le_of_ble_eq_true rfl) rfl (fun x _ _ E K => B_X9_fault E K σ h)

noncomputable def D_X9_rowAt_b33 (rec4 : (Int32 × Int32 × Int32) → Option Int32) (σ : ST) (x1 : Int32) (x3 : Int32) (s0 : Int32) (s1 : Int32) : Option Int32 := rec4 (x1, (s1 + s0), (x3 + 1))
set_option maxRecDepth 100000 in
set_option maxHeartbeats 4000000 in
theorem B_X9_rowAt_b33 {x : CX} {cy : Nat → ClassId} {ad : Nat → Nat} {r : Int32} {σ : ST} (E : Ev x cy cX9_rowAt RX9 4 0 0) (K : RetI x cX9_rowAt .int r (wM ad cy σ)) (rec4 : (Int32 × Int32 × Int32) → Option Int32) (hrec4 : ∀ a, rec4 a = some r → G x 0 0 4 [(0, .ref (ad 0)), (1, .int a.1), (2, .int a.2.1), (3, .int a.2.2)] [] (wM ad cy σ)) (σ9 : ST) (x1 : Int32) (x3 : Int32) (s0 : Int32) (s1 : Int32) (h : D_X9_rowAt_b33 rec4 σ x1 x3 s0 s1 = some r) : G x 0 0 33 [(0, .ref (ad 0)), (1, .int x1), (3, .int x3)] [.int s0, .int s1] (wM ad cy σ) := by
  unfold D_X9_rowAt_b33 at h
  refine G.iadd E dX9_rowAt_33 ?_
  refine G.istore_n (lv' := [(2, .int (s1 + s0)), (0, .ref (ad 0)), (1, .int x1), (3, .int x3)]) E dX9_rowAt_34 rfl (by decide) rfl ?_
  refine G.iinc (w := x3 + 1) (lv' := [(3, .int (x3 + 1)), (2, .int (s1 + s0)), (0, .ref (ad 0)), (1, .int x1)]) E dX9_rowAt_35 3 rfl rfl (by decide) rfl ?_
  refine G.goto (tgt := 4) E dX9_rowAt_38 (by decide) ?_
  refine G.sub (lv' := [(0, .ref (ad 0)), (1, .int x1), (2, .int (s1 + s0)), (3, .int (x3 + 1))]) [2, 3, 1, 0] rfl ?_
  exact hrec4 (x1, (s1 + s0), (x3 + 1)) h
noncomputable def D_X9_rowAt_L4_body (rec4 : (Int32 × Int32 × Int32) → Option Int32) (σ : ST) (x1 : Int32) (x2 : Int32) (x3 : Int32) : Option Int32 := if (gI σ 2) ≤ x3 then (some x2) else (if (x1 + x3) < 0 ∨ 28 ≤ (x1 + x3).toNatClampNeg then none else (if (gA σ 6 (x1 + x3).toNatClampNeg) = (116 : Int32) then (D_X9_rowAt_b33 rec4 σ x1 x3 (1 : Int32) ((2 : Int32) * x2)) else (D_X9_rowAt_b33 rec4 σ x1 x3 (0 : Int32) ((2 : Int32) * x2))))
set_option maxRecDepth 100000 in
set_option maxHeartbeats 4000000 in
theorem B_X9_rowAt_L4_body {x : CX} {cy : Nat → ClassId} {ad : Nat → Nat} {r : Int32} {σ : ST} (E : Ev x cy cX9_rowAt RX9 4 0 0) (K : RetI x cX9_rowAt .int r (wM ad cy σ)) (rec4 : (Int32 × Int32 × Int32) → Option Int32) (hrec4 : ∀ a, rec4 a = some r → G x 0 0 4 [(0, .ref (ad 0)), (1, .int a.1), (2, .int a.2.1), (3, .int a.2.2)] [] (wM ad cy σ)) (σ9 : ST) (x1 : Int32) (x2 : Int32) (x3 : Int32) (h : D_X9_rowAt_L4_body rec4 σ x1 x2 x3 = some r) : G x 0 0 4 [(0, .ref (ad 0)), (1, .int x1), (2, .int x2), (3, .int x3)] [] (wM ad cy σ) := by
  unfold D_X9_rowAt_L4_body at h
  refine G.iload_n E dX9_rowAt_4 rfl 3 rfl ?_
  refine G.aload_n E dX9_rowAt_5 rfl 0 rfl ?_
  refine G.get E inX9 0 rfl rfl 2 (by decide) (f700 E.fx) rfl dX9_rowAt_6 ?_
  refine G.icmp_ge (tgt := 41) E dX9_rowAt_9 (by decide) (fun q => ?_) (fun q => ?_)
  · have h := ite_t h q
    refine G.iload_n E dX9_rowAt_41 rfl 2 rfl ?_
    obtain rfl := Option.some.inj h
    exact K rfl _ _ dX9_rowAt_42
  · have h := ite_f h q
    refine G.iconst (v := 2) E dX9_rowAt_12 (by decide) ?_
    refine G.iload_n E dX9_rowAt_13 rfl 2 rfl ?_
    refine G.imul E dX9_rowAt_14 ?_
    refine G.aload_n E dX9_rowAt_15 rfl 0 rfl ?_
    refine G.get E inX9 0 rfl rfl 14 (by decide) (f712 E.fx) rfl dX9_rowAt_16 ?_
    refine G.iload_n E dX9_rowAt_19 rfl 1 rfl ?_
    refine G.iload_n E dX9_rowAt_20 rfl 3 rfl ?_
    refine G.iadd E dX9_rowAt_21 ?_
    obtain ⟨hg, h⟩ := ite_n h
    refine G.bald E 7 4 rfl rfl hg dX9_rowAt_22 ?_
    refine G.bipush (v := 116) E dX9_rowAt_23 (by decide) ?_
    refine G.icmp_ne (tgt := 32) E dX9_rowAt_25 (by decide) (fun q => ?_) (fun q => ?_)
    · have h := ite_f h q
      refine G.iconst (v := 0) E dX9_rowAt_32 (by decide) ?_
      refine G.sub (lv' := [(0, .ref (ad 0)), (1, .int x1), (3, .int x3)]) [0, 1, 3] rfl ?_
      exact B_X9_rowAt_b33 E K rec4 hrec4 σ x1 x3 (0 : Int32) ((2 : Int32) * x2) h
    · have h := ite_t h q
      refine G.iconst (v := 1) E dX9_rowAt_28 (by decide) ?_
      refine G.goto (tgt := 33) E dX9_rowAt_29 (by decide) ?_
      refine G.sub (lv' := [(0, .ref (ad 0)), (1, .int x1), (3, .int x3)]) [0, 1, 3] rfl ?_
      exact B_X9_rowAt_b33 E K rec4 hrec4 σ x1 x3 (1 : Int32) ((2 : Int32) * x2) h
noncomputable def D_X9_rowAt_L4  (σ : ST) (x1 : Int32) (x2 : Int32) (x3 : Int32) : Option Int32 := itr (fun (rec4 : (Int32 × Int32 × Int32) → Option Int32) (a : (Int32 × Int32 × Int32)) => D_X9_rowAt_L4_body rec4 σ a.1 a.2.1 a.2.2) 200 (x1, x2, x3)
set_option maxRecDepth 100000 in
set_option maxHeartbeats 4000000 in
theorem B_X9_rowAt_L4 {x : CX} {cy : Nat → ClassId} {ad : Nat → Nat} {r : Int32} {σ : ST} (E : Ev x cy cX9_rowAt RX9 4 0 0) (K : RetI x cX9_rowAt .int r (wM ad cy σ))  (σ9 : ST) (x1 : Int32) (x2 : Int32) (x3 : Int32) (h : D_X9_rowAt_L4 σ x1 x2 x3 = some r) : G x 0 0 4 [(0, .ref (ad 0)), (1, .int x1), (2, .int x2), (3, .int x3)] [] (wM ad cy σ) :=
  itr_ind (P := fun a => G x 0 0 4 [(0, .ref (ad 0)), (1, .int a.1), (2, .int a.2.1), (3, .int a.2.2)] [] (wM ad cy σ)) (fun rec4 hrec4 a h => B_X9_rowAt_L4_body E K rec4 hrec4 σ a.1 a.2.1 a.2.2 h) 200 (x1, x2, x3) h
noncomputable def D_X9_rowAt (σ : ST) (p1 : Int32) : Option Int32 := D_X9_rowAt_L4 σ p1 (0 : Int32) (0 : Int32)
set_option maxRecDepth 100000 in
set_option maxHeartbeats 4000000 in
theorem B_X9_rowAt {x : CX} {cy : Nat → ClassId} {ad : Nat → Nat} {r : Int32} {σ : ST} (E : Ev x cy cX9_rowAt RX9 4 0 0) (K : RetI x cX9_rowAt .int r (wM ad cy σ)) (p1 : Int32) (h : D_X9_rowAt σ p1 = some r) : G x 0 0 0 [(0, .ref (ad 0)), (1, .int p1)] [] (wM ad cy σ) := by
  unfold D_X9_rowAt at h
  refine G.iconst (v := 0) E dX9_rowAt_0 (by decide) ?_
  refine G.istore_n (lv' := [(2, .int (0 : Int32)), (0, .ref (ad 0)), (1, .int p1)]) E dX9_rowAt_1 rfl (by decide) rfl ?_
  refine G.iconst (v := 0) E dX9_rowAt_2 (by decide) ?_
  refine G.istore_n (lv' := [(3, .int (0 : Int32)), (2, .int (0 : Int32)), (0, .ref (ad 0)), (1, .int p1)]) E dX9_rowAt_3 rfl (by decide) rfl ?_
  refine G.sub (lv' := [(0, .ref (ad 0)), (1, .int p1), (2, .int (0 : Int32)), (3, .int (0 : Int32))]) [2, 3, 1, 0] rfl ?_
  exact B_X9_rowAt_L4 E K σ p1 (0 : Int32) (0 : Int32) h
set_option maxRecDepth 100000 in
set_option maxHeartbeats 4000000 in
theorem C_X9_rowAt {l : Launch} {D : va_G} {cy : Nat → ClassId} {ad : Nat → Nat} {σ : ST} {p1 : Int32} {r : Int32} (h : D_X9_rowAt σ p1 = some r) : MI l yX9_rowAt cX9_rowAt 4 (some .int) 0 0 D cy (wM ad cy σ) [.ref (ad 0), .int p1] r (wM ad cy σ) :=
  MI.mk (lv := [(0, .ref (ad 0)), (1, .int p1)]) (by decide) (Nat.le_of_ble_eq_true rfl) rfl (fun x _ _ E K => B_X9_rowAt E K p1 h)

noncomputable def D_X9_table_L33_body (rec33 : (ST × Int32) → Option (Int32 × ST)) (σ : ST) (x1 : Int32) : Option (Int32 × ST) := if (gI σ 1) ≤ x1 then (some (gI (pI (pI (pI (pI (pI (pI σ 3 (0 : Int32)) 4 (0 : Int32)) 5 (0 : Int32)) 0 ((gI (pI (pI (pI σ 3 (0 : Int32)) 4 (0 : Int32)) 5 (0 : Int32)) 0) + (1 : Int32))) 6 (0 : Int32)) 7 (0 : Int32)) 1, pI (pI (pI (pI (pI (pI σ 3 (0 : Int32)) 4 (0 : Int32)) 5 (0 : Int32)) 0 ((gI (pI (pI (pI σ 3 (0 : Int32)) 4 (0 : Int32)) 5 (0 : Int32)) 0) + (1 : Int32))) 6 (0 : Int32)) 7 (0 : Int32))) else (if ((2 : Int32) + (((gI σ 2) + (2 : Int32)) * x1)) < 0 ∨ 28 ≤ ((2 : Int32) + (((gI σ 2) + (2 : Int32)) * x1)).toNatClampNeg then none else ((D_X9_kindBy (gA σ 6 ((2 : Int32) + (((gI σ 2) + (2 : Int32)) * x1)).toNatClampNeg)).bind fun r3 => if x1 < 0 ∨ 4 ≤ x1.toNatClampNeg then none else ((D_X9_rowAt (pA σ 0 x1.toNatClampNeg r3) (((2 : Int32) + (((gI σ 2) + (2 : Int32)) * x1)) + (1 : Int32))).bind fun r5 => if x1 < 0 ∨ 4 ≤ x1.toNatClampNeg then none else (if x1 < 0 ∨ 4 ≤ x1.toNatClampNeg then none else (rec33 ((pA (pA (pA σ 0 x1.toNatClampNeg r3) 1 x1.toNatClampNeg r5) 2 x1.toNatClampNeg (0 : Int32)), (x1 + 1)))))))
set_option maxRecDepth 100000 in
set_option maxHeartbeats 4000000 in
theorem B_X9_table_L33_body {x : CX} {cy : Nat → ClassId} {ad : Nat → Nat} {r : (Int32 × ST)} (E : Ev x cy cX9_table RX9 3 3 65) (K : RetI x cX9_table .int r.1 (wM ad cy r.2)) (rec33 : (ST × Int32) → Option (Int32 × ST)) (hrec33 : ∀ a, rec33 a = some r → G x 0 0 33 [(0, .ref (ad 0)), (1, .int a.2)] [] (wM ad cy a.1)) (σ : ST) (x1 : Int32) (h : D_X9_table_L33_body rec33 σ x1 = some r) : G x 0 0 33 [(0, .ref (ad 0)), (1, .int x1)] [] (wM ad cy σ) := by
  unfold D_X9_table_L33_body at h
  refine G.iload_n E dX9_table_33 rfl 1 rfl ?_
  refine G.aload_n E dX9_table_34 rfl 0 rfl ?_
  refine G.get E inX9 0 rfl rfl 1 (by decide) (f699 E.fx) rfl dX9_table_35 ?_
  refine G.icmp_ge (tgt := 93) E dX9_table_38 (by decide) (fun q => ?_) (fun q => ?_)
  · have h := ite_t h q
    refine G.aload_n E dX9_table_93 rfl 0 rfl ?_
    refine G.iconst (v := 0) E dX9_table_94 (by decide) ?_
    refine G.put (ws' := (wM ad cy (pI σ 3 (0 : Int32)))) E inX9 tyX9 tyX9_ok nmX9 0 rfl rfl 6 (by decide) (f704 E.fx) rfl rfl rfl rfl (Nat.le_of_ble_eq_true rfl) dX9_table_95 (wM_fI3 ad cy _ _) ?_
    refine G.aload_n E dX9_table_98 rfl 0 rfl ?_
    refine G.iconst (v := 0) E dX9_table_99 (by decide) ?_
    refine G.put (ws' := (wM ad cy (pI (pI σ 3 (0 : Int32)) 4 (0 : Int32)))) E inX9 tyX9 tyX9_ok nmX9 0 rfl rfl 7 (by decide) (f705 E.fx) rfl rfl rfl rfl (Nat.le_of_ble_eq_true rfl) dX9_table_100 (wM_fI4 ad cy _ _) ?_
    refine G.aload_n E dX9_table_103 rfl 0 rfl ?_
    refine G.iconst (v := 0) E dX9_table_104 (by decide) ?_
    refine G.put (ws' := (wM ad cy (pI (pI (pI σ 3 (0 : Int32)) 4 (0 : Int32)) 5 (0 : Int32)))) E inX9 tyX9 tyX9_ok nmX9 0 rfl rfl 8 (by decide) (f706 E.fx) rfl rfl rfl rfl (Nat.le_of_ble_eq_true rfl) dX9_table_105 (wM_fI5 ad cy _ _) ?_
    refine G.aload_n E dX9_table_108 rfl 0 rfl ?_
    refine G.dup E dX9_table_109 rfl ?_
    refine G.get E inX9 0 rfl rfl 0 (by decide) (f698 E.fx) rfl dX9_table_110 ?_
    refine G.iconst (v := 1) E dX9_table_113 (by decide) ?_
    refine G.iadd E dX9_table_114 ?_
    refine G.put (ws' := (wM ad cy (pI (pI (pI (pI σ 3 (0 : Int32)) 4 (0 : Int32)) 5 (0 : Int32)) 0 ((gI (pI (pI (pI σ 3 (0 : Int32)) 4 (0 : Int32)) 5 (0 : Int32)) 0) + (1 : Int32))))) E inX9 tyX9 tyX9_ok nmX9 0 rfl rfl 0 (by decide) (f698 E.fx) rfl rfl rfl rfl (Nat.le_of_ble_eq_true rfl) dX9_table_115 (wM_fI0 ad cy _ _) ?_
    refine G.aload_n E dX9_table_118 rfl 0 rfl ?_
    refine G.iconst (v := 0) E dX9_table_119 (by decide) ?_
    refine G.put (ws' := (wM ad cy (pI (pI (pI (pI (pI σ 3 (0 : Int32)) 4 (0 : Int32)) 5 (0 : Int32)) 0 ((gI (pI (pI (pI σ 3 (0 : Int32)) 4 (0 : Int32)) 5 (0 : Int32)) 0) + (1 : Int32))) 6 (0 : Int32)))) E inX9 tyX9 tyX9_ok nmX9 0 rfl rfl 9 (by decide) (f707 E.fx) rfl rfl rfl rfl (Nat.le_of_ble_eq_true rfl) dX9_table_120 (wM_fI6 ad cy _ _) ?_
    refine G.aload_n E dX9_table_123 rfl 0 rfl ?_
    refine G.iconst (v := 0) E dX9_table_124 (by decide) ?_
    refine G.put (ws' := (wM ad cy (pI (pI (pI (pI (pI (pI σ 3 (0 : Int32)) 4 (0 : Int32)) 5 (0 : Int32)) 0 ((gI (pI (pI (pI σ 3 (0 : Int32)) 4 (0 : Int32)) 5 (0 : Int32)) 0) + (1 : Int32))) 6 (0 : Int32)) 7 (0 : Int32)))) E inX9 tyX9 tyX9_ok nmX9 0 rfl rfl 13 (by decide) (f711 E.fx) rfl rfl rfl rfl (Nat.le_of_ble_eq_true rfl) dX9_table_125 (wM_fI7 ad cy _ _) ?_
    refine G.aload_n E dX9_table_128 rfl 0 rfl ?_
    refine G.get E inX9 0 rfl rfl 1 (by decide) (f699 E.fx) rfl dX9_table_129 ?_
    obtain rfl := Option.some.inj h
    exact K rfl _ _ dX9_table_132
  · have h := ite_f h q
    refine G.iconst (v := 2) E dX9_table_41 (by decide) ?_
    refine G.aload_n E dX9_table_42 rfl 0 rfl ?_
    refine G.get E inX9 0 rfl rfl 2 (by decide) (f700 E.fx) rfl dX9_table_43 ?_
    refine G.iconst (v := 2) E dX9_table_46 (by decide) ?_
    refine G.iadd E dX9_table_47 ?_
    refine G.iload_n E dX9_table_48 rfl 1 rfl ?_
    refine G.imul E dX9_table_49 ?_
    refine G.iadd E dX9_table_50 ?_
    refine G.istore_n (lv' := [(2, .int ((2 : Int32) + (((gI σ 2) + (2 : Int32)) * x1))), (0, .ref (ad 0)), (1, .int x1)]) E dX9_table_51 rfl (by decide) rfl ?_
    refine G.aload_n E dX9_table_52 rfl 1 rfl ?_
    refine G.get E inX9 0 rfl rfl 3 (by decide) (f701 E.fx) rfl dX9_table_53 ?_
    refine G.iload_n E dX9_table_56 rfl 2 rfl ?_
    refine G.aload_n E dX9_table_57 rfl 1 rfl ?_
    refine G.get E inX9 0 rfl rfl 14 (by decide) (f712 E.fx) rfl dX9_table_58 ?_
    refine G.iload_n E dX9_table_61 rfl 0 rfl ?_
    obtain ⟨hg, h⟩ := ite_n h
    refine G.bald E 7 4 rfl rfl hg dX9_table_62 ?_
    obtain ⟨r3, h4, h⟩ := bind_s h
    refine G.retI E (runS (st := [.int x1, .ref (ad 1)]) (As := [.int (gA σ 6 ((2 : Int32) + (((gI σ 2) + (2 : Int32)) * x1)).toNatClampNeg)]) E (C_X9_kindBy h4) ck_X9_kindBy (f837 E.fx) (f838 E.fx) (by decide) (by decide) rfl (Nat.le_of_ble_eq_true rfl) dX9_table_63 ⟨Nat.zero_le _, Nat.zero_le _⟩) ?_
    obtain ⟨hg, h⟩ := ite_n h
    refine G.iast (ws' := (wM ad cy (pA σ 0 x1.toNatClampNeg r3))) E 1 0 rfl rfl hg dX9_table_66 (wM_aI0 ad cy _ _ _) ?_
    refine G.aload_n E dX9_table_67 rfl 1 rfl ?_
    refine G.get E inX9 0 rfl rfl 4 (by decide) (f702 E.fx) rfl dX9_table_68 ?_
    refine G.iload_n E dX9_table_71 rfl 2 rfl ?_
    refine G.aload_n E dX9_table_72 rfl 1 rfl ?_
    refine G.iload_n E dX9_table_73 rfl 0 rfl ?_
    refine G.iconst (v := 1) E dX9_table_74 (by decide) ?_
    refine G.iadd E dX9_table_75 ?_
    obtain ⟨r5, h6, h⟩ := bind_s h
    refine G.retI E (runV (st := [.int x1, .ref (ad 2)]) (As := [.int (((2 : Int32) + (((gI σ 2) + (2 : Int32)) * x1)) + (1 : Int32))]) E (C_X9_rowAt h6) ck_X9_rowAt (f844 E.fx) (f846 E.fx) (f29 E.fx) 0 9 rfl rfl rfl (by decide) (by decide) rfl (Nat.le_of_ble_eq_true rfl) dX9_table_76 ⟨Nat.zero_le _, Nat.zero_le _⟩) ?_
    obtain ⟨hg, h⟩ := ite_n h
    refine G.iast (ws' := (wM ad cy (pA (pA σ 0 x1.toNatClampNeg r3) 1 x1.toNatClampNeg r5))) E 2 0 rfl rfl hg dX9_table_79 (wM_aI1 ad cy _ _ _) ?_
    refine G.aload_n E dX9_table_80 rfl 1 rfl ?_
    refine G.get E inX9 0 rfl rfl 5 (by decide) (f703 E.fx) rfl dX9_table_81 ?_
    refine G.iload_n E dX9_table_84 rfl 2 rfl ?_
    refine G.iconst (v := 0) E dX9_table_85 (by decide) ?_
    obtain ⟨hg, h⟩ := ite_n h
    refine G.iast (ws' := (wM ad cy (pA (pA (pA σ 0 x1.toNatClampNeg r3) 1 x1.toNatClampNeg r5) 2 x1.toNatClampNeg (0 : Int32)))) E 3 0 rfl rfl hg dX9_table_86 (wM_aI2 ad cy _ _ _) ?_
    refine G.iinc (w := x1 + 1) (lv' := [(1, .int (x1 + 1)), (2, .int ((2 : Int32) + (((gI σ 2) + (2 : Int32)) * x1))), (0, .ref (ad 0))]) E dX9_table_87 2 rfl rfl (by decide) rfl ?_
    refine G.goto (tgt := 33) E dX9_table_90 (by decide) ?_
    refine G.sub (lv' := [(0, .ref (ad 0)), (1, .int (x1 + 1))]) [2, 0] rfl ?_
    exact hrec33 ((pA (pA (pA σ 0 x1.toNatClampNeg r3) 1 x1.toNatClampNeg r5) 2 x1.toNatClampNeg (0 : Int32)), (x1 + 1)) h
noncomputable def D_X9_table_L33  (σ : ST) (x1 : Int32) : Option (Int32 × ST) := itr (fun (rec33 : (ST × Int32) → Option (Int32 × ST)) (a : (ST × Int32)) => D_X9_table_L33_body rec33 a.1 a.2) 200 (σ, x1)
set_option maxRecDepth 100000 in
set_option maxHeartbeats 4000000 in
theorem B_X9_table_L33 {x : CX} {cy : Nat → ClassId} {ad : Nat → Nat} {r : (Int32 × ST)} (E : Ev x cy cX9_table RX9 3 3 65) (K : RetI x cX9_table .int r.1 (wM ad cy r.2))  (σ : ST) (x1 : Int32) (h : D_X9_table_L33 σ x1 = some r) : G x 0 0 33 [(0, .ref (ad 0)), (1, .int x1)] [] (wM ad cy σ) :=
  itr_ind (P := fun a => G x 0 0 33 [(0, .ref (ad 0)), (1, .int a.2)] [] (wM ad cy a.1)) (fun rec33 hrec33 a h => B_X9_table_L33_body E K rec33 hrec33 a.1 a.2 h) 200 (σ, x1) h
noncomputable def D_X9_table (σ : ST)  : Option (Int32 × ST) := (D_X9_read σ).bind fun r1 => if (gI r1.2 8) = 0 then (some ((-103 : Int32), r1.2)) else (D_X9_table_L33 (pI (pI r1.2 2 (gI r1.2 9)) 1 (gI (pI r1.2 2 (gI r1.2 9)) 10)) (0 : Int32))
set_option maxRecDepth 100000 in
set_option maxHeartbeats 4000000 in
theorem B_X9_table {x : CX} {cy : Nat → ClassId} {ad : Nat → Nat} {r : (Int32 × ST)} (E : Ev x cy cX9_table RX9 3 3 65) (K : RetI x cX9_table .int r.1 (wM ad cy r.2)) (σ : ST)  (h : D_X9_table σ = some r) : G x 0 0 0 [(0, .ref (ad 0))] [] (wM ad cy σ) := by
  unfold D_X9_table at h
  refine G.aload_n E dX9_table_0 rfl 0 rfl ?_
  obtain ⟨r1, h2, h⟩ := bind_s h
  refine G.retI E (runV (st := []) (As := []) E (C_X9_read h2) ck_X9_read (f825 E.fx) (f827 E.fx) (f26 E.fx) 0 9 rfl rfl rfl (by decide) (by decide) rfl (Nat.le_of_ble_eq_true rfl) dX9_table_1 ⟨Nat.zero_le _, Nat.zero_le _⟩) ?_
  refine G.pop E dX9_table_4 rfl ?_
  refine G.aload_n E dX9_table_5 rfl 0 rfl ?_
  refine G.get E inX9 0 rfl rfl 15 (by decide) (f713 E.fx) rfl dX9_table_6 ?_
  refine G.if_ne (tgt := 15) E dX9_table_9 (by decide) (fun q => ?_) (fun q => ?_)
  · have h := ite_f h q
    refine G.aload_n E dX9_table_15 rfl 0 rfl ?_
    refine G.aload_n E dX9_table_16 rfl 0 rfl ?_
    refine G.get E inX9 0 rfl rfl 16 (by decide) (f714 E.fx) rfl dX9_table_17 ?_
    refine G.put (ws' := (wM ad cy (pI r1.2 2 (gI r1.2 9)))) E inX9 tyX9 tyX9_ok nmX9 0 rfl rfl 2 (by decide) (f700 E.fx) rfl rfl rfl rfl (Nat.le_of_ble_eq_true rfl) dX9_table_20 (wM_fI2 ad cy _ _) ?_
    refine G.aload_n E dX9_table_23 rfl 0 rfl ?_
    refine G.aload_n E dX9_table_24 rfl 0 rfl ?_
    refine G.get E inX9 0 rfl rfl 17 (by decide) (f715 E.fx) rfl dX9_table_25 ?_
    refine G.put (ws' := (wM ad cy (pI (pI r1.2 2 (gI r1.2 9)) 1 (gI (pI r1.2 2 (gI r1.2 9)) 10)))) E inX9 tyX9 tyX9_ok nmX9 0 rfl rfl 1 (by decide) (f699 E.fx) rfl rfl rfl rfl (Nat.le_of_ble_eq_true rfl) dX9_table_28 (wM_fI1 ad cy _ _) ?_
    refine G.iconst (v := 0) E dX9_table_31 (by decide) ?_
    refine G.istore_n (lv' := [(1, .int (0 : Int32)), (0, .ref (ad 0))]) E dX9_table_32 rfl (by decide) rfl ?_
    refine G.sub (lv' := [(0, .ref (ad 0)), (1, .int (0 : Int32))]) [1, 0] rfl ?_
    exact B_X9_table_L33 E K (pI (pI r1.2 2 (gI r1.2 9)) 1 (gI (pI r1.2 2 (gI r1.2 9)) 10)) (0 : Int32) h
  · have h := ite_t h q
    refine G.bipush (v := -103) E dX9_table_12 (by decide) ?_
    obtain rfl := Option.some.inj h
    exact K rfl _ _ dX9_table_14
set_option maxRecDepth 100000 in
set_option maxHeartbeats 4000000 in
theorem C_X9_table {l : Launch} {D : va_G} {cy : Nat → ClassId} {ad : Nat → Nat} {σ : ST}  {r : (Int32 × ST)} (h : D_X9_table σ = some r) : MI l yX9_table cX9_table 3 (some .int) 3 65 D cy (wM ad cy σ) [.ref (ad 0)] r.1 (wM ad cy r.2) :=
  MI.mk (lv := [(0, .ref (ad 0))]) (by decide) (Nat.le_of_ble_eq_true rfl) rfl (fun x _ _ E K => B_X9_table E K σ h)

noncomputable def D_X9_isPlayer (σ : ST) (p1 : Int32) : Option Int32 := (D_X9_within p1 (0 : Int32) ((gI σ 1) - (1 : Int32))).bind fun r1 => if ¬ vp_nar .boolean r1 = r1 then none else (some r1)
set_option maxRecDepth 100000 in
set_option maxHeartbeats 4000000 in
theorem B_X9_isPlayer {x : CX} {cy : Nat → ClassId} {ad : Nat → Nat} {r : Int32} {σ : ST} (E : Ev x cy cX9_isPlayer RX9 2 1 22) (K : RetI x cX9_isPlayer .boolean r (wM ad cy σ)) (p1 : Int32) (h : D_X9_isPlayer σ p1 = some r) : G x 0 0 0 [(0, .ref (ad 0)), (1, .int p1)] [] (wM ad cy σ) := by
  unfold D_X9_isPlayer at h
  refine G.iload_n E dX9_isPlayer_0 rfl 1 rfl ?_
  refine G.iconst (v := 0) E dX9_isPlayer_1 (by decide) ?_
  refine G.aload_n E dX9_isPlayer_2 rfl 0 rfl ?_
  refine G.get E inX9 0 rfl rfl 1 (by decide) (f699 E.fx) rfl dX9_isPlayer_3 ?_
  refine G.iconst (v := 1) E dX9_isPlayer_6 (by decide) ?_
  refine G.isub E dX9_isPlayer_7 ?_
  obtain ⟨r1, h2, h⟩ := bind_s h
  refine G.retI E (runS (st := []) (As := [.int p1, .int (0 : Int32), .int ((gI σ 1) - (1 : Int32))]) E (C_X9_within h2) ck_X9_within (f814 E.fx) (f815 E.fx) (by decide) (by decide) rfl (Nat.le_of_ble_eq_true rfl) dX9_isPlayer_8 ⟨Nat.zero_le _, Nat.zero_le _⟩) ?_
  obtain ⟨hg, h⟩ := ite_n h
  obtain rfl := Option.some.inj h
  exact K (nar_okZ (Classical.not_not.mp hg)) _ _ dX9_isPlayer_11
set_option maxRecDepth 100000 in
set_option maxHeartbeats 4000000 in
theorem C_X9_isPlayer {l : Launch} {D : va_G} {cy : Nat → ClassId} {ad : Nat → Nat} {σ : ST} {p1 : Int32} {r : Int32} (h : D_X9_isPlayer σ p1 = some r) : MI l yX9_isPlayer cX9_isPlayer 2 (some .boolean) 1 22 D cy (wM ad cy σ) [.ref (ad 0), .int p1] r (wM ad cy σ) :=
  MI.mk (lv := [(0, .ref (ad 0)), (1, .int p1)]) (by decide) (Nat.le_of_ble_eq_true rfl) rfl (fun x _ _ E K => B_X9_isPlayer E K p1 h)

noncomputable def D_X9_rows (σ : ST)  : Option Int32 := some ((1 : Int32) <<< ((gI σ 2) &&& 31))
set_option maxRecDepth 100000 in
set_option maxHeartbeats 4000000 in
theorem B_X9_rows {x : CX} {cy : Nat → ClassId} {ad : Nat → Nat} {r : Int32} {σ : ST} (E : Ev x cy cX9_rows RX9 1 0 0) (K : RetI x cX9_rows .int r (wM ad cy σ))  (h : D_X9_rows σ = some r) : G x 0 0 0 [(0, .ref (ad 0))] [] (wM ad cy σ) := by
  unfold D_X9_rows at h
  refine G.iconst (v := 1) E dX9_rows_0 (by decide) ?_
  refine G.aload_n E dX9_rows_1 rfl 0 rfl ?_
  refine G.get E inX9 0 rfl rfl 2 (by decide) (f700 E.fx) rfl dX9_rows_2 ?_
  refine G.ishl E dX9_rows_5 ?_
  obtain rfl := Option.some.inj h
  exact K rfl _ _ dX9_rows_6
set_option maxRecDepth 100000 in
set_option maxHeartbeats 4000000 in
theorem C_X9_rows {l : Launch} {D : va_G} {cy : Nat → ClassId} {ad : Nat → Nat} {σ : ST}  {r : Int32} (h : D_X9_rows σ = some r) : MI l yX9_rows cX9_rows 1 (some .int) 0 0 D cy (wM ad cy σ) [.ref (ad 0)] r (wM ad cy σ) :=
  MI.mk (lv := [(0, .ref (ad 0))]) (by decide) (Nat.le_of_ble_eq_true rfl) rfl (fun x _ _ E K => B_X9_rows E K  h)

noncomputable def D_X9_turned_L4_body (rec4 : (Int32 × Int32 × Int32) → Option Int32) (σ : ST) (x1 : Int32) (x2 : Int32) (x3 : Int32) : Option Int32 := if (gI σ 2) ≤ x3 then (some x2) else (rec4 (x1, (x2 ||| (((x1 >>> (x3 &&& 31)) &&& (1 : Int32)) <<< ((((gI σ 2) - (1 : Int32)) - x3) &&& 31))), (x3 + 1)))
set_option maxRecDepth 100000 in
set_option maxHeartbeats 4000000 in
theorem B_X9_turned_L4_body {x : CX} {cy : Nat → ClassId} {ad : Nat → Nat} {r : Int32} {σ : ST} (E : Ev x cy cX9_turned RX9 4 0 0) (K : RetI x cX9_turned .int r (wM ad cy σ)) (rec4 : (Int32 × Int32 × Int32) → Option Int32) (hrec4 : ∀ a, rec4 a = some r → G x 0 0 4 [(0, .ref (ad 0)), (1, .int a.1), (2, .int a.2.1), (3, .int a.2.2)] [] (wM ad cy σ)) (σ9 : ST) (x1 : Int32) (x2 : Int32) (x3 : Int32) (h : D_X9_turned_L4_body rec4 σ x1 x2 x3 = some r) : G x 0 0 4 [(0, .ref (ad 0)), (1, .int x1), (2, .int x2), (3, .int x3)] [] (wM ad cy σ) := by
  unfold D_X9_turned_L4_body at h
  refine G.iload_n E dX9_turned_4 rfl 3 rfl ?_
  refine G.aload_n E dX9_turned_5 rfl 0 rfl ?_
  refine G.get E inX9 0 rfl rfl 2 (by decide) (f700 E.fx) rfl dX9_turned_6 ?_
  refine G.icmp_ge (tgt := 35) E dX9_turned_9 (by decide) (fun q => ?_) (fun q => ?_)
  · have h := ite_t h q
    refine G.iload_n E dX9_turned_35 rfl 2 rfl ?_
    obtain rfl := Option.some.inj h
    exact K rfl _ _ dX9_turned_36
  · have h := ite_f h q
    refine G.iload_n E dX9_turned_12 rfl 2 rfl ?_
    refine G.iload_n E dX9_turned_13 rfl 1 rfl ?_
    refine G.iload_n E dX9_turned_14 rfl 3 rfl ?_
    refine G.ishr E dX9_turned_15 ?_
    refine G.iconst (v := 1) E dX9_turned_16 (by decide) ?_
    refine G.iand E dX9_turned_17 ?_
    refine G.aload_n E dX9_turned_18 rfl 0 rfl ?_
    refine G.get E inX9 0 rfl rfl 2 (by decide) (f700 E.fx) rfl dX9_turned_19 ?_
    refine G.iconst (v := 1) E dX9_turned_22 (by decide) ?_
    refine G.isub E dX9_turned_23 ?_
    refine G.iload_n E dX9_turned_24 rfl 3 rfl ?_
    refine G.isub E dX9_turned_25 ?_
    refine G.ishl E dX9_turned_26 ?_
    refine G.ior E dX9_turned_27 ?_
    refine G.istore_n (lv' := [(2, .int (x2 ||| (((x1 >>> (x3 &&& 31)) &&& (1 : Int32)) <<< ((((gI σ 2) - (1 : Int32)) - x3) &&& 31)))), (0, .ref (ad 0)), (1, .int x1), (3, .int x3)]) E dX9_turned_28 rfl (by decide) rfl ?_
    refine G.iinc (w := x3 + 1) (lv' := [(3, .int (x3 + 1)), (2, .int (x2 ||| (((x1 >>> (x3 &&& 31)) &&& (1 : Int32)) <<< ((((gI σ 2) - (1 : Int32)) - x3) &&& 31)))), (0, .ref (ad 0)), (1, .int x1)]) E dX9_turned_29 3 rfl rfl (by decide) rfl ?_
    refine G.goto (tgt := 4) E dX9_turned_32 (by decide) ?_
    refine G.sub (lv' := [(0, .ref (ad 0)), (1, .int x1), (2, .int (x2 ||| (((x1 >>> (x3 &&& 31)) &&& (1 : Int32)) <<< ((((gI σ 2) - (1 : Int32)) - x3) &&& 31)))), (3, .int (x3 + 1))]) [2, 3, 1, 0] rfl ?_
    exact hrec4 (x1, (x2 ||| (((x1 >>> (x3 &&& 31)) &&& (1 : Int32)) <<< ((((gI σ 2) - (1 : Int32)) - x3) &&& 31))), (x3 + 1)) h
noncomputable def D_X9_turned_L4  (σ : ST) (x1 : Int32) (x2 : Int32) (x3 : Int32) : Option Int32 := itr (fun (rec4 : (Int32 × Int32 × Int32) → Option Int32) (a : (Int32 × Int32 × Int32)) => D_X9_turned_L4_body rec4 σ a.1 a.2.1 a.2.2) 200 (x1, x2, x3)
set_option maxRecDepth 100000 in
set_option maxHeartbeats 4000000 in
theorem B_X9_turned_L4 {x : CX} {cy : Nat → ClassId} {ad : Nat → Nat} {r : Int32} {σ : ST} (E : Ev x cy cX9_turned RX9 4 0 0) (K : RetI x cX9_turned .int r (wM ad cy σ))  (σ9 : ST) (x1 : Int32) (x2 : Int32) (x3 : Int32) (h : D_X9_turned_L4 σ x1 x2 x3 = some r) : G x 0 0 4 [(0, .ref (ad 0)), (1, .int x1), (2, .int x2), (3, .int x3)] [] (wM ad cy σ) :=
  itr_ind (P := fun a => G x 0 0 4 [(0, .ref (ad 0)), (1, .int a.1), (2, .int a.2.1), (3, .int a.2.2)] [] (wM ad cy σ)) (fun rec4 hrec4 a h => B_X9_turned_L4_body E K rec4 hrec4 σ a.1 a.2.1 a.2.2 h) 200 (x1, x2, x3) h
noncomputable def D_X9_turned (σ : ST) (p1 : Int32) : Option Int32 := D_X9_turned_L4 σ p1 (0 : Int32) (0 : Int32)
set_option maxRecDepth 100000 in
set_option maxHeartbeats 4000000 in
theorem B_X9_turned {x : CX} {cy : Nat → ClassId} {ad : Nat → Nat} {r : Int32} {σ : ST} (E : Ev x cy cX9_turned RX9 4 0 0) (K : RetI x cX9_turned .int r (wM ad cy σ)) (p1 : Int32) (h : D_X9_turned σ p1 = some r) : G x 0 0 0 [(0, .ref (ad 0)), (1, .int p1)] [] (wM ad cy σ) := by
  unfold D_X9_turned at h
  refine G.iconst (v := 0) E dX9_turned_0 (by decide) ?_
  refine G.istore_n (lv' := [(2, .int (0 : Int32)), (0, .ref (ad 0)), (1, .int p1)]) E dX9_turned_1 rfl (by decide) rfl ?_
  refine G.iconst (v := 0) E dX9_turned_2 (by decide) ?_
  refine G.istore_n (lv' := [(3, .int (0 : Int32)), (2, .int (0 : Int32)), (0, .ref (ad 0)), (1, .int p1)]) E dX9_turned_3 rfl (by decide) rfl ?_
  refine G.sub (lv' := [(0, .ref (ad 0)), (1, .int p1), (2, .int (0 : Int32)), (3, .int (0 : Int32))]) [2, 3, 1, 0] rfl ?_
  exact B_X9_turned_L4 E K σ p1 (0 : Int32) (0 : Int32) h
set_option maxRecDepth 100000 in
set_option maxHeartbeats 4000000 in
theorem C_X9_turned {l : Launch} {D : va_G} {cy : Nat → ClassId} {ad : Nat → Nat} {σ : ST} {p1 : Int32} {r : Int32} (h : D_X9_turned σ p1 = some r) : MI l yX9_turned cX9_turned 4 (some .int) 0 0 D cy (wM ad cy σ) [.ref (ad 0), .int p1] r (wM ad cy σ) :=
  MI.mk (lv := [(0, .ref (ad 0)), (1, .int p1)]) (by decide) (Nat.le_of_ble_eq_true rfl) rfl (fun x _ _ E K => B_X9_turned E K p1 h)
