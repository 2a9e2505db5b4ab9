noncomputable def D_X9_hitsBy (σ : ST) (p1 : Int32) (p2 : Int32) : Option Int32 := (D_X9_rows σ).bind fun r1 => (D_X9_turned σ p2).bind fun r3 => if p1.toInt < 1 ∨ 4 < p1.toInt then (some ((1 : Int32) <<< (p2 &&& 31))) else (if p1 = 1 then (some ((1 : Int32) <<< (r3 &&& 31))) else (if p1 = 2 then (some ((1 : Int32) <<< (((r1 - (1 : Int32)) - p2) &&& 31))) else (if p1 = 3 then (some (((1 : Int32) <<< (p2 &&& 31)) ||| ((1 : Int32) <<< (((r1 - (1 : Int32)) - p2) &&& 31)))) else (if p1 = 4 then (some ((((1 : Int32) <<< (p2 &&& 31)) ||| ((1 : Int32) <<< (((r1 - (1 : Int32)) - p2) &&& 31))) ||| ((1 : Int32) <<< (r3 &&& 31)))) else (none)))))
set_option maxRecDepth 100000 in
set_option maxHeartbeats 4000000 in
theorem B_X9_hitsBy {x : CX} {cy : Nat → ClassId} {ad : Nat → Nat} {r : Int32} {σ : ST} (E : Ev x cy cX9_hitsBy RX9 6 1 23) (K : RetI x cX9_hitsBy .int r (wM ad cy σ)) (p1 : Int32) (p2 : Int32) (h : D_X9_hitsBy σ p1 p2 = some r) : G x 0 0 0 [(0, .ref (ad 0)), (1, .int p1), (2, .int p2)] [] (wM ad cy σ) := by
  unfold D_X9_hitsBy at h
  refine G.iconst (v := 1) E dX9_hitsBy_0 (by decide) ?_
  refine G.iload_n E dX9_hitsBy_1 rfl 2 rfl ?_
  refine G.ishl E dX9_hitsBy_2 ?_
  refine G.istore_n (lv' := [(3, .int ((1 : Int32) <<< (p2 &&& 31))), (0, .ref (ad 0)), (1, .int p1), (2, .int p2)]) E dX9_hitsBy_3 rfl (by decide) rfl ?_
  refine G.iconst (v := 1) E dX9_hitsBy_4 (by decide) ?_
  refine G.aload_n E dX9_hitsBy_5 rfl 1 rfl ?_
  obtain ⟨r1, h2, h⟩ := bind_s h
  refine G.retI E (runV (st := [.int (1 : Int32)]) (As := []) E (C_X9_rows h2) ck_X9_rows (f868 E.fx) (f870 E.fx) (f34 E.fx) 0 9 rfl rfl rfl (by decide) (by decide) rfl (Nat.le_of_ble_eq_true rfl) dX9_hitsBy_6 ⟨Nat.zero_le _, Nat.zero_le _⟩) ?_
  refine G.iconst (v := 1) E dX9_hitsBy_9 (by decide) ?_
  refine G.isub E dX9_hitsBy_10 ?_
  refine G.iload_n E dX9_hitsBy_11 rfl 3 rfl ?_
  refine G.isub E dX9_hitsBy_12 ?_
  refine G.ishl E dX9_hitsBy_13 ?_
  refine G.istore (lv' := [(4, .int ((1 : Int32) <<< (((r1 - (1 : Int32)) - p2) &&& 31))), (3, .int ((1 : Int32) <<< (p2 &&& 31))), (0, .ref (ad 0)), (1, .int p1), (2, .int p2)]) E dX9_hitsBy_14 (by decide) rfl ?_
  refine G.iconst (v := 1) E dX9_hitsBy_16 (by decide) ?_
  refine G.aload_n E dX9_hitsBy_17 rfl 2 rfl ?_
  refine G.iload_n E dX9_hitsBy_18 rfl 4 rfl ?_
  obtain ⟨r3, h4, h⟩ := bind_s h
  refine G.retI E (runV (st := [.int (1 : Int32)]) (As := [.int p2]) E (C_X9_turned h4) ck_X9_turned (f872 E.fx) (f874 E.fx) (f35 E.fx) 0 9 rfl rfl rfl (by decide) (by decide) rfl (Nat.le_of_ble_eq_true rfl) dX9_hitsBy_19 ⟨Nat.zero_le _, Nat.zero_le _⟩) ?_
  refine G.ishl E dX9_hitsBy_22 ?_
  refine G.istore (lv' := [(5, .int ((1 : Int32) <<< (r3 &&& 31))), (4, .int ((1 : Int32) <<< (((r1 - (1 : Int32)) - p2) &&& 31))), (3, .int ((1 : Int32) <<< (p2 &&& 31))), (0, .ref (ad 0)), (1, .int p1), (2, .int p2)]) E dX9_hitsBy_23 (by decide) rfl ?_
  refine G.iload_n E dX9_hitsBy_25 rfl 4 rfl ?_
  by_cases q : p1.toInt < 1 ∨ 4 < p1.toInt
  · have h := ite_t h q
    refine G.tableOut (tgt := 75) E dX9_hitsBy_26 q (by decide) ?_
    refine G.iload_n E dX9_hitsBy_75 rfl 2 rfl ?_
    obtain rfl := Option.some.inj h
    exact K rfl _ _ dX9_hitsBy_76
  have h := ite_f h q
  by_cases q0 : p1 = 1
  · have h := ite_t h q0
    refine G.tableAt (n := 1) (off := 30) (tgt := 56) E q0 dX9_hitsBy_26 (by decide) (by decide) (by decide) (by decide) ?_
    refine G.iload E dX9_hitsBy_56 0 rfl ?_
    obtain rfl := Option.some.inj h
    exact K rfl _ _ dX9_hitsBy_58
  have h := ite_f h q0
  by_cases q1 : p1 = 2
  · have h := ite_t h q1
    refine G.tableAt (n := 2) (off := 33) (tgt := 59) E q1 dX9_hitsBy_26 (by decide) (by decide) (by decide) (by decide) ?_
    refine G.iload E dX9_hitsBy_59 1 rfl ?_
    obtain rfl := Option.some.inj h
    exact K rfl _ _ dX9_hitsBy_61
  have h := ite_f h q1
  by_cases q2 : p1 = 3
  · have h := ite_t h q2
    refine G.tableAt (n := 3) (off := 36) (tgt := 62) E q2 dX9_hitsBy_26 (by decide) (by decide) (by decide) (by decide) ?_
    refine G.iload_n E dX9_hitsBy_62 rfl 2 rfl ?_
    refine G.iload E dX9_hitsBy_63 1 rfl ?_
    refine G.ior E dX9_hitsBy_65 ?_
    obtain rfl := Option.some.inj h
    exact K rfl _ _ dX9_hitsBy_66
  have h := ite_f h q2
  by_cases q3 : p1 = 4
  · have h := ite_t h q3
    refine G.tableAt (n := 4) (off := 41) (tgt := 67) E q3 dX9_hitsBy_26 (by decide) (by decide) (by decide) (by decide) ?_
    refine G.iload_n E dX9_hitsBy_67 rfl 2 rfl ?_
    refine G.iload E dX9_hitsBy_68 1 rfl ?_
    refine G.ior E dX9_hitsBy_70 ?_
    refine G.iload E dX9_hitsBy_71 0 rfl ?_
    refine G.ior E dX9_hitsBy_73 ?_
    obtain rfl := Option.some.inj h
    exact K rfl _ _ dX9_hitsBy_74
  have h := ite_f h q3
  cases h
set_option maxRecDepth 100000 in
set_option maxHeartbeats 4000000 in
theorem C_X9_hitsBy {l : Launch} {D : va_G} {cy : Nat → ClassId} {ad : Nat → Nat} {σ : ST} {p1 : Int32} {p2 : Int32} {r : Int32} (h : D_X9_hitsBy σ p1 p2 = some r) : MI l yX9_hitsBy cX9_hitsBy 6 (some .int) 1 23 D cy (wM ad cy σ) [.ref (ad 0), .int p1, .int p2] r (wM ad cy σ) :=
  MI.mk (lv := [(0, .ref (ad 0)), (1, .int p1), (2, .int p2)]) (by decide) (Nat.le_of_ble_eq_true rfl) rfl (fun x _ _ E K => B_X9_hitsBy E K p1 p2 h)

noncomputable def D_X9_rowsOf_b100 (rec4 : (Int32 × Int32 × Int32) → Option Int32) (σ : ST) (x1 : Int32) (x3 : Int32) (s0 : Int32) (s1 : Int32) : Option Int32 := rec4 (x1, (s1 ||| s0), (x3 + 1))
set_option maxRecDepth 100000 in
set_option maxHeartbeats 4000000 in
theorem B_X9_rowsOf_b100 {x : CX} {cy : Nat → ClassId} {ad : Nat → Nat} {r : Int32} {σ : ST} (E : Ev x cy cX9_rowsOf RX9 6 2 48) (K : RetI x cX9_rowsOf .int r (wM ad cy σ)) (rec4 : (Int32 × Int32 × Int32) → Option Int32) (hrec4 : ∀ a, rec4 a = some r → G x 0 0 4 [(0, .ref (ad 0)), (1, .int a.1), (2, .int a.2.1), (3, .int a.2.2)] [] (wM ad cy σ)) (σ9 : ST) (x1 : Int32) (x3 : Int32) (s0 : Int32) (s1 : Int32) (h : D_X9_rowsOf_b100 rec4 σ x1 x3 s0 s1 = some r) : G x 0 0 100 [(0, .ref (ad 0)), (1, .int x1), (3, .int x3)] [.int s0, .int s1] (wM ad cy σ) := by
  unfold D_X9_rowsOf_b100 at h
  refine G.ior E dX9_rowsOf_100 ?_
  refine G.istore_n (lv' := [(2, .int (s1 ||| s0)), (0, .ref (ad 0)), (1, .int x1), (3, .int x3)]) E dX9_rowsOf_101 rfl (by decide) rfl ?_
  refine G.iinc (w := x3 + 1) (lv' := [(3, .int (x3 + 1)), (2, .int (s1 ||| s0)), (0, .ref (ad 0)), (1, .int x1)]) E dX9_rowsOf_102 3 rfl rfl (by decide) rfl ?_
  refine G.goto (tgt := 4) E dX9_rowsOf_105 (by decide) ?_
  refine G.sub (lv' := [(0, .ref (ad 0)), (1, .int x1), (2, .int (s1 ||| s0)), (3, .int (x3 + 1))]) [2, 3, 1, 0] rfl ?_
  exact hrec4 (x1, (s1 ||| s0), (x3 + 1)) h
noncomputable def D_X9_rowsOf_b79 (rec4 : (Int32 × Int32 × Int32) → Option Int32) (rec18 : (Int32 × Int32 × Int32 × Int32 × Int32) → Option Int32) (σ : ST) (x1 : Int32) (x2 : Int32) (x3 : Int32) (x5 : Int32) (s0 : Int32) : Option Int32 := rec18 (x1, x2, x3, s0, (x5 + 1))
set_option maxRecDepth 100000 in
set_option maxHeartbeats 4000000 in
theorem B_X9_rowsOf_b79 {x : CX} {cy : Nat → ClassId} {ad : Nat → Nat} {r : Int32} {σ : ST} (E : Ev x cy cX9_rowsOf RX9 6 2 48) (K : RetI x cX9_rowsOf .int r (wM ad cy σ)) (rec4 : (Int32 × Int32 × Int32) → Option Int32) (hrec4 : ∀ a, rec4 a = some r → G x 0 0 4 [(0, .ref (ad 0)), (1, .int a.1), (2, .int a.2.1), (3, .int a.2.2)] [] (wM ad cy σ)) (rec18 : (Int32 × Int32 × Int32 × Int32 × Int32) → Option Int32) (hrec18 : ∀ a, rec18 a = some r → G x 0 0 18 [(0, .ref (ad 0)), (1, .int a.1), (2, .int a.2.1), (3, .int a.2.2.1), (4, .int a.2.2.2.1), (5, .int a.2.2.2.2)] [] (wM ad cy σ)) (σ9 : ST) (x1 : Int32) (x2 : Int32) (x3 : Int32) (x5 : Int32) (s0 : Int32) (h : D_X9_rowsOf_b79 rec4 rec18 σ x1 x2 x3 x5 s0 = some r) : G x 0 0 79 [(0, .ref (ad 0)), (1, .int x1), (2, .int x2), (3, .int x3), (5, .int x5)] [.int s0] (wM ad cy σ) := by
  unfold D_X9_rowsOf_b79 at h
  refine G.istore (lv' := [(4, .int s0), (0, .ref (ad 0)), (1, .int x1), (2, .int x2), (3, .int x3), (5, .int x5)]) E dX9_rowsOf_79 (by decide) rfl ?_
  refine G.iinc (w := x5 + 1) (lv' := [(5, .int (x5 + 1)), (4, .int s0), (0, .ref (ad 0)), (1, .int x1), (2, .int x2), (3, .int x3)]) E dX9_rowsOf_81 5 rfl rfl (by decide) rfl ?_
  refine G.goto (tgt := 18) E dX9_rowsOf_84 (by decide) ?_
  refine G.sub (lv' := [(0, .ref (ad 0)), (1, .int x1), (2, .int x2), (3, .int x3), (4, .int s0), (5, .int (x5 + 1))]) [2, 3, 4, 5, 1, 0] rfl ?_
  exact hrec18 (x1, x2, x3, s0, (x5 + 1)) h
noncomputable def D_X9_rowsOf_b78 (rec4 : (Int32 × Int32 × Int32) → Option Int32) (rec18 : (Int32 × Int32 × Int32 × Int32 × Int32) → Option Int32) (σ : ST) (x1 : Int32) (x2 : Int32) (x3 : Int32) (x5 : Int32) : Option Int32 := D_X9_rowsOf_b79 rec4 rec18 σ x1 x2 x3 x5 (0 : Int32)
set_option maxRecDepth 100000 in
set_option maxHeartbeats 4000000 in
theorem B_X9_rowsOf_b78 {x : CX} {cy : Nat → ClassId} {ad : Nat → Nat} {r : Int32} {σ : ST} (E : Ev x cy cX9_rowsOf RX9 6 2 48) (K : RetI x cX9_rowsOf .int r (wM ad cy σ)) (rec4 : (Int32 × Int32 × Int32) → Option Int32) (hrec4 : ∀ a, rec4 a = some r → G x 0 0 4 [(0, .ref (ad 0)), (1, .int a.1), (2, .int a.2.1), (3, .int a.2.2)] [] (wM ad cy σ)) (rec18 : (Int32 × Int32 × Int32 × Int32 × Int32) → Option Int32) (hrec18 : ∀ a, rec18 a = some r → G x 0 0 18 [(0, .ref (ad 0)), (1, .int a.1), (2, .int a.2.1), (3, .int a.2.2.1), (4, .int a.2.2.2.1), (5, .int a.2.2.2.2)] [] (wM ad cy σ)) (σ9 : ST) (x1 : Int32) (x2 : Int32) (x3 : Int32) (x5 : Int32) (h : D_X9_rowsOf_b78 rec4 rec18 σ x1 x2 x3 x5 = some r) : G x 0 0 78 [(0, .ref (ad 0)), (1, .int x1), (2, .int x2), (3, .int x3), (5, .int x5)] [] (wM ad cy σ) := by
  unfold D_X9_rowsOf_b78 at h
  refine G.iconst (v := 0) E dX9_rowsOf_78 (by decide) ?_
  refine G.sub (lv' := [(0, .ref (ad 0)), (1, .int x1), (2, .int x2), (3, .int x3), (5, .int x5)]) [0, 1, 2, 3, 4] rfl ?_
  exact B_X9_rowsOf_b79 E K rec4 hrec4 rec18 hrec18 σ x1 x2 x3 x5 (0 : Int32) h
noncomputable def D_X9_rowsOf_b74 (rec4 : (Int32 × Int32 × Int32) → Option Int32) (rec18 : (Int32 × Int32 × Int32 × Int32 × Int32) → Option Int32) (σ : ST) (x1 : Int32) (x2 : Int32) (x3 : Int32) (x5 : Int32) : Option Int32 := D_X9_rowsOf_b79 rec4 rec18 σ x1 x2 x3 x5 (1 : Int32)
set_option maxRecDepth 100000 in
set_option maxHeartbeats 4000000 in
theorem B_X9_rowsOf_b74 {x : CX} {cy : Nat → ClassId} {ad : Nat → Nat} {r : Int32} {σ : ST} (E : Ev x cy cX9_rowsOf RX9 6 2 48) (K : RetI x cX9_rowsOf .int r (wM ad cy σ)) (rec4 : (Int32 × Int32 × Int32) → Option Int32) (hrec4 : ∀ a, rec4 a = some r → G x 0 0 4 [(0, .ref (ad 0)), (1, .int a.1), (2, .int a.2.1), (3, .int a.2.2)] [] (wM ad cy σ)) (rec18 : (Int32 × Int32 × Int32 × Int32 × Int32) → Option Int32) (hrec18 : ∀ a, rec18 a = some r → G x 0 0 18 [(0, .ref (ad 0)), (1, .int a.1), (2, .int a.2.1), (3, .int a.2.2.1), (4, .int a.2.2.2.1), (5, .int a.2.2.2.2)] [] (wM ad cy σ)) (σ9 : ST) (x1 : Int32) (x2 : Int32) (x3 : Int32) (x5 : Int32) (h : D_X9_rowsOf_b74 rec4 rec18 σ x1 x2 x3 x5 = some r) : G x 0 0 74 [(0, .ref (ad 0)), (1, .int x1), (2, .int x2), (3, .int x3), (5, .int x5)] [] (wM ad cy σ) := by
  unfold D_X9_rowsOf_b74 at h
  refine G.iconst (v := 1) E dX9_rowsOf_74 (by decide) ?_
  refine G.goto (tgt := 79) E dX9_rowsOf_75 (by decide) ?_
  refine G.sub (lv' := [(0, .ref (ad 0)), (1, .int x1), (2, .int x2), (3, .int x3), (5, .int x5)]) [0, 1, 2, 3, 4] rfl ?_
  exact B_X9_rowsOf_b79 E K rec4 hrec4 rec18 hrec18 σ x1 x2 x3 x5 (1 : Int32) h
noncomputable def D_X9_rowsOf_L18_body (rec4 : (Int32 × Int32 × Int32) → Option Int32) (rec18 : (Int32 × Int32 × Int32 × Int32 × Int32) → Option Int32) (σ : ST) (x1 : Int32) (x2 : Int32) (x3 : Int32) (x4 : Int32) (x5 : Int32) : Option Int32 := if (gI σ 6) ≤ x5 then (if x4 = 0 then (D_X9_rowsOf_b100 rec4 σ x1 x3 (0 : Int32) x2) else (D_X9_rowsOf_b100 rec4 σ x1 x3 ((1 : Int32) <<< (x3 &&& 31)) x2)) else (if x4 = 0 then (D_X9_rowsOf_b78 rec4 rec18 σ x1 x2 x3 x5) else (if x5 < 0 ∨ 6 ≤ x5.toNatClampNeg then none else (if (gA σ 3 x5.toNatClampNeg) = x1 then (if x1 < 0 ∨ 4 ≤ x1.toNatClampNeg then none else ((D_X9_hitsBy σ (gA σ 0 x1.toNatClampNeg) x3).bind fun r3 => if x5 < 0 ∨ 6 ≤ x5.toNatClampNeg then none else (if x5 < 0 ∨ 6 ≤ x5.toNatClampNeg then none else (if ((r3 >>> ((gA σ 4 x5.toNatClampNeg) &&& 31)) &&& (1 : Int32)) = (gA σ 5 x5.toNatClampNeg) then (D_X9_rowsOf_b74 rec4 rec18 σ x1 x2 x3 x5) else (D_X9_rowsOf_b78 rec4 rec18 σ x1 x2 x3 x5))))) else (D_X9_rowsOf_b74 rec4 rec18 σ x1 x2 x3 x5))))
set_option maxRecDepth 100000 in
set_option maxHeartbeats 4000000 in
theorem B_X9_rowsOf_L18_body {x : CX} {cy : Nat → ClassId} {ad : Nat → Nat} {r : Int32} {σ : ST} (E : Ev x cy cX9_rowsOf RX9 6 2 48) (K : RetI x cX9_rowsOf .int r (wM ad cy σ)) (rec4 : (Int32 × Int32 × Int32) → Option Int32) (hrec4 : ∀ a, rec4 a = some r → G x 0 0 4 [(0, .ref (ad 0)), (1, .int a.1), (2, .int a.2.1), (3, .int a.2.2)] [] (wM ad cy σ)) (rec18 : (Int32 × Int32 × Int32 × Int32 × Int32) → Option Int32) (hrec18 : ∀ a, rec18 a = some r → G x 0 0 18 [(0, .ref (ad 0)), (1, .int a.1), (2, .int a.2.1), (3, .int a.2.2.1), (4, .int a.2.2.2.1), (5, .int a.2.2.2.2)] [] (wM ad cy σ)) (σ9 : ST) (x1 : Int32) (x2 : Int32) (x3 : Int32) (x4 : Int32) (x5 : Int32) (h : D_X9_rowsOf_L18_body rec4 rec18 σ x1 x2 x3 x4 x5 = some r) : G x 0 0 18 [(0, .ref (ad 0)), (1, .int x1), (2, .int x2), (3, .int x3), (4, .int x4), (5, .int x5)] [] (wM ad cy σ) := by
  unfold D_X9_rowsOf_L18_body at h
  refine G.iload E dX9_rowsOf_18 5 rfl ?_
  refine G.aload_n E dX9_rowsOf_20 rfl 0 rfl ?_
  refine G.get E inX9 0 rfl rfl 9 (by decide) (f707 E.fx) rfl dX9_rowsOf_21 ?_
  refine G.icmp_ge (tgt := 87) E dX9_rowsOf_24 (by decide) (fun q => ?_) (fun q => ?_)
  · have h := ite_t h q
    refine G.iload_n E dX9_rowsOf_87 rfl 2 rfl ?_
    refine G.iload E dX9_rowsOf_88 4 rfl ?_
    refine G.if_eq (tgt := 99) E dX9_rowsOf_90 (by decide) (fun q => ?_) (fun q => ?_)
    · have h := ite_t h q
      refine G.iconst (v := 0) E dX9_rowsOf_99 (by decide) ?_
      refine G.sub (lv' := [(0, .ref (ad 0)), (1, .int x1), (3, .int x3)]) [0, 1, 3] rfl ?_
      exact B_X9_rowsOf_b100 E K rec4 hrec4 σ x1 x3 (0 : Int32) x2 h
    · have h := ite_f h q
      refine G.iconst (v := 1) E dX9_rowsOf_93 (by decide) ?_
      refine G.iload_n E dX9_rowsOf_94 rfl 3 rfl ?_
      refine G.ishl E dX9_rowsOf_95 ?_
      refine G.goto (tgt := 100) E dX9_rowsOf_96 (by decide) ?_
      refine G.sub (lv' := [(0, .ref (ad 0)), (1, .int x1), (3, .int x3)]) [0, 1, 3] rfl ?_
      exact B_X9_rowsOf_b100 E K rec4 hrec4 σ x1 x3 ((1 : Int32) <<< (x3 &&& 31)) x2 h
  · have h := ite_f h q
    refine G.iload E dX9_rowsOf_27 4 rfl ?_
    refine G.if_eq (tgt := 78) E dX9_rowsOf_29 (by decide) (fun q => ?_) (fun q => ?_)
    · have h := ite_t h q
      refine G.sub (lv' := [(0, .ref (ad 0)), (1, .int x1), (2, .int x2), (3, .int x3), (5, .int x5)]) [0, 1, 2, 3, 5] rfl ?_
      exact B_X9_rowsOf_b78 E K rec4 hrec4 rec18 hrec18 σ x1 x2 x3 x5 h
    · have h := ite_f h q
      refine G.aload_n E dX9_rowsOf_32 rfl 0 rfl ?_
      refine G.get E inX9 0 rfl rfl 10 (by decide) (f708 E.fx) rfl dX9_rowsOf_33 ?_
      refine G.iload E dX9_rowsOf_36 5 rfl ?_
      obtain ⟨hg, h⟩ := ite_n h
      refine G.iald E 4 0 rfl rfl hg dX9_rowsOf_38 ?_
      refine G.iload_n E dX9_rowsOf_39 rfl 1 rfl ?_
      refine G.icmp_ne (tgt := 74) E dX9_rowsOf_40 (by decide) (fun q => ?_) (fun q => ?_)
      · have h := ite_f h q
        refine G.sub (lv' := [(0, .ref (ad 0)), (1, .int x1), (2, .int x2), (3, .int x3), (5, .int x5)]) [0, 1, 2, 3, 5] rfl ?_
        exact B_X9_rowsOf_b74 E K rec4 hrec4 rec18 hrec18 σ x1 x2 x3 x5 h
      · have h := ite_t h q
        refine G.aload_n E dX9_rowsOf_43 rfl 0 rfl ?_
        refine G.aload_n E dX9_rowsOf_44 rfl 0 rfl ?_
        refine G.get E inX9 0 rfl rfl 3 (by decide) (f701 E.fx) rfl dX9_rowsOf_45 ?_
        refine G.iload_n E dX9_rowsOf_48 rfl 1 rfl ?_
        obtain ⟨hg, h⟩ := ite_n h
        refine G.iald E 1 0 rfl rfl hg dX9_rowsOf_49 ?_
        refine G.iload_n E dX9_rowsOf_50 rfl 3 rfl ?_
        obtain ⟨r3, h4, h⟩ := bind_s h
        refine G.retI E (runV (st := []) (As := [.int (gA σ 0 x1.toNatClampNeg), .int x3]) E (C_X9_hitsBy h4) ck_X9_hitsBy (f864 E.fx) (f866 E.fx) (f33 E.fx) 0 9 rfl rfl rfl (by decide) (by decide) rfl (Nat.le_of_ble_eq_true rfl) dX9_rowsOf_51 ⟨Nat.zero_le _, Nat.zero_le _⟩) ?_
        refine G.aload_n E dX9_rowsOf_54 rfl 0 rfl ?_
        refine G.get E inX9 0 rfl rfl 11 (by decide) (f709 E.fx) rfl dX9_rowsOf_55 ?_
        refine G.iload E dX9_rowsOf_58 5 rfl ?_
        obtain ⟨hg, h⟩ := ite_n h
        refine G.iald E 5 0 rfl rfl hg dX9_rowsOf_60 ?_
        refine G.ishr E dX9_rowsOf_61 ?_
        refine G.iconst (v := 1) E dX9_rowsOf_62 (by decide) ?_
        refine G.iand E dX9_rowsOf_63 ?_
        refine G.aload_n E dX9_rowsOf_64 rfl 0 rfl ?_
        refine G.get E inX9 0 rfl rfl 12 (by decide) (f710 E.fx) rfl dX9_rowsOf_65 ?_
        refine G.iload E dX9_rowsOf_68 5 rfl ?_
        obtain ⟨hg, h⟩ := ite_n h
        refine G.iald E 6 0 rfl rfl hg dX9_rowsOf_70 ?_
        refine G.icmp_ne (tgt := 78) E dX9_rowsOf_71 (by decide) (fun q => ?_) (fun q => ?_)
        · have h := ite_f h q
          refine G.sub (lv' := [(0, .ref (ad 0)), (1, .int x1), (2, .int x2), (3, .int x3), (5, .int x5)]) [0, 1, 2, 3, 5] rfl ?_
          exact B_X9_rowsOf_b78 E K rec4 hrec4 rec18 hrec18 σ x1 x2 x3 x5 h
        · have h := ite_t h q
          refine G.sub (lv' := [(0, .ref (ad 0)), (1, .int x1), (2, .int x2), (3, .int x3), (5, .int x5)]) [0, 1, 2, 3, 5] rfl ?_
          exact B_X9_rowsOf_b74 E K rec4 hrec4 rec18 hrec18 σ x1 x2 x3 x5 h
noncomputable def D_X9_rowsOf_L18 (rec4 : (Int32 × Int32 × Int32) → Option Int32) (σ : ST) (x1 : Int32) (x2 : Int32) (x3 : Int32) (x4 : Int32) (x5 : Int32) : Option Int32 := itr (fun (rec18 : (Int32 × Int32 × Int32 × Int32 × Int32) → Option Int32) (a : (Int32 × Int32 × Int32 × Int32 × Int32)) => D_X9_rowsOf_L18_body rec4 rec18 σ a.1 a.2.1 a.2.2.1 a.2.2.2.1 a.2.2.2.2) 200 (x1, x2, x3, x4, x5)
set_option maxRecDepth 100000 in
set_option maxHeartbeats 4000000 in
theorem B_X9_rowsOf_L18 {x : CX} {cy : Nat → ClassId} {ad : Nat → Nat} {r : Int32} {σ : ST} (E : Ev x cy cX9_rowsOf RX9 6 2 48) (K : RetI x cX9_rowsOf .int r (wM ad cy σ)) (rec4 : (Int32 × Int32 × Int32) → Option Int32) (hrec4 : ∀ a, rec4 a = some r → G x 0 0 4 [(0, .ref (ad 0)), (1, .int a.1), (2, .int a.2.1), (3, .int a.2.2)] [] (wM ad cy σ)) (σ9 : ST) (x1 : Int32) (x2 : Int32) (x3 : Int32) (x4 : Int32) (x5 : Int32) (h : D_X9_rowsOf_L18 rec4 σ x1 x2 x3 x4 x5 = some r) : G x 0 0 18 [(0, .ref (ad 0)), (1, .int x1), (2, .int x2), (3, .int x3), (4, .int x4), (5, .int x5)] [] (wM ad cy σ) :=
  itr_ind (P := fun a => G x 0 0 18 [(0, .ref (ad 0)), (1, .int a.1), (2, .int a.2.1), (3, .int a.2.2.1), (4, .int a.2.2.2.1), (5, .int a.2.2.2.2)] [] (wM ad cy σ)) (fun rec18 hrec18 a h => B_X9_rowsOf_L18_body E K rec4 hrec4 rec18 hrec18 σ a.1 a.2.1 a.2.2.1 a.2.2.2.1 a.2.2.2.2 h) 200 (x1, x2, x3, x4, x5) h
noncomputable def D_X9_rowsOf_L4_body (rec4 : (Int32 × Int32 × Int32) → Option Int32) (σ : ST) (x1 : Int32) (x2 : Int32) (x3 : Int32) : Option Int32 := (D_X9_rows σ).bind fun r1 => if r1 ≤ x3 then (some x2) else (D_X9_rowsOf_L18 rec4 σ x1 x2 x3 (1 : Int32) (0 : Int32))
set_option maxRecDepth 100000 in
set_option maxHeartbeats 4000000 in
theorem B_X9_rowsOf_L4_body {x : CX} {cy : Nat → ClassId} {ad : Nat → Nat} {r : Int32} {σ : ST} (E : Ev x cy cX9_rowsOf RX9 6 2 48) (K : RetI x cX9_rowsOf .int r (wM ad cy σ)) (rec4 : (Int32 × Int32 × Int32) → Option Int32) (hrec4 : ∀ a, rec4 a = some r → G x 0 0 4 [(0, .ref (ad 0)), (1, .int a.1), (2, .int a.2.1), (3, .int a.2.2)] [] (wM ad cy σ)) (σ9 : ST) (x1 : Int32) (x2 : Int32) (x3 : Int32) (h : D_X9_rowsOf_L4_body rec4 σ x1 x2 x3 = some r) : G x 0 0 4 [(0, .ref (ad 0)), (1, .int x1), (2, .int x2), (3, .int x3)] [] (wM ad cy σ) := by
  unfold D_X9_rowsOf_L4_body at h
  refine G.iload_n E dX9_rowsOf_4 rfl 3 rfl ?_
  refine G.aload_n E dX9_rowsOf_5 rfl 0 rfl ?_
  obtain ⟨r1, h2, h⟩ := bind_s h
  refine G.retI E (runV (st := [.int x3]) (As := []) E (C_X9_rows h2) ck_X9_rows (f868 E.fx) (f870 E.fx) (f34 E.fx) 0 9 rfl rfl rfl (by decide) (by decide) rfl (Nat.le_of_ble_eq_true rfl) dX9_rowsOf_6 ⟨Nat.zero_le _, Nat.zero_le _⟩) ?_
  refine G.icmp_ge (tgt := 108) E dX9_rowsOf_9 (by decide) (fun q => ?_) (fun q => ?_)
  · have h := ite_t h q
    refine G.iload_n E dX9_rowsOf_108 rfl 2 rfl ?_
    obtain rfl := Option.some.inj h
    exact K rfl _ _ dX9_rowsOf_109
  · have h := ite_f h q
    refine G.iconst (v := 1) E dX9_rowsOf_12 (by decide) ?_
    refine G.istore (lv' := [(4, .int (1 : Int32)), (0, .ref (ad 0)), (1, .int x1), (2, .int x2), (3, .int x3)]) E dX9_rowsOf_13 (by decide) rfl ?_
    refine G.iconst (v := 0) E dX9_rowsOf_15 (by decide) ?_
    refine G.istore (lv' := [(5, .int (0 : Int32)), (4, .int (1 : Int32)), (0, .ref (ad 0)), (1, .int x1), (2, .int x2), (3, .int x3)]) E dX9_rowsOf_16 (by decide) rfl ?_
    refine G.sub (lv' := [(0, .ref (ad 0)), (1, .int x1), (2, .int x2), (3, .int x3), (4, .int (1 : Int32)), (5, .int (0 : Int32))]) [2, 3, 4, 5, 1, 0] rfl ?_
    exact B_X9_rowsOf_L18 E K rec4 hrec4 σ x1 x2 x3 (1 : Int32) (0 : Int32) h
noncomputable def D_X9_rowsOf_L4  (σ : ST) (x1 : Int32) (x2 : Int32) (x3 : Int32) : Option Int32 := itr (fun (rec4 : (Int32 × Int32 × Int32) → Option Int32) (a : (Int32 × Int32 × Int32)) => D_X9_rowsOf_L4_body rec4 σ a.1 a.2.1 a.2.2) 200 (x1, x2, x3)
set_option maxRecDepth 100000 in
set_option maxHeartbeats 4000000 in
theorem B_X9_rowsOf_L4 {x : CX} {cy : Nat → ClassId} {ad : Nat → Nat} {r : Int32} {σ : ST} (E : Ev x cy cX9_rowsOf RX9 6 2 48) (K : RetI x cX9_rowsOf .int r (wM ad cy σ))  (σ9 : ST) (x1 : Int32) (x2 : Int32) (x3 : Int32) (h : D_X9_rowsOf_L4 σ x1 x2 x3 = some r) : G x 0 0 4 [(0, .ref (ad 0)), (1, .int x1), (2, .int x2), (3, .int x3)] [] (wM ad cy σ) :=
  itr_ind (P := fun a => G x 0 0 4 [(0, .ref (ad 0)), (1, .int a.1), (2, .int a.2.1), (3, .int a.2.2)] [] (wM ad cy σ)) (fun rec4 hrec4 a h => B_X9_rowsOf_L4_body E K rec4 hrec4 σ a.1 a.2.1 a.2.2 h) 200 (x1, x2, x3) h
noncomputable def D_X9_rowsOf (σ : ST) (p1 : Int32) : Option Int32 := D_X9_rowsOf_L4 σ p1 (0 : Int32) (0 : Int32)
set_option maxRecDepth 100000 in
set_option maxHeartbeats 4000000 in
theorem B_X9_rowsOf {x : CX} {cy : Nat → ClassId} {ad : Nat → Nat} {r : Int32} {σ : ST} (E : Ev x cy cX9_rowsOf RX9 6 2 48) (K : RetI x cX9_rowsOf .int r (wM ad cy σ)) (p1 : Int32) (h : D_X9_rowsOf σ p1 = some r) : G x 0 0 0 [(0, .ref (ad 0)), (1, .int p1)] [] (wM ad cy σ) := by
  unfold D_X9_rowsOf at h
  refine G.iconst (v := 0) E dX9_rowsOf_0 (by decide) ?_
  refine G.istore_n (lv' := [(2, .int (0 : Int32)), (0, .ref (ad 0)), (1, .int p1)]) E dX9_rowsOf_1 rfl (by decide) rfl ?_
  refine G.iconst (v := 0) E dX9_rowsOf_2 (by decide) ?_
  refine G.istore_n (lv' := [(3, .int (0 : Int32)), (2, .int (0 : Int32)), (0, .ref (ad 0)), (1, .int p1)]) E dX9_rowsOf_3 rfl (by decide) rfl ?_
  refine G.sub (lv' := [(0, .ref (ad 0)), (1, .int p1), (2, .int (0 : Int32)), (3, .int (0 : Int32))]) [2, 3, 1, 0] rfl ?_
  exact B_X9_rowsOf_L4 E K σ p1 (0 : Int32) (0 : Int32) h
set_option maxRecDepth 100000 in
set_option maxHeartbeats 4000000 in
theorem C_X9_rowsOf {l : Launch} {D : va_G} {cy : Nat → ClassId} {ad : Nat → Nat} {σ : ST} {p1 : Int32} {r : Int32} (h : D_X9_rowsOf σ p1 = some r) : MI l yX9_rowsOf cX9_rowsOf 6 (some .int) 2 48 D cy (wM ad cy σ) [.ref (ad 0), .int p1] r (wM ad cy σ) :=
  MI.mk (lv := [(0, .ref (ad 0)), (1, .int p1)]) (by decide) (Nat.le_of_ble_eq_true rfl) rfl (fun x _ _ E K => B_X9_rowsOf E K p1 h)

noncomputable def D_X9_size_L4_body (rec4 : (Int32 × Int32 × Int32) → Option Int32) (x0 : Int32) (x1 : Int32) (x2 : Int32) : Option Int32 := if (16 : Int32) ≤ x2 then (some x1) else (rec4 (x0, (x1 + ((x0 >>> (x2 &&& 31)) &&& (1 : Int32))), (x2 + 1)))
set_option maxRecDepth 100000 in
set_option maxHeartbeats 4000000 in
theorem B_X9_size_L4_body {x : CX} {cy : Nat → ClassId} {ws : va_W} {r : Int32} (E : Ev x cy cX9_size RX9 3 0 0) (K : RetI x cX9_size .int r ws) (rec4 : (Int32 × Int32 × Int32) → Option Int32) (hrec4 : ∀ a, rec4 a = some r → G x 0 0 4 [(0, .int a.1), (1, .int a.2.1), (2, .int a.2.2)] [] ws) (x0 : Int32) (x1 : Int32) (x2 : Int32) (h : D_X9_size_L4_body rec4 x0 x1 x2 = some r) : G x 0 0 4 [(0, .int x0), (1, .int x1), (2, .int x2)] [] ws := by
  unfold D_X9_size_L4_body at h
  refine G.iload_n E dX9_size_4 rfl 2 rfl ?_
  refine G.bipush (v := 16) E dX9_size_5 (by decide) ?_
  refine G.icmp_ge (tgt := 24) E dX9_size_7 (by decide) (fun q => ?_) (fun q => ?_)
  · have h := ite_t h q
    refine G.iload_n E dX9_size_24 rfl 1 rfl ?_
    obtain rfl := Option.some.inj h
    exact K rfl _ _ dX9_size_25
  · have h := ite_f h q
    refine G.iload_n E dX9_size_10 rfl 1 rfl ?_
    refine G.iload_n E dX9_size_11 rfl 0 rfl ?_
    refine G.iload_n E dX9_size_12 rfl 2 rfl ?_
    refine G.ishr E dX9_size_13 ?_
    refine G.iconst (v := 1) E dX9_size_14 (by decide) ?_
    refine G.iand E dX9_size_15 ?_
    refine G.iadd E dX9_size_16 ?_
    refine G.istore_n (lv' := [(1, .int (x1 + ((x0 >>> (x2 &&& 31)) &&& (1 : Int32)))), (0, .int x0), (2, .int x2)]) E dX9_size_17 rfl (by decide) rfl ?_
    refine G.iinc (w := x2 + 1) (lv' := [(2, .int (x2 + 1)), (1, .int (x1 + ((x0 >>> (x2 &&& 31)) &&& (1 : Int32)))), (0, .int x0)]) E dX9_size_18 2 rfl rfl (by decide) rfl ?_
    refine G.goto (tgt := 4) E dX9_size_21 (by decide) ?_
    refine G.sub (lv' := [(0, .int x0), (1, .int (x1 + ((x0 >>> (x2 &&& 31)) &&& (1 : Int32)))), (2, .int (x2 + 1))]) [2, 1, 0] rfl ?_
    exact hrec4 (x0, (x1 + ((x0 >>> (x2 &&& 31)) &&& (1 : Int32))), (x2 + 1)) h
noncomputable def D_X9_size_L4  (x0 : Int32) (x1 : Int32) (x2 : Int32) : Option Int32 := itr (fun (rec4 : (Int32 × Int32 × Int32) → Option Int32) (a : (Int32 × Int32 × Int32)) => D_X9_size_L4_body rec4 a.1 a.2.1 a.2.2) 200 (x0, x1, x2)
set_option maxRecDepth 100000 in
set_option maxHeartbeats 4000000 in
theorem B_X9_size_L4 {x : CX} {cy : Nat → ClassId} {ws : va_W} {r : Int32} (E : Ev x cy cX9_size RX9 3 0 0) (K : RetI x cX9_size .int r ws)  (x0 : Int32) (x1 : Int32) (x2 : Int32) (h : D_X9_size_L4 x0 x1 x2 = some r) : G x 0 0 4 [(0, .int x0), (1, .int x1), (2, .int x2)] [] ws :=
  itr_ind (P := fun a => G x 0 0 4 [(0, .int a.1), (1, .int a.2.1), (2, .int a.2.2)] [] ws) (fun rec4 hrec4 a h => B_X9_size_L4_body E K rec4 hrec4 a.1 a.2.1 a.2.2 h) 200 (x0, x1, x2) h
noncomputable def D_X9_size (p0 : Int32) : Option Int32 := D_X9_size_L4 p0 (0 : Int32) (0 : Int32)
set_option maxRecDepth 100000 in
set_option maxHeartbeats 4000000 in
theorem B_X9_size {x : CX} {cy : Nat → ClassId} {ws : va_W} {r : Int32} (E : Ev x cy cX9_size RX9 3 0 0) (K : RetI x cX9_size .int r ws) (p0 : Int32) (h : D_X9_size p0 = some r) : G x 0 0 0 [(0, .int p0)] [] ws := by
  unfold D_X9_size at h
  refine G.iconst (v := 0) E dX9_size_0 (by decide) ?_
  refine G.istore_n (lv' := [(1, .int (0 : Int32)), (0, .int p0)]) E dX9_size_1 rfl (by decide) rfl ?_
  refine G.iconst (v := 0) E dX9_size_2 (by decide) ?_
  refine G.istore_n (lv' := [(2, .int (0 : Int32)), (1, .int (0 : Int32)), (0, .int p0)]) E dX9_size_3 rfl (by decide) rfl ?_
  refine G.sub (lv' := [(0, .int p0), (1, .int (0 : Int32)), (2, .int (0 : Int32))]) [2, 1, 0] rfl ?_
  exact B_X9_size_L4 E K p0 (0 : Int32) (0 : Int32) h
set_option maxRecDepth 100000 in
set_option maxHeartbeats 4000000 in
theorem C_X9_size {l : Launch} {D : va_G} {cy : Nat → ClassId} {ws : va_W} {p0 : Int32} {r : Int32} (h : D_X9_size p0 = some r) : MI l yX9_size cX9_size 3 (some .int) 0 0 D cy ws [.int p0] r ws :=
  MI.mk (lv := [(0, .int p0)]) (by decide) (Nat.le_of_ble_eq_true rfl) rfl (fun x _ _ E K => B_X9_size E K p0 h)

noncomputable def D_X9_isIn (p0 : Int32) (p1 : Int32) : Option Int32 := if ((p0 >>> (p1 &&& 31)) &&& (1 : Int32)) = (1 : Int32) then (some (1 : Int32)) else (some (0 : Int32))
set_option maxRecDepth 100000 in
set_option maxHeartbeats 4000000 in
theorem B_X9_isIn {x : CX} {cy : Nat → ClassId} {ws : va_W} {r : Int32} (E : Ev x cy cX9_isIn RX9 2 0 0) (K : RetI x cX9_isIn .boolean r ws) (p0 : Int32) (p1 : Int32) (h : D_X9_isIn p0 p1 = some r) : G x 0 0 0 [(0, .int p0), (1, .int p1)] [] ws := by
  unfold D_X9_isIn at h
  refine G.iload_n E dX9_isIn_0 rfl 0 rfl ?_
  refine G.iload_n E dX9_isIn_1 rfl 1 rfl ?_
  refine G.ishr E dX9_isIn_2 ?_
  refine G.iconst (v := 1) E dX9_isIn_3 (by decide) ?_
  refine G.iand E dX9_isIn_4 ?_
  refine G.iconst (v := 1) E dX9_isIn_5 (by decide) ?_
  refine G.icmp_ne (tgt := 13) E dX9_isIn_6 (by decide) (fun q => ?_) (fun q => ?_)
  · have h := ite_f h q
    refine G.iconst (v := 0) E dX9_isIn_13 (by decide) ?_
    obtain rfl := Option.some.inj h
    exact K rfl _ _ dX9_isIn_14
  · have h := ite_t h q
    refine G.iconst (v := 1) E dX9_isIn_9 (by decide) ?_
    refine G.goto (tgt := 14) E dX9_isIn_10 (by decide) ?_
    obtain rfl := Option.some.inj h
    exact K rfl _ _ dX9_isIn_14
set_option maxRecDepth 100000 in
set_option maxHeartbeats 4000000 in
theorem C_X9_isIn {l : Launch} {D : va_G} {cy : Nat → ClassId} {ws : va_W} {p0 : Int32} {p1 : Int32} {r : Int32} (h : D_X9_isIn p0 p1 = some r) : MI l yX9_isIn cX9_isIn 2 (some .boolean) 0 0 D cy ws [.int p0, .int p1] r ws :=
  MI.mk (lv := [(0, .int p0), (1, .int p1)]) (by decide) (Nat.le_of_ble_eq_true rfl) rfl (fun x _ _ E K => B_X9_isIn E K p0 p1 h)

noncomputable def D_X9_tryFor_b137 (rec15 : (Int32 × Int32 × Int32 × Int32 × Int32) → Option Int32) (σ : ST) (x1 : Int32) (x2 : Int32) (x3 : Int32) (x5 : Int32) (s0 : Int32) : Option Int32 := rec15 (x1, x2, x3, s0, (x5 + 1))
set_option maxRecDepth 100000 in
set_option maxHeartbeats 4000000 in
theorem B_X9_tryFor_b137 {x : CX} {cy : Nat → ClassId} {ad : Nat → Nat} {r : Int32} {σ : ST} (E : Ev x cy cX9_tryFor RX9 9 3 73) (K : RetI x cX9_tryFor .int r (wM ad cy σ)) (rec15 : (Int32 × Int32 × Int32 × Int32 × Int32) → Option Int32) (hrec15 : ∀ a, rec15 a = some r → G x 0 0 15 [(0, .ref (ad 0)), (1, .int a.1), (2, .int a.2.1), (3, .int a.2.2.1), (4, .int a.2.2.2.1), (5, .int a.2.2.2.2)] [] (wM ad cy σ)) (σ9 : ST) (x1 : Int32) (x2 : Int32) (x3 : Int32) (x5 : Int32) (s0 : Int32) (h : D_X9_tryFor_b137 rec15 σ x1 x2 x3 x5 s0 = some r) : G x 0 0 137 [(0, .ref (ad 0)), (1, .int x1), (2, .int x2), (3, .int x3), (5, .int x5)] [.int s0] (wM ad cy σ) := by
  unfold D_X9_tryFor_b137 at h
  refine G.istore (lv' := [(4, .int s0), (0, .ref (ad 0)), (1, .int x1), (2, .int x2), (3, .int x3), (5, .int x5)]) E dX9_tryFor_137 (by decide) rfl ?_
  refine G.iinc (w := x5 + 1) (lv' := [(5, .int (x5 + 1)), (4, .int s0), (0, .ref (ad 0)), (1, .int x1), (2, .int x2), (3, .int x3)]) E dX9_tryFor_139 5 rfl rfl (by decide) rfl ?_
  refine G.goto (tgt := 15) E dX9_tryFor_142 (by decide) ?_
  refine G.sub (lv' := [(0, .ref (ad 0)), (1, .int x1), (2, .int x2), (3, .int x3), (4, .int s0), (5, .int (x5 + 1))]) [2, 3, 4, 5, 1, 0] rfl ?_
  exact hrec15 (x1, x2, x3, s0, (x5 + 1)) h
noncomputable def D_X9_tryFor_b122 (rec15 : (Int32 × Int32 × Int32 × Int32 × Int32) → Option Int32) (σ : ST) (x1 : Int32) (x2 : Int32) (x4 : Int32) (x5 : Int32) (x8 : Int32) (s0 : Int32) : Option Int32 := if x4 ≤ x8 then (D_X9_tryFor_b137 rec15 σ x1 x2 s0 x5 x4) else (D_X9_tryFor_b137 rec15 σ x1 x2 s0 x5 x8)
set_option maxRecDepth 100000 in
set_option maxHeartbeats 4000000 in
theorem B_X9_tryFor_b122 {x : CX} {cy : Nat → ClassId} {ad : Nat → Nat} {r : Int32} {σ : ST} (E : Ev x cy cX9_tryFor RX9 9 3 73) (K : RetI x cX9_tryFor .int r (wM ad cy σ)) (rec15 : (Int32 × Int32 × Int32 × Int32 × Int32) → Option Int32) (hrec15 : ∀ a, rec15 a = some r → G x 0 0 15 [(0, .ref (ad 0)), (1, .int a.1), (2, .int a.2.1), (3, .int a.2.2.1), (4, .int a.2.2.2.1), (5, .int a.2.2.2.2)] [] (wM ad cy σ)) (σ9 : ST) (x1 : Int32) (x2 : Int32) (x4 : Int32) (x5 : Int32) (x8 : Int32) (s0 : Int32) (h : D_X9_tryFor_b122 rec15 σ x1 x2 x4 x5 x8 s0 = some r) : G x 0 0 122 [(0, .ref (ad 0)), (1, .int x1), (2, .int x2), (4, .int x4), (5, .int x5), (8, .int x8)] [.int s0] (wM ad cy σ) := by
  unfold D_X9_tryFor_b122 at h
  refine G.istore_n (lv' := [(3, .int s0), (0, .ref (ad 0)), (1, .int x1), (2, .int x2), (4, .int x4), (5, .int x5), (8, .int x8)]) E dX9_tryFor_122 rfl (by decide) rfl ?_
  refine G.iload E dX9_tryFor_123 6 rfl ?_
  refine G.iload E dX9_tryFor_125 4 rfl ?_
  refine G.icmp_ge (tgt := 135) E dX9_tryFor_127 (by decide) (fun q => ?_) (fun q => ?_)
  · have h := ite_t h q
    refine G.iload E dX9_tryFor_135 4 rfl ?_
    refine G.sub (lv' := [(0, .ref (ad 0)), (1, .int x1), (2, .int x2), (3, .int s0), (5, .int x5)]) [1, 2, 3, 0, 5] rfl ?_
    exact B_X9_tryFor_b137 E K rec15 hrec15 σ x1 x2 s0 x5 x4 h
  · have h := ite_f h q
    refine G.iload E dX9_tryFor_130 6 rfl ?_
    refine G.goto (tgt := 137) E dX9_tryFor_132 (by decide) ?_
    refine G.sub (lv' := [(0, .ref (ad 0)), (1, .int x1), (2, .int x2), (3, .int s0), (5, .int x5)]) [1, 2, 3, 0, 5] rfl ?_
    exact B_X9_tryFor_b137 E K rec15 hrec15 σ x1 x2 s0 x5 x8 h
noncomputable def D_X9_tryFor_b107 (rec15 : (Int32 × Int32 × Int32 × Int32 × Int32) → Option Int32) (σ : ST) (x1 : Int32) (x2 : Int32) (x3 : Int32) (x4 : Int32) (x5 : Int32) (s0 : Int32) : Option Int32 := if x4 ≤ s0 then (D_X9_tryFor_b122 rec15 σ x1 x2 x4 x5 s0 x3) else (D_X9_tryFor_b122 rec15 σ x1 x2 x4 x5 s0 x5)
set_option maxRecDepth 100000 in
set_option maxHeartbeats 4000000 in
theorem B_X9_tryFor_b107 {x : CX} {cy : Nat → ClassId} {ad : Nat → Nat} {r : Int32} {σ : ST} (E : Ev x cy cX9_tryFor RX9 9 3 73) (K : RetI x cX9_tryFor .int r (wM ad cy σ)) (rec15 : (Int32 × Int32 × Int32 × Int32 × Int32) → Option Int32) (hrec15 : ∀ a, rec15 a = some r → G x 0 0 15 [(0, .ref (ad 0)), (1, .int a.1), (2, .int a.2.1), (3, .int a.2.2.1), (4, .int a.2.2.2.1), (5, .int a.2.2.2.2)] [] (wM ad cy σ)) (σ9 : ST) (x1 : Int32) (x2 : Int32) (x3 : Int32) (x4 : Int32) (x5 : Int32) (s0 : Int32) (h : D_X9_tryFor_b107 rec15 σ x1 x2 x3 x4 x5 s0 = some r) : G x 0 0 107 [(0, .ref (ad 0)), (1, .int x1), (2, .int x2), (3, .int x3), (4, .int x4), (5, .int x5)] [.int s0] (wM ad cy σ) := by
  unfold D_X9_tryFor_b107 at h
  refine G.istore (lv' := [(8, .int s0), (0, .ref (ad 0)), (1, .int x1), (2, .int x2), (3, .int x3), (4, .int x4), (5, .int x5)]) E dX9_tryFor_107 (by decide) rfl ?_
  refine G.iload E dX9_tryFor_109 0 rfl ?_
  refine G.iload E dX9_tryFor_111 5 rfl ?_
  refine G.icmp_ge (tgt := 121) E dX9_tryFor_113 (by decide) (fun q => ?_) (fun q => ?_)
  · have h := ite_t h q
    refine G.iload_n E dX9_tryFor_121 rfl 4 rfl ?_
    refine G.sub (lv' := [(0, .ref (ad 0)), (1, .int x1), (2, .int x2), (4, .int x4), (5, .int x5), (8, .int s0)]) [1, 2, 3, 5, 6, 0] rfl ?_
    exact B_X9_tryFor_b122 E K rec15 hrec15 σ x1 x2 x4 x5 s0 x3 h
  · have h := ite_f h q
    refine G.iload E dX9_tryFor_116 6 rfl ?_
    refine G.goto (tgt := 122) E dX9_tryFor_118 (by decide) ?_
    refine G.sub (lv' := [(0, .ref (ad 0)), (1, .int x1), (2, .int x2), (4, .int x4), (5, .int x5), (8, .int s0)]) [1, 2, 3, 5, 6, 0] rfl ?_
    exact B_X9_tryFor_b122 E K rec15 hrec15 σ x1 x2 x4 x5 s0 x5 h
noncomputable def D_X9_tryFor_b75 (rec15 : (Int32 × Int32 × Int32 × Int32 × Int32) → Option Int32) (rec34 : (Int32 × Int32 × Int32 × Int32 × Int32 × Int32 × Int32) → Option Int32) (σ : ST) (x1 : Int32) (x2 : Int32) (x3 : Int32) (x4 : Int32) (x5 : Int32) (x7 : Int32) (s0 : Int32) (s1 : Int32) : Option Int32 := rec34 (x1, x2, x3, x4, x5, (s1 + s0), (x7 + 1))
set_option maxRecDepth 100000 in
set_option maxHeartbeats 4000000 in
theorem B_X9_tryFor_b75 {x : CX} {cy : Nat → ClassId} {ad : Nat → Nat} {r : Int32} {σ : ST} (E : Ev x cy cX9_tryFor RX9 9 3 73) (K : RetI x cX9_tryFor .int r (wM ad cy σ)) (rec15 : (Int32 × Int32 × Int32 × Int32 × Int32) → Option Int32) (hrec15 : ∀ a, rec15 a = some r → G x 0 0 15 [(0, .ref (ad 0)), (1, .int a.1), (2, .int a.2.1), (3, .int a.2.2.1), (4, .int a.2.2.2.1), (5, .int a.2.2.2.2)] [] (wM ad cy σ)) (rec34 : (Int32 × Int32 × Int32 × Int32 × Int32 × Int32 × Int32) → Option Int32) (hrec34 : ∀ a, rec34 a = some r → G x 0 0 34 [(0, .ref (ad 0)), (1, .int a.1), (2, .int a.2.1), (3, .int a.2.2.1), (4, .int a.2.2.2.1), (5, .int a.2.2.2.2.1), (6, .int a.2.2.2.2.2.1), (7, .int a.2.2.2.2.2.2)] [] (wM ad cy σ)) (σ9 : ST) (x1 : Int32) (x2 : Int32) (x3 : Int32) (x4 : Int32) (x5 : Int32) (x7 : Int32) (s0 : Int32) (s1 : Int32) (h : D_X9_tryFor_b75 rec15 rec34 σ x1 x2 x3 x4 x5 x7 s0 s1 = some r) : G x 0 0 75 [(0, .ref (ad 0)), (1, .int x1), (2, .int x2), (3, .int x3), (4, .int x4), (5, .int x5), (7, .int x7)] [.int s0, .int s1] (wM ad cy σ) := by
  unfold D_X9_tryFor_b75 at h
  refine G.iadd E dX9_tryFor_75 ?_
  refine G.istore (lv' := [(6, .int (s1 + s0)), (0, .ref (ad 0)), (1, .int x1), (2, .int x2), (3, .int x3), (4, .int x4), (5, .int x5), (7, .int x7)]) E dX9_tryFor_76 (by decide) rfl ?_
  refine G.iinc (w := x7 + 1) (lv' := [(7, .int (x7 + 1)), (6, .int (s1 + s0)), (0, .ref (ad 0)), (1, .int x1), (2, .int x2), (3, .int x3), (4, .int x4), (5, .int x5)]) E dX9_tryFor_78 7 rfl rfl (by decide) rfl ?_
  refine G.goto (tgt := 34) E dX9_tryFor_81 (by decide) ?_
  refine G.sub (lv' := [(0, .ref (ad 0)), (1, .int x1), (2, .int x2), (3, .int x3), (4, .int x4), (5, .int x5), (6, .int (s1 + s0)), (7, .int (x7 + 1))]) [2, 3, 4, 5, 6, 7, 1, 0] rfl ?_
  exact hrec34 (x1, x2, x3, x4, x5, (s1 + s0), (x7 + 1)) h
noncomputable def D_X9_tryFor_L34_body (rec15 : (Int32 × Int32 × Int32 × Int32 × Int32) → Option Int32) (rec34 : (Int32 × Int32 × Int32 × Int32 × Int32 × Int32 × Int32) → Option Int32) (σ : ST) (x1 : Int32) (x2 : Int32) (x3 : Int32) (x4 : Int32) (x5 : Int32) (x6 : Int32) (x7 : Int32) : Option Int32 := (D_X9_rows σ).bind fun r5 => if r5 ≤ x7 then ((D_X9_size x2).bind fun r7 => if x6 ≤ (r7 - x6) then (D_X9_tryFor_b107 rec15 σ x1 x2 x3 x4 x5 (r7 - x6)) else (D_X9_tryFor_b107 rec15 σ x1 x2 x3 x4 x5 x6)) else ((D_X9_isIn x2 x7).bind fun r9 => if r9 = 0 then (D_X9_tryFor_b75 rec15 rec34 σ x1 x2 x3 x4 x5 x7 (0 : Int32) x6) else (if x1 < 0 ∨ 4 ≤ x1.toNatClampNeg then none else ((D_X9_hitsBy σ (gA σ 0 x1.toNatClampNeg) x7).bind fun r11 => D_X9_tryFor_b75 rec15 rec34 σ x1 x2 x3 x4 x5 x7 ((r11 >>> (x5 &&& 31)) &&& (1 : Int32)) x6)))
set_option maxRecDepth 100000 in
set_option maxHeartbeats 4000000 in
theorem B_X9_tryFor_L34_body {x : CX} {cy : Nat → ClassId} {ad : Nat → Nat} {r : Int32} {σ : ST} (E : Ev x cy cX9_tryFor RX9 9 3 73) (K : RetI x cX9_tryFor .int r (wM ad cy σ)) (rec15 : (Int32 × Int32 × Int32 × Int32 × Int32) → Option Int32) (hrec15 : ∀ a, rec15 a = some r → G x 0 0 15 [(0, .ref (ad 0)), (1, .int a.1), (2, .int a.2.1), (3, .int a.2.2.1), (4, .int a.2.2.2.1), (5, .int a.2.2.2.2)] [] (wM ad cy σ)) (rec34 : (Int32 × Int32 × Int32 × Int32 × Int32 × Int32 × Int32) → Option Int32) (hrec34 : ∀ a, rec34 a = some r → G x 0 0 34 [(0, .ref (ad 0)), (1, .int a.1), (2, .int a.2.1), (3, .int a.2.2.1), (4, .int a.2.2.2.1), (5, .int a.2.2.2.2.1), (6, .int a.2.2.2.2.2.1), (7, .int a.2.2.2.2.2.2)] [] (wM ad cy σ)) (σ9 : ST) (x1 : Int32) (x2 : Int32) (x3 : Int32) (x4 : Int32) (x5 : Int32) (x6 : Int32) (x7 : Int32) (h : D_X9_tryFor_L34_body rec15 rec34 σ x1 x2 x3 x4 x5 x6 x7 = some r) : G x 0 0 34 [(0, .ref (ad 0)), (1, .int x1), (2, .int x2), (3, .int x3), (4, .int x4), (5, .int x5), (6, .int x6), (7, .int x7)] [] (wM ad cy σ) := by
  unfold D_X9_tryFor_L34_body at h
  refine G.iload E dX9_tryFor_34 7 rfl ?_
  refine G.aload_n E dX9_tryFor_36 rfl 0 rfl ?_
  obtain ⟨r5, h6, h⟩ := bind_s h
  refine G.retI E (runV (st := [.int x7]) (As := []) E (C_X9_rows h6) ck_X9_rows (f868 E.fx) (f870 E.fx) (f34 E.fx) 0 9 rfl rfl rfl (by decide) (by decide) rfl (Nat.le_of_ble_eq_true rfl) dX9_tryFor_37 ⟨Nat.zero_le _, Nat.zero_le _⟩) ?_
  refine G.icmp_ge (tgt := 84) E dX9_tryFor_40 (by decide) (fun q => ?_) (fun q => ?_)
  · have h := ite_t h q
    refine G.iload_n E dX9_tryFor_84 rfl 2 rfl ?_
    obtain ⟨r7, h8, h⟩ := bind_s h
    refine G.retI E (runS (st := []) (As := [.int x2]) E (C_X9_size h8) ck_X9_size (f909 E.fx) (f910 E.fx) (by decide) (by decide) rfl (Nat.le_of_ble_eq_true rfl) dX9_tryFor_85 ⟨Nat.zero_le _, Nat.zero_le _⟩) ?_
    refine G.iload E dX9_tryFor_88 6 rfl ?_
    refine G.isub E dX9_tryFor_90 ?_
    refine G.istore (lv' := [(7, .int (r7 - x6)), (0, .ref (ad 0)), (1, .int x1), (2, .int x2), (3, .int x3), (4, .int x4), (5, .int x5), (6, .int x6)]) E dX9_tryFor_91 (by decide) rfl ?_
    refine G.iload E dX9_tryFor_93 7 rfl ?_
    refine G.iload E dX9_tryFor_95 0 rfl ?_
    refine G.icmp_le (tgt := 105) E dX9_tryFor_97 (by decide) (fun q => ?_) (fun q => ?_)
    · have h := ite_t h q
      refine G.iload E dX9_tryFor_105 0 rfl ?_
      refine G.sub (lv' := [(0, .ref (ad 0)), (1, .int x1), (2, .int x2), (3, .int x3), (4, .int x4), (5, .int x5)]) [1, 2, 3, 4, 5, 6] rfl ?_
      exact B_X9_tryFor_b107 E K rec15 hrec15 σ x1 x2 x3 x4 x5 (r7 - x6) h
    · have h := ite_f h q
      refine G.iload E dX9_tryFor_100 7 rfl ?_
      refine G.goto (tgt := 107) E dX9_tryFor_102 (by decide) ?_
      refine G.sub (lv' := [(0, .ref (ad 0)), (1, .int x1), (2, .int x2), (3, .int x3), (4, .int x4), (5, .int x5)]) [1, 2, 3, 4, 5, 6] rfl ?_
      exact B_X9_tryFor_b107 E K rec15 hrec15 σ x1 x2 x3 x4 x5 x6 h
  · have h := ite_f h q
    refine G.iload E dX9_tryFor_43 6 rfl ?_
    refine G.iload_n E dX9_tryFor_45 rfl 2 rfl ?_
    refine G.iload E dX9_tryFor_46 7 rfl ?_
    obtain ⟨r9, h10, h⟩ := bind_s h
    refine G.retI E (runS (st := [.int x6]) (As := [.int x2, .int x7]) E (C_X9_isIn h10) ck_X9_isIn (f889 E.fx) (f890 E.fx) (by decide) (by decide) rfl (Nat.le_of_ble_eq_true rfl) dX9_tryFor_48 ⟨Nat.zero_le _, Nat.zero_le _⟩) ?_
    refine G.if_eq (tgt := 74) E dX9_tryFor_51 (by decide) (fun q => ?_) (fun q => ?_)
    · have h := ite_t h q
      refine G.iconst (v := 0) E dX9_tryFor_74 (by decide) ?_
      refine G.sub (lv' := [(0, .ref (ad 0)), (1, .int x1), (2, .int x2), (3, .int x3), (4, .int x4), (5, .int x5), (7, .int x7)]) [0, 1, 2, 3, 4, 5, 7] rfl ?_
      exact B_X9_tryFor_b75 E K rec15 hrec15 rec34 hrec34 σ x1 x2 x3 x4 x5 x7 (0 : Int32) x6 h
    · have h := ite_f h q
      refine G.aload_n E dX9_tryFor_54 rfl 0 rfl ?_
      refine G.aload_n E dX9_tryFor_55 rfl 0 rfl ?_
      refine G.get E inX9 0 rfl rfl 3 (by decide) (f701 E.fx) rfl dX9_tryFor_56 ?_
      refine G.iload_n E dX9_tryFor_59 rfl 1 rfl ?_
      obtain ⟨hg, h⟩ := ite_n h
      refine G.iald E 1 0 rfl rfl hg dX9_tryFor_60 ?_
      refine G.iload E dX9_tryFor_61 7 rfl ?_
      obtain ⟨r11, h12, h⟩ := bind_s h
      refine G.retI E (runV (st := [.int x6]) (As := [.int (gA σ 0 x1.toNatClampNeg), .int x7]) E (C_X9_hitsBy h12) ck_X9_hitsBy (f864 E.fx) (f866 E.fx) (f33 E.fx) 0 9 rfl rfl rfl (by decide) (by decide) rfl (Nat.le_of_ble_eq_true rfl) dX9_tryFor_63 ⟨Nat.zero_le _, Nat.zero_le _⟩) ?_
      refine G.iload E dX9_tryFor_66 5 rfl ?_
      refine G.ishr E dX9_tryFor_68 ?_
      refine G.iconst (v := 1) E dX9_tryFor_69 (by decide) ?_
      refine G.iand E dX9_tryFor_70 ?_
      refine G.goto (tgt := 75) E dX9_tryFor_71 (by decide) ?_
      refine G.sub (lv' := [(0, .ref (ad 0)), (1, .int x1), (2, .int x2), (3, .int x3), (4, .int x4), (5, .int x5), (7, .int x7)]) [0, 1, 2, 3, 4, 5, 7] rfl ?_
      exact B_X9_tryFor_b75 E K rec15 hrec15 rec34 hrec34 σ x1 x2 x3 x4 x5 x7 ((r11 >>> (x5 &&& 31)) &&& (1 : Int32)) x6 h
noncomputable def D_X9_tryFor_L34 (rec15 : (Int32 × Int32 × Int32 × Int32 × Int32) → Option Int32) (σ : ST) (x1 : Int32) (x2 : Int32) (x3 : Int32) (x4 : Int32) (x5 : Int32) (x6 : Int32) (x7 : Int32) : Option Int32 := itr (fun (rec34 : (Int32 × Int32 × Int32 × Int32 × Int32 × Int32 × Int32) → Option Int32) (a : (Int32 × Int32 × Int32 × Int32 × Int32 × Int32 × Int32)) => D_X9_tryFor_L34_body rec15 rec34 σ a.1 a.2.1 a.2.2.1 a.2.2.2.1 a.2.2.2.2.1 a.2.2.2.2.2.1 a.2.2.2.2.2.2) 200 (x1, x2, x3, x4, x5, x6, x7)
set_option maxRecDepth 100000 in
set_option maxHeartbeats 4000000 in
theorem B_X9_tryFor_L34 {x : CX} {cy : Nat → ClassId} {ad : Nat → Nat} {r : Int32} {σ : ST} (E : Ev x cy cX9_tryFor RX9 9 3 73) (K : RetI x cX9_tryFor .int r (wM ad cy σ)) (rec15 : (Int32 × Int32 × Int32 × Int32 × Int32) → Option Int32) (hrec15 : ∀ a, rec15 a = some r → G x 0 0 15 [(0, .ref (ad 0)), (1, .int a.1), (2, .int a.2.1), (3, .int a.2.2.1), (4, .int a.2.2.2.1), (5, .int a.2.2.2.2)] [] (wM ad cy σ)) (σ9 : ST) (x1 : Int32) (x2 : Int32) (x3 : Int32) (x4 : Int32) (x5 : Int32) (x6 : Int32) (x7 : Int32) (h : D_X9_tryFor_L34 rec15 σ x1 x2 x3 x4 x5 x6 x7 = some r) : G x 0 0 34 [(0, .ref (ad 0)), (1, .int x1), (2, .int x2), (3, .int x3), (4, .int x4), (5, .int x5), (6, .int x6), (7, .int x7)] [] (wM ad cy σ) :=
  itr_ind (P := fun a => G x 0 0 34 [(0, .ref (ad 0)), (1, .int a.1), (2, .int a.2.1), (3, .int a.2.2.1), (4, .int a.2.2.2.1), (5, .int a.2.2.2.2.1), (6, .int a.2.2.2.2.2.1), (7, .int a.2.2.2.2.2.2)] [] (wM ad cy σ)) (fun rec34 hrec34 a h => B_X9_tryFor_L34_body E K rec15 hrec15 rec34 hrec34 σ a.1 a.2.1 a.2.2.1 a.2.2.2.1 a.2.2.2.2.1 a.2.2.2.2.2.1 a.2.2.2.2.2.2 h) 200 (x1, x2, x3, x4, x5, x6, x7) h
noncomputable def D_X9_tryFor_L15_body (rec15 : (Int32 × Int32 × Int32 × Int32 × Int32) → Option Int32) (σ : ST) (x1 : Int32) (x2 : Int32) (x3 : Int32) (x4 : Int32) (x5 : Int32) : Option Int32 := (D_X9_rows σ).bind fun r3 => if r3 ≤ x5 then (some x3) else (if x2 = 0 then (some x3) else (D_X9_tryFor_L34 rec15 σ x1 x2 x3 x4 x5 (0 : Int32) (0 : Int32)))
set_option maxRecDepth 100000 in
set_option maxHeartbeats 4000000 in
theorem B_X9_tryFor_L15_body {x : CX} {cy : Nat → ClassId} {ad : Nat → Nat} {r : Int32} {σ : ST} (E : Ev x cy cX9_tryFor RX9 9 3 73) (K : RetI x cX9_tryFor .int r (wM ad cy σ)) (rec15 : (Int32 × Int32 × Int32 × Int32 × Int32) → Option Int32) (hrec15 : ∀ a, rec15 a = some r → G x 0 0 15 [(0, .ref (ad 0)), (1, .int a.1), (2, .int a.2.1), (3, .int a.2.2.1), (4, .int a.2.2.2.1), (5, .int a.2.2.2.2)] [] (wM ad cy σ)) (σ9 : ST) (x1 : Int32) (x2 : Int32) (x3 : Int32) (x4 : Int32) (x5 : Int32) (h : D_X9_tryFor_L15_body rec15 σ x1 x2 x3 x4 x5 = some r) : G x 0 0 15 [(0, .ref (ad 0)), (1, .int x1), (2, .int x2), (3, .int x3), (4, .int x4), (5, .int x5)] [] (wM ad cy σ) := by
  unfold D_X9_tryFor_L15_body at h
  refine G.iload E dX9_tryFor_15 5 rfl ?_
  refine G.aload_n E dX9_tryFor_17 rfl 0 rfl ?_
  obtain ⟨r3, h4, h⟩ := bind_s h
  refine G.retI E (runV (st := [.int x5]) (As := []) E (C_X9_rows h4) ck_X9_rows (f868 E.fx) (f870 E.fx) (f34 E.fx) 0 9 rfl rfl rfl (by decide) (by decide) rfl (Nat.le_of_ble_eq_true rfl) dX9_tryFor_18 ⟨Nat.zero_le _, Nat.zero_le _⟩) ?_
  refine G.icmp_ge (tgt := 145) E dX9_tryFor_21 (by decide) (fun q => ?_) (fun q => ?_)
  · have h := ite_t h q
    refine G.iload_n E dX9_tryFor_145 rfl 3 rfl ?_
    obtain rfl := Option.some.inj h
    exact K rfl _ _ dX9_tryFor_146
  · have h := ite_f h q
    refine G.iload_n E dX9_tryFor_24 rfl 2 rfl ?_
    refine G.if_eq (tgt := 145) E dX9_tryFor_25 (by decide) (fun q => ?_) (fun q => ?_)
    · have h := ite_t h q
      refine G.iload_n E dX9_tryFor_145 rfl 3 rfl ?_
      obtain rfl := Option.some.inj h
      exact K rfl _ _ dX9_tryFor_146
    · have h := ite_f h q
      refine G.iconst (v := 0) E dX9_tryFor_28 (by decide) ?_
      refine G.istore (lv' := [(6, .int (0 : Int32)), (0, .ref (ad 0)), (1, .int x1), (2, .int x2), (3, .int x3), (4, .int x4), (5, .int x5)]) E dX9_tryFor_29 (by decide) rfl ?_
      refine G.iconst (v := 0) E dX9_tryFor_31 (by decide) ?_
      refine G.istore (lv' := [(7, .int (0 : Int32)), (6, .int (0 : Int32)), (0, .ref (ad 0)), (1, .int x1), (2, .int x2), (3, .int x3), (4, .int x4), (5, .int x5)]) E dX9_tryFor_32 (by decide) rfl ?_
      refine G.sub (lv' := [(0, .ref (ad 0)), (1, .int x1), (2, .int x2), (3, .int x3), (4, .int x4), (5, .int x5), (6, .int (0 : Int32)), (7, .int (0 : Int32))]) [2, 3, 4, 5, 6, 7, 1, 0] rfl ?_
      exact B_X9_tryFor_L34 E K rec15 hrec15 σ x1 x2 x3 x4 x5 (0 : Int32) (0 : Int32) h
noncomputable def D_X9_tryFor_L15  (σ : ST) (x1 : Int32) (x2 : Int32) (x3 : Int32) (x4 : Int32) (x5 : Int32) : Option Int32 := itr (fun (rec15 : (Int32 × Int32 × Int32 × Int32 × Int32) → Option Int32) (a : (Int32 × Int32 × Int32 × Int32 × Int32)) => D_X9_tryFor_L15_body rec15 σ a.1 a.2.1 a.2.2.1 a.2.2.2.1 a.2.2.2.2) 200 (x1, x2, x3, x4, x5)
set_option maxRecDepth 100000 in
set_option maxHeartbeats 4000000 in
theorem B_X9_tryFor_L15 {x : CX} {cy : Nat → ClassId} {ad : Nat → Nat} {r : Int32} {σ : ST} (E : Ev x cy cX9_tryFor RX9 9 3 73) (K : RetI x cX9_tryFor .int r (wM ad cy σ))  (σ9 : ST) (x1 : Int32) (x2 : Int32) (x3 : Int32) (x4 : Int32) (x5 : Int32) (h : D_X9_tryFor_L15 σ x1 x2 x3 x4 x5 = some r) : G x 0 0 15 [(0, .ref (ad 0)), (1, .int x1), (2, .int x2), (3, .int x3), (4, .int x4), (5, .int x5)] [] (wM ad cy σ) :=
  itr_ind (P := fun a => G x 0 0 15 [(0, .ref (ad 0)), (1, .int a.1), (2, .int a.2.1), (3, .int a.2.2.1), (4, .int a.2.2.2.1), (5, .int a.2.2.2.2)] [] (wM ad cy σ)) (fun rec15 hrec15 a h => B_X9_tryFor_L15_body E K rec15 hrec15 σ a.1 a.2.1 a.2.2.1 a.2.2.2.1 a.2.2.2.2 h) 200 (x1, x2, x3, x4, x5) h
noncomputable def D_X9_tryFor (σ : ST) (p1 : Int32) : Option Int32 := (D_X9_rowsOf σ p1).bind fun r1 => D_X9_tryFor_L15 σ p1 r1 (-1 : Int32) (268435456 : Int32) (0 : Int32)
set_option maxRecDepth 100000 in
set_option maxHeartbeats 4000000 in
theorem B_X9_tryFor {x : CX} {cy : Nat → ClassId} {ad : Nat → Nat} {r : Int32} {σ : ST} (E : Ev x cy cX9_tryFor RX9 9 3 73) (K : RetI x cX9_tryFor .int r (wM ad cy σ)) (p1 : Int32) (h : D_X9_tryFor σ p1 = some r) : G x 0 0 0 [(0, .ref (ad 0)), (1, .int p1)] [] (wM ad cy σ) := by
  unfold D_X9_tryFor at h
  refine G.aload_n E dX9_tryFor_0 rfl 0 rfl ?_
  refine G.iload_n E dX9_tryFor_1 rfl 1 rfl ?_
  obtain ⟨r1, h2, h⟩ := bind_s h
  refine G.retI E (runV (st := []) (As := [.int p1]) E (C_X9_rowsOf h2) ck_X9_rowsOf (f912 E.fx) (f914 E.fx) (f43 E.fx) 0 9 rfl rfl rfl (by decide) (by decide) rfl (Nat.le_of_ble_eq_true rfl) dX9_tryFor_2 ⟨Nat.zero_le _, Nat.zero_le _⟩) ?_
  refine G.istore_n (lv' := [(2, .int r1), (0, .ref (ad 0)), (1, .int p1)]) E dX9_tryFor_5 rfl (by decide) rfl ?_
  refine G.iconst (v := -1) E dX9_tryFor_6 (by decide) ?_
  refine G.istore_n (lv' := [(3, .int (-1 : Int32)), (2, .int r1), (0, .ref (ad 0)), (1, .int p1)]) E dX9_tryFor_7 rfl (by decide) rfl ?_
  refine G.ldc E (f920 E.fx) dX9_tryFor_8 ?_
  refine G.istore (lv' := [(4, .int (268435456 : Int32)), (3, .int (-1 : Int32)), (2, .int r1), (0, .ref (ad 0)), (1, .int p1)]) E dX9_tryFor_10 (by decide) rfl ?_
  refine G.iconst (v := 0) E dX9_tryFor_12 (by decide) ?_
  refine G.istore (lv' := [(5, .int (0 : Int32)), (4, .int (268435456 : Int32)), (3, .int (-1 : Int32)), (2, .int r1), (0, .ref (ad 0)), (1, .int p1)]) E dX9_tryFor_13 (by decide) rfl ?_
  refine G.sub (lv' := [(0, .ref (ad 0)), (1, .int p1), (2, .int r1), (3, .int (-1 : Int32)), (4, .int (268435456 : Int32)), (5, .int (0 : Int32))]) [4, 5, 3, 2, 1, 0] rfl ?_
  exact B_X9_tryFor_L15 E K σ p1 r1 (-1 : Int32) (268435456 : Int32) (0 : Int32) h
set_option maxRecDepth 100000 in
set_option maxHeartbeats 4000000 in
theorem C_X9_tryFor {l : Launch} {D : va_G} {cy : Nat → ClassId} {ad : Nat → Nat} {σ : ST} {p1 : Int32} {r : Int32} (h : D_X9_tryFor σ p1 = some r) : MI l yX9_tryFor cX9_tryFor 9 (some .int) 3 73 D cy (wM ad cy σ) [.ref (ad 0), .int p1] r (wM ad cy σ) :=
  MI.mk (lv := [(0, .ref (ad 0)), (1, .int p1)]) (by decide) (Nat.le_of_ble_eq_true rfl) rfl (fun x _ _ E K => B_X9_tryFor E K p1 h)

noncomputable def D_X9_hitsOf (σ : ST) (p1 : Int32) : Option Int32 := if p1 < 0 ∨ 4 ≤ p1.toNatClampNeg then none else (if p1 < 0 ∨ 4 ≤ p1.toNatClampNeg then none else ((D_X9_hitsBy σ (gA σ 0 p1.toNatClampNeg) (gA σ 1 p1.toNatClampNeg)).bind fun r1 => some r1))
set_option maxRecDepth 100000 in
set_option maxHeartbeats 4000000 in
theorem B_X9_hitsOf {x : CX} {cy : Nat → ClassId} {ad : Nat → Nat} {r : Int32} {σ : ST} (E : Ev x cy cX9_hitsOf RX9 2 2 48) (K : RetI x cX9_hitsOf .int r (wM ad cy σ)) (p1 : Int32) (h : D_X9_hitsOf σ p1 = some r) : G x 0 0 0 [(0, .ref (ad 0)), (1, .int p1)] [] (wM ad cy σ) := by
  unfold D_X9_hitsOf at h
  refine G.aload_n E dX9_hitsOf_0 rfl 0 rfl ?_
  refine G.aload_n E dX9_hitsOf_1 rfl 0 rfl ?_
  refine G.get E inX9 0 rfl rfl 3 (by decide) (f701 E.fx) rfl dX9_hitsOf_2 ?_
  refine G.iload_n E dX9_hitsOf_5 rfl 1 rfl ?_
  obtain ⟨hg, h⟩ := ite_n h
  refine G.iald E 1 0 rfl rfl hg dX9_hitsOf_6 ?_
  refine G.aload_n E dX9_hitsOf_7 rfl 0 rfl ?_
  refine G.get E inX9 0 rfl rfl 4 (by decide) (f702 E.fx) rfl dX9_hitsOf_8 ?_
  refine G.iload_n E dX9_hitsOf_11 rfl 1 rfl ?_
  obtain ⟨hg, h⟩ := ite_n h
  refine G.iald E 2 0 rfl rfl hg dX9_hitsOf_12 ?_
  obtain ⟨r1, h2, h⟩ := bind_s h
  refine G.retI E (runV (st := []) (As := [.int (gA σ 0 p1.toNatClampNeg), .int (gA σ 1 p1.toNatClampNeg)]) E (C_X9_hitsBy h2) ck_X9_hitsBy (f864 E.fx) (f866 E.fx) (f33 E.fx) 0 9 rfl rfl rfl (by decide) (by decide) rfl (Nat.le_of_ble_eq_true rfl) dX9_hitsOf_13 ⟨Nat.zero_le _, Nat.zero_le _⟩) ?_
  obtain rfl := Option.some.inj h
  exact K rfl _ _ dX9_hitsOf_16
set_option maxRecDepth 100000 in
set_option maxHeartbeats 4000000 in
theorem C_X9_hitsOf {l : Launch} {D : va_G} {cy : Nat → ClassId} {ad : Nat → Nat} {σ : ST} {p1 : Int32} {r : Int32} (h : D_X9_hitsOf σ p1 = some r) : MI l yX9_hitsOf cX9_hitsOf 2 (some .int) 2 48 D cy (wM ad cy σ) [.ref (ad 0), .int p1] r (wM ad cy σ) :=
  MI.mk (lv := [(0, .ref (ad 0)), (1, .int p1)]) (by decide) (Nat.le_of_ble_eq_true rfl) rfl (fun x _ _ E K => B_X9_hitsOf E K p1 h)

noncomputable def D_X9_unknowns (σ : ST)  : Option Int32 := some ((1 : Int32) <<< (((gI σ 2) - (1 : Int32)) &&& 31))
set_option maxRecDepth 100000 in
set_option maxHeartbeats 4000000 in
theorem B_X9_unknowns {x : CX} {cy : Nat → ClassId} {ad : Nat → Nat} {r : Int32} {σ : ST} (E : Ev x cy cX9_unknowns RX9 1 0 0) (K : RetI x cX9_unknowns .int r (wM ad cy σ))  (h : D_X9_unknowns σ = some r) : G x 0 0 0 [(0, .ref (ad 0))] [] (wM ad cy σ) := by
  unfold D_X9_unknowns at h
  refine G.iconst (v := 1) E dX9_unknowns_0 (by decide) ?_
  refine G.aload_n E dX9_unknowns_1 rfl 0 rfl ?_
  refine G.get E inX9 0 rfl rfl 2 (by decide) (f700 E.fx) rfl dX9_unknowns_2 ?_
  refine G.iconst (v := 1) E dX9_unknowns_5 (by decide) ?_
  refine G.isub E dX9_unknowns_6 ?_
  refine G.ishl E dX9_unknowns_7 ?_
  obtain rfl := Option.some.inj h
  exact K rfl _ _ dX9_unknowns_8
set_option maxRecDepth 100000 in
set_option maxHeartbeats 4000000 in
theorem C_X9_unknowns {l : Launch} {D : va_G} {cy : Nat → ClassId} {ad : Nat → Nat} {σ : ST}  {r : Int32} (h : D_X9_unknowns σ = some r) : MI l yX9_unknowns cX9_unknowns 1 (some .int) 0 0 D cy (wM ad cy σ) [.ref (ad 0)] r (wM ad cy σ) :=
  MI.mk (lv := [(0, .ref (ad 0))]) (by decide) (Nat.le_of_ble_eq_true rfl) rfl (fun x _ _ E K => B_X9_unknowns E K  h)

noncomputable def D_X9_clear_L2_body (rec2 : (ST × Int32) → Option ST) (σ : ST) (x1 : Int32) : Option ST := if (72 : Int32) ≤ x1 then (some σ) else (if x1 < 0 ∨ 72 ≤ x1.toNatClampNeg then none else (rec2 ((pB σ 0 x1.toNatClampNeg (0 : Int64)), (x1 + 1))))
set_option maxRecDepth 100000 in
set_option maxHeartbeats 4000000 in
theorem B_X9_clear_L2_body {x : CX} {cy : Nat → ClassId} {ad : Nat → Nat} {r : ST} (E : Ev x cy cX9_clear RX9 2 0 0) (K : RetV x cX9_clear (wM ad cy r)) (rec2 : (ST × Int32) → Option ST) (hrec2 : ∀ a, rec2 a = some r → G x 0 0 2 [(0, .ref (ad 0)), (1, .int a.2)] [] (wM ad cy a.1)) (σ : ST) (x1 : Int32) (h : D_X9_clear_L2_body rec2 σ x1 = some r) : G x 0 0 2 [(0, .ref (ad 0)), (1, .int x1)] [] (wM ad cy σ) := by
  unfold D_X9_clear_L2_body at h
  refine G.iload_n E dX9_clear_2 rfl 1 rfl ?_
  refine G.bipush (v := 72) E dX9_clear_3 (by decide) ?_
  refine G.icmp_ge (tgt := 21) E dX9_clear_5 (by decide) (fun q => ?_) (fun q => ?_)
  · have h := ite_t h q
    obtain rfl := Option.some.inj h
    exact K _ _ dX9_clear_21
  · have h := ite_f h q
    refine G.aload_n E dX9_clear_8 rfl 0 rfl ?_
    refine G.get E inX9 0 rfl rfl 18 (by decide) (f716 E.fx) rfl dX9_clear_9 ?_
    refine G.iload_n E dX9_clear_12 rfl 1 rfl ?_
    refine G.lconst (v := 0) E dX9_clear_13 (by decide) ?_
    obtain ⟨hg, h⟩ := ite_n h
    refine G.last (ws' := (wM ad cy (pB σ 0 x1.toNatClampNeg (0 : Int64)))) E 18 3 rfl rfl hg dX9_clear_14 (wM_aJ0 ad cy _ _ _) ?_
    refine G.iinc (w := x1 + 1) (lv' := [(1, .int (x1 + 1)), (0, .ref (ad 0))]) E dX9_clear_15 1 rfl rfl (by decide) rfl ?_
    refine G.goto (tgt := 2) E dX9_clear_18 (by decide) ?_
    refine G.sub (lv' := [(0, .ref (ad 0)), (1, .int (x1 + 1))]) [1, 0] rfl ?_
    exact hrec2 ((pB σ 0 x1.toNatClampNeg (0 : Int64)), (x1 + 1)) h
noncomputable def D_X9_clear_L2  (σ : ST) (x1 : Int32) : Option ST := itr (fun (rec2 : (ST × Int32) → Option ST) (a : (ST × Int32)) => D_X9_clear_L2_body rec2 a.1 a.2) 200 (σ, x1)
set_option maxRecDepth 100000 in
set_option maxHeartbeats 4000000 in
theorem B_X9_clear_L2 {x : CX} {cy : Nat → ClassId} {ad : Nat → Nat} {r : ST} (E : Ev x cy cX9_clear RX9 2 0 0) (K : RetV x cX9_clear (wM ad cy r))  (σ : ST) (x1 : Int32) (h : D_X9_clear_L2 σ x1 = some r) : G x 0 0 2 [(0, .ref (ad 0)), (1, .int x1)] [] (wM ad cy σ) :=
  itr_ind (P := fun a => G x 0 0 2 [(0, .ref (ad 0)), (1, .int a.2)] [] (wM ad cy a.1)) (fun rec2 hrec2 a h => B_X9_clear_L2_body E K rec2 hrec2 a.1 a.2 h) 200 (σ, x1) h
noncomputable def D_X9_clear (σ : ST)  : Option ST := D_X9_clear_L2 σ (0 : Int32)
set_option maxRecDepth 100000 in
set_option maxHeartbeats 4000000 in
theorem B_X9_clear {x : CX} {cy : Nat → ClassId} {ad : Nat → Nat} {r : ST} (E : Ev x cy cX9_clear RX9 2 0 0) (K : RetV x cX9_clear (wM ad cy r)) (σ : ST)  (h : D_X9_clear σ = some r) : G x 0 0 0 [(0, .ref (ad 0))] [] (wM ad cy σ) := by
  unfold D_X9_clear at h
  refine G.iconst (v := 0) E dX9_clear_0 (by decide) ?_
  refine G.istore_n (lv' := [(1, .int (0 : Int32)), (0, .ref (ad 0))]) E dX9_clear_1 rfl (by decide) rfl ?_
  refine G.sub (lv' := [(0, .ref (ad 0)), (1, .int (0 : Int32))]) [1, 0] rfl ?_
  exact B_X9_clear_L2 E K σ (0 : Int32) h
set_option maxRecDepth 100000 in
set_option maxHeartbeats 4000000 in
theorem C_X9_clear {l : Launch} {D : va_G} {cy : Nat → ClassId} {ad : Nat → Nat} {σ : ST}  {r : ST} (h : D_X9_clear σ = some r) : MV l yX9_clear cX9_clear 2 none 0 0 D cy (wM ad cy σ) [.ref (ad 0)]  (wM ad cy r) :=
  MV.mk (lv := [(0, .ref (ad 0))]) (by decide) (Nat.le_of_ble_eq_true rfl) rfl (fun x _ _ E K => B_X9_clear E K σ h)

noncomputable def D_X9_exchange_L2_body (rec2 : (ST × Int32 × Int32 × Int32) → Option ST) (σ : ST) (x1 : Int32) (x2 : Int32) (x3 : Int32) : Option ST := if (9 : Int32) ≤ x3 then (some σ) else (if (((9 : Int32) * x1) + x3) < 0 ∨ 72 ≤ (((9 : Int32) * x1) + x3).toNatClampNeg then none else (if (((9 : Int32) * x2) + x3) < 0 ∨ 72 ≤ (((9 : Int32) * x2) + x3).toNatClampNeg then none else (if (((9 : Int32) * x1) + x3) < 0 ∨ 72 ≤ (((9 : Int32) * x1) + x3).toNatClampNeg then none else (if (((9 : Int32) * x2) + x3) < 0 ∨ 72 ≤ (((9 : Int32) * x2) + x3).toNatClampNeg then none else (rec2 ((pB (pB σ 0 (((9 : Int32) * x1) + x3).toNatClampNeg (gB σ 0 (((9 : Int32) * x2) + x3).toNatClampNeg)) 0 (((9 : Int32) * x2) + x3).toNatClampNeg (gB σ 0 (((9 : Int32) * x1) + x3).toNatClampNeg)), x1, x2, (x3 + 1)))))))
set_option maxRecDepth 100000 in
set_option maxHeartbeats 4000000 in
theorem B_X9_exchange_L2_body {x : CX} {cy : Nat → ClassId} {ad : Nat → Nat} {r : ST} (E : Ev x cy cX9_exchange RX9 6 0 0) (K : RetV x cX9_exchange (wM ad cy r)) (rec2 : (ST × Int32 × Int32 × Int32) → Option ST) (hrec2 : ∀ a, rec2 a = some r → G x 0 0 2 [(0, .ref (ad 0)), (1, .int a.2.1), (2, .int a.2.2.1), (3, .int a.2.2.2)] [] (wM ad cy a.1)) (σ : ST) (x1 : Int32) (x2 : Int32) (x3 : Int32) (h : D_X9_exchange_L2_body rec2 σ x1 x2 x3 = some r) : G x 0 0 2 [(0, .ref (ad 0)), (1, .int x1), (2, .int x2), (3, .int x3)] [] (wM ad cy σ) := by
  unfold D_X9_exchange_L2_body at h
  refine G.iload_n E dX9_exchange_2 rfl 3 rfl ?_
  refine G.bipush (v := 9) E dX9_exchange_3 (by decide) ?_
  refine G.icmp_ge (tgt := 62) E dX9_exchange_5 (by decide) (fun q => ?_) (fun q => ?_)
  · have h := ite_t h q
    obtain rfl := Option.some.inj h
    exact K _ _ dX9_exchange_62
  · have h := ite_f h q
    refine G.aload_n E dX9_exchange_8 rfl 0 rfl ?_
    refine G.get E inX9 0 rfl rfl 18 (by decide) (f716 E.fx) rfl dX9_exchange_9 ?_
    refine G.bipush (v := 9) E dX9_exchange_12 (by decide) ?_
    refine G.iload_n E dX9_exchange_14 rfl 1 rfl ?_
    refine G.imul E dX9_exchange_15 ?_
    refine G.iload_n E dX9_exchange_16 rfl 3 rfl ?_
    refine G.iadd E dX9_exchange_17 ?_
    obtain ⟨hg, h⟩ := ite_n h
    refine G.lald E 18 3 rfl rfl hg dX9_exchange_18 ?_
    refine G.lstore (lv' := [(4, .long (gB σ 0 (((9 : Int32) * x1) + x3).toNatClampNeg)), (0, .ref (ad 0)), (1, .int x1), (2, .int x2), (3, .int x3)]) E dX9_exchange_19 (by decide) rfl ?_
    refine G.aload_n E dX9_exchange_21 rfl 1 rfl ?_
    refine G.get E inX9 0 rfl rfl 18 (by decide) (f716 E.fx) rfl dX9_exchange_22 ?_
    refine G.bipush (v := 9) E dX9_exchange_25 (by decide) ?_
    refine G.iload_n E dX9_exchange_27 rfl 2 rfl ?_
    refine G.imul E dX9_exchange_28 ?_
    refine G.iload_n E dX9_exchange_29 rfl 4 rfl ?_
    refine G.iadd E dX9_exchange_30 ?_
    refine G.aload_n E dX9_exchange_31 rfl 1 rfl ?_
    refine G.get E inX9 0 rfl rfl 18 (by decide) (f716 E.fx) rfl dX9_exchange_32 ?_
    refine G.bipush (v := 9) E dX9_exchange_35 (by decide) ?_
    refine G.iload_n E dX9_exchange_37 rfl 3 rfl ?_
    refine G.imul E dX9_exchange_38 ?_
    refine G.iload_n E dX9_exchange_39 rfl 4 rfl ?_
    refine G.iadd E dX9_exchange_40 ?_
    obtain ⟨hg, h⟩ := ite_n h
    refine G.lald E 18 3 rfl rfl hg dX9_exchange_41 ?_
    obtain ⟨hg, h⟩ := ite_n h
    refine G.last (ws' := (wM ad cy (pB σ 0 (((9 : Int32) * x1) + x3).toNatClampNeg (gB σ 0 (((9 : Int32) * x2) + x3).toNatClampNeg)))) E 18 3 rfl rfl hg dX9_exchange_42 (wM_aJ0 ad cy _ _ _) ?_
    refine G.aload_n E dX9_exchange_43 rfl 1 rfl ?_
    refine G.get E inX9 0 rfl rfl 18 (by decide) (f716 E.fx) rfl dX9_exchange_44 ?_
    refine G.bipush (v := 9) E dX9_exchange_47 (by decide) ?_
    refine G.iload_n E dX9_exchange_49 rfl 3 rfl ?_
    refine G.imul E dX9_exchange_50 ?_
    refine G.iload_n E dX9_exchange_51 rfl 4 rfl ?_
    refine G.iadd E dX9_exchange_52 ?_
    refine G.lload E dX9_exchange_53 0 rfl ?_
    obtain ⟨hg, h⟩ := ite_n h
    refine G.last (ws' := (wM ad cy (pB (pB σ 0 (((9 : Int32) * x1) + x3).toNatClampNeg (gB σ 0 (((9 : Int32) * x2) + x3).toNatClampNeg)) 0 (((9 : Int32) * x2) + x3).toNatClampNeg (gB σ 0 (((9 : Int32) * x1) + x3).toNatClampNeg)))) E 18 3 rfl rfl hg dX9_exchange_55 (wM_aJ0 ad cy _ _ _) ?_
    refine G.iinc (w := x3 + 1) (lv' := [(3, .int (x3 + 1)), (4, .long (gB σ 0 (((9 : Int32) * x1) + x3).toNatClampNeg)), (0, .ref (ad 0)), (1, .int x1), (2, .int x2)]) E dX9_exchange_56 4 rfl rfl (by decide) rfl ?_
    refine G.goto (tgt := 2) E dX9_exchange_59 (by decide) ?_
    refine G.sub (lv' := [(0, .ref (ad 0)), (1, .int x1), (2, .int x2), (3, .int (x3 + 1))]) [2, 3, 4, 0] rfl ?_
    exact hrec2 ((pB (pB σ 0 (((9 : Int32) * x1) + x3).toNatClampNeg (gB σ 0 (((9 : Int32) * x2) + x3).toNatClampNeg)) 0 (((9 : Int32) * x2) + x3).toNatClampNeg (gB σ 0 (((9 : Int32) * x1) + x3).toNatClampNeg)), x1, x2, (x3 + 1)) h
noncomputable def D_X9_exchange_L2  (σ : ST) (x1 : Int32) (x2 : Int32) (x3 : Int32) : Option ST := itr (fun (rec2 : (ST × Int32 × Int32 × Int32) → Option ST) (a : (ST × Int32 × Int32 × Int32)) => D_X9_exchange_L2_body rec2 a.1 a.2.1 a.2.2.1 a.2.2.2) 200 (σ, x1, x2, x3)
set_option maxRecDepth 100000 in
set_option maxHeartbeats 4000000 in
theorem B_X9_exchange_L2 {x : CX} {cy : Nat → ClassId} {ad : Nat → Nat} {r : ST} (E : Ev x cy cX9_exchange RX9 6 0 0) (K : RetV x cX9_exchange (wM ad cy r))  (σ : ST) (x1 : Int32) (x2 : Int32) (x3 : Int32) (h : D_X9_exchange_L2 σ x1 x2 x3 = some r) : G x 0 0 2 [(0, .ref (ad 0)), (1, .int x1), (2, .int x2), (3, .int x3)] [] (wM ad cy σ) :=
  itr_ind (P := fun a => G x 0 0 2 [(0, .ref (ad 0)), (1, .int a.2.1), (2, .int a.2.2.1), (3, .int a.2.2.2)] [] (wM ad cy a.1)) (fun rec2 hrec2 a h => B_X9_exchange_L2_body E K rec2 hrec2 a.1 a.2.1 a.2.2.1 a.2.2.2 h) 200 (σ, x1, x2, x3) h
noncomputable def D_X9_exchange (σ : ST) (p1 : Int32) (p2 : Int32) : Option ST := D_X9_exchange_L2 σ p1 p2 (0 : Int32)
set_option maxRecDepth 100000 in
set_option maxHeartbeats 4000000 in
theorem B_X9_exchange {x : CX} {cy : Nat → ClassId} {ad : Nat → Nat} {r : ST} (E : Ev x cy cX9_exchange RX9 6 0 0) (K : RetV x cX9_exchange (wM ad cy r)) (σ : ST) (p1 : Int32) (p2 : Int32) (h : D_X9_exchange σ p1 p2 = some r) : G x 0 0 0 [(0, .ref (ad 0)), (1, .int p1), (2, .int p2)] [] (wM ad cy σ) := by
  unfold D_X9_exchange at h
  refine G.iconst (v := 0) E dX9_exchange_0 (by decide) ?_
  refine G.istore_n (lv' := [(3, .int (0 : Int32)), (0, .ref (ad 0)), (1, .int p1), (2, .int p2)]) E dX9_exchange_1 rfl (by decide) rfl ?_
  refine G.sub (lv' := [(0, .ref (ad 0)), (1, .int p1), (2, .int p2), (3, .int (0 : Int32))]) [1, 2, 3, 0] rfl ?_
  exact B_X9_exchange_L2 E K σ p1 p2 (0 : Int32) h
set_option maxRecDepth 100000 in
set_option maxHeartbeats 4000000 in
theorem C_X9_exchange {l : Launch} {D : va_G} {cy : Nat → ClassId} {ad : Nat → Nat} {σ : ST} {p1 : Int32} {p2 : Int32} {r : ST} (h : D_X9_exchange σ p1 p2 = some r) : MV l yX9_exchange cX9_exchange 6 none 0 0 D cy (wM ad cy σ) [.ref (ad 0), .int p1, .int p2]  (wM ad cy r) :=
  MV.mk (lv := [(0, .ref (ad 0)), (1, .int p1), (2, .int p2)]) (by decide) (Nat.le_of_ble_eq_true rfl) rfl (fun x _ _ E K => B_X9_exchange E K σ p1 p2 h)
