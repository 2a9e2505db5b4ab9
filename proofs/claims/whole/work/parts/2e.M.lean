noncomputable def D_X9_answerNow_b78 (rec15 : (ST × Int32 × Int32 × Int32 × Int32 × Int32) → Option (Int32 × ST)) (σ : ST) (x2 : Int32) (x3 : Int32) (x4 : Int32) (x6 : Int32) (s0 : Int32) : Option (Int32 × ST) := rec15 (σ, x2, x3, x4, s0, (x6 + 1))
set_option maxRecDepth 100000 in
set_option maxHeartbeats 4000000 in
theorem B_X9_answerNow_b78 {x : CX} {cy : Nat → ClassId} {ad : Nat → Nat} {r : (Int32 × ST)} (E : Ev x cy cX9_answerNow RX9 8 4 99) (K : RetI x cX9_answerNow .int r.1 (wM ad cy r.2)) (rec15 : (ST × Int32 × Int32 × Int32 × Int32 × Int32) → Option (Int32 × ST)) (hrec15 : ∀ a, rec15 a = some r → G x 0 0 15 [(0, .ref (ad 0)), (2, .int a.2.1), (3, .int a.2.2.1), (4, .int a.2.2.2.1), (5, .int a.2.2.2.2.1), (6, .int a.2.2.2.2.2)] [] (wM ad cy a.1)) (σ : ST) (x2 : Int32) (x3 : Int32) (x4 : Int32) (x6 : Int32) (s0 : Int32) (h : D_X9_answerNow_b78 rec15 σ x2 x3 x4 x6 s0 = some r) : G x 0 0 78 [(0, .ref (ad 0)), (2, .int x2), (3, .int x3), (4, .int x4), (6, .int x6)] [.int s0] (wM ad cy σ) := by
  unfold D_X9_answerNow_b78 at h
  refine G.istore (lv' := [(5, .int s0), (0, .ref (ad 0)), (2, .int x2), (3, .int x3), (4, .int x4), (6, .int x6)]) E dX9_answerNow_78 (by decide) rfl ?_
  refine G.iinc (w := x6 + 1) (lv' := [(6, .int (x6 + 1)), (5, .int s0), (0, .ref (ad 0)), (2, .int x2), (3, .int x3), (4, .int x4)]) E dX9_answerNow_80 5 rfl rfl (by decide) rfl ?_
  refine G.goto (tgt := 15) E dX9_answerNow_83 (by decide) ?_
  refine G.sub (lv' := [(0, .ref (ad 0)), (2, .int x2), (3, .int x3), (4, .int x4), (5, .int s0), (6, .int (x6 + 1))]) [2, 3, 4, 5, 1, 0] rfl ?_
  exact hrec15 (σ, x2, x3, x4, s0, (x6 + 1)) h
noncomputable def D_X9_answerNow_b62 (rec15 : (ST × Int32 × Int32 × Int32 × Int32 × Int32) → Option (Int32 × ST)) (σ : ST) (x2 : Int32) (x3 : Int32) (x5 : Int32) (x6 : Int32) (x7 : Int32) (s0 : Int32) : Option (Int32 × ST) := if x7 ≤ x5 then (D_X9_answerNow_b78 rec15 σ x2 x3 s0 x6 x5) else (D_X9_answerNow_b78 rec15 σ x2 x3 s0 x6 x7)
set_option maxRecDepth 100000 in
set_option maxHeartbeats 4000000 in
theorem B_X9_answerNow_b62 {x : CX} {cy : Nat → ClassId} {ad : Nat → Nat} {r : (Int32 × ST)} (E : Ev x cy cX9_answerNow RX9 8 4 99) (K : RetI x cX9_answerNow .int r.1 (wM ad cy r.2)) (rec15 : (ST × Int32 × Int32 × Int32 × Int32 × Int32) → Option (Int32 × ST)) (hrec15 : ∀ a, rec15 a = some r → G x 0 0 15 [(0, .ref (ad 0)), (2, .int a.2.1), (3, .int a.2.2.1), (4, .int a.2.2.2.1), (5, .int a.2.2.2.2.1), (6, .int a.2.2.2.2.2)] [] (wM ad cy a.1)) (σ : ST) (x2 : Int32) (x3 : Int32) (x5 : Int32) (x6 : Int32) (x7 : Int32) (s0 : Int32) (h : D_X9_answerNow_b62 rec15 σ x2 x3 x5 x6 x7 s0 = some r) : G x 0 0 62 [(0, .ref (ad 0)), (2, .int x2), (3, .int x3), (5, .int x5), (6, .int x6), (7, .int x7)] [.int s0] (wM ad cy σ) := by
  unfold D_X9_answerNow_b62 at h
  refine G.istore (lv' := [(4, .int s0), (0, .ref (ad 0)), (2, .int x2), (3, .int x3), (5, .int x5), (6, .int x6), (7, .int x7)]) E dX9_answerNow_62 (by decide) rfl ?_
  refine G.iload E dX9_answerNow_64 6 rfl ?_
  refine G.iload E dX9_answerNow_66 4 rfl ?_
  refine G.icmp_le (tgt := 76) E dX9_answerNow_68 (by decide) (fun q => ?_) (fun q => ?_)
  · have h := ite_t h q
    refine G.iload E dX9_answerNow_76 4 rfl ?_
    refine G.sub (lv' := [(0, .ref (ad 0)), (2, .int x2), (3, .int x3), (4, .int s0), (6, .int x6)]) [1, 2, 3, 0, 5] rfl ?_
    exact B_X9_answerNow_b78 E K rec15 hrec15 σ x2 x3 s0 x6 x5 h
  · have h := ite_f h q
    refine G.iload E dX9_answerNow_71 6 rfl ?_
    refine G.goto (tgt := 78) E dX9_answerNow_73 (by decide) ?_
    refine G.sub (lv' := [(0, .ref (ad 0)), (2, .int x2), (3, .int x3), (4, .int s0), (6, .int x6)]) [1, 2, 3, 0, 5] rfl ?_
    exact B_X9_answerNow_b78 E K rec15 hrec15 σ x2 x3 s0 x6 x7 h
noncomputable def D_X9_answerNow_b46 (rec15 : (ST × Int32 × Int32 × Int32 × Int32 × Int32) → Option (Int32 × ST)) (σ : ST) (x2 : Int32) (x3 : Int32) (x4 : Int32) (x5 : Int32) (x6 : Int32) (s0 : Int32) : Option (Int32 × ST) := if s0 ≤ x5 then (D_X9_answerNow_b62 rec15 σ x2 x3 x5 x6 s0 x4) else (D_X9_answerNow_b62 rec15 σ x2 x3 x5 x6 s0 x6)
set_option maxRecDepth 100000 in
set_option maxHeartbeats 4000000 in
theorem B_X9_answerNow_b46 {x : CX} {cy : Nat → ClassId} {ad : Nat → Nat} {r : (Int32 × ST)} (E : Ev x cy cX9_answerNow RX9 8 4 99) (K : RetI x cX9_answerNow .int r.1 (wM ad cy r.2)) (rec15 : (ST × Int32 × Int32 × Int32 × Int32 × Int32) → Option (Int32 × ST)) (hrec15 : ∀ a, rec15 a = some r → G x 0 0 15 [(0, .ref (ad 0)), (2, .int a.2.1), (3, .int a.2.2.1), (4, .int a.2.2.2.1), (5, .int a.2.2.2.2.1), (6, .int a.2.2.2.2.2)] [] (wM ad cy a.1)) (σ : ST) (x2 : Int32) (x3 : Int32) (x4 : Int32) (x5 : Int32) (x6 : Int32) (s0 : Int32) (h : D_X9_answerNow_b46 rec15 σ x2 x3 x4 x5 x6 s0 = some r) : G x 0 0 46 [(0, .ref (ad 0)), (2, .int x2), (3, .int x3), (4, .int x4), (5, .int x5), (6, .int x6)] [.int s0] (wM ad cy σ) := by
  unfold D_X9_answerNow_b46 at h
  refine G.istore (lv' := [(7, .int s0), (0, .ref (ad 0)), (2, .int x2), (3, .int x3), (4, .int x4), (5, .int x5), (6, .int x6)]) E dX9_answerNow_46 (by decide) rfl ?_
  refine G.iload E dX9_answerNow_48 0 rfl ?_
  refine G.iload E dX9_answerNow_50 5 rfl ?_
  refine G.icmp_le (tgt := 60) E dX9_answerNow_52 (by decide) (fun q => ?_) (fun q => ?_)
  · have h := ite_t h q
    refine G.iload E dX9_answerNow_60 4 rfl ?_
    refine G.sub (lv' := [(0, .ref (ad 0)), (2, .int x2), (3, .int x3), (5, .int x5), (6, .int x6), (7, .int s0)]) [1, 2, 3, 5, 6, 0] rfl ?_
    exact B_X9_answerNow_b62 E K rec15 hrec15 σ x2 x3 x5 x6 s0 x4 h
  · have h := ite_f h q
    refine G.iload E dX9_answerNow_55 6 rfl ?_
    refine G.goto (tgt := 62) E dX9_answerNow_57 (by decide) ?_
    refine G.sub (lv' := [(0, .ref (ad 0)), (2, .int x2), (3, .int x3), (5, .int x5), (6, .int x6), (7, .int s0)]) [1, 2, 3, 5, 6, 0] rfl ?_
    exact B_X9_answerNow_b62 E K rec15 hrec15 σ x2 x3 x5 x6 s0 x6 h
noncomputable def D_X9_answerNow_L15_body (rec15 : (ST × Int32 × Int32 × Int32 × Int32 × Int32) → Option (Int32 × ST)) (σ : ST) (x2 : Int32) (x3 : Int32) (x4 : Int32) (x5 : Int32) (x6 : Int32) : Option (Int32 × ST) := (D_X9_rows σ).bind fun r3 => if r3 ≤ x6 then (if x2 = 0 then (some (x4, σ)) else (some (x5, σ))) else ((D_X9_isIn x3 x6).bind fun r5 => if r5 = 0 then ((D_X9_duelOf σ ((1 : Int32) <<< (x6 &&& 31)) x3).bind fun r7 => D_X9_answerNow_b46 rec15 r7.2 x2 x3 x4 x5 x6 r7.1) else (D_X9_answerNow_b46 rec15 σ x2 x3 x4 x5 x6 (-1 : Int32)))
set_option maxRecDepth 100000 in
set_option maxHeartbeats 4000000 in
theorem B_X9_answerNow_L15_body {x : CX} {cy : Nat → ClassId} {ad : Nat → Nat} {r : (Int32 × ST)} (E : Ev x cy cX9_answerNow RX9 8 4 99) (K : RetI x cX9_answerNow .int r.1 (wM ad cy r.2)) (rec15 : (ST × Int32 × Int32 × Int32 × Int32 × Int32) → Option (Int32 × ST)) (hrec15 : ∀ a, rec15 a = some r → G x 0 0 15 [(0, .ref (ad 0)), (2, .int a.2.1), (3, .int a.2.2.1), (4, .int a.2.2.2.1), (5, .int a.2.2.2.2.1), (6, .int a.2.2.2.2.2)] [] (wM ad cy a.1)) (σ : ST) (x2 : Int32) (x3 : Int32) (x4 : Int32) (x5 : Int32) (x6 : Int32) (h : D_X9_answerNow_L15_body rec15 σ x2 x3 x4 x5 x6 = some r) : G x 0 0 15 [(0, .ref (ad 0)), (2, .int x2), (3, .int x3), (4, .int x4), (5, .int x5), (6, .int x6)] [] (wM ad cy σ) := by
  unfold D_X9_answerNow_L15_body at h
  refine G.iload E dX9_answerNow_15 5 rfl ?_
  refine G.aload_n E dX9_answerNow_17 rfl 0 rfl ?_
  obtain ⟨r3, h4, h⟩ := bind_s h
  refine G.retI E (runV (st := [.int x6]) (As := []) E (C_X9_rows h4) ck_X9_rows (f868 E.fx) (f870 E.fx) (f34 E.fx) 0 9 rfl rfl rfl (by decide) (by decide) rfl (Nat.le_of_ble_eq_true rfl) dX9_answerNow_18 ⟨Nat.zero_le _, Nat.zero_le _⟩) ?_
  refine G.icmp_ge (tgt := 86) E dX9_answerNow_21 (by decide) (fun q => ?_) (fun q => ?_)
  · have h := ite_t h q
    refine G.iload_n E dX9_answerNow_86 rfl 1 rfl ?_
    refine G.if_ne (tgt := 95) E dX9_answerNow_87 (by decide) (fun q => ?_) (fun q => ?_)
    · have h := ite_f h q
      refine G.iload E dX9_answerNow_95 4 rfl ?_
      obtain rfl := Option.some.inj h
      exact K rfl _ _ dX9_answerNow_97
    · have h := ite_t h q
      refine G.iload E dX9_answerNow_90 3 rfl ?_
      refine G.goto (tgt := 97) E dX9_answerNow_92 (by decide) ?_
      obtain rfl := Option.some.inj h
      exact K rfl _ _ dX9_answerNow_97
  · have h := ite_f h q
    refine G.iload_n E dX9_answerNow_24 rfl 2 rfl ?_
    refine G.iload E dX9_answerNow_25 5 rfl ?_
    obtain ⟨r5, h6, h⟩ := bind_s h
    refine G.retI E (runS (st := []) (As := [.int x3, .int x6]) E (C_X9_isIn h6) ck_X9_isIn (f889 E.fx) (f890 E.fx) (by decide) (by decide) rfl (Nat.le_of_ble_eq_true rfl) dX9_answerNow_27 ⟨Nat.zero_le _, Nat.zero_le _⟩) ?_
    refine G.if_eq (tgt := 37) E dX9_answerNow_30 (by decide) (fun q => ?_) (fun q => ?_)
    · have h := ite_t h q
      refine G.aload_n E dX9_answerNow_37 rfl 0 rfl ?_
      refine G.iconst (v := 1) E dX9_answerNow_38 (by decide) ?_
      refine G.iload E dX9_answerNow_39 5 rfl ?_
      refine G.ishl E dX9_answerNow_41 ?_
      refine G.iload_n E dX9_answerNow_42 rfl 2 rfl ?_
      obtain ⟨r7, h8, h⟩ := bind_s h
      refine G.retI E (runV (st := []) (As := [.int ((1 : Int32) <<< (x6 &&& 31)), .int x3]) E (C_X9_duelOf h8) ck_X9_duelOf (f961 E.fx) (f963 E.fx) (f48 E.fx) 0 9 rfl rfl rfl (by decide) (by decide) rfl (Nat.le_of_ble_eq_true rfl) dX9_answerNow_43 ⟨Nat.zero_le _, Nat.zero_le _⟩) ?_
      refine G.sub (lv' := [(0, .ref (ad 0)), (2, .int x2), (3, .int x3), (4, .int x4), (5, .int x5), (6, .int x6)]) [0, 1, 2, 3, 4, 5] rfl ?_
      exact B_X9_answerNow_b46 E K rec15 hrec15 r7.2 x2 x3 x4 x5 x6 r7.1 h
    · have h := ite_f h q
      refine G.iconst (v := -1) E dX9_answerNow_33 (by decide) ?_
      refine G.goto (tgt := 46) E dX9_answerNow_34 (by decide) ?_
      refine G.sub (lv' := [(0, .ref (ad 0)), (2, .int x2), (3, .int x3), (4, .int x4), (5, .int x5), (6, .int x6)]) [0, 1, 2, 3, 4, 5] rfl ?_
      exact B_X9_answerNow_b46 E K rec15 hrec15 σ x2 x3 x4 x5 x6 (-1 : Int32) h
noncomputable def D_X9_answerNow_L15  (σ : ST) (x2 : Int32) (x3 : Int32) (x4 : Int32) (x5 : Int32) (x6 : Int32) : Option (Int32 × ST) := itr (fun (rec15 : (ST × Int32 × Int32 × Int32 × Int32 × Int32) → Option (Int32 × ST)) (a : (ST × Int32 × Int32 × Int32 × Int32 × Int32)) => D_X9_answerNow_L15_body rec15 a.1 a.2.1 a.2.2.1 a.2.2.2.1 a.2.2.2.2.1 a.2.2.2.2.2) 200 (σ, x2, x3, x4, x5, x6)
set_option maxRecDepth 100000 in
set_option maxHeartbeats 4000000 in
theorem B_X9_answerNow_L15 {x : CX} {cy : Nat → ClassId} {ad : Nat → Nat} {r : (Int32 × ST)} (E : Ev x cy cX9_answerNow RX9 8 4 99) (K : RetI x cX9_answerNow .int r.1 (wM ad cy r.2))  (σ : ST) (x2 : Int32) (x3 : Int32) (x4 : Int32) (x5 : Int32) (x6 : Int32) (h : D_X9_answerNow_L15 σ x2 x3 x4 x5 x6 = some r) : G x 0 0 15 [(0, .ref (ad 0)), (2, .int x2), (3, .int x3), (4, .int x4), (5, .int x5), (6, .int x6)] [] (wM ad cy σ) :=
  itr_ind (P := fun a => G x 0 0 15 [(0, .ref (ad 0)), (2, .int a.2.1), (3, .int a.2.2.1), (4, .int a.2.2.2.1), (5, .int a.2.2.2.2.1), (6, .int a.2.2.2.2.2)] [] (wM ad cy a.1)) (fun rec15 hrec15 a h => B_X9_answerNow_L15_body E K rec15 hrec15 a.1 a.2.1 a.2.2.1 a.2.2.2.1 a.2.2.2.2.1 a.2.2.2.2.2 h) 200 (σ, x2, x3, x4, x5, x6) h
noncomputable def D_X9_answerNow (σ : ST) (p1 : Int32) (p2 : Int32) : Option (Int32 × ST) := (D_X9_hitsOf σ p1).bind fun r1 => D_X9_answerNow_L15 σ p2 r1 (-1 : Int32) (-1 : Int32) (0 : Int32)
set_option maxRecDepth 100000 in
set_option maxHeartbeats 4000000 in
theorem B_X9_answerNow {x : CX} {cy : Nat → ClassId} {ad : Nat → Nat} {r : (Int32 × ST)} (E : Ev x cy cX9_answerNow RX9 8 4 99) (K : RetI x cX9_answerNow .int r.1 (wM ad cy r.2)) (σ : ST) (p1 : Int32) (p2 : Int32) (h : D_X9_answerNow σ p1 p2 = some r) : G x 0 0 0 [(0, .ref (ad 0)), (1, .int p1), (2, .int p2)] [] (wM ad cy σ) := by
  unfold D_X9_answerNow at h
  refine G.aload_n E dX9_answerNow_0 rfl 0 rfl ?_
  refine G.iload_n E dX9_answerNow_1 rfl 1 rfl ?_
  obtain ⟨r1, h2, h⟩ := bind_s h
  refine G.retI E (runV (st := []) (As := [.int p1]) E (C_X9_hitsOf h2) ck_X9_hitsOf (f860 E.fx) (f862 E.fx) (f32 E.fx) 0 9 rfl rfl rfl (by decide) (by decide) rfl (Nat.le_of_ble_eq_true rfl) dX9_answerNow_2 ⟨Nat.zero_le _, Nat.zero_le _⟩) ?_
  refine G.istore_n (lv' := [(3, .int r1), (0, .ref (ad 0)), (1, .int p1), (2, .int p2)]) E dX9_answerNow_5 rfl (by decide) rfl ?_
  refine G.iconst (v := -1) E dX9_answerNow_6 (by decide) ?_
  refine G.istore (lv' := [(4, .int (-1 : Int32)), (3, .int r1), (0, .ref (ad 0)), (1, .int p1), (2, .int p2)]) E dX9_answerNow_7 (by decide) rfl ?_
  refine G.iconst (v := -1) E dX9_answerNow_9 (by decide) ?_
  refine G.istore (lv' := [(5, .int (-1 : Int32)), (4, .int (-1 : Int32)), (3, .int r1), (0, .ref (ad 0)), (1, .int p1), (2, .int p2)]) E dX9_answerNow_10 (by decide) rfl ?_
  refine G.iconst (v := 0) E dX9_answerNow_12 (by decide) ?_
  refine G.istore (lv' := [(6, .int (0 : Int32)), (5, .int (-1 : Int32)), (4, .int (-1 : Int32)), (3, .int r1), (0, .ref (ad 0)), (1, .int p1), (2, .int p2)]) E dX9_answerNow_13 (by decide) rfl ?_
  refine G.sub (lv' := [(0, .ref (ad 0)), (2, .int p2), (3, .int r1), (4, .int (-1 : Int32)), (5, .int (-1 : Int32)), (6, .int (0 : Int32))]) [4, 6, 3, 2, 1, 0] rfl ?_
  exact B_X9_answerNow_L15 E K σ p2 r1 (-1 : Int32) (-1 : Int32) (0 : Int32) h
set_option maxRecDepth 100000 in
set_option maxHeartbeats 4000000 in
theorem C_X9_answerNow {l : Launch} {D : va_G} {cy : Nat → ClassId} {ad : Nat → Nat} {σ : ST} {p1 : Int32} {p2 : Int32} {r : (Int32 × ST)} (h : D_X9_answerNow σ p1 p2 = some r) : MI l yX9_answerNow cX9_answerNow 8 (some .int) 4 99 D cy (wM ad cy σ) [.ref (ad 0), .int p1, .int p2] r.1 (wM ad cy r.2) :=
  MI.mk (lv := [(0, .ref (ad 0)), (1, .int p1), (2, .int p2)]) (by decide) (Nat.le_of_ble_eq_true rfl) rfl (fun x _ _ E K => B_X9_answerNow E K σ p1 p2 h)

noncomputable def D_X9_answer (σ : ST) (p1 : Int32) (p2 : Int32) : Option (Int32 × ST) := (D_X9_isPlayer σ p1).bind fun r1 => if r1 = 0 then (some ((-101 : Int32), σ)) else ((D_X9_within p2 (0 : Int32) (1 : Int32)).bind fun r3 => if r3 = 0 then (some ((-102 : Int32), σ)) else ((D_X9_answerNow σ p1 p2).bind fun r5 => some (r5.1, r5.2)))
set_option maxRecDepth 100000 in
set_option maxHeartbeats 4000000 in
theorem B_X9_answer {x : CX} {cy : Nat → ClassId} {ad : Nat → Nat} {r : (Int32 × ST)} (E : Ev x cy cX9_answer RX9 3 5 126) (K : RetI x cX9_answer .int r.1 (wM ad cy r.2)) (σ : ST) (p1 : Int32) (p2 : Int32) (h : D_X9_answer σ p1 p2 = some r) : G x 0 0 0 [(0, .ref (ad 0)), (1, .int p1), (2, .int p2)] [] (wM ad cy σ) := by
  unfold D_X9_answer at h
  refine G.aload_n E dX9_answer_0 rfl 0 rfl ?_
  refine G.iload_n E dX9_answer_1 rfl 1 rfl ?_
  obtain ⟨r1, h2, h⟩ := bind_s h
  refine G.retI E (runV (st := []) (As := [.int p1]) E (C_X9_isPlayer h2) ck_X9_isPlayer (f852 E.fx) (f854 E.fx) (f30 E.fx) 0 9 rfl rfl rfl (by decide) (by decide) rfl (Nat.le_of_ble_eq_true rfl) dX9_answer_2 ⟨Nat.zero_le _, Nat.zero_le _⟩) ?_
  refine G.if_ne (tgt := 11) E dX9_answer_5 (by decide) (fun q => ?_) (fun q => ?_)
  · have h := ite_f h q
    refine G.iload_n E dX9_answer_11 rfl 2 rfl ?_
    refine G.iconst (v := 0) E dX9_answer_12 (by decide) ?_
    refine G.iconst (v := 1) E dX9_answer_13 (by decide) ?_
    obtain ⟨r3, h4, h⟩ := bind_s h
    refine G.retI E (runS (st := []) (As := [.int p2, .int (0 : Int32), .int (1 : Int32)]) E (C_X9_within h4) ck_X9_within (f814 E.fx) (f815 E.fx) (by decide) (by decide) rfl (Nat.le_of_ble_eq_true rfl) dX9_answer_14 ⟨Nat.zero_le _, Nat.zero_le _⟩) ?_
    refine G.if_eq (tgt := 29) E dX9_answer_17 (by decide) (fun q => ?_) (fun q => ?_)
    · have h := ite_t h q
      refine G.bipush (v := -102) E dX9_answer_29 (by decide) ?_
      obtain rfl := Option.some.inj h
      exact K rfl _ _ dX9_answer_31
    · have h := ite_f h q
      refine G.aload_n E dX9_answer_20 rfl 0 rfl ?_
      refine G.iload_n E dX9_answer_21 rfl 1 rfl ?_
      refine G.iload_n E dX9_answer_22 rfl 2 rfl ?_
      obtain ⟨r5, h6, h⟩ := bind_s h
      refine G.retI E (runV (st := []) (As := [.int p1, .int p2]) E (C_X9_answerNow h6) ck_X9_answerNow (f970 E.fx) (f972 E.fx) (f49 E.fx) 0 9 rfl rfl rfl (by decide) (by decide) rfl (Nat.le_of_ble_eq_true rfl) dX9_answer_23 ⟨Nat.zero_le _, Nat.zero_le _⟩) ?_
      refine G.goto (tgt := 31) E dX9_answer_26 (by decide) ?_
      obtain rfl := Option.some.inj h
      exact K rfl _ _ dX9_answer_31
  · have h := ite_t h q
    refine G.bipush (v := -101) E dX9_answer_8 (by decide) ?_
    obtain rfl := Option.some.inj h
    exact K rfl _ _ dX9_answer_10
set_option maxRecDepth 100000 in
set_option maxHeartbeats 4000000 in
theorem C_X9_answer {l : Launch} {D : va_G} {cy : Nat → ClassId} {ad : Nat → Nat} {σ : ST} {p1 : Int32} {p2 : Int32} {r : (Int32 × ST)} (h : D_X9_answer σ p1 p2 = some r) : MI l yX9_answer cX9_answer 3 (some .int) 5 126 D cy (wM ad cy σ) [.ref (ad 0), .int p1, .int p2] r.1 (wM ad cy r.2) :=
  MI.mk (lv := [(0, .ref (ad 0)), (1, .int p1), (2, .int p2)]) (by decide) (Nat.le_of_ble_eq_true rfl) rfl (fun x _ _ E K => B_X9_answer E K σ p1 p2 h)

noncomputable def D_X9_mostAgainst_b45 (rec4 : (ST × Int32 × Int32 × Int32) → Option (Int32 × ST)) (σ : ST) (x1 : Int32) (x3 : Int32) (s0 : Int32) : Option (Int32 × ST) := rec4 (σ, x1, s0, (x3 + 1))
set_option maxRecDepth 100000 in
set_option maxHeartbeats 4000000 in
theorem B_X9_mostAgainst_b45 {x : CX} {cy : Nat → ClassId} {ad : Nat → Nat} {r : (Int32 × ST)} (E : Ev x cy cX9_mostAgainst RX9 5 4 99) (K : RetI x cX9_mostAgainst .int r.1 (wM ad cy r.2)) (rec4 : (ST × Int32 × Int32 × Int32) → Option (Int32 × ST)) (hrec4 : ∀ a, rec4 a = some r → G x 0 0 4 [(0, .ref (ad 0)), (1, .int a.2.1), (2, .int a.2.2.1), (3, .int a.2.2.2)] [] (wM ad cy a.1)) (σ : ST) (x1 : Int32) (x3 : Int32) (s0 : Int32) (h : D_X9_mostAgainst_b45 rec4 σ x1 x3 s0 = some r) : G x 0 0 45 [(0, .ref (ad 0)), (1, .int x1), (3, .int x3)] [.int s0] (wM ad cy σ) := by
  unfold D_X9_mostAgainst_b45 at h
  refine G.istore_n (lv' := [(2, .int s0), (0, .ref (ad 0)), (1, .int x1), (3, .int x3)]) E dX9_mostAgainst_45 rfl (by decide) rfl ?_
  refine G.iinc (w := x3 + 1) (lv' := [(3, .int (x3 + 1)), (2, .int s0), (0, .ref (ad 0)), (1, .int x1)]) E dX9_mostAgainst_46 3 rfl rfl (by decide) rfl ?_
  refine G.goto (tgt := 4) E dX9_mostAgainst_49 (by decide) ?_
  refine G.sub (lv' := [(0, .ref (ad 0)), (1, .int x1), (2, .int s0), (3, .int (x3 + 1))]) [2, 3, 1, 0] rfl ?_
  exact hrec4 (σ, x1, s0, (x3 + 1)) h
noncomputable def D_X9_mostAgainst_b31 (rec4 : (ST × Int32 × Int32 × Int32) → Option (Int32 × ST)) (σ : ST) (x1 : Int32) (x2 : Int32) (x3 : Int32) (s0 : Int32) : Option (Int32 × ST) := if s0 ≤ x2 then (D_X9_mostAgainst_b45 rec4 σ x1 x3 x2) else (D_X9_mostAgainst_b45 rec4 σ x1 x3 s0)
set_option maxRecDepth 100000 in
set_option maxHeartbeats 4000000 in
theorem B_X9_mostAgainst_b31 {x : CX} {cy : Nat → ClassId} {ad : Nat → Nat} {r : (Int32 × ST)} (E : Ev x cy cX9_mostAgainst RX9 5 4 99) (K : RetI x cX9_mostAgainst .int r.1 (wM ad cy r.2)) (rec4 : (ST × Int32 × Int32 × Int32) → Option (Int32 × ST)) (hrec4 : ∀ a, rec4 a = some r → G x 0 0 4 [(0, .ref (ad 0)), (1, .int a.2.1), (2, .int a.2.2.1), (3, .int a.2.2.2)] [] (wM ad cy a.1)) (σ : ST) (x1 : Int32) (x2 : Int32) (x3 : Int32) (s0 : Int32) (h : D_X9_mostAgainst_b31 rec4 σ x1 x2 x3 s0 = some r) : G x 0 0 31 [(0, .ref (ad 0)), (1, .int x1), (2, .int x2), (3, .int x3)] [.int s0] (wM ad cy σ) := by
  unfold D_X9_mostAgainst_b31 at h
  refine G.istore (lv' := [(4, .int s0), (0, .ref (ad 0)), (1, .int x1), (2, .int x2), (3, .int x3)]) E dX9_mostAgainst_31 (by decide) rfl ?_
  refine G.iload E dX9_mostAgainst_33 0 rfl ?_
  refine G.iload_n E dX9_mostAgainst_35 rfl 3 rfl ?_
  refine G.icmp_le (tgt := 44) E dX9_mostAgainst_36 (by decide) (fun q => ?_) (fun q => ?_)
  · have h := ite_t h q
    refine G.iload_n E dX9_mostAgainst_44 rfl 3 rfl ?_
    refine G.sub (lv' := [(0, .ref (ad 0)), (1, .int x1), (3, .int x3)]) [1, 2, 4] rfl ?_
    exact B_X9_mostAgainst_b45 E K rec4 hrec4 σ x1 x3 x2 h
  · have h := ite_f h q
    refine G.iload E dX9_mostAgainst_39 0 rfl ?_
    refine G.goto (tgt := 45) E dX9_mostAgainst_41 (by decide) ?_
    refine G.sub (lv' := [(0, .ref (ad 0)), (1, .int x1), (3, .int x3)]) [1, 2, 4] rfl ?_
    exact B_X9_mostAgainst_b45 E K rec4 hrec4 σ x1 x3 s0 h
noncomputable def D_X9_mostAgainst_L4_body (rec4 : (ST × Int32 × Int32 × Int32) → Option (Int32 × ST)) (σ : ST) (x1 : Int32) (x2 : Int32) (x3 : Int32) : Option (Int32 × ST) := (D_X9_rows σ).bind fun r1 => if r1 ≤ x3 then (some (x2, σ)) else (if x3 = x1 then (D_X9_mostAgainst_b31 rec4 σ x1 x2 x3 (0 : Int32)) else ((D_X9_duelOf σ ((1 : Int32) <<< (x3 &&& 31)) ((1 : Int32) <<< (x1 &&& 31))).bind fun r3 => D_X9_mostAgainst_b31 rec4 r3.2 x1 x2 x3 r3.1))
set_option maxRecDepth 100000 in
set_option maxHeartbeats 4000000 in
theorem B_X9_mostAgainst_L4_body {x : CX} {cy : Nat → ClassId} {ad : Nat → Nat} {r : (Int32 × ST)} (E : Ev x cy cX9_mostAgainst RX9 5 4 99) (K : RetI x cX9_mostAgainst .int r.1 (wM ad cy r.2)) (rec4 : (ST × Int32 × Int32 × Int32) → Option (Int32 × ST)) (hrec4 : ∀ a, rec4 a = some r → G x 0 0 4 [(0, .ref (ad 0)), (1, .int a.2.1), (2, .int a.2.2.1), (3, .int a.2.2.2)] [] (wM ad cy a.1)) (σ : ST) (x1 : Int32) (x2 : Int32) (x3 : Int32) (h : D_X9_mostAgainst_L4_body rec4 σ x1 x2 x3 = some r) : G x 0 0 4 [(0, .ref (ad 0)), (1, .int x1), (2, .int x2), (3, .int x3)] [] (wM ad cy σ) := by
  unfold D_X9_mostAgainst_L4_body at h
  refine G.iload_n E dX9_mostAgainst_4 rfl 3 rfl ?_
  refine G.aload_n E dX9_mostAgainst_5 rfl 0 rfl ?_
  obtain ⟨r1, h2, h⟩ := bind_s h
  refine G.retI E (runV (st := [.int x3]) (As := []) E (C_X9_rows h2) ck_X9_rows (f868 E.fx) (f870 E.fx) (f34 E.fx) 0 9 rfl rfl rfl (by decide) (by decide) rfl (Nat.le_of_ble_eq_true rfl) dX9_mostAgainst_6 ⟨Nat.zero_le _, Nat.zero_le _⟩) ?_
  refine G.icmp_ge (tgt := 52) E dX9_mostAgainst_9 (by decide) (fun q => ?_) (fun q => ?_)
  · have h := ite_t h q
    refine G.iload_n E dX9_mostAgainst_52 rfl 2 rfl ?_
    obtain rfl := Option.some.inj h
    exact K rfl _ _ dX9_mostAgainst_53
  · have h := ite_f h q
    refine G.iload_n E dX9_mostAgainst_12 rfl 3 rfl ?_
    refine G.iload_n E dX9_mostAgainst_13 rfl 1 rfl ?_
    refine G.icmp_ne (tgt := 21) E dX9_mostAgainst_14 (by decide) (fun q => ?_) (fun q => ?_)
    · have h := ite_f h q
      refine G.aload_n E dX9_mostAgainst_21 rfl 0 rfl ?_
      refine G.iconst (v := 1) E dX9_mostAgainst_22 (by decide) ?_
      refine G.iload_n E dX9_mostAgainst_23 rfl 3 rfl ?_
      refine G.ishl E dX9_mostAgainst_24 ?_
      refine G.iconst (v := 1) E dX9_mostAgainst_25 (by decide) ?_
      refine G.iload_n E dX9_mostAgainst_26 rfl 1 rfl ?_
      refine G.ishl E dX9_mostAgainst_27 ?_
      obtain ⟨r3, h4, h⟩ := bind_s h
      refine G.retI E (runV (st := []) (As := [.int ((1 : Int32) <<< (x3 &&& 31)), .int ((1 : Int32) <<< (x1 &&& 31))]) E (C_X9_duelOf h4) ck_X9_duelOf (f961 E.fx) (f963 E.fx) (f48 E.fx) 0 9 rfl rfl rfl (by decide) (by decide) rfl (Nat.le_of_ble_eq_true rfl) dX9_mostAgainst_28 ⟨Nat.zero_le _, Nat.zero_le _⟩) ?_
      refine G.sub (lv' := [(0, .ref (ad 0)), (1, .int x1), (2, .int x2), (3, .int x3)]) [0, 1, 2, 3] rfl ?_
      exact B_X9_mostAgainst_b31 E K rec4 hrec4 r3.2 x1 x2 x3 r3.1 h
    · have h := ite_t h q
      refine G.iconst (v := 0) E dX9_mostAgainst_17 (by decide) ?_
      refine G.goto (tgt := 31) E dX9_mostAgainst_18 (by decide) ?_
      refine G.sub (lv' := [(0, .ref (ad 0)), (1, .int x1), (2, .int x2), (3, .int x3)]) [0, 1, 2, 3] rfl ?_
      exact B_X9_mostAgainst_b31 E K rec4 hrec4 σ x1 x2 x3 (0 : Int32) h
noncomputable def D_X9_mostAgainst_L4  (σ : ST) (x1 : Int32) (x2 : Int32) (x3 : Int32) : Option (Int32 × ST) := itr (fun (rec4 : (ST × Int32 × Int32 × Int32) → Option (Int32 × ST)) (a : (ST × Int32 × Int32 × Int32)) => D_X9_mostAgainst_L4_body rec4 a.1 a.2.1 a.2.2.1 a.2.2.2) 200 (σ, x1, x2, x3)
set_option maxRecDepth 100000 in
set_option maxHeartbeats 4000000 in
theorem B_X9_mostAgainst_L4 {x : CX} {cy : Nat → ClassId} {ad : Nat → Nat} {r : (Int32 × ST)} (E : Ev x cy cX9_mostAgainst RX9 5 4 99) (K : RetI x cX9_mostAgainst .int r.1 (wM ad cy r.2))  (σ : ST) (x1 : Int32) (x2 : Int32) (x3 : Int32) (h : D_X9_mostAgainst_L4 σ x1 x2 x3 = some r) : G x 0 0 4 [(0, .ref (ad 0)), (1, .int x1), (2, .int x2), (3, .int x3)] [] (wM ad cy σ) :=
  itr_ind (P := fun a => G x 0 0 4 [(0, .ref (ad 0)), (1, .int a.2.1), (2, .int a.2.2.1), (3, .int a.2.2.2)] [] (wM ad cy a.1)) (fun rec4 hrec4 a h => B_X9_mostAgainst_L4_body E K rec4 hrec4 a.1 a.2.1 a.2.2.1 a.2.2.2 h) 200 (σ, x1, x2, x3) h
noncomputable def D_X9_mostAgainst (σ : ST) (p1 : Int32) : Option (Int32 × ST) := D_X9_mostAgainst_L4 σ p1 (0 : Int32) (0 : Int32)
set_option maxRecDepth 100000 in
set_option maxHeartbeats 4000000 in
theorem B_X9_mostAgainst {x : CX} {cy : Nat → ClassId} {ad : Nat → Nat} {r : (Int32 × ST)} (E : Ev x cy cX9_mostAgainst RX9 5 4 99) (K : RetI x cX9_mostAgainst .int r.1 (wM ad cy r.2)) (σ : ST) (p1 : Int32) (h : D_X9_mostAgainst σ p1 = some r) : G x 0 0 0 [(0, .ref (ad 0)), (1, .int p1)] [] (wM ad cy σ) := by
  unfold D_X9_mostAgainst at h
  refine G.iconst (v := 0) E dX9_mostAgainst_0 (by decide) ?_
  refine G.istore_n (lv' := [(2, .int (0 : Int32)), (0, .ref (ad 0)), (1, .int p1)]) E dX9_mostAgainst_1 rfl (by decide) rfl ?_
  refine G.iconst (v := 0) E dX9_mostAgainst_2 (by decide) ?_
  refine G.istore_n (lv' := [(3, .int (0 : Int32)), (2, .int (0 : Int32)), (0, .ref (ad 0)), (1, .int p1)]) E dX9_mostAgainst_3 rfl (by decide) rfl ?_
  refine G.sub (lv' := [(0, .ref (ad 0)), (1, .int p1), (2, .int (0 : Int32)), (3, .int (0 : Int32))]) [2, 3, 1, 0] rfl ?_
  exact B_X9_mostAgainst_L4 E K σ p1 (0 : Int32) (0 : Int32) h
set_option maxRecDepth 100000 in
set_option maxHeartbeats 4000000 in
theorem C_X9_mostAgainst {l : Launch} {D : va_G} {cy : Nat → ClassId} {ad : Nat → Nat} {σ : ST} {p1 : Int32} {r : (Int32 × ST)} (h : D_X9_mostAgainst σ p1 = some r) : MI l yX9_mostAgainst cX9_mostAgainst 5 (some .int) 4 99 D cy (wM ad cy σ) [.ref (ad 0), .int p1] r.1 (wM ad cy r.2) :=
  MI.mk (lv := [(0, .ref (ad 0)), (1, .int p1)]) (by decide) (Nat.le_of_ble_eq_true rfl) rfl (fun x _ _ E K => B_X9_mostAgainst E K σ p1 h)

noncomputable def D_X9_openNow_b50 (rec8 : (ST × Int32 × Int32 × Int32 × Int32) → Option (Int32 × ST)) (σ : ST) (x1 : Int32) (x2 : Int32) (x4 : Int32) (s0 : Int32) : Option (Int32 × ST) := rec8 (σ, x1, x2, s0, (x4 + 1))
set_option maxRecDepth 100000 in
set_option maxHeartbeats 4000000 in
theorem B_X9_openNow_b50 {x : CX} {cy : Nat → ClassId} {ad : Nat → Nat} {r : (Int32 × ST)} (E : Ev x cy cX9_openNow RX9 6 5 123) (K : RetI x cX9_openNow .int r.1 (wM ad cy r.2)) (rec8 : (ST × Int32 × Int32 × Int32 × Int32) → Option (Int32 × ST)) (hrec8 : ∀ a, rec8 a = some r → G x 0 0 8 [(0, .ref (ad 0)), (1, .int a.2.1), (2, .int a.2.2.1), (3, .int a.2.2.2.1), (4, .int a.2.2.2.2)] [] (wM ad cy a.1)) (σ : ST) (x1 : Int32) (x2 : Int32) (x4 : Int32) (s0 : Int32) (h : D_X9_openNow_b50 rec8 σ x1 x2 x4 s0 = some r) : G x 0 0 50 [(0, .ref (ad 0)), (1, .int x1), (2, .int x2), (4, .int x4)] [.int s0] (wM ad cy σ) := by
  unfold D_X9_openNow_b50 at h
  refine G.istore_n (lv' := [(3, .int s0), (0, .ref (ad 0)), (1, .int x1), (2, .int x2), (4, .int x4)]) E dX9_openNow_50 rfl (by decide) rfl ?_
  refine G.iinc (w := x4 + 1) (lv' := [(4, .int (x4 + 1)), (3, .int s0), (0, .ref (ad 0)), (1, .int x1), (2, .int x2)]) E dX9_openNow_51 4 rfl rfl (by decide) rfl ?_
  refine G.goto (tgt := 8) E dX9_openNow_54 (by decide) ?_
  refine G.sub (lv' := [(0, .ref (ad 0)), (1, .int x1), (2, .int x2), (3, .int s0), (4, .int (x4 + 1))]) [2, 3, 4, 1, 0] rfl ?_
  exact hrec8 (σ, x1, x2, s0, (x4 + 1)) h
noncomputable def D_X9_openNow_b37 (rec8 : (ST × Int32 × Int32 × Int32 × Int32) → Option (Int32 × ST)) (σ : ST) (x1 : Int32) (x3 : Int32) (x4 : Int32) (x5 : Int32) (s0 : Int32) : Option (Int32 × ST) := if x3 ≤ x5 then (D_X9_openNow_b50 rec8 σ x1 s0 x4 x3) else (D_X9_openNow_b50 rec8 σ x1 s0 x4 x5)
set_option maxRecDepth 100000 in
set_option maxHeartbeats 4000000 in
theorem B_X9_openNow_b37 {x : CX} {cy : Nat → ClassId} {ad : Nat → Nat} {r : (Int32 × ST)} (E : Ev x cy cX9_openNow RX9 6 5 123) (K : RetI x cX9_openNow .int r.1 (wM ad cy r.2)) (rec8 : (ST × Int32 × Int32 × Int32 × Int32) → Option (Int32 × ST)) (hrec8 : ∀ a, rec8 a = some r → G x 0 0 8 [(0, .ref (ad 0)), (1, .int a.2.1), (2, .int a.2.2.1), (3, .int a.2.2.2.1), (4, .int a.2.2.2.2)] [] (wM ad cy a.1)) (σ : ST) (x1 : Int32) (x3 : Int32) (x4 : Int32) (x5 : Int32) (s0 : Int32) (h : D_X9_openNow_b37 rec8 σ x1 x3 x4 x5 s0 = some r) : G x 0 0 37 [(0, .ref (ad 0)), (1, .int x1), (3, .int x3), (4, .int x4), (5, .int x5)] [.int s0] (wM ad cy σ) := by
  unfold D_X9_openNow_b37 at h
  refine G.istore_n (lv' := [(2, .int s0), (0, .ref (ad 0)), (1, .int x1), (3, .int x3), (4, .int x4), (5, .int x5)]) E dX9_openNow_37 rfl (by decide) rfl ?_
  refine G.iload E dX9_openNow_38 5 rfl ?_
  refine G.iload_n E dX9_openNow_40 rfl 3 rfl ?_
  refine G.icmp_ge (tgt := 49) E dX9_openNow_41 (by decide) (fun q => ?_) (fun q => ?_)
  · have h := ite_t h q
    refine G.iload_n E dX9_openNow_49 rfl 3 rfl ?_
    refine G.sub (lv' := [(0, .ref (ad 0)), (1, .int x1), (2, .int s0), (4, .int x4)]) [1, 2, 0, 4] rfl ?_
    exact B_X9_openNow_b50 E K rec8 hrec8 σ x1 s0 x4 x3 h
  · have h := ite_f h q
    refine G.iload E dX9_openNow_44 5 rfl ?_
    refine G.goto (tgt := 50) E dX9_openNow_46 (by decide) ?_
    refine G.sub (lv' := [(0, .ref (ad 0)), (1, .int x1), (2, .int s0), (4, .int x4)]) [1, 2, 0, 4] rfl ?_
    exact B_X9_openNow_b50 E K rec8 hrec8 σ x1 s0 x4 x5 h
noncomputable def D_X9_openNow_L8_body (rec8 : (ST × Int32 × Int32 × Int32 × Int32) → Option (Int32 × ST)) (σ : ST) (x1 : Int32) (x2 : Int32) (x3 : Int32) (x4 : Int32) : Option (Int32 × ST) := (D_X9_rows σ).bind fun r1 => if r1 ≤ x4 then (if x1 = 0 then (some (x2, σ)) else (some (x3, σ))) else ((D_X9_mostAgainst σ x4).bind fun r3 => if x3 ≤ r3.1 then (D_X9_openNow_b37 rec8 r3.2 x1 x3 x4 r3.1 x2) else (D_X9_openNow_b37 rec8 r3.2 x1 x3 x4 r3.1 x4))
set_option maxRecDepth 100000 in
set_option maxHeartbeats 4000000 in
theorem B_X9_openNow_L8_body {x : CX} {cy : Nat → ClassId} {ad : Nat → Nat} {r : (Int32 × ST)} (E : Ev x cy cX9_openNow RX9 6 5 123) (K : RetI x cX9_openNow .int r.1 (wM ad cy r.2)) (rec8 : (ST × Int32 × Int32 × Int32 × Int32) → Option (Int32 × ST)) (hrec8 : ∀ a, rec8 a = some r → G x 0 0 8 [(0, .ref (ad 0)), (1, .int a.2.1), (2, .int a.2.2.1), (3, .int a.2.2.2.1), (4, .int a.2.2.2.2)] [] (wM ad cy a.1)) (σ : ST) (x1 : Int32) (x2 : Int32) (x3 : Int32) (x4 : Int32) (h : D_X9_openNow_L8_body rec8 σ x1 x2 x3 x4 = some r) : G x 0 0 8 [(0, .ref (ad 0)), (1, .int x1), (2, .int x2), (3, .int x3), (4, .int x4)] [] (wM ad cy σ) := by
  unfold D_X9_openNow_L8_body at h
  refine G.iload E dX9_openNow_8 4 rfl ?_
  refine G.aload_n E dX9_openNow_10 rfl 0 rfl ?_
  obtain ⟨r1, h2, h⟩ := bind_s h
  refine G.retI E (runV (st := [.int x4]) (As := []) E (C_X9_rows h2) ck_X9_rows (f868 E.fx) (f870 E.fx) (f34 E.fx) 0 9 rfl rfl rfl (by decide) (by decide) rfl (Nat.le_of_ble_eq_true rfl) dX9_openNow_11 ⟨Nat.zero_le _, Nat.zero_le _⟩) ?_
  refine G.icmp_ge (tgt := 57) E dX9_openNow_14 (by decide) (fun q => ?_) (fun q => ?_)
  · have h := ite_t h q
    refine G.iload_n E dX9_openNow_57 rfl 1 rfl ?_
    refine G.if_ne (tgt := 65) E dX9_openNow_58 (by decide) (fun q => ?_) (fun q => ?_)
    · have h := ite_f h q
      refine G.iload_n E dX9_openNow_65 rfl 3 rfl ?_
      obtain rfl := Option.some.inj h
      exact K rfl _ _ dX9_openNow_66
    · have h := ite_t h q
      refine G.iload_n E dX9_openNow_61 rfl 2 rfl ?_
      refine G.goto (tgt := 66) E dX9_openNow_62 (by decide) ?_
      obtain rfl := Option.some.inj h
      exact K rfl _ _ dX9_openNow_66
  · have h := ite_f h q
    refine G.aload_n E dX9_openNow_17 rfl 0 rfl ?_
    refine G.iload E dX9_openNow_18 4 rfl ?_
    obtain ⟨r3, h4, h⟩ := bind_s h
    refine G.retI E (runV (st := []) (As := [.int x4]) E (C_X9_mostAgainst h4) ck_X9_mostAgainst (f982 E.fx) (f984 E.fx) (f51 E.fx) 0 9 rfl rfl rfl (by decide) (by decide) rfl (Nat.le_of_ble_eq_true rfl) dX9_openNow_20 ⟨Nat.zero_le _, Nat.zero_le _⟩) ?_
    refine G.istore (lv' := [(5, .int r3.1), (0, .ref (ad 0)), (1, .int x1), (2, .int x2), (3, .int x3), (4, .int x4)]) E dX9_openNow_23 (by decide) rfl ?_
    refine G.iload E dX9_openNow_25 0 rfl ?_
    refine G.iload_n E dX9_openNow_27 rfl 4 rfl ?_
    refine G.icmp_ge (tgt := 36) E dX9_openNow_28 (by decide) (fun q => ?_) (fun q => ?_)
    · have h := ite_t h q
      refine G.iload_n E dX9_openNow_36 rfl 3 rfl ?_
      refine G.sub (lv' := [(0, .ref (ad 0)), (1, .int x1), (3, .int x3), (4, .int x4), (5, .int r3.1)]) [1, 2, 4, 5, 0] rfl ?_
      exact B_X9_openNow_b37 E K rec8 hrec8 r3.2 x1 x3 x4 r3.1 x2 h
    · have h := ite_f h q
      refine G.iload E dX9_openNow_31 5 rfl ?_
      refine G.goto (tgt := 37) E dX9_openNow_33 (by decide) ?_
      refine G.sub (lv' := [(0, .ref (ad 0)), (1, .int x1), (3, .int x3), (4, .int x4), (5, .int r3.1)]) [1, 2, 4, 5, 0] rfl ?_
      exact B_X9_openNow_b37 E K rec8 hrec8 r3.2 x1 x3 x4 r3.1 x4 h
noncomputable def D_X9_openNow_L8  (σ : ST) (x1 : Int32) (x2 : Int32) (x3 : Int32) (x4 : Int32) : Option (Int32 × ST) := itr (fun (rec8 : (ST × Int32 × Int32 × Int32 × Int32) → Option (Int32 × ST)) (a : (ST × Int32 × Int32 × Int32 × Int32)) => D_X9_openNow_L8_body rec8 a.1 a.2.1 a.2.2.1 a.2.2.2.1 a.2.2.2.2) 200 (σ, x1, x2, x3, x4)
set_option maxRecDepth 100000 in
set_option maxHeartbeats 4000000 in
theorem B_X9_openNow_L8 {x : CX} {cy : Nat → ClassId} {ad : Nat → Nat} {r : (Int32 × ST)} (E : Ev x cy cX9_openNow RX9 6 5 123) (K : RetI x cX9_openNow .int r.1 (wM ad cy r.2))  (σ : ST) (x1 : Int32) (x2 : Int32) (x3 : Int32) (x4 : Int32) (h : D_X9_openNow_L8 σ x1 x2 x3 x4 = some r) : G x 0 0 8 [(0, .ref (ad 0)), (1, .int x1), (2, .int x2), (3, .int x3), (4, .int x4)] [] (wM ad cy σ) :=
  itr_ind (P := fun a => G x 0 0 8 [(0, .ref (ad 0)), (1, .int a.2.1), (2, .int a.2.2.1), (3, .int a.2.2.2.1), (4, .int a.2.2.2.2)] [] (wM ad cy a.1)) (fun rec8 hrec8 a h => B_X9_openNow_L8_body E K rec8 hrec8 a.1 a.2.1 a.2.2.1 a.2.2.2.1 a.2.2.2.2 h) 200 (σ, x1, x2, x3, x4) h
noncomputable def D_X9_openNow (σ : ST) (p1 : Int32) : Option (Int32 × ST) := D_X9_openNow_L8 σ p1 (-1 : Int32) (268435456 : Int32) (0 : Int32)
set_option maxRecDepth 100000 in
set_option maxHeartbeats 4000000 in
theorem B_X9_openNow {x : CX} {cy : Nat → ClassId} {ad : Nat → Nat} {r : (Int32 × ST)} (E : Ev x cy cX9_openNow RX9 6 5 123) (K : RetI x cX9_openNow .int r.1 (wM ad cy r.2)) (σ : ST) (p1 : Int32) (h : D_X9_openNow σ p1 = some r) : G x 0 0 0 [(0, .ref (ad 0)), (1, .int p1)] [] (wM ad cy σ) := by
  unfold D_X9_openNow at h
  refine G.iconst (v := -1) E dX9_openNow_0 (by decide) ?_
  refine G.istore_n (lv' := [(2, .int (-1 : Int32)), (0, .ref (ad 0)), (1, .int p1)]) E dX9_openNow_1 rfl (by decide) rfl ?_
  refine G.ldc E (f920 E.fx) dX9_openNow_2 ?_
  refine G.istore_n (lv' := [(3, .int (268435456 : Int32)), (2, .int (-1 : Int32)), (0, .ref (ad 0)), (1, .int p1)]) E dX9_openNow_4 rfl (by decide) rfl ?_
  refine G.iconst (v := 0) E dX9_openNow_5 (by decide) ?_
  refine G.istore (lv' := [(4, .int (0 : Int32)), (3, .int (268435456 : Int32)), (2, .int (-1 : Int32)), (0, .ref (ad 0)), (1, .int p1)]) E dX9_openNow_6 (by decide) rfl ?_
  refine G.sub (lv' := [(0, .ref (ad 0)), (1, .int p1), (2, .int (-1 : Int32)), (3, .int (268435456 : Int32)), (4, .int (0 : Int32))]) [3, 4, 2, 1, 0] rfl ?_
  exact B_X9_openNow_L8 E K σ p1 (-1 : Int32) (268435456 : Int32) (0 : Int32) h
set_option maxRecDepth 100000 in
set_option maxHeartbeats 4000000 in
theorem C_X9_openNow {l : Launch} {D : va_G} {cy : Nat → ClassId} {ad : Nat → Nat} {σ : ST} {p1 : Int32} {r : (Int32 × ST)} (h : D_X9_openNow σ p1 = some r) : MI l yX9_openNow cX9_openNow 6 (some .int) 5 123 D cy (wM ad cy σ) [.ref (ad 0), .int p1] r.1 (wM ad cy r.2) :=
  MI.mk (lv := [(0, .ref (ad 0)), (1, .int p1)]) (by decide) (Nat.le_of_ble_eq_true rfl) rfl (fun x _ _ E K => B_X9_openNow E K σ p1 h)

noncomputable def D_X9_open (σ : ST) (p1 : Int32) : Option (Int32 × ST) := (D_X9_within p1 (0 : Int32) (1 : Int32)).bind fun r1 => if r1 = 0 then (some ((-102 : Int32), σ)) else (if (gI σ 1) = 0 then (some ((-103 : Int32), σ)) else ((D_X9_openNow σ p1).bind fun r3 => some (r3.1, r3.2)))
set_option maxRecDepth 100000 in
set_option maxHeartbeats 4000000 in
theorem B_X9_open {x : CX} {cy : Nat → ClassId} {ad : Nat → Nat} {r : (Int32 × ST)} (E : Ev x cy cX9_open RX9 2 6 148) (K : RetI x cX9_open .int r.1 (wM ad cy r.2)) (σ : ST) (p1 : Int32) (h : D_X9_open σ p1 = some r) : G x 0 0 0 [(0, .ref (ad 0)), (1, .int p1)] [] (wM ad cy σ) := by
  unfold D_X9_open at h
  refine G.iload_n E dX9_open_0 rfl 1 rfl ?_
  refine G.iconst (v := 0) E dX9_open_1 (by decide) ?_
  refine G.iconst (v := 1) E dX9_open_2 (by decide) ?_
  obtain ⟨r1, h2, h⟩ := bind_s h
  refine G.retI E (runS (st := []) (As := [.int p1, .int (0 : Int32), .int (1 : Int32)]) E (C_X9_within h2) ck_X9_within (f814 E.fx) (f815 E.fx) (by decide) (by decide) rfl (Nat.le_of_ble_eq_true rfl) dX9_open_3 ⟨Nat.zero_le _, Nat.zero_le _⟩) ?_
  refine G.if_ne (tgt := 12) E dX9_open_6 (by decide) (fun q => ?_) (fun q => ?_)
  · have h := ite_f h q
    refine G.aload_n E dX9_open_12 rfl 0 rfl ?_
    refine G.get E inX9 0 rfl rfl 1 (by decide) (f699 E.fx) rfl dX9_open_13 ?_
    refine G.if_ne (tgt := 24) E dX9_open_16 (by decide) (fun q => ?_) (fun q => ?_)
    · have h := ite_f h q
      refine G.aload_n E dX9_open_24 rfl 0 rfl ?_
      refine G.iload_n E dX9_open_25 rfl 1 rfl ?_
      obtain ⟨r3, h4, h⟩ := bind_s h
      refine G.retI E (runV (st := []) (As := [.int p1]) E (C_X9_openNow h4) ck_X9_openNow (f978 E.fx) (f980 E.fx) (f50 E.fx) 0 9 rfl rfl rfl (by decide) (by decide) rfl (Nat.le_of_ble_eq_true rfl) dX9_open_26 ⟨Nat.zero_le _, Nat.zero_le _⟩) ?_
      obtain rfl := Option.some.inj h
      exact K rfl _ _ dX9_open_29
    · have h := ite_t h q
      refine G.bipush (v := -103) E dX9_open_19 (by decide) ?_
      refine G.goto (tgt := 29) E dX9_open_21 (by decide) ?_
      obtain rfl := Option.some.inj h
      exact K rfl _ _ dX9_open_29
  · have h := ite_t h q
    refine G.bipush (v := -102) E dX9_open_9 (by decide) ?_
    obtain rfl := Option.some.inj h
    exact K rfl _ _ dX9_open_11
set_option maxRecDepth 100000 in
set_option maxHeartbeats 4000000 in
theorem C_X9_open {l : Launch} {D : va_G} {cy : Nat → ClassId} {ad : Nat → Nat} {σ : ST} {p1 : Int32} {r : (Int32 × ST)} (h : D_X9_open σ p1 = some r) : MI l yX9_open cX9_open 2 (some .int) 6 148 D cy (wM ad cy σ) [.ref (ad 0), .int p1] r.1 (wM ad cy r.2) :=
  MI.mk (lv := [(0, .ref (ad 0)), (1, .int p1)]) (by decide) (Nat.le_of_ble_eq_true rfl) rfl (fun x _ _ E K => B_X9_open E K σ p1 h)

noncomputable def D_X9_layBeats_b74 (rec2 : (ST × Int32) → Option ST) (σ : ST) (x1 : Int32) (s0 : Int32) (s1 : Int32) : Option ST := if s1 < 0 ∨ 16 ≤ s1.toNatClampNeg then none else (rec2 ((pA σ 7 s1.toNatClampNeg s0), (x1 + 1)))
set_option maxRecDepth 100000 in
set_option maxHeartbeats 4000000 in
theorem B_X9_layBeats_b74 {x : CX} {cy : Nat → ClassId} {ad : Nat → Nat} {r : ST} (E : Ev x cy cX9_layBeats RX9 5 5 121) (K : RetV x cX9_layBeats (wM ad cy r)) (rec2 : (ST × Int32) → Option ST) (hrec2 : ∀ a, rec2 a = some r → G x 0 0 2 [(0, .ref (ad 0)), (1, .int a.2)] [] (wM ad cy a.1)) (σ : ST) (x1 : Int32) (s0 : Int32) (s1 : Int32) (h : D_X9_layBeats_b74 rec2 σ x1 s0 s1 = some r) : G x 0 0 74 [(0, .ref (ad 0)), (1, .int x1)] [.int s0, .int s1, .ref (ad 8)] (wM ad cy σ) := by
  unfold D_X9_layBeats_b74 at h
  obtain ⟨hg, h⟩ := ite_n h
  refine G.iast (ws' := (wM ad cy (pA σ 7 s1.toNatClampNeg s0))) E 8 0 rfl rfl hg dX9_layBeats_74 (wM_aI7 ad cy _ _ _) ?_
  refine G.iinc (w := x1 + 1) (lv' := [(1, .int (x1 + 1)), (0, .ref (ad 0))]) E dX9_layBeats_75 1 rfl rfl (by decide) rfl ?_
  refine G.goto (tgt := 2) E dX9_layBeats_78 (by decide) ?_
  refine G.sub (lv' := [(0, .ref (ad 0)), (1, .int (x1 + 1))]) [1, 0] rfl ?_
  exact hrec2 ((pA σ 7 s1.toNatClampNeg s0), (x1 + 1)) h
noncomputable def D_X9_layBeats_b73 (rec2 : (ST × Int32) → Option ST) (σ : ST) (x1 : Int32) (s0 : Int32) : Option ST := D_X9_layBeats_b74 rec2 σ x1 (0 : Int32) s0
set_option maxRecDepth 100000 in
set_option maxHeartbeats 4000000 in
theorem B_X9_layBeats_b73 {x : CX} {cy : Nat → ClassId} {ad : Nat → Nat} {r : ST} (E : Ev x cy cX9_layBeats RX9 5 5 121) (K : RetV x cX9_layBeats (wM ad cy r)) (rec2 : (ST × Int32) → Option ST) (hrec2 : ∀ a, rec2 a = some r → G x 0 0 2 [(0, .ref (ad 0)), (1, .int a.2)] [] (wM ad cy a.1)) (σ : ST) (x1 : Int32) (s0 : Int32) (h : D_X9_layBeats_b73 rec2 σ x1 s0 = some r) : G x 0 0 73 [(0, .ref (ad 0)), (1, .int x1)] [.int s0, .ref (ad 8)] (wM ad cy σ) := by
  unfold D_X9_layBeats_b73 at h
  refine G.iconst (v := 0) E dX9_layBeats_73 (by decide) ?_
  refine G.sub (lv' := [(0, .ref (ad 0)), (1, .int x1)]) [0, 1] rfl ?_
  exact B_X9_layBeats_b74 E K rec2 hrec2 σ x1 (0 : Int32) s0 h
noncomputable def D_X9_layBeats_b42 (rec2 : (ST × Int32) → Option ST) (σ : ST) (x1 : Int32) (x2 : Int32) (x3 : Int32) (s0 : Int32) : Option ST := if s0 = 0 then (D_X9_layBeats_b73 rec2 σ x1 x1) else ((D_X9_duelNow σ x2 x3).bind fun r1 => (D_X9_duelNow r1.2 x3 x2).bind fun r3 => if r1.1 ≤ r3.1 then (D_X9_layBeats_b73 rec2 r3.2 x1 x1) else (D_X9_layBeats_b74 rec2 r3.2 x1 (1 : Int32) x1))
set_option maxRecDepth 100000 in
set_option maxHeartbeats 4000000 in
theorem B_X9_layBeats_b42 {x : CX} {cy : Nat → ClassId} {ad : Nat → Nat} {r : ST} (E : Ev x cy cX9_layBeats RX9 5 5 121) (K : RetV x cX9_layBeats (wM ad cy r)) (rec2 : (ST × Int32) → Option ST) (hrec2 : ∀ a, rec2 a = some r → G x 0 0 2 [(0, .ref (ad 0)), (1, .int a.2)] [] (wM ad cy a.1)) (σ : ST) (x1 : Int32) (x2 : Int32) (x3 : Int32) (s0 : Int32) (h : D_X9_layBeats_b42 rec2 σ x1 x2 x3 s0 = some r) : G x 0 0 42 [(0, .ref (ad 0)), (1, .int x1), (2, .int x2), (3, .int x3)] [.int s0] (wM ad cy σ) := by
  unfold D_X9_layBeats_b42 at h
  refine G.istore (lv' := [(4, .int s0), (0, .ref (ad 0)), (1, .int x1), (2, .int x2), (3, .int x3)]) E dX9_layBeats_42 (by decide) rfl ?_
  refine G.aload_n E dX9_layBeats_44 rfl 1 rfl ?_
  refine G.get E inX9 0 rfl rfl 19 (by decide) (f717 E.fx) rfl dX9_layBeats_45 ?_
  refine G.iload_n E dX9_layBeats_48 rfl 2 rfl ?_
  refine G.iload E dX9_layBeats_49 0 rfl ?_
  refine G.if_eq (tgt := 73) E dX9_layBeats_51 (by decide) (fun q => ?_) (fun q => ?_)
  · have h := ite_t h q
    refine G.sub (lv' := [(0, .ref (ad 0)), (1, .int x1)]) [1, 2] rfl ?_
    exact B_X9_layBeats_b73 E K rec2 hrec2 σ x1 x1 h
  · have h := ite_f h q
    refine G.aload_n E dX9_layBeats_54 rfl 1 rfl ?_
    refine G.iload_n E dX9_layBeats_55 rfl 3 rfl ?_
    refine G.iload_n E dX9_layBeats_56 rfl 4 rfl ?_
    obtain ⟨r1, h2, h⟩ := bind_s h
    refine G.retI E (runV (st := [.int x1, .ref (ad 8)]) (As := [.int x2, .int x3]) E (C_X9_duelNow h2) ck_X9_duelNow (f957 E.fx) (f959 E.fx) (f47 E.fx) 0 9 rfl rfl rfl (by decide) (by decide) rfl (Nat.le_of_ble_eq_true rfl) dX9_layBeats_57 ⟨Nat.zero_le _, Nat.zero_le _⟩) ?_
    refine G.aload_n E dX9_layBeats_60 rfl 1 rfl ?_
    refine G.iload_n E dX9_layBeats_61 rfl 4 rfl ?_
    refine G.iload_n E dX9_layBeats_62 rfl 3 rfl ?_
    obtain ⟨r3, h4, h⟩ := bind_s h
    refine G.retI E (runV (st := [.int r1.1, .int x1, .ref (ad 8)]) (As := [.int x3, .int x2]) E (C_X9_duelNow h4) ck_X9_duelNow (f957 E.fx) (f959 E.fx) (f47 E.fx) 0 9 rfl rfl rfl (by decide) (by decide) rfl (Nat.le_of_ble_eq_true rfl) dX9_layBeats_63 ⟨Nat.zero_le _, Nat.zero_le _⟩) ?_
    refine G.icmp_le (tgt := 73) E dX9_layBeats_66 (by decide) (fun q => ?_) (fun q => ?_)
    · have h := ite_t h q
      refine G.sub (lv' := [(0, .ref (ad 0)), (1, .int x1)]) [1, 2] rfl ?_
      exact B_X9_layBeats_b73 E K rec2 hrec2 r3.2 x1 x1 h
    · have h := ite_f h q
      refine G.iconst (v := 1) E dX9_layBeats_69 (by decide) ?_
      refine G.goto (tgt := 74) E dX9_layBeats_70 (by decide) ?_
      refine G.sub (lv' := [(0, .ref (ad 0)), (1, .int x1)]) [1, 2] rfl ?_
      exact B_X9_layBeats_b74 E K rec2 hrec2 r3.2 x1 (1 : Int32) x1 h
noncomputable def D_X9_layBeats_b41 (rec2 : (ST × Int32) → Option ST) (σ : ST) (x1 : Int32) (x2 : Int32) (x3 : Int32) : Option ST := D_X9_layBeats_b42 rec2 σ x1 x2 x3 (0 : Int32)
set_option maxRecDepth 100000 in
set_option maxHeartbeats 4000000 in
theorem B_X9_layBeats_b41 {x : CX} {cy : Nat → ClassId} {ad : Nat → Nat} {r : ST} (E : Ev x cy cX9_layBeats RX9 5 5 121) (K : RetV x cX9_layBeats (wM ad cy r)) (rec2 : (ST × Int32) → Option ST) (hrec2 : ∀ a, rec2 a = some r → G x 0 0 2 [(0, .ref (ad 0)), (1, .int a.2)] [] (wM ad cy a.1)) (σ : ST) (x1 : Int32) (x2 : Int32) (x3 : Int32) (h : D_X9_layBeats_b41 rec2 σ x1 x2 x3 = some r) : G x 0 0 41 [(0, .ref (ad 0)), (1, .int x1), (2, .int x2), (3, .int x3)] [] (wM ad cy σ) := by
  unfold D_X9_layBeats_b41 at h
  refine G.iconst (v := 0) E dX9_layBeats_41 (by decide) ?_
  refine G.sub (lv' := [(0, .ref (ad 0)), (1, .int x1), (2, .int x2), (3, .int x3)]) [0, 1, 2, 3] rfl ?_
  exact B_X9_layBeats_b42 E K rec2 hrec2 σ x1 x2 x3 (0 : Int32) h
noncomputable def D_X9_layBeats_L2_body (rec2 : (ST × Int32) → Option ST) (σ : ST) (x1 : Int32) : Option ST := if (16 : Int32) ≤ x1 then (some σ) else (if (gI σ 1) ≤ (x1 / (4 : Int32)) then (D_X9_layBeats_b41 rec2 σ x1 (x1 / (4 : Int32)) (x1 - x1 / (4 : Int32) * (4 : Int32))) else (if (gI σ 1) ≤ (x1 - x1 / (4 : Int32) * (4 : Int32)) then (D_X9_layBeats_b41 rec2 σ x1 (x1 / (4 : Int32)) (x1 - x1 / (4 : Int32) * (4 : Int32))) else (if (x1 / (4 : Int32)) = (x1 - x1 / (4 : Int32) * (4 : Int32)) then (D_X9_layBeats_b41 rec2 σ x1 (x1 / (4 : Int32)) (x1 - x1 / (4 : Int32) * (4 : Int32))) else (D_X9_layBeats_b42 rec2 σ x1 (x1 / (4 : Int32)) (x1 - x1 / (4 : Int32) * (4 : Int32)) (1 : Int32)))))
set_option maxRecDepth 100000 in
set_option maxHeartbeats 4000000 in
theorem B_X9_layBeats_L2_body {x : CX} {cy : Nat → ClassId} {ad : Nat → Nat} {r : ST} (E : Ev x cy cX9_layBeats RX9 5 5 121) (K : RetV x cX9_layBeats (wM ad cy r)) (rec2 : (ST × Int32) → Option ST) (hrec2 : ∀ a, rec2 a = some r → G x 0 0 2 [(0, .ref (ad 0)), (1, .int a.2)] [] (wM ad cy a.1)) (σ : ST) (x1 : Int32) (h : D_X9_layBeats_L2_body rec2 σ x1 = some r) : G x 0 0 2 [(0, .ref (ad 0)), (1, .int x1)] [] (wM ad cy σ) := by
  unfold D_X9_layBeats_L2_body at h
  refine G.iload_n E dX9_layBeats_2 rfl 1 rfl ?_
  refine G.bipush (v := 16) E dX9_layBeats_3 (by decide) ?_
  refine G.icmp_ge (tgt := 81) E dX9_layBeats_5 (by decide) (fun q => ?_) (fun q => ?_)
  · have h := ite_t h q
    obtain rfl := Option.some.inj h
    exact K _ _ dX9_layBeats_81
  · have h := ite_f h q
    refine G.iload_n E dX9_layBeats_8 rfl 1 rfl ?_
    refine G.iconst (v := 4) E dX9_layBeats_9 (by decide) ?_
    refine G.idiv E dX9_layBeats_10 (by decide) ?_
    refine G.istore_n (lv' := [(2, .int (x1 / (4 : Int32))), (0, .ref (ad 0)), (1, .int x1)]) E dX9_layBeats_11 rfl (by decide) rfl ?_
    refine G.iload_n E dX9_layBeats_12 rfl 2 rfl ?_
    refine G.iconst (v := 4) E dX9_layBeats_13 (by decide) ?_
    refine G.irem E dX9_layBeats_14 (by decide) ?_
    refine G.istore_n (lv' := [(3, .int (x1 - x1 / (4 : Int32) * (4 : Int32))), (2, .int (x1 / (4 : Int32))), (0, .ref (ad 0)), (1, .int x1)]) E dX9_layBeats_15 rfl (by decide) rfl ?_
    refine G.iload_n E dX9_layBeats_16 rfl 1 rfl ?_
    refine G.aload_n E dX9_layBeats_17 rfl 2 rfl ?_
    refine G.get E inX9 0 rfl rfl 1 (by decide) (f699 E.fx) rfl dX9_layBeats_18 ?_
    refine G.icmp_ge (tgt := 41) E dX9_layBeats_21 (by decide) (fun q => ?_) (fun q => ?_)
    · have h := ite_t h q
      refine G.sub (lv' := [(0, .ref (ad 0)), (1, .int x1), (2, .int (x1 / (4 : Int32))), (3, .int (x1 - x1 / (4 : Int32) * (4 : Int32)))]) [2, 3, 1, 0] rfl ?_
      exact B_X9_layBeats_b41 E K rec2 hrec2 σ x1 (x1 / (4 : Int32)) (x1 - x1 / (4 : Int32) * (4 : Int32)) h
    · have h := ite_f h q
      refine G.iload_n E dX9_layBeats_24 rfl 0 rfl ?_
      refine G.aload_n E dX9_layBeats_25 rfl 2 rfl ?_
      refine G.get E inX9 0 rfl rfl 1 (by decide) (f699 E.fx) rfl dX9_layBeats_26 ?_
      refine G.icmp_ge (tgt := 41) E dX9_layBeats_29 (by decide) (fun q => ?_) (fun q => ?_)
      · have h := ite_t h q
        refine G.sub (lv' := [(0, .ref (ad 0)), (1, .int x1), (2, .int (x1 / (4 : Int32))), (3, .int (x1 - x1 / (4 : Int32) * (4 : Int32)))]) [2, 3, 1, 0] rfl ?_
        exact B_X9_layBeats_b41 E K rec2 hrec2 σ x1 (x1 / (4 : Int32)) (x1 - x1 / (4 : Int32) * (4 : Int32)) h
      · have h := ite_f h q
        refine G.iload_n E dX9_layBeats_32 rfl 1 rfl ?_
        refine G.iload_n E dX9_layBeats_33 rfl 0 rfl ?_
        refine G.icmp_eq (tgt := 41) E dX9_layBeats_34 (by decide) (fun q => ?_) (fun q => ?_)
        · have h := ite_t h q
          refine G.sub (lv' := [(0, .ref (ad 0)), (1, .int x1), (2, .int (x1 / (4 : Int32))), (3, .int (x1 - x1 / (4 : Int32) * (4 : Int32)))]) [2, 3, 1, 0] rfl ?_
          exact B_X9_layBeats_b41 E K rec2 hrec2 σ x1 (x1 / (4 : Int32)) (x1 - x1 / (4 : Int32) * (4 : Int32)) h
        · have h := ite_f h q
          refine G.iconst (v := 1) E dX9_layBeats_37 (by decide) ?_
          refine G.goto (tgt := 42) E dX9_layBeats_38 (by decide) ?_
          refine G.sub (lv' := [(0, .ref (ad 0)), (1, .int x1), (2, .int (x1 / (4 : Int32))), (3, .int (x1 - x1 / (4 : Int32) * (4 : Int32)))]) [2, 3, 1, 0] rfl ?_
          exact B_X9_layBeats_b42 E K rec2 hrec2 σ x1 (x1 / (4 : Int32)) (x1 - x1 / (4 : Int32) * (4 : Int32)) (1 : Int32) h
noncomputable def D_X9_layBeats_L2  (σ : ST) (x1 : Int32) : Option ST := itr (fun (rec2 : (ST × Int32) → Option ST) (a : (ST × Int32)) => D_X9_layBeats_L2_body rec2 a.1 a.2) 200 (σ, x1)
set_option maxRecDepth 100000 in
set_option maxHeartbeats 4000000 in
theorem B_X9_layBeats_L2 {x : CX} {cy : Nat → ClassId} {ad : Nat → Nat} {r : ST} (E : Ev x cy cX9_layBeats RX9 5 5 121) (K : RetV x cX9_layBeats (wM ad cy r))  (σ : ST) (x1 : Int32) (h : D_X9_layBeats_L2 σ x1 = some r) : G x 0 0 2 [(0, .ref (ad 0)), (1, .int x1)] [] (wM ad cy σ) :=
  itr_ind (P := fun a => G x 0 0 2 [(0, .ref (ad 0)), (1, .int a.2)] [] (wM ad cy a.1)) (fun rec2 hrec2 a h => B_X9_layBeats_L2_body E K rec2 hrec2 a.1 a.2 h) 200 (σ, x1) h
noncomputable def D_X9_layBeats (σ : ST)  : Option ST := D_X9_layBeats_L2 σ (0 : Int32)
set_option maxRecDepth 100000 in
set_option maxHeartbeats 4000000 in
theorem B_X9_layBeats {x : CX} {cy : Nat → ClassId} {ad : Nat → Nat} {r : ST} (E : Ev x cy cX9_layBeats RX9 5 5 121) (K : RetV x cX9_layBeats (wM ad cy r)) (σ : ST)  (h : D_X9_layBeats σ = some r) : G x 0 0 0 [(0, .ref (ad 0))] [] (wM ad cy σ) := by
  unfold D_X9_layBeats at h
  refine G.iconst (v := 0) E dX9_layBeats_0 (by decide) ?_
  refine G.istore_n (lv' := [(1, .int (0 : Int32)), (0, .ref (ad 0))]) E dX9_layBeats_1 rfl (by decide) rfl ?_
  refine G.sub (lv' := [(0, .ref (ad 0)), (1, .int (0 : Int32))]) [1, 0] rfl ?_
  exact B_X9_layBeats_L2 E K σ (0 : Int32) h
set_option maxRecDepth 100000 in
set_option maxHeartbeats 4000000 in
theorem C_X9_layBeats {l : Launch} {D : va_G} {cy : Nat → ClassId} {ad : Nat → Nat} {σ : ST}  {r : ST} (h : D_X9_layBeats σ = some r) : MV l yX9_layBeats cX9_layBeats 5 none 5 121 D cy (wM ad cy σ) [.ref (ad 0)]  (wM ad cy r) :=
  MV.mk (lv := [(0, .ref (ad 0))]) (by decide) (Nat.le_of_ble_eq_true rfl) rfl (fun x _ _ E K => B_X9_layBeats E K σ h)

noncomputable def D_X9_isRoundOfFour (σ : ST) (p1 : Int32) (p2 : Int32) (p3 : Int32) (p4 : Int32) : Option Int32 := if (((4 : Int32) * p1) + p2) < 0 ∨ 16 ≤ (((4 : Int32) * p1) + p2).toNatClampNeg then none else (if (((4 : Int32) * p2) + p3) < 0 ∨ 16 ≤ (((4 : Int32) * p2) + p3).toNatClampNeg then none else (if (((4 : Int32) * p3) + p4) < 0 ∨ 16 ≤ (((4 : Int32) * p3) + p4).toNatClampNeg then none else (if (((4 : Int32) * p4) + p1) < 0 ∨ 16 ≤ (((4 : Int32) * p4) + p1).toNatClampNeg then none else (if ((((gA σ 7 (((4 : Int32) * p1) + p2).toNatClampNeg) + (gA σ 7 (((4 : Int32) * p2) + p3).toNatClampNeg)) + (gA σ 7 (((4 : Int32) * p3) + p4).toNatClampNeg)) + (gA σ 7 (((4 : Int32) * p4) + p1).toNatClampNeg)) = (4 : Int32) then (some (1 : Int32)) else (some (0 : Int32))))))
set_option maxRecDepth 100000 in
set_option maxHeartbeats 4000000 in
theorem B_X9_isRoundOfFour {x : CX} {cy : Nat → ClassId} {ad : Nat → Nat} {r : Int32} {σ : ST} (E : Ev x cy cX9_isRoundOfFour RX9 5 0 0) (K : RetI x cX9_isRoundOfFour .boolean r (wM ad cy σ)) (p1 : Int32) (p2 : Int32) (p3 : Int32) (p4 : Int32) (h : D_X9_isRoundOfFour σ p1 p2 p3 p4 = some r) : G x 0 0 0 [(0, .ref (ad 0)), (1, .int p1), (2, .int p2), (3, .int p3), (4, .int p4)] [] (wM ad cy σ) := by
  unfold D_X9_isRoundOfFour at h
  refine G.aload_n E dX9_isRoundOfFour_0 rfl 0 rfl ?_
  refine G.get E inX9 0 rfl rfl 19 (by decide) (f717 E.fx) rfl dX9_isRoundOfFour_1 ?_
  refine G.iconst (v := 4) E dX9_isRoundOfFour_4 (by decide) ?_
  refine G.iload_n E dX9_isRoundOfFour_5 rfl 1 rfl ?_
  refine G.imul E dX9_isRoundOfFour_6 ?_
  refine G.iload_n E dX9_isRoundOfFour_7 rfl 2 rfl ?_
  refine G.iadd E dX9_isRoundOfFour_8 ?_
  obtain ⟨hg, h⟩ := ite_n h
  refine G.iald E 8 0 rfl rfl hg dX9_isRoundOfFour_9 ?_
  refine G.aload_n E dX9_isRoundOfFour_10 rfl 0 rfl ?_
  refine G.get E inX9 0 rfl rfl 19 (by decide) (f717 E.fx) rfl dX9_isRoundOfFour_11 ?_
  refine G.iconst (v := 4) E dX9_isRoundOfFour_14 (by decide) ?_
  refine G.iload_n E dX9_isRoundOfFour_15 rfl 2 rfl ?_
  refine G.imul E dX9_isRoundOfFour_16 ?_
  refine G.iload_n E dX9_isRoundOfFour_17 rfl 3 rfl ?_
  refine G.iadd E dX9_isRoundOfFour_18 ?_
  obtain ⟨hg, h⟩ := ite_n h
  refine G.iald E 8 0 rfl rfl hg dX9_isRoundOfFour_19 ?_
  refine G.iadd E dX9_isRoundOfFour_20 ?_
  refine G.aload_n E dX9_isRoundOfFour_21 rfl 0 rfl ?_
  refine G.get E inX9 0 rfl rfl 19 (by decide) (f717 E.fx) rfl dX9_isRoundOfFour_22 ?_
  refine G.iconst (v := 4) E dX9_isRoundOfFour_25 (by decide) ?_
  refine G.iload_n E dX9_isRoundOfFour_26 rfl 3 rfl ?_
  refine G.imul E dX9_isRoundOfFour_27 ?_
  refine G.iload E dX9_isRoundOfFour_28 4 rfl ?_
  refine G.iadd E dX9_isRoundOfFour_30 ?_
  obtain ⟨hg, h⟩ := ite_n h
  refine G.iald E 8 0 rfl rfl hg dX9_isRoundOfFour_31 ?_
  refine G.iadd E dX9_isRoundOfFour_32 ?_
  refine G.aload_n E dX9_isRoundOfFour_33 rfl 0 rfl ?_
  refine G.get E inX9 0 rfl rfl 19 (by decide) (f717 E.fx) rfl dX9_isRoundOfFour_34 ?_
  refine G.iconst (v := 4) E dX9_isRoundOfFour_37 (by decide) ?_
  refine G.iload E dX9_isRoundOfFour_38 4 rfl ?_
  refine G.imul E dX9_isRoundOfFour_40 ?_
  refine G.iload_n E dX9_isRoundOfFour_41 rfl 1 rfl ?_
  refine G.iadd E dX9_isRoundOfFour_42 ?_
  obtain ⟨hg, h⟩ := ite_n h
  refine G.iald E 8 0 rfl rfl hg dX9_isRoundOfFour_43 ?_
  refine G.iadd E dX9_isRoundOfFour_44 ?_
  refine G.iconst (v := 4) E dX9_isRoundOfFour_45 (by decide) ?_
  refine G.icmp_ne (tgt := 53) E dX9_isRoundOfFour_46 (by decide) (fun q => ?_) (fun q => ?_)
  · have h := ite_f h q
    refine G.iconst (v := 0) E dX9_isRoundOfFour_53 (by decide) ?_
    obtain rfl := Option.some.inj h
    exact K rfl _ _ dX9_isRoundOfFour_54
  · have h := ite_t h q
    refine G.iconst (v := 1) E dX9_isRoundOfFour_49 (by decide) ?_
    refine G.goto (tgt := 54) E dX9_isRoundOfFour_50 (by decide) ?_
    obtain rfl := Option.some.inj h
    exact K rfl _ _ dX9_isRoundOfFour_54
set_option maxRecDepth 100000 in
set_option maxHeartbeats 4000000 in
theorem C_X9_isRoundOfFour {l : Launch} {D : va_G} {cy : Nat → ClassId} {ad : Nat → Nat} {σ : ST} {p1 : Int32} {p2 : Int32} {p3 : Int32} {p4 : Int32} {r : Int32} (h : D_X9_isRoundOfFour σ p1 p2 p3 p4 = some r) : MI l yX9_isRoundOfFour cX9_isRoundOfFour 5 (some .boolean) 0 0 D cy (wM ad cy σ) [.ref (ad 0), .int p1, .int p2, .int p3, .int p4] r (wM ad cy σ) :=
  MI.mk (lv := [(0, .ref (ad 0)), (1, .int p1), (2, .int p2), (3, .int p3), (4, .int p4)]) (by decide) (Nat.le_of_ble_eq_true rfl) rfl (fun x _ _ E K => B_X9_isRoundOfFour E K p1 p2 p3 p4 h)

noncomputable def D_X9_isRound (σ : ST) (p1 : Int32) (p2 : Int32) (p3 : Int32) : Option Int32 := if (((4 : Int32) * p1) + p2) < 0 ∨ 16 ≤ (((4 : Int32) * p1) + p2).toNatClampNeg then none else (if (((4 : Int32) * p2) + p3) < 0 ∨ 16 ≤ (((4 : Int32) * p2) + p3).toNatClampNeg then none else (if (((4 : Int32) * p3) + p1) < 0 ∨ 16 ≤ (((4 : Int32) * p3) + p1).toNatClampNeg then none else (if (((gA σ 7 (((4 : Int32) * p1) + p2).toNatClampNeg) + (gA σ 7 (((4 : Int32) * p2) + p3).toNatClampNeg)) + (gA σ 7 (((4 : Int32) * p3) + p1).toNatClampNeg)) = (3 : Int32) then (some (1 : Int32)) else (some (0 : Int32)))))
set_option maxRecDepth 100000 in
set_option maxHeartbeats 4000000 in
theorem B_X9_isRound {x : CX} {cy : Nat → ClassId} {ad : Nat → Nat} {r : Int32} {σ : ST} (E : Ev x cy cX9_isRound RX9 4 0 0) (K : RetI x cX9_isRound .boolean r (wM ad cy σ)) (p1 : Int32) (p2 : Int32) (p3 : Int32) (h : D_X9_isRound σ p1 p2 p3 = some r) : G x 0 0 0 [(0, .ref (ad 0)), (1, .int p1), (2, .int p2), (3, .int p3)] [] (wM ad cy σ) := by
  unfold D_X9_isRound at h
  refine G.aload_n E dX9_isRound_0 rfl 0 rfl ?_
  refine G.get E inX9 0 rfl rfl 19 (by decide) (f717 E.fx) rfl dX9_isRound_1 ?_
  refine G.iconst (v := 4) E dX9_isRound_4 (by decide) ?_
  refine G.iload_n E dX9_isRound_5 rfl 1 rfl ?_
  refine G.imul E dX9_isRound_6 ?_
  refine G.iload_n E dX9_isRound_7 rfl 2 rfl ?_
  refine G.iadd E dX9_isRound_8 ?_
  obtain ⟨hg, h⟩ := ite_n h
  refine G.iald E 8 0 rfl rfl hg dX9_isRound_9 ?_
  refine G.aload_n E dX9_isRound_10 rfl 0 rfl ?_
  refine G.get E inX9 0 rfl rfl 19 (by decide) (f717 E.fx) rfl dX9_isRound_11 ?_
  refine G.iconst (v := 4) E dX9_isRound_14 (by decide) ?_
  refine G.iload_n E dX9_isRound_15 rfl 2 rfl ?_
  refine G.imul E dX9_isRound_16 ?_
  refine G.iload_n E dX9_isRound_17 rfl 3 rfl ?_
  refine G.iadd E dX9_isRound_18 ?_
  obtain ⟨hg, h⟩ := ite_n h
  refine G.iald E 8 0 rfl rfl hg dX9_isRound_19 ?_
  refine G.iadd E dX9_isRound_20 ?_
  refine G.aload_n E dX9_isRound_21 rfl 0 rfl ?_
  refine G.get E inX9 0 rfl rfl 19 (by decide) (f717 E.fx) rfl dX9_isRound_22 ?_
  refine G.iconst (v := 4) E dX9_isRound_25 (by decide) ?_
  refine G.iload_n E dX9_isRound_26 rfl 3 rfl ?_
  refine G.imul E dX9_isRound_27 ?_
  refine G.iload_n E dX9_isRound_28 rfl 1 rfl ?_
  refine G.iadd E dX9_isRound_29 ?_
  obtain ⟨hg, h⟩ := ite_n h
  refine G.iald E 8 0 rfl rfl hg dX9_isRound_30 ?_
  refine G.iadd E dX9_isRound_31 ?_
  refine G.iconst (v := 3) E dX9_isRound_32 (by decide) ?_
  refine G.icmp_ne (tgt := 40) E dX9_isRound_33 (by decide) (fun q => ?_) (fun q => ?_)
  · have h := ite_f h q
    refine G.iconst (v := 0) E dX9_isRound_40 (by decide) ?_
    obtain rfl := Option.some.inj h
    exact K rfl _ _ dX9_isRound_41
  · have h := ite_t h q
    refine G.iconst (v := 1) E dX9_isRound_36 (by decide) ?_
    refine G.goto (tgt := 41) E dX9_isRound_37 (by decide) ?_
    obtain rfl := Option.some.inj h
    exact K rfl _ _ dX9_isRound_41
set_option maxRecDepth 100000 in
set_option maxHeartbeats 4000000 in
theorem C_X9_isRound {l : Launch} {D : va_G} {cy : Nat → ClassId} {ad : Nat → Nat} {σ : ST} {p1 : Int32} {p2 : Int32} {p3 : Int32} {r : Int32} (h : D_X9_isRound σ p1 p2 p3 = some r) : MI l yX9_isRound cX9_isRound 4 (some .boolean) 0 0 D cy (wM ad cy σ) [.ref (ad 0), .int p1, .int p2, .int p3] r (wM ad cy σ) :=
  MI.mk (lv := [(0, .ref (ad 0)), (1, .int p1), (2, .int p2), (3, .int p3)]) (by decide) (Nat.le_of_ble_eq_true rfl) rfl (fun x _ _ E K => B_X9_isRound E K p1 p2 p3 h)
