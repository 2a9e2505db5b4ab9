noncomputable def D_X8_bestAgainst_b57 (rec7 : (ST × Int32 × Int32 × Int32 × Int32) → Option (Int32 × ST)) (σ : ST) (x1 : Int32) (x2 : Int32) (x3 : Int32) (x4 : Int32) : Option (Int32 × ST) := rec7 (σ, x1, x2, x3, (x4 + 1))
set_option maxRecDepth 100000 in
set_option maxHeartbeats 4000000 in
theorem B_X8_bestAgainst_b57 {x : CX} {cy : Nat → ClassId} {ad : Nat → Nat} {r : (Int32 × ST)} (E : Ev x cy cX8_bestAgainst RX8 6 4 102) (K : RetI x cX8_bestAgainst .int r.1 (wT ad cy r.2)) (rec7 : (ST × Int32 × Int32 × Int32 × Int32) → Option (Int32 × ST)) (hrec7 : ∀ a, rec7 a = some r → G x 0 0 7 [(0, .ref (ad 0)), (1, .int a.2.1), (2, .int a.2.2.1), (3, .int a.2.2.2.1), (4, .int a.2.2.2.2)] [] (wT ad cy a.1)) (σ : ST) (x1 : Int32) (x2 : Int32) (x3 : Int32) (x4 : Int32) (h : D_X8_bestAgainst_b57 rec7 σ x1 x2 x3 x4 = some r) : G x 0 0 57 [(0, .ref (ad 0)), (1, .int x1), (2, .int x2), (3, .int x3), (4, .int x4)] [] (wT ad cy σ) := by
  unfold D_X8_bestAgainst_b57 at h
  refine G.iinc (w := x4 + 1) (lv' := [(4, .int (x4 + 1)), (0, .ref (ad 0)), (1, .int x1), (2, .int x2), (3, .int x3)]) E dX8_bestAgainst_57 4 rfl rfl (by decide) rfl ?_
  refine G.goto (tgt := 7) E dX8_bestAgainst_60 (by decide) ?_
  refine G.sub (lv' := [(0, .ref (ad 0)), (1, .int x1), (2, .int x2), (3, .int x3), (4, .int (x4 + 1))]) [1, 2, 3, 4, 0] rfl ?_
  exact hrec7 (σ, x1, x2, x3, (x4 + 1)) h
noncomputable def D_X8_bestAgainst_L7_body (rec7 : (ST × Int32 × Int32 × Int32 × Int32) → Option (Int32 × ST)) (σ : ST) (x1 : Int32) (x2 : Int32) (x3 : Int32) (x4 : Int32) : Option (Int32 × ST) := if ((1 : Int32) <<< ((gI σ 2) &&& 31)) ≤ x4 then (some (x2, σ)) else ((D_X8_has x1 x4).bind fun r1 => if r1 = 0 then ((D_X7_chance σ ((1 : Int32) <<< (x4 &&& 31)) x1 (gI σ 2)).bind fun r3 => if r3.1 ≤ x3 then (D_X8_bestAgainst_b57 rec7 r3.2 x1 x2 x3 x4) else (D_X8_bestAgainst_b57 rec7 r3.2 x1 x4 r3.1 x4)) else (D_X8_bestAgainst_b57 rec7 σ x1 x2 x3 x4))
set_option maxRecDepth 100000 in
set_option maxHeartbeats 4000000 in
theorem B_X8_bestAgainst_L7_body {x : CX} {cy : Nat → ClassId} {ad : Nat → Nat} {r : (Int32 × ST)} (E : Ev x cy cX8_bestAgainst RX8 6 4 102) (K : RetI x cX8_bestAgainst .int r.1 (wT ad cy r.2)) (rec7 : (ST × Int32 × Int32 × Int32 × Int32) → Option (Int32 × ST)) (hrec7 : ∀ a, rec7 a = some r → G x 0 0 7 [(0, .ref (ad 0)), (1, .int a.2.1), (2, .int a.2.2.1), (3, .int a.2.2.2.1), (4, .int a.2.2.2.2)] [] (wT ad cy a.1)) (σ : ST) (x1 : Int32) (x2 : Int32) (x3 : Int32) (x4 : Int32) (h : D_X8_bestAgainst_L7_body rec7 σ x1 x2 x3 x4 = some r) : G x 0 0 7 [(0, .ref (ad 0)), (1, .int x1), (2, .int x2), (3, .int x3), (4, .int x4)] [] (wT ad cy σ) := by
  unfold D_X8_bestAgainst_L7_body at h
  refine G.iload E dX8_bestAgainst_7 4 rfl ?_
  refine G.iconst (v := 1) E dX8_bestAgainst_9 (by decide) ?_
  refine G.aload_n E dX8_bestAgainst_10 rfl 0 rfl ?_
  refine G.get E inX8 0 rfl rfl 10 (by decide) (f224 E.fx) rfl dX8_bestAgainst_11 ?_
  refine G.ishl E dX8_bestAgainst_14 ?_
  refine G.icmp_ge (tgt := 63) E dX8_bestAgainst_15 (by decide) (fun q => ?_) (fun q => ?_)
  · have h := ite_t h q
    refine G.iload_n E dX8_bestAgainst_63 rfl 2 rfl ?_
    obtain rfl := Option.some.inj h
    exact K rfl _ _ dX8_bestAgainst_64
  · have h := ite_f h q
    refine G.iload_n E dX8_bestAgainst_18 rfl 1 rfl ?_
    refine G.iload E dX8_bestAgainst_19 4 rfl ?_
    obtain ⟨r1, h2, h⟩ := bind_s h
    refine G.retI E (runS (st := []) (As := [.int x1, .int x4]) E (C_X8_has h2) ck_X8_has (f512 E.fx) (f480 E.fx) (by decide) (by decide) rfl (Nat.le_of_ble_eq_true rfl) dX8_bestAgainst_21 ⟨Nat.zero_le _, Nat.zero_le _⟩) ?_
    refine G.if_ne (tgt := 57) E dX8_bestAgainst_24 (by decide) (fun q => ?_) (fun q => ?_)
    · have h := ite_f h q
      refine G.sub (lv' := [(0, .ref (ad 0)), (1, .int x1), (2, .int x2), (3, .int x3), (4, .int x4)]) [0, 1, 2, 3, 4] rfl ?_
      exact B_X8_bestAgainst_b57 E K rec7 hrec7 σ x1 x2 x3 x4 h
    · have h := ite_t h q
      refine G.aload_n E dX8_bestAgainst_27 rfl 0 rfl ?_
      refine G.get E inX8 0 rfl rfl 3 (by decide) (f217 E.fx) rfl dX8_bestAgainst_28 ?_
      refine G.iconst (v := 1) E dX8_bestAgainst_31 (by decide) ?_
      refine G.iload E dX8_bestAgainst_32 4 rfl ?_
      refine G.ishl E dX8_bestAgainst_34 ?_
      refine G.iload_n E dX8_bestAgainst_35 rfl 1 rfl ?_
      refine G.aload_n E dX8_bestAgainst_36 rfl 0 rfl ?_
      refine G.get E inX8 0 rfl rfl 10 (by decide) (f224 E.fx) rfl dX8_bestAgainst_37 ?_
      obtain ⟨r3, h4, h⟩ := bind_s h
      refine G.retI E (runV (st := []) (As := [.int ((1 : Int32) <<< (x4 &&& 31)), .int x1, .int (gI σ 2)]) E (C_X7_chance h4) ck_X7_chance (f569 E.fx) (f570 E.fx) (f571 E.fx) 17 7 rfl rfl rfl (by decide) (by decide) rfl (Nat.le_of_ble_eq_true rfl) dX8_bestAgainst_40 ⟨Nat.zero_le _, Nat.zero_le _⟩) ?_
      refine G.istore (lv' := [(5, .int r3.1), (0, .ref (ad 0)), (1, .int x1), (2, .int x2), (3, .int x3), (4, .int x4)]) E dX8_bestAgainst_43 (by decide) rfl ?_
      refine G.iload E dX8_bestAgainst_45 0 rfl ?_
      refine G.iload_n E dX8_bestAgainst_47 rfl 4 rfl ?_
      refine G.icmp_le (tgt := 57) E dX8_bestAgainst_48 (by decide) (fun q => ?_) (fun q => ?_)
      · have h := ite_t h q
        refine G.sub (lv' := [(0, .ref (ad 0)), (1, .int x1), (2, .int x2), (3, .int x3), (4, .int x4)]) [1, 2, 3, 4, 5] rfl ?_
        exact B_X8_bestAgainst_b57 E K rec7 hrec7 r3.2 x1 x2 x3 x4 h
      · have h := ite_f h q
        refine G.iload E dX8_bestAgainst_51 0 rfl ?_
        refine G.istore_n (lv' := [(3, .int r3.1), (5, .int r3.1), (0, .ref (ad 0)), (1, .int x1), (2, .int x2), (4, .int x4)]) E dX8_bestAgainst_53 rfl (by decide) rfl ?_
        refine G.iload E dX8_bestAgainst_54 5 rfl ?_
        refine G.istore_n (lv' := [(2, .int x4), (3, .int r3.1), (5, .int r3.1), (0, .ref (ad 0)), (1, .int x1), (4, .int x4)]) E dX8_bestAgainst_56 rfl (by decide) rfl ?_
        refine G.sub (lv' := [(0, .ref (ad 0)), (1, .int x1), (2, .int x4), (3, .int r3.1), (4, .int x4)]) [3, 4, 0, 1, 5] rfl ?_
        exact B_X8_bestAgainst_b57 E K rec7 hrec7 r3.2 x1 x4 r3.1 x4 h
noncomputable def D_X8_bestAgainst_L7  (σ : ST) (x1 : Int32) (x2 : Int32) (x3 : Int32) (x4 : Int32) : Option (Int32 × ST) := itr (fun (rec7 : (ST × Int32 × Int32 × Int32 × Int32) → Option (Int32 × ST)) (a : (ST × Int32 × Int32 × Int32 × Int32)) => D_X8_bestAgainst_L7_body rec7 a.1 a.2.1 a.2.2.1 a.2.2.2.1 a.2.2.2.2) 200 (σ, x1, x2, x3, x4)
set_option maxRecDepth 100000 in
set_option maxHeartbeats 4000000 in
theorem B_X8_bestAgainst_L7 {x : CX} {cy : Nat → ClassId} {ad : Nat → Nat} {r : (Int32 × ST)} (E : Ev x cy cX8_bestAgainst RX8 6 4 102) (K : RetI x cX8_bestAgainst .int r.1 (wT ad cy r.2))  (σ : ST) (x1 : Int32) (x2 : Int32) (x3 : Int32) (x4 : Int32) (h : D_X8_bestAgainst_L7 σ x1 x2 x3 x4 = some r) : G x 0 0 7 [(0, .ref (ad 0)), (1, .int x1), (2, .int x2), (3, .int x3), (4, .int x4)] [] (wT ad cy σ) :=
  itr_ind (P := fun a => G x 0 0 7 [(0, .ref (ad 0)), (1, .int a.2.1), (2, .int a.2.2.1), (3, .int a.2.2.2.1), (4, .int a.2.2.2.2)] [] (wT ad cy a.1)) (fun rec7 hrec7 a h => B_X8_bestAgainst_L7_body E K rec7 hrec7 a.1 a.2.1 a.2.2.1 a.2.2.2.1 a.2.2.2.2 h) 200 (σ, x1, x2, x3, x4) h
noncomputable def D_X8_bestAgainst (σ : ST) (p1 : Int32) : Option (Int32 × ST) := D_X8_bestAgainst_L7 σ p1 (0 : Int32) (-1 : Int32) (0 : Int32)
set_option maxRecDepth 100000 in
set_option maxHeartbeats 4000000 in
theorem B_X8_bestAgainst {x : CX} {cy : Nat → ClassId} {ad : Nat → Nat} {r : (Int32 × ST)} (E : Ev x cy cX8_bestAgainst RX8 6 4 102) (K : RetI x cX8_bestAgainst .int r.1 (wT ad cy r.2)) (σ : ST) (p1 : Int32) (h : D_X8_bestAgainst σ p1 = some r) : G x 0 0 0 [(0, .ref (ad 0)), (1, .int p1)] [] (wT ad cy σ) := by
  unfold D_X8_bestAgainst at h
  refine G.iconst (v := 0) E dX8_bestAgainst_0 (by decide) ?_
  refine G.istore_n (lv' := [(2, .int (0 : Int32)), (0, .ref (ad 0)), (1, .int p1)]) E dX8_bestAgainst_1 rfl (by decide) rfl ?_
  refine G.iconst (v := -1) E dX8_bestAgainst_2 (by decide) ?_
  refine G.istore_n (lv' := [(3, .int (-1 : Int32)), (2, .int (0 : Int32)), (0, .ref (ad 0)), (1, .int p1)]) E dX8_bestAgainst_3 rfl (by decide) rfl ?_
  refine G.iconst (v := 0) E dX8_bestAgainst_4 (by decide) ?_
  refine G.istore (lv' := [(4, .int (0 : Int32)), (3, .int (-1 : Int32)), (2, .int (0 : Int32)), (0, .ref (ad 0)), (1, .int p1)]) E dX8_bestAgainst_5 (by decide) rfl ?_
  refine G.sub (lv' := [(0, .ref (ad 0)), (1, .int p1), (2, .int (0 : Int32)), (3, .int (-1 : Int32)), (4, .int (0 : Int32))]) [3, 4, 2, 1, 0] rfl ?_
  exact B_X8_bestAgainst_L7 E K σ p1 (0 : Int32) (-1 : Int32) (0 : Int32) h
set_option maxRecDepth 100000 in
set_option maxHeartbeats 4000000 in
theorem C_X8_bestAgainst {l : Launch} {D : va_G} {cy : Nat → ClassId} {ad : Nat → Nat} {σ : ST} {p1 : Int32} {r : (Int32 × ST)} (h : D_X8_bestAgainst σ p1 = some r) : MI l yX8_bestAgainst cX8_bestAgainst 6 (some .int) 4 102 D cy (wT ad cy σ) [.ref (ad 0), .int p1] r.1 (wT ad cy r.2) :=
  MI.mk (lv := [(0, .ref (ad 0)), (1, .int p1)]) (by decide) (Nat.le_of_ble_eq_true rfl) rfl (fun x _ _ E K => B_X8_bestAgainst E K σ p1 h)

noncomputable def D_X8_answer_b23  (σ : ST) (x1 : Int32) (x2 : Int32) : Option (Int32 × ST) := (D_X8_rowsHitBy σ x1).bind fun r3 => (D_X8_bestAgainst σ r3).bind fun r5 => if x2 = 0 then (some (r5.1, r5.2)) else ((D_X7_chance r5.2 ((1 : Int32) <<< (r5.1 &&& 31)) r3 (gI r5.2 2)).bind fun r7 => some (r7.1, r7.2))
set_option maxRecDepth 100000 in
set_option maxHeartbeats 4000000 in
theorem B_X8_answer_b23 {x : CX} {cy : Nat → ClassId} {ad : Nat → Nat} {r : (Int32 × ST)} (E : Ev x cy cX8_answer RX8 5 5 141) (K : RetI x cX8_answer .int r.1 (wT ad cy r.2))  (σ : ST) (x1 : Int32) (x2 : Int32) (h : D_X8_answer_b23 σ x1 x2 = some r) : G x 0 0 23 [(0, .ref (ad 0)), (1, .int x1), (2, .int x2)] [] (wT ad cy σ) := by
  unfold D_X8_answer_b23 at h
  refine G.aload_n E dX8_answer_23 rfl 0 rfl ?_
  refine G.iload_n E dX8_answer_24 rfl 1 rfl ?_
  obtain ⟨r3, h4, h⟩ := bind_s h
  refine G.retI E (runV (st := []) (As := [.int x1]) E (C_X8_rowsHitBy h4) ck_X8_rowsHitBy (f429 E.fx) (f431 E.fx) (f4 E.fx) 0 8 rfl rfl rfl (by decide) (by decide) rfl (Nat.le_of_ble_eq_true rfl) dX8_answer_25 ⟨Nat.zero_le _, Nat.zero_le _⟩) ?_
  refine G.istore_n (lv' := [(3, .int r3), (0, .ref (ad 0)), (1, .int x1), (2, .int x2)]) E dX8_answer_28 rfl (by decide) rfl ?_
  refine G.aload_n E dX8_answer_29 rfl 1 rfl ?_
  refine G.iload_n E dX8_answer_30 rfl 0 rfl ?_
  obtain ⟨r5, h6, h⟩ := bind_s h
  refine G.retI E (runV (st := []) (As := [.int r3]) E (C_X8_bestAgainst h6) ck_X8_bestAgainst (f578 E.fx) (f580 E.fx) (f19 E.fx) 0 8 rfl rfl rfl (by decide) (by decide) rfl (Nat.le_of_ble_eq_true rfl) dX8_answer_31 ⟨Nat.zero_le _, Nat.zero_le _⟩) ?_
  refine G.istore (lv' := [(4, .int r5.1), (3, .int r3), (0, .ref (ad 0)), (1, .int x1), (2, .int x2)]) E dX8_answer_34 (by decide) rfl ?_
  refine G.iload_n E dX8_answer_36 rfl 4 rfl ?_
  refine G.if_ne (tgt := 45) E dX8_answer_37 (by decide) (fun q => ?_) (fun q => ?_)
  · have h := ite_f h q
    refine G.aload_n E dX8_answer_45 rfl 2 rfl ?_
    refine G.get E inX8 0 rfl rfl 3 (by decide) (f217 E.fx) rfl dX8_answer_46 ?_
    refine G.iconst (v := 1) E dX8_answer_49 (by decide) ?_
    refine G.iload E dX8_answer_50 0 rfl ?_
    refine G.ishl E dX8_answer_52 ?_
    refine G.iload_n E dX8_answer_53 rfl 1 rfl ?_
    refine G.aload_n E dX8_answer_54 rfl 2 rfl ?_
    refine G.get E inX8 0 rfl rfl 10 (by decide) (f224 E.fx) rfl dX8_answer_55 ?_
    obtain ⟨r7, h8, h⟩ := bind_s h
    refine G.retI E (runV (st := []) (As := [.int ((1 : Int32) <<< (r5.1 &&& 31)), .int r3, .int (gI r5.2 2)]) E (C_X7_chance h8) ck_X7_chance (f569 E.fx) (f570 E.fx) (f571 E.fx) 17 7 rfl rfl rfl (by decide) (by decide) rfl (Nat.le_of_ble_eq_true rfl) dX8_answer_58 ⟨Nat.zero_le _, Nat.zero_le _⟩) ?_
    obtain rfl := Option.some.inj h
    exact K rfl _ _ dX8_answer_61
  · have h := ite_t h q
    refine G.iload E dX8_answer_40 0 rfl ?_
    refine G.goto (tgt := 61) E dX8_answer_42 (by decide) ?_
    obtain rfl := Option.some.inj h
    exact K rfl _ _ dX8_answer_61
noncomputable def D_X8_answer (σ : ST) (p1 : Int32) (p2 : Int32) : Option (Int32 × ST) := (D_X8_isPlayer σ p1).bind fun r1 => if r1 = 0 then (some ((-101 : Int32), σ)) else (if p2 = 0 then (D_X8_answer_b23 σ p1 p2) else (if p2 = (1 : Int32) then (D_X8_answer_b23 σ p1 p2) else (some ((-102 : Int32), σ))))
set_option maxRecDepth 100000 in
set_option maxHeartbeats 4000000 in
theorem B_X8_answer {x : CX} {cy : Nat → ClassId} {ad : Nat → Nat} {r : (Int32 × ST)} (E : Ev x cy cX8_answer RX8 5 5 141) (K : RetI x cX8_answer .int r.1 (wT ad cy r.2)) (σ : ST) (p1 : Int32) (p2 : Int32) (h : D_X8_answer σ p1 p2 = some r) : G x 0 0 0 [(0, .ref (ad 0)), (1, .int p1), (2, .int p2)] [] (wT ad cy σ) := by
  unfold D_X8_answer at h
  refine G.aload_n E dX8_answer_0 rfl 0 rfl ?_
  refine G.iload_n E dX8_answer_1 rfl 1 rfl ?_
  obtain ⟨r1, h2, h⟩ := bind_s h
  refine G.retI E (runV (st := []) (As := [.int p1]) E (C_X8_isPlayer h2) ck_X8_isPlayer (f425 E.fx) (f427 E.fx) (f3 E.fx) 0 8 rfl rfl rfl (by decide) (by decide) rfl (Nat.le_of_ble_eq_true rfl) dX8_answer_2 ⟨Nat.zero_le _, Nat.zero_le _⟩) ?_
  refine G.if_ne (tgt := 11) E dX8_answer_5 (by decide) (fun q => ?_) (fun q => ?_)
  · have h := ite_f h q
    refine G.iload_n E dX8_answer_11 rfl 2 rfl ?_
    refine G.if_eq (tgt := 23) E dX8_answer_12 (by decide) (fun q => ?_) (fun q => ?_)
    · have h := ite_t h q
      refine G.sub (lv' := [(0, .ref (ad 0)), (1, .int p1), (2, .int p2)]) [0, 1, 2] rfl ?_
      exact B_X8_answer_b23 E K σ p1 p2 h
    · have h := ite_f h q
      refine G.iload_n E dX8_answer_15 rfl 2 rfl ?_
      refine G.iconst (v := 1) E dX8_answer_16 (by decide) ?_
      refine G.icmp_eq (tgt := 23) E dX8_answer_17 (by decide) (fun q => ?_) (fun q => ?_)
      · have h := ite_t h q
        refine G.sub (lv' := [(0, .ref (ad 0)), (1, .int p1), (2, .int p2)]) [0, 1, 2] rfl ?_
        exact B_X8_answer_b23 E K σ p1 p2 h
      · have h := ite_f h q
        refine G.bipush (v := -102) E dX8_answer_20 (by decide) ?_
        obtain rfl := Option.some.inj h
        exact K rfl _ _ dX8_answer_22
  · have h := ite_t h q
    refine G.bipush (v := -101) E dX8_answer_8 (by decide) ?_
    obtain rfl := Option.some.inj h
    exact K rfl _ _ dX8_answer_10
set_option maxRecDepth 100000 in
set_option maxHeartbeats 4000000 in
theorem C_X8_answer {l : Launch} {D : va_G} {cy : Nat → ClassId} {ad : Nat → Nat} {σ : ST} {p1 : Int32} {p2 : Int32} {r : (Int32 × ST)} (h : D_X8_answer σ p1 p2 = some r) : MI l yX8_answer cX8_answer 5 (some .int) 5 141 D cy (wT ad cy σ) [.ref (ad 0), .int p1, .int p2] r.1 (wT ad cy r.2) :=
  MI.mk (lv := [(0, .ref (ad 0)), (1, .int p1), (2, .int p2)]) (by decide) (Nat.le_of_ble_eq_true rfl) rfl (fun x _ _ E K => B_X8_answer E K σ p1 p2 h)

noncomputable def D_X8_dangerOf (σ : ST) (p1 : Int32) : Option (Int32 × ST) := (D_X8_bestAgainst σ ((1 : Int32) <<< (p1 &&& 31))).bind fun r1 => (D_X7_chance r1.2 ((1 : Int32) <<< (r1.1 &&& 31)) ((1 : Int32) <<< (p1 &&& 31)) (gI r1.2 2)).bind fun r3 => some (r3.1, r3.2)
set_option maxRecDepth 100000 in
set_option maxHeartbeats 4000000 in
theorem B_X8_dangerOf {x : CX} {cy : Nat → ClassId} {ad : Nat → Nat} {r : (Int32 × ST)} (E : Ev x cy cX8_dangerOf RX8 2 5 127) (K : RetI x cX8_dangerOf .int r.1 (wT ad cy r.2)) (σ : ST) (p1 : Int32) (h : D_X8_dangerOf σ p1 = some r) : G x 0 0 0 [(0, .ref (ad 0)), (1, .int p1)] [] (wT ad cy σ) := by
  unfold D_X8_dangerOf at h
  refine G.aload_n E dX8_dangerOf_0 rfl 0 rfl ?_
  refine G.get E inX8 0 rfl rfl 3 (by decide) (f217 E.fx) rfl dX8_dangerOf_1 ?_
  refine G.iconst (v := 1) E dX8_dangerOf_4 (by decide) ?_
  refine G.aload_n E dX8_dangerOf_5 rfl 0 rfl ?_
  refine G.iconst (v := 1) E dX8_dangerOf_6 (by decide) ?_
  refine G.iload_n E dX8_dangerOf_7 rfl 1 rfl ?_
  refine G.ishl E dX8_dangerOf_8 ?_
  obtain ⟨r1, h2, h⟩ := bind_s h
  refine G.retI E (runV (st := [.int (1 : Int32), .ref (ad 17)]) (As := [.int ((1 : Int32) <<< (p1 &&& 31))]) E (C_X8_bestAgainst h2) ck_X8_bestAgainst (f578 E.fx) (f580 E.fx) (f19 E.fx) 0 8 rfl rfl rfl (by decide) (by decide) rfl (Nat.le_of_ble_eq_true rfl) dX8_dangerOf_9 ⟨Nat.zero_le _, Nat.zero_le _⟩) ?_
  refine G.ishl E dX8_dangerOf_12 ?_
  refine G.iconst (v := 1) E dX8_dangerOf_13 (by decide) ?_
  refine G.iload_n E dX8_dangerOf_14 rfl 1 rfl ?_
  refine G.ishl E dX8_dangerOf_15 ?_
  refine G.aload_n E dX8_dangerOf_16 rfl 0 rfl ?_
  refine G.get E inX8 0 rfl rfl 10 (by decide) (f224 E.fx) rfl dX8_dangerOf_17 ?_
  obtain ⟨r3, h4, h⟩ := bind_s h
  refine G.retI E (runV (st := []) (As := [.int ((1 : Int32) <<< (r1.1 &&& 31)), .int ((1 : Int32) <<< (p1 &&& 31)), .int (gI r1.2 2)]) E (C_X7_chance h4) ck_X7_chance (f569 E.fx) (f570 E.fx) (f571 E.fx) 17 7 rfl rfl rfl (by decide) (by decide) rfl (Nat.le_of_ble_eq_true rfl) dX8_dangerOf_20 ⟨Nat.zero_le _, Nat.zero_le _⟩) ?_
  obtain rfl := Option.some.inj h
  exact K rfl _ _ dX8_dangerOf_23
set_option maxRecDepth 100000 in
set_option maxHeartbeats 4000000 in
theorem C_X8_dangerOf {l : Launch} {D : va_G} {cy : Nat → ClassId} {ad : Nat → Nat} {σ : ST} {p1 : Int32} {r : (Int32 × ST)} (h : D_X8_dangerOf σ p1 = some r) : MI l yX8_dangerOf cX8_dangerOf 2 (some .int) 5 127 D cy (wT ad cy σ) [.ref (ad 0), .int p1] r.1 (wT ad cy r.2) :=
  MI.mk (lv := [(0, .ref (ad 0)), (1, .int p1)]) (by decide) (Nat.le_of_ble_eq_true rfl) rfl (fun x _ _ E K => B_X8_dangerOf E K σ p1 h)

noncomputable def D_X8_bestToOpen_b36 (rec8 : (ST × Int32 × Int32 × Int32) → Option (Int32 × ST)) (σ : ST) (x1 : Int32) (x2 : Int32) (x3 : Int32) : Option (Int32 × ST) := rec8 (σ, x1, x2, (x3 + 1))
set_option maxRecDepth 100000 in
set_option maxHeartbeats 4000000 in
theorem B_X8_bestToOpen_b36 {x : CX} {cy : Nat → ClassId} {ad : Nat → Nat} {r : (Int32 × ST)} (E : Ev x cy cX8_bestToOpen RX8 5 6 148) (K : RetI x cX8_bestToOpen .int r.1 (wT ad cy r.2)) (rec8 : (ST × Int32 × Int32 × Int32) → Option (Int32 × ST)) (hrec8 : ∀ a, rec8 a = some r → G x 0 0 8 [(0, .ref (ad 0)), (1, .int a.2.1), (2, .int a.2.2.1), (3, .int a.2.2.2)] [] (wT ad cy a.1)) (σ : ST) (x1 : Int32) (x2 : Int32) (x3 : Int32) (h : D_X8_bestToOpen_b36 rec8 σ x1 x2 x3 = some r) : G x 0 0 36 [(0, .ref (ad 0)), (1, .int x1), (2, .int x2), (3, .int x3)] [] (wT ad cy σ) := by
  unfold D_X8_bestToOpen_b36 at h
  refine G.iinc (w := x3 + 1) (lv' := [(3, .int (x3 + 1)), (0, .ref (ad 0)), (1, .int x1), (2, .int x2)]) E dX8_bestToOpen_36 3 rfl rfl (by decide) rfl ?_
  refine G.goto (tgt := 8) E dX8_bestToOpen_39 (by decide) ?_
  refine G.sub (lv' := [(0, .ref (ad 0)), (1, .int x1), (2, .int x2), (3, .int (x3 + 1))]) [1, 2, 3, 0] rfl ?_
  exact hrec8 (σ, x1, x2, (x3 + 1)) h
noncomputable def D_X8_bestToOpen_L8_body (rec8 : (ST × Int32 × Int32 × Int32) → Option (Int32 × ST)) (σ : ST) (x1 : Int32) (x2 : Int32) (x3 : Int32) : Option (Int32 × ST) := if ((1 : Int32) <<< ((gI σ 2) &&& 31)) ≤ x3 then (some (x1, σ)) else ((D_X8_dangerOf σ x3).bind fun r1 => if x2 ≤ r1.1 then (D_X8_bestToOpen_b36 rec8 r1.2 x1 x2 x3) else (D_X8_bestToOpen_b36 rec8 r1.2 x3 r1.1 x3))
set_option maxRecDepth 100000 in
set_option maxHeartbeats 4000000 in
theorem B_X8_bestToOpen_L8_body {x : CX} {cy : Nat → ClassId} {ad : Nat → Nat} {r : (Int32 × ST)} (E : Ev x cy cX8_bestToOpen RX8 5 6 148) (K : RetI x cX8_bestToOpen .int r.1 (wT ad cy r.2)) (rec8 : (ST × Int32 × Int32 × Int32) → Option (Int32 × ST)) (hrec8 : ∀ a, rec8 a = some r → G x 0 0 8 [(0, .ref (ad 0)), (1, .int a.2.1), (2, .int a.2.2.1), (3, .int a.2.2.2)] [] (wT ad cy a.1)) (σ : ST) (x1 : Int32) (x2 : Int32) (x3 : Int32) (h : D_X8_bestToOpen_L8_body rec8 σ x1 x2 x3 = some r) : G x 0 0 8 [(0, .ref (ad 0)), (1, .int x1), (2, .int x2), (3, .int x3)] [] (wT ad cy σ) := by
  unfold D_X8_bestToOpen_L8_body at h
  refine G.iload_n E dX8_bestToOpen_8 rfl 3 rfl ?_
  refine G.iconst (v := 1) E dX8_bestToOpen_9 (by decide) ?_
  refine G.aload_n E dX8_bestToOpen_10 rfl 0 rfl ?_
  refine G.get E inX8 0 rfl rfl 10 (by decide) (f224 E.fx) rfl dX8_bestToOpen_11 ?_
  refine G.ishl E dX8_bestToOpen_14 ?_
  refine G.icmp_ge (tgt := 42) E dX8_bestToOpen_15 (by decide) (fun q => ?_) (fun q => ?_)
  · have h := ite_t h q
    refine G.iload_n E dX8_bestToOpen_42 rfl 1 rfl ?_
    obtain rfl := Option.some.inj h
    exact K rfl _ _ dX8_bestToOpen_43
  · have h := ite_f h q
    refine G.aload_n E dX8_bestToOpen_18 rfl 0 rfl ?_
    refine G.iload_n E dX8_bestToOpen_19 rfl 3 rfl ?_
    obtain ⟨r1, h2, h⟩ := bind_s h
    refine G.retI E (runV (st := []) (As := [.int x3]) E (C_X8_dangerOf h2) ck_X8_dangerOf (f591 E.fx) (f593 E.fx) (f21 E.fx) 0 8 rfl rfl rfl (by decide) (by decide) rfl (Nat.le_of_ble_eq_true rfl) dX8_bestToOpen_20 ⟨Nat.zero_le _, Nat.zero_le _⟩) ?_
    refine G.istore (lv' := [(4, .int r1.1), (0, .ref (ad 0)), (1, .int x1), (2, .int x2), (3, .int x3)]) E dX8_bestToOpen_23 (by decide) rfl ?_
    refine G.iload E dX8_bestToOpen_25 0 rfl ?_
    refine G.iload_n E dX8_bestToOpen_27 rfl 3 rfl ?_
    refine G.icmp_ge (tgt := 36) E dX8_bestToOpen_28 (by decide) (fun q => ?_) (fun q => ?_)
    · have h := ite_t h q
      refine G.sub (lv' := [(0, .ref (ad 0)), (1, .int x1), (2, .int x2), (3, .int x3)]) [1, 2, 3, 4] rfl ?_
      exact B_X8_bestToOpen_b36 E K rec8 hrec8 r1.2 x1 x2 x3 h
    · have h := ite_f h q
      refine G.iload E dX8_bestToOpen_31 0 rfl ?_
      refine G.istore_n (lv' := [(2, .int r1.1), (4, .int r1.1), (0, .ref (ad 0)), (1, .int x1), (3, .int x3)]) E dX8_bestToOpen_33 rfl (by decide) rfl ?_
      refine G.iload_n E dX8_bestToOpen_34 rfl 4 rfl ?_
      refine G.istore_n (lv' := [(1, .int x3), (2, .int r1.1), (4, .int r1.1), (0, .ref (ad 0)), (3, .int x3)]) E dX8_bestToOpen_35 rfl (by decide) rfl ?_
      refine G.sub (lv' := [(0, .ref (ad 0)), (1, .int x3), (2, .int r1.1), (3, .int x3)]) [3, 0, 1, 4] rfl ?_
      exact B_X8_bestToOpen_b36 E K rec8 hrec8 r1.2 x3 r1.1 x3 h
noncomputable def D_X8_bestToOpen_L8  (σ : ST) (x1 : Int32) (x2 : Int32) (x3 : Int32) : Option (Int32 × ST) := itr (fun (rec8 : (ST × Int32 × Int32 × Int32) → Option (Int32 × ST)) (a : (ST × Int32 × Int32 × Int32)) => D_X8_bestToOpen_L8_body rec8 a.1 a.2.1 a.2.2.1 a.2.2.2) 200 (σ, x1, x2, x3)
set_option maxRecDepth 100000 in
set_option maxHeartbeats 4000000 in
theorem B_X8_bestToOpen_L8 {x : CX} {cy : Nat → ClassId} {ad : Nat → Nat} {r : (Int32 × ST)} (E : Ev x cy cX8_bestToOpen RX8 5 6 148) (K : RetI x cX8_bestToOpen .int r.1 (wT ad cy r.2))  (σ : ST) (x1 : Int32) (x2 : Int32) (x3 : Int32) (h : D_X8_bestToOpen_L8 σ x1 x2 x3 = some r) : G x 0 0 8 [(0, .ref (ad 0)), (1, .int x1), (2, .int x2), (3, .int x3)] [] (wT ad cy σ) :=
  itr_ind (P := fun a => G x 0 0 8 [(0, .ref (ad 0)), (1, .int a.2.1), (2, .int a.2.2.1), (3, .int a.2.2.2)] [] (wT ad cy a.1)) (fun rec8 hrec8 a h => B_X8_bestToOpen_L8_body E K rec8 hrec8 a.1 a.2.1 a.2.2.1 a.2.2.2 h) 200 (σ, x1, x2, x3) h
noncomputable def D_X8_bestToOpen (σ : ST)  : Option (Int32 × ST) := D_X8_bestToOpen_L8 σ (0 : Int32) (1000001 : Int32) (0 : Int32)
set_option maxRecDepth 100000 in
set_option maxHeartbeats 4000000 in
theorem B_X8_bestToOpen {x : CX} {cy : Nat → ClassId} {ad : Nat → Nat} {r : (Int32 × ST)} (E : Ev x cy cX8_bestToOpen RX8 5 6 148) (K : RetI x cX8_bestToOpen .int r.1 (wT ad cy r.2)) (σ : ST)  (h : D_X8_bestToOpen σ = some r) : G x 0 0 0 [(0, .ref (ad 0))] [] (wT ad cy σ) := by
  unfold D_X8_bestToOpen at h
  refine G.iconst (v := 0) E dX8_bestToOpen_0 (by decide) ?_
  refine G.istore_n (lv' := [(1, .int (0 : Int32)), (0, .ref (ad 0))]) E dX8_bestToOpen_1 rfl (by decide) rfl ?_
  refine G.ldcw E (f590 E.fx) dX8_bestToOpen_2 ?_
  refine G.istore_n (lv' := [(2, .int (1000001 : Int32)), (1, .int (0 : Int32)), (0, .ref (ad 0))]) E dX8_bestToOpen_5 rfl (by decide) rfl ?_
  refine G.iconst (v := 0) E dX8_bestToOpen_6 (by decide) ?_
  refine G.istore_n (lv' := [(3, .int (0 : Int32)), (2, .int (1000001 : Int32)), (1, .int (0 : Int32)), (0, .ref (ad 0))]) E dX8_bestToOpen_7 rfl (by decide) rfl ?_
  refine G.sub (lv' := [(0, .ref (ad 0)), (1, .int (0 : Int32)), (2, .int (1000001 : Int32)), (3, .int (0 : Int32))]) [3, 2, 1, 0] rfl ?_
  exact B_X8_bestToOpen_L8 E K σ (0 : Int32) (1000001 : Int32) (0 : Int32) h
set_option maxRecDepth 100000 in
set_option maxHeartbeats 4000000 in
theorem C_X8_bestToOpen {l : Launch} {D : va_G} {cy : Nat → ClassId} {ad : Nat → Nat} {σ : ST}  {r : (Int32 × ST)} (h : D_X8_bestToOpen σ = some r) : MI l yX8_bestToOpen cX8_bestToOpen 5 (some .int) 6 148 D cy (wT ad cy σ) [.ref (ad 0)] r.1 (wT ad cy r.2) :=
  MI.mk (lv := [(0, .ref (ad 0))]) (by decide) (Nat.le_of_ble_eq_true rfl) rfl (fun x _ _ E K => B_X8_bestToOpen E K σ h)

noncomputable def D_X8_open_b12  (σ : ST) (x1 : Int32) : Option (Int32 × ST) := if (gI σ 1) = 0 then (some ((-103 : Int32), σ)) else ((D_X8_bestToOpen σ).bind fun r1 => if x1 = 0 then (some (r1.1, r1.2)) else ((D_X8_dangerOf r1.2 r1.1).bind fun r3 => some (r3.1, r3.2)))
set_option maxRecDepth 100000 in
set_option maxHeartbeats 4000000 in
theorem B_X8_open_b12 {x : CX} {cy : Nat → ClassId} {ad : Nat → Nat} {r : (Int32 × ST)} (E : Ev x cy cX8_open RX8 3 7 172) (K : RetI x cX8_open .int r.1 (wT ad cy r.2))  (σ : ST) (x1 : Int32) (h : D_X8_open_b12 σ x1 = some r) : G x 0 0 12 [(0, .ref (ad 0)), (1, .int x1)] [] (wT ad cy σ) := by
  unfold D_X8_open_b12 at h
  refine G.aload_n E dX8_open_12 rfl 0 rfl ?_
  refine G.get E inX8 0 rfl rfl 9 (by decide) (f223 E.fx) rfl dX8_open_13 ?_
  refine G.if_ne (tgt := 22) E dX8_open_16 (by decide) (fun q => ?_) (fun q => ?_)
  · have h := ite_f h q
    refine G.aload_n E dX8_open_22 rfl 0 rfl ?_
    obtain ⟨r1, h2, h⟩ := bind_s h
    refine G.retI E (runV (st := []) (As := []) E (C_X8_bestToOpen h2) ck_X8_bestToOpen (f586 E.fx) (f588 E.fx) (f20 E.fx) 0 8 rfl rfl rfl (by decide) (by decide) rfl (Nat.le_of_ble_eq_true rfl) dX8_open_23 ⟨Nat.zero_le _, Nat.zero_le _⟩) ?_
    refine G.istore_n (lv' := [(2, .int r1.1), (0, .ref (ad 0)), (1, .int x1)]) E dX8_open_26 rfl (by decide) rfl ?_
    refine G.iload_n E dX8_open_27 rfl 2 rfl ?_
    refine G.if_ne (tgt := 35) E dX8_open_28 (by decide) (fun q => ?_) (fun q => ?_)
    · have h := ite_f h q
      refine G.aload_n E dX8_open_35 rfl 1 rfl ?_
      refine G.iload_n E dX8_open_36 rfl 0 rfl ?_
      obtain ⟨r3, h4, h⟩ := bind_s h
      refine G.retI E (runV (st := []) (As := [.int r1.1]) E (C_X8_dangerOf h4) ck_X8_dangerOf (f591 E.fx) (f593 E.fx) (f21 E.fx) 0 8 rfl rfl rfl (by decide) (by decide) rfl (Nat.le_of_ble_eq_true rfl) dX8_open_37 ⟨Nat.zero_le _, Nat.zero_le _⟩) ?_
      obtain rfl := Option.some.inj h
      exact K rfl _ _ dX8_open_40
    · have h := ite_t h q
      refine G.iload_n E dX8_open_31 rfl 0 rfl ?_
      refine G.goto (tgt := 40) E dX8_open_32 (by decide) ?_
      obtain rfl := Option.some.inj h
      exact K rfl _ _ dX8_open_40
  · have h := ite_t h q
    refine G.bipush (v := -103) E dX8_open_19 (by decide) ?_
    obtain rfl := Option.some.inj h
    exact K rfl _ _ dX8_open_21
noncomputable def D_X8_open (σ : ST) (p1 : Int32) : Option (Int32 × ST) := if p1 = 0 then (D_X8_open_b12 σ p1) else (if p1 = (1 : Int32) then (D_X8_open_b12 σ p1) else (some ((-102 : Int32), σ)))
set_option maxRecDepth 100000 in
set_option maxHeartbeats 4000000 in
theorem B_X8_open {x : CX} {cy : Nat → ClassId} {ad : Nat → Nat} {r : (Int32 × ST)} (E : Ev x cy cX8_open RX8 3 7 172) (K : RetI x cX8_open .int r.1 (wT ad cy r.2)) (σ : ST) (p1 : Int32) (h : D_X8_open σ p1 = some r) : G x 0 0 0 [(0, .ref (ad 0)), (1, .int p1)] [] (wT ad cy σ) := by
  unfold D_X8_open at h
  refine G.iload_n E dX8_open_0 rfl 1 rfl ?_
  refine G.if_eq (tgt := 12) E dX8_open_1 (by decide) (fun q => ?_) (fun q => ?_)
  · have h := ite_t h q
    refine G.sub (lv' := [(0, .ref (ad 0)), (1, .int p1)]) [0, 1] rfl ?_
    exact B_X8_open_b12 E K σ p1 h
  · have h := ite_f h q
    refine G.iload_n E dX8_open_4 rfl 1 rfl ?_
    refine G.iconst (v := 1) E dX8_open_5 (by decide) ?_
    refine G.icmp_eq (tgt := 12) E dX8_open_6 (by decide) (fun q => ?_) (fun q => ?_)
    · have h := ite_t h q
      refine G.sub (lv' := [(0, .ref (ad 0)), (1, .int p1)]) [0, 1] rfl ?_
      exact B_X8_open_b12 E K σ p1 h
    · have h := ite_f h q
      refine G.bipush (v := -102) E dX8_open_9 (by decide) ?_
      obtain rfl := Option.some.inj h
      exact K rfl _ _ dX8_open_11
set_option maxRecDepth 100000 in
set_option maxHeartbeats 4000000 in
theorem C_X8_open {l : Launch} {D : va_G} {cy : Nat → ClassId} {ad : Nat → Nat} {σ : ST} {p1 : Int32} {r : (Int32 × ST)} (h : D_X8_open σ p1 = some r) : MI l yX8_open cX8_open 3 (some .int) 7 172 D cy (wT ad cy σ) [.ref (ad 0), .int p1] r.1 (wT ad cy r.2) :=
  MI.mk (lv := [(0, .ref (ad 0)), (1, .int p1)]) (by decide) (Nat.le_of_ble_eq_true rfl) rfl (fun x _ _ E K => B_X8_open E K σ p1 h)

noncomputable def D_X8_beatBit (p0 : Int32) (p1 : Int32) : Option Int32 := some ((1 : Int32) <<< (((p0 * (4 : Int32)) + p1) &&& 31))
set_option maxRecDepth 100000 in
set_option maxHeartbeats 4000000 in
theorem B_X8_beatBit {x : CX} {cy : Nat → ClassId} {ws : va_W} {r : Int32} (E : Ev x cy cX8_beatBit RX8 2 0 0) (K : RetI x cX8_beatBit .int r ws) (p0 : Int32) (p1 : Int32) (h : D_X8_beatBit p0 p1 = some r) : G x 0 0 0 [(0, .int p0), (1, .int p1)] [] ws := by
  unfold D_X8_beatBit at h
  refine G.iconst (v := 1) E dX8_beatBit_0 (by decide) ?_
  refine G.iload_n E dX8_beatBit_1 rfl 0 rfl ?_
  refine G.iconst (v := 4) E dX8_beatBit_2 (by decide) ?_
  refine G.imul E dX8_beatBit_3 ?_
  refine G.iload_n E dX8_beatBit_4 rfl 1 rfl ?_
  refine G.iadd E dX8_beatBit_5 ?_
  refine G.ishl E dX8_beatBit_6 ?_
  obtain rfl := Option.some.inj h
  exact K rfl _ _ dX8_beatBit_7
set_option maxRecDepth 100000 in
set_option maxHeartbeats 4000000 in
theorem C_X8_beatBit {l : Launch} {D : va_G} {cy : Nat → ClassId} {ws : va_W} {p0 : Int32} {p1 : Int32} {r : Int32} (h : D_X8_beatBit p0 p1 = some r) : MI l yX8_beatBit cX8_beatBit 2 (some .int) 0 0 D cy ws [.int p0, .int p1] r ws :=
  MI.mk (lv := [(0, .int p0), (1, .int p1)]) (by decide) (Nat.le_of_ble_eq_true rfl) rfl (fun x _ _ E K => B_X8_beatBit E K p0 p1 h)

noncomputable def D_X8_whoBeatsWhom_b98 (rec4 : (ST × Int32 × Int32) → Option (Int32 × ST)) (rec14 : (ST × Int32 × Int32 × Int32) → Option (Int32 × ST)) (σ : ST) (x1 : Int32) (x2 : Int32) (x3 : Int32) : Option (Int32 × ST) := rec14 (σ, x1, x2, (x3 + 1))
set_option maxRecDepth 100000 in
set_option maxHeartbeats 4000000 in
theorem B_X8_whoBeatsWhom_b98 {x : CX} {cy : Nat → ClassId} {ad : Nat → Nat} {r : (Int32 × ST)} (E : Ev x cy cX8_whoBeatsWhom RX8 6 5 141) (K : RetI x cX8_whoBeatsWhom .int r.1 (wT ad cy r.2)) (rec4 : (ST × Int32 × Int32) → Option (Int32 × ST)) (hrec4 : ∀ a, rec4 a = some r → G x 0 0 4 [(0, .ref (ad 0)), (1, .int a.2.1), (2, .int a.2.2)] [] (wT ad cy a.1)) (rec14 : (ST × Int32 × Int32 × Int32) → Option (Int32 × ST)) (hrec14 : ∀ a, rec14 a = some r → G x 0 0 14 [(0, .ref (ad 0)), (1, .int a.2.1), (2, .int a.2.2.1), (3, .int a.2.2.2)] [] (wT ad cy a.1)) (σ : ST) (x1 : Int32) (x2 : Int32) (x3 : Int32) (h : D_X8_whoBeatsWhom_b98 rec4 rec14 σ x1 x2 x3 = some r) : G x 0 0 98 [(0, .ref (ad 0)), (1, .int x1), (2, .int x2), (3, .int x3)] [] (wT ad cy σ) := by
  unfold D_X8_whoBeatsWhom_b98 at h
  refine G.iinc (w := x3 + 1) (lv' := [(3, .int (x3 + 1)), (0, .ref (ad 0)), (1, .int x1), (2, .int x2)]) E dX8_whoBeatsWhom_98 3 rfl rfl (by decide) rfl ?_
  refine G.goto (tgt := 14) E dX8_whoBeatsWhom_101 (by decide) ?_
  refine G.sub (lv' := [(0, .ref (ad 0)), (1, .int x1), (2, .int x2), (3, .int (x3 + 1))]) [1, 2, 3, 0] rfl ?_
  exact hrec14 (σ, x1, x2, (x3 + 1)) h
noncomputable def D_X8_whoBeatsWhom_L14_body (rec4 : (ST × Int32 × Int32) → Option (Int32 × ST)) (rec14 : (ST × Int32 × Int32 × Int32) → Option (Int32 × ST)) (σ : ST) (x1 : Int32) (x2 : Int32) (x3 : Int32) : Option (Int32 × ST) := if x2 ≤ x3 then (rec4 (σ, x1, (x2 + 1))) else ((D_X8_rowsHitBy σ x2).bind fun r1 => (D_X8_rowsHitBy σ x3).bind fun r3 => (D_X7_chance σ r1 r3 (gI σ 2)).bind fun r5 => (D_X8_rowsHitBy r5.2 x3).bind fun r7 => (D_X8_rowsHitBy r5.2 x2).bind fun r9 => (D_X7_chance r5.2 r7 r9 (gI r5.2 2)).bind fun r11 => if r5.1 ≤ r11.1 then (if r11.1 ≤ r5.1 then (D_X8_whoBeatsWhom_b98 rec4 rec14 r11.2 x1 x2 x3) else ((D_X8_beatBit x3 x2).bind fun r13 => D_X8_whoBeatsWhom_b98 rec4 rec14 r11.2 (x1 ||| r13) x2 x3)) else ((D_X8_beatBit x2 x3).bind fun r15 => D_X8_whoBeatsWhom_b98 rec4 rec14 r11.2 (x1 ||| r15) x2 x3))
set_option maxRecDepth 100000 in
set_option maxHeartbeats 4000000 in
theorem B_X8_whoBeatsWhom_L14_body {x : CX} {cy : Nat → ClassId} {ad : Nat → Nat} {r : (Int32 × ST)} (E : Ev x cy cX8_whoBeatsWhom RX8 6 5 141) (K : RetI x cX8_whoBeatsWhom .int r.1 (wT ad cy r.2)) (rec4 : (ST × Int32 × Int32) → Option (Int32 × ST)) (hrec4 : ∀ a, rec4 a = some r → G x 0 0 4 [(0, .ref (ad 0)), (1, .int a.2.1), (2, .int a.2.2)] [] (wT ad cy a.1)) (rec14 : (ST × Int32 × Int32 × Int32) → Option (Int32 × ST)) (hrec14 : ∀ a, rec14 a = some r → G x 0 0 14 [(0, .ref (ad 0)), (1, .int a.2.1), (2, .int a.2.2.1), (3, .int a.2.2.2)] [] (wT ad cy a.1)) (σ : ST) (x1 : Int32) (x2 : Int32) (x3 : Int32) (h : D_X8_whoBeatsWhom_L14_body rec4 rec14 σ x1 x2 x3 = some r) : G x 0 0 14 [(0, .ref (ad 0)), (1, .int x1), (2, .int x2), (3, .int x3)] [] (wT ad cy σ) := by
  unfold D_X8_whoBeatsWhom_L14_body at h
  refine G.iload_n E dX8_whoBeatsWhom_14 rfl 3 rfl ?_
  refine G.iload_n E dX8_whoBeatsWhom_15 rfl 2 rfl ?_
  refine G.icmp_ge (tgt := 104) E dX8_whoBeatsWhom_16 (by decide) (fun q => ?_) (fun q => ?_)
  · have h := ite_t h q
    refine G.iinc (w := x2 + 1) (lv' := [(2, .int (x2 + 1)), (0, .ref (ad 0)), (1, .int x1), (3, .int x3)]) E dX8_whoBeatsWhom_104 2 rfl rfl (by decide) rfl ?_
    refine G.goto (tgt := 4) E dX8_whoBeatsWhom_107 (by decide) ?_
    refine G.sub (lv' := [(0, .ref (ad 0)), (1, .int x1), (2, .int (x2 + 1))]) [1, 2, 0] rfl ?_
    exact hrec4 (σ, x1, (x2 + 1)) h
  · have h := ite_f h q
    refine G.aload_n E dX8_whoBeatsWhom_19 rfl 0 rfl ?_
    refine G.get E inX8 0 rfl rfl 3 (by decide) (f217 E.fx) rfl dX8_whoBeatsWhom_20 ?_
    refine G.aload_n E dX8_whoBeatsWhom_23 rfl 0 rfl ?_
    refine G.iload_n E dX8_whoBeatsWhom_24 rfl 2 rfl ?_
    obtain ⟨r1, h2, h⟩ := bind_s h
    refine G.retI E (runV (st := [.ref (ad 17)]) (As := [.int x2]) E (C_X8_rowsHitBy h2) ck_X8_rowsHitBy (f429 E.fx) (f431 E.fx) (f4 E.fx) 0 8 rfl rfl rfl (by decide) (by decide) rfl (Nat.le_of_ble_eq_true rfl) dX8_whoBeatsWhom_25 ⟨Nat.zero_le _, Nat.zero_le _⟩) ?_
    refine G.aload_n E dX8_whoBeatsWhom_28 rfl 0 rfl ?_
    refine G.iload_n E dX8_whoBeatsWhom_29 rfl 3 rfl ?_
    obtain ⟨r3, h4, h⟩ := bind_s h
    refine G.retI E (runV (st := [.int r1, .ref (ad 17)]) (As := [.int x3]) E (C_X8_rowsHitBy h4) ck_X8_rowsHitBy (f429 E.fx) (f431 E.fx) (f4 E.fx) 0 8 rfl rfl rfl (by decide) (by decide) rfl (Nat.le_of_ble_eq_true rfl) dX8_whoBeatsWhom_30 ⟨Nat.zero_le _, Nat.zero_le _⟩) ?_
    refine G.aload_n E dX8_whoBeatsWhom_33 rfl 0 rfl ?_
    refine G.get E inX8 0 rfl rfl 10 (by decide) (f224 E.fx) rfl dX8_whoBeatsWhom_34 ?_
    obtain ⟨r5, h6, h⟩ := bind_s h
    refine G.retI E (runV (st := []) (As := [.int r1, .int r3, .int (gI σ 2)]) E (C_X7_chance h6) ck_X7_chance (f569 E.fx) (f570 E.fx) (f571 E.fx) 17 7 rfl rfl rfl (by decide) (by decide) rfl (Nat.le_of_ble_eq_true rfl) dX8_whoBeatsWhom_37 ⟨Nat.zero_le _, Nat.zero_le _⟩) ?_
    refine G.istore (lv' := [(4, .int r5.1), (0, .ref (ad 0)), (1, .int x1), (2, .int x2), (3, .int x3)]) E dX8_whoBeatsWhom_40 (by decide) rfl ?_
    refine G.aload_n E dX8_whoBeatsWhom_42 rfl 1 rfl ?_
    refine G.get E inX8 0 rfl rfl 3 (by decide) (f217 E.fx) rfl dX8_whoBeatsWhom_43 ?_
    refine G.aload_n E dX8_whoBeatsWhom_46 rfl 1 rfl ?_
    refine G.iload_n E dX8_whoBeatsWhom_47 rfl 4 rfl ?_
    obtain ⟨r7, h8, h⟩ := bind_s h
    refine G.retI E (runV (st := [.ref (ad 17)]) (As := [.int x3]) E (C_X8_rowsHitBy h8) ck_X8_rowsHitBy (f429 E.fx) (f431 E.fx) (f4 E.fx) 0 8 rfl rfl rfl (by decide) (by decide) rfl (Nat.le_of_ble_eq_true rfl) dX8_whoBeatsWhom_48 ⟨Nat.zero_le _, Nat.zero_le _⟩) ?_
    refine G.aload_n E dX8_whoBeatsWhom_51 rfl 1 rfl ?_
    refine G.iload_n E dX8_whoBeatsWhom_52 rfl 3 rfl ?_
    obtain ⟨r9, h10, h⟩ := bind_s h
    refine G.retI E (runV (st := [.int r7, .ref (ad 17)]) (As := [.int x2]) E (C_X8_rowsHitBy h10) ck_X8_rowsHitBy (f429 E.fx) (f431 E.fx) (f4 E.fx) 0 8 rfl rfl rfl (by decide) (by decide) rfl (Nat.le_of_ble_eq_true rfl) dX8_whoBeatsWhom_53 ⟨Nat.zero_le _, Nat.zero_le _⟩) ?_
    refine G.aload_n E dX8_whoBeatsWhom_56 rfl 1 rfl ?_
    refine G.get E inX8 0 rfl rfl 10 (by decide) (f224 E.fx) rfl dX8_whoBeatsWhom_57 ?_
    obtain ⟨r11, h12, h⟩ := bind_s h
    refine G.retI E (runV (st := []) (As := [.int r7, .int r9, .int (gI r5.2 2)]) E (C_X7_chance h12) ck_X7_chance (f569 E.fx) (f570 E.fx) (f571 E.fx) 17 7 rfl rfl rfl (by decide) (by decide) rfl (Nat.le_of_ble_eq_true rfl) dX8_whoBeatsWhom_60 ⟨Nat.zero_le _, Nat.zero_le _⟩) ?_
    refine G.istore (lv' := [(5, .int r11.1), (4, .int r5.1), (0, .ref (ad 0)), (1, .int x1), (2, .int x2), (3, .int x3)]) E dX8_whoBeatsWhom_63 (by decide) rfl ?_
    refine G.iload E dX8_whoBeatsWhom_65 1 rfl ?_
    refine G.iload E dX8_whoBeatsWhom_67 0 rfl ?_
    refine G.icmp_le (tgt := 83) E dX8_whoBeatsWhom_69 (by decide) (fun q => ?_) (fun q => ?_)
    · have h := ite_t h q
      refine G.iload E dX8_whoBeatsWhom_83 0 rfl ?_
      refine G.iload E dX8_whoBeatsWhom_85 1 rfl ?_
      refine G.icmp_le (tgt := 98) E dX8_whoBeatsWhom_87 (by decide) (fun q => ?_) (fun q => ?_)
      · have h := ite_t h q
        refine G.sub (lv' := [(0, .ref (ad 0)), (1, .int x1), (2, .int x2), (3, .int x3)]) [2, 3, 4, 5] rfl ?_
        exact B_X8_whoBeatsWhom_b98 E K rec4 hrec4 rec14 hrec14 r11.2 x1 x2 x3 h
      · have h := ite_f h q
        refine G.iload_n E dX8_whoBeatsWhom_90 rfl 3 rfl ?_
        refine G.iload_n E dX8_whoBeatsWhom_91 rfl 5 rfl ?_
        refine G.iload_n E dX8_whoBeatsWhom_92 rfl 4 rfl ?_
        obtain ⟨r13, h14, h⟩ := bind_s h
        refine G.retI E (runS (st := [.int x1]) (As := [.int x3, .int x2]) E (C_X8_beatBit h14) ck_X8_beatBit (f603 E.fx) (f604 E.fx) (by decide) (by decide) rfl (Nat.le_of_ble_eq_true rfl) dX8_whoBeatsWhom_93 ⟨Nat.zero_le _, Nat.zero_le _⟩) ?_
        refine G.ior E dX8_whoBeatsWhom_96 ?_
        refine G.istore_n (lv' := [(1, .int (x1 ||| r13)), (5, .int r11.1), (4, .int r5.1), (0, .ref (ad 0)), (2, .int x2), (3, .int x3)]) E dX8_whoBeatsWhom_97 rfl (by decide) rfl ?_
        refine G.sub (lv' := [(0, .ref (ad 0)), (1, .int (x1 ||| r13)), (2, .int x2), (3, .int x3)]) [3, 0, 4, 5] rfl ?_
        exact B_X8_whoBeatsWhom_b98 E K rec4 hrec4 rec14 hrec14 r11.2 (x1 ||| r13) x2 x3 h
    · have h := ite_f h q
      refine G.iload_n E dX8_whoBeatsWhom_72 rfl 3 rfl ?_
      refine G.iload_n E dX8_whoBeatsWhom_73 rfl 4 rfl ?_
      refine G.iload_n E dX8_whoBeatsWhom_74 rfl 5 rfl ?_
      obtain ⟨r15, h16, h⟩ := bind_s h
      refine G.retI E (runS (st := [.int x1]) (As := [.int x2, .int x3]) E (C_X8_beatBit h16) ck_X8_beatBit (f603 E.fx) (f604 E.fx) (by decide) (by decide) rfl (Nat.le_of_ble_eq_true rfl) dX8_whoBeatsWhom_75 ⟨Nat.zero_le _, Nat.zero_le _⟩) ?_
      refine G.ior E dX8_whoBeatsWhom_78 ?_
      refine G.istore_n (lv' := [(1, .int (x1 ||| r15)), (5, .int r11.1), (4, .int r5.1), (0, .ref (ad 0)), (2, .int x2), (3, .int x3)]) E dX8_whoBeatsWhom_79 rfl (by decide) rfl ?_
      refine G.goto (tgt := 98) E dX8_whoBeatsWhom_80 (by decide) ?_
      refine G.sub (lv' := [(0, .ref (ad 0)), (1, .int (x1 ||| r15)), (2, .int x2), (3, .int x3)]) [3, 0, 4, 5] rfl ?_
      exact B_X8_whoBeatsWhom_b98 E K rec4 hrec4 rec14 hrec14 r11.2 (x1 ||| r15) x2 x3 h
noncomputable def D_X8_whoBeatsWhom_L14 (rec4 : (ST × Int32 × Int32) → Option (Int32 × ST)) (σ : ST) (x1 : Int32) (x2 : Int32) (x3 : Int32) : Option (Int32 × ST) := itr (fun (rec14 : (ST × Int32 × Int32 × Int32) → Option (Int32 × ST)) (a : (ST × Int32 × Int32 × Int32)) => D_X8_whoBeatsWhom_L14_body rec4 rec14 a.1 a.2.1 a.2.2.1 a.2.2.2) 200 (σ, x1, x2, x3)
set_option maxRecDepth 100000 in
set_option maxHeartbeats 4000000 in
theorem B_X8_whoBeatsWhom_L14 {x : CX} {cy : Nat → ClassId} {ad : Nat → Nat} {r : (Int32 × ST)} (E : Ev x cy cX8_whoBeatsWhom RX8 6 5 141) (K : RetI x cX8_whoBeatsWhom .int r.1 (wT ad cy r.2)) (rec4 : (ST × Int32 × Int32) → Option (Int32 × ST)) (hrec4 : ∀ a, rec4 a = some r → G x 0 0 4 [(0, .ref (ad 0)), (1, .int a.2.1), (2, .int a.2.2)] [] (wT ad cy a.1)) (σ : ST) (x1 : Int32) (x2 : Int32) (x3 : Int32) (h : D_X8_whoBeatsWhom_L14 rec4 σ x1 x2 x3 = some r) : G x 0 0 14 [(0, .ref (ad 0)), (1, .int x1), (2, .int x2), (3, .int x3)] [] (wT ad cy σ) :=
  itr_ind (P := fun a => G x 0 0 14 [(0, .ref (ad 0)), (1, .int a.2.1), (2, .int a.2.2.1), (3, .int a.2.2.2)] [] (wT ad cy a.1)) (fun rec14 hrec14 a h => B_X8_whoBeatsWhom_L14_body E K rec4 hrec4 rec14 hrec14 a.1 a.2.1 a.2.2.1 a.2.2.2 h) 200 (σ, x1, x2, x3) h
noncomputable def D_X8_whoBeatsWhom_L4_body (rec4 : (ST × Int32 × Int32) → Option (Int32 × ST)) (σ : ST) (x1 : Int32) (x2 : Int32) : Option (Int32 × ST) := if (gI σ 1) ≤ x2 then (some (x1, σ)) else (D_X8_whoBeatsWhom_L14 rec4 σ x1 x2 (0 : Int32))
set_option maxRecDepth 100000 in
set_option maxHeartbeats 4000000 in
theorem B_X8_whoBeatsWhom_L4_body {x : CX} {cy : Nat → ClassId} {ad : Nat → Nat} {r : (Int32 × ST)} (E : Ev x cy cX8_whoBeatsWhom RX8 6 5 141) (K : RetI x cX8_whoBeatsWhom .int r.1 (wT ad cy r.2)) (rec4 : (ST × Int32 × Int32) → Option (Int32 × ST)) (hrec4 : ∀ a, rec4 a = some r → G x 0 0 4 [(0, .ref (ad 0)), (1, .int a.2.1), (2, .int a.2.2)] [] (wT ad cy a.1)) (σ : ST) (x1 : Int32) (x2 : Int32) (h : D_X8_whoBeatsWhom_L4_body rec4 σ x1 x2 = some r) : G x 0 0 4 [(0, .ref (ad 0)), (1, .int x1), (2, .int x2)] [] (wT ad cy σ) := by
  unfold D_X8_whoBeatsWhom_L4_body at h
  refine G.iload_n E dX8_whoBeatsWhom_4 rfl 2 rfl ?_
  refine G.aload_n E dX8_whoBeatsWhom_5 rfl 0 rfl ?_
  refine G.get E inX8 0 rfl rfl 9 (by decide) (f223 E.fx) rfl dX8_whoBeatsWhom_6 ?_
  refine G.icmp_ge (tgt := 110) E dX8_whoBeatsWhom_9 (by decide) (fun q => ?_) (fun q => ?_)
  · have h := ite_t h q
    refine G.iload_n E dX8_whoBeatsWhom_110 rfl 1 rfl ?_
    obtain rfl := Option.some.inj h
    exact K rfl _ _ dX8_whoBeatsWhom_111
  · have h := ite_f h q
    refine G.iconst (v := 0) E dX8_whoBeatsWhom_12 (by decide) ?_
    refine G.istore_n (lv' := [(3, .int (0 : Int32)), (0, .ref (ad 0)), (1, .int x1), (2, .int x2)]) E dX8_whoBeatsWhom_13 rfl (by decide) rfl ?_
    refine G.sub (lv' := [(0, .ref (ad 0)), (1, .int x1), (2, .int x2), (3, .int (0 : Int32))]) [1, 2, 3, 0] rfl ?_
    exact B_X8_whoBeatsWhom_L14 E K rec4 hrec4 σ x1 x2 (0 : Int32) h
noncomputable def D_X8_whoBeatsWhom_L4  (σ : ST) (x1 : Int32) (x2 : Int32) : Option (Int32 × ST) := itr (fun (rec4 : (ST × Int32 × Int32) → Option (Int32 × ST)) (a : (ST × Int32 × Int32)) => D_X8_whoBeatsWhom_L4_body rec4 a.1 a.2.1 a.2.2) 200 (σ, x1, x2)
set_option maxRecDepth 100000 in
set_option maxHeartbeats 4000000 in
theorem B_X8_whoBeatsWhom_L4 {x : CX} {cy : Nat → ClassId} {ad : Nat → Nat} {r : (Int32 × ST)} (E : Ev x cy cX8_whoBeatsWhom RX8 6 5 141) (K : RetI x cX8_whoBeatsWhom .int r.1 (wT ad cy r.2))  (σ : ST) (x1 : Int32) (x2 : Int32) (h : D_X8_whoBeatsWhom_L4 σ x1 x2 = some r) : G x 0 0 4 [(0, .ref (ad 0)), (1, .int x1), (2, .int x2)] [] (wT ad cy σ) :=
  itr_ind (P := fun a => G x 0 0 4 [(0, .ref (ad 0)), (1, .int a.2.1), (2, .int a.2.2)] [] (wT ad cy a.1)) (fun rec4 hrec4 a h => B_X8_whoBeatsWhom_L4_body E K rec4 hrec4 a.1 a.2.1 a.2.2 h) 200 (σ, x1, x2) h
noncomputable def D_X8_whoBeatsWhom (σ : ST)  : Option (Int32 × ST) := D_X8_whoBeatsWhom_L4 σ (0 : Int32) (0 : Int32)
set_option maxRecDepth 100000 in
set_option maxHeartbeats 4000000 in
theorem B_X8_whoBeatsWhom {x : CX} {cy : Nat → ClassId} {ad : Nat → Nat} {r : (Int32 × ST)} (E : Ev x cy cX8_whoBeatsWhom RX8 6 5 141) (K : RetI x cX8_whoBeatsWhom .int r.1 (wT ad cy r.2)) (σ : ST)  (h : D_X8_whoBeatsWhom σ = some r) : G x 0 0 0 [(0, .ref (ad 0))] [] (wT ad cy σ) := by
  unfold D_X8_whoBeatsWhom at h
  refine G.iconst (v := 0) E dX8_whoBeatsWhom_0 (by decide) ?_
  refine G.istore_n (lv' := [(1, .int (0 : Int32)), (0, .ref (ad 0))]) E dX8_whoBeatsWhom_1 rfl (by decide) rfl ?_
  refine G.iconst (v := 0) E dX8_whoBeatsWhom_2 (by decide) ?_
  refine G.istore_n (lv' := [(2, .int (0 : Int32)), (1, .int (0 : Int32)), (0, .ref (ad 0))]) E dX8_whoBeatsWhom_3 rfl (by decide) rfl ?_
  refine G.sub (lv' := [(0, .ref (ad 0)), (1, .int (0 : Int32)), (2, .int (0 : Int32))]) [2, 1, 0] rfl ?_
  exact B_X8_whoBeatsWhom_L4 E K σ (0 : Int32) (0 : Int32) h
set_option maxRecDepth 100000 in
set_option maxHeartbeats 4000000 in
theorem C_X8_whoBeatsWhom {l : Launch} {D : va_G} {cy : Nat → ClassId} {ad : Nat → Nat} {σ : ST}  {r : (Int32 × ST)} (h : D_X8_whoBeatsWhom σ = some r) : MI l yX8_whoBeatsWhom cX8_whoBeatsWhom 6 (some .int) 5 141 D cy (wT ad cy σ) [.ref (ad 0)] r.1 (wT ad cy r.2) :=
  MI.mk (lv := [(0, .ref (ad 0))]) (by decide) (Nat.le_of_ble_eq_true rfl) rfl (fun x _ _ E K => B_X8_whoBeatsWhom E K σ h)

noncomputable def D_X8_closes_b93 (recc : Int32 → Int32 → Int32 → Int32 → Int32 → Option Int32) (rec31 : (Int32 × Int32 × Int32 × Int32 × Int32 × Int32) → Option Int32) (x0 : Int32) (x1 : Int32) (x2 : Int32) (x3 : Int32) (x4 : Int32) (x5 : Int32) : Option Int32 := rec31 (x0, x1, x2, x3, x4, (x5 + 1))
set_option maxRecDepth 100000 in
set_option maxHeartbeats 4000000 in
theorem B_X8_closes_b93 {n : Nat} {recc : Int32 → Int32 → Int32 → Int32 → Int32 → Option Int32} {x : CX} {cy : Nat → ClassId} {ws : va_W} {r : Int32} (E : Ev x cy cX8_closes RX8 7 (n + 1 + 2) (40 * (n + 1) + 60)) (K : RetI x cX8_closes .boolean r ws) (hrecc : ∀ (a b c d e r : Int32), recc a b c d e = some r → MI (xL x) yX8_closes cX8_closes 7 (some .boolean) (n + 2) (40 * n + 60) (xD x) cy ws [.int a, .int b, .int c, .int d, .int e] r ws)  (rec31 : (Int32 × Int32 × Int32 × Int32 × Int32 × Int32) → Option Int32) (hrec31 : ∀ a, rec31 a = some r → G x 0 0 31 [(0, .int a.1), (1, .int a.2.1), (2, .int a.2.2.1), (3, .int a.2.2.2.1), (4, .int a.2.2.2.2.1), (5, .int a.2.2.2.2.2)] [] ws) (x0 : Int32) (x1 : Int32) (x2 : Int32) (x3 : Int32) (x4 : Int32) (x5 : Int32) (h : D_X8_closes_b93 recc rec31 x0 x1 x2 x3 x4 x5 = some r) : G x 0 0 93 [(0, .int x0), (1, .int x1), (2, .int x2), (3, .int x3), (4, .int x4), (5, .int x5)] [] ws := by
  unfold D_X8_closes_b93 at h
  refine G.iinc (w := x5 + 1) (lv' := [(5, .int (x5 + 1)), (0, .int x0), (1, .int x1), (2, .int x2), (3, .int x3), (4, .int x4)]) E dX8_closes_93 5 rfl rfl (by decide) rfl ?_
  refine G.goto (tgt := 31) E dX8_closes_96 (by decide) ?_
  refine G.sub (lv' := [(0, .int x0), (1, .int x1), (2, .int x2), (3, .int x3), (4, .int x4), (5, .int (x5 + 1))]) [1, 2, 3, 4, 5, 0] rfl ?_
  exact hrec31 (x0, x1, x2, x3, x4, (x5 + 1)) h
noncomputable def D_X8_closes_b62 (recc : Int32 → Int32 → Int32 → Int32 → Int32 → Option Int32) (rec31 : (Int32 × Int32 × Int32 × Int32 × Int32 × Int32) → Option Int32) (x0 : Int32) (x1 : Int32) (x2 : Int32) (x3 : Int32) (x4 : Int32) (x5 : Int32) (s0 : Int32) : Option Int32 := if s0 = 0 then (D_X8_closes_b93 recc rec31 x0 x1 x2 x3 x4 x5) else ((recc x0 x5 (x2 &&& (((1 : Int32) <<< (x5 &&& 31)) ^^^ (-1 : Int32))) x3 (x4 + (1 : Int32))).bind fun r3 => if r3 = 0 then (D_X8_closes_b93 recc rec31 x0 x1 x2 x3 x4 x5) else (some (1 : Int32)))
set_option maxRecDepth 100000 in
set_option maxHeartbeats 4000000 in
theorem B_X8_closes_b62 {n : Nat} {recc : Int32 → Int32 → Int32 → Int32 → Int32 → Option Int32} {x : CX} {cy : Nat → ClassId} {ws : va_W} {r : Int32} (E : Ev x cy cX8_closes RX8 7 (n + 1 + 2) (40 * (n + 1) + 60)) (K : RetI x cX8_closes .boolean r ws) (hrecc : ∀ (a b c d e r : Int32), recc a b c d e = some r → MI (xL x) yX8_closes cX8_closes 7 (some .boolean) (n + 2) (40 * n + 60) (xD x) cy ws [.int a, .int b, .int c, .int d, .int e] r ws)  (rec31 : (Int32 × Int32 × Int32 × Int32 × Int32 × Int32) → Option Int32) (hrec31 : ∀ a, rec31 a = some r → G x 0 0 31 [(0, .int a.1), (1, .int a.2.1), (2, .int a.2.2.1), (3, .int a.2.2.2.1), (4, .int a.2.2.2.2.1), (5, .int a.2.2.2.2.2)] [] ws) (x0 : Int32) (x1 : Int32) (x2 : Int32) (x3 : Int32) (x4 : Int32) (x5 : Int32) (s0 : Int32) (h : D_X8_closes_b62 recc rec31 x0 x1 x2 x3 x4 x5 s0 = some r) : G x 0 0 62 [(0, .int x0), (1, .int x1), (2, .int x2), (3, .int x3), (4, .int x4), (5, .int x5)] [.int s0] ws := by
  unfold D_X8_closes_b62 at h
  refine G.istore (lv' := [(6, .int s0), (0, .int x0), (1, .int x1), (2, .int x2), (3, .int x3), (4, .int x4), (5, .int x5)]) E dX8_closes_62 (by decide) rfl ?_
  refine G.iload E dX8_closes_64 0 rfl ?_
  refine G.if_eq (tgt := 93) E dX8_closes_66 (by decide) (fun q => ?_) (fun q => ?_)
  · have h := ite_t h q
    refine G.sub (lv' := [(0, .int x0), (1, .int x1), (2, .int x2), (3, .int x3), (4, .int x4), (5, .int x5)]) [1, 2, 3, 4, 5, 6] rfl ?_
    exact B_X8_closes_b93 E K hrecc rec31 hrec31 x0 x1 x2 x3 x4 x5 h
  · have h := ite_f h q
    refine G.iload_n E dX8_closes_69 rfl 1 rfl ?_
    refine G.iload E dX8_closes_70 6 rfl ?_
    refine G.iload_n E dX8_closes_72 rfl 3 rfl ?_
    refine G.iconst (v := 1) E dX8_closes_73 (by decide) ?_
    refine G.iload E dX8_closes_74 6 rfl ?_
    refine G.ishl E dX8_closes_76 ?_
    refine G.iconst (v := -1) E dX8_closes_77 (by decide) ?_
    refine G.ixor E dX8_closes_78 ?_
    refine G.iand E dX8_closes_79 ?_
    refine G.iload_n E dX8_closes_80 rfl 4 rfl ?_
    refine G.iload E dX8_closes_81 5 rfl ?_
    refine G.iconst (v := 1) E dX8_closes_83 (by decide) ?_
    refine G.iadd E dX8_closes_84 ?_
    obtain ⟨r3, h4, h⟩ := bind_s h
    refine G.retI E (runS (st := []) (As := [.int x0, .int x5, .int (x2 &&& (((1 : Int32) <<< (x5 &&& 31)) ^^^ (-1 : Int32))), .int x3, .int (x4 + (1 : Int32))]) E (hrecc _ _ _ _ _ _ h4) ck_X8_closes (f609 E.fx) (f610 E.fx) (by omega) (by omega) rfl (Nat.le_of_ble_eq_true rfl) dX8_closes_85 ⟨Nat.zero_le _, Nat.zero_le _⟩) ?_
    refine G.if_eq (tgt := 93) E dX8_closes_88 (by decide) (fun q => ?_) (fun q => ?_)
    · have h := ite_t h q
      refine G.sub (lv' := [(0, .int x0), (1, .int x1), (2, .int x2), (3, .int x3), (4, .int x4), (5, .int x5)]) [1, 2, 3, 4, 5, 6] rfl ?_
      exact B_X8_closes_b93 E K hrecc rec31 hrec31 x0 x1 x2 x3 x4 x5 h
    · have h := ite_f h q
      refine G.iconst (v := 1) E dX8_closes_91 (by decide) ?_
      obtain rfl := Option.some.inj h
      exact K rfl _ _ dX8_closes_92
noncomputable def D_X8_closes_b61 (recc : Int32 → Int32 → Int32 → Int32 → Int32 → Option Int32) (rec31 : (Int32 × Int32 × Int32 × Int32 × Int32 × Int32) → Option Int32) (x0 : Int32) (x1 : Int32) (x2 : Int32) (x3 : Int32) (x4 : Int32) (x5 : Int32) : Option Int32 := D_X8_closes_b62 recc rec31 x0 x1 x2 x3 x4 x5 (0 : Int32)
set_option maxRecDepth 100000 in
set_option maxHeartbeats 4000000 in
theorem B_X8_closes_b61 {n : Nat} {recc : Int32 → Int32 → Int32 → Int32 → Int32 → Option Int32} {x : CX} {cy : Nat → ClassId} {ws : va_W} {r : Int32} (E : Ev x cy cX8_closes RX8 7 (n + 1 + 2) (40 * (n + 1) + 60)) (K : RetI x cX8_closes .boolean r ws) (hrecc : ∀ (a b c d e r : Int32), recc a b c d e = some r → MI (xL x) yX8_closes cX8_closes 7 (some .boolean) (n + 2) (40 * n + 60) (xD x) cy ws [.int a, .int b, .int c, .int d, .int e] r ws)  (rec31 : (Int32 × Int32 × Int32 × Int32 × Int32 × Int32) → Option Int32) (hrec31 : ∀ a, rec31 a = some r → G x 0 0 31 [(0, .int a.1), (1, .int a.2.1), (2, .int a.2.2.1), (3, .int a.2.2.2.1), (4, .int a.2.2.2.2.1), (5, .int a.2.2.2.2.2)] [] ws) (x0 : Int32) (x1 : Int32) (x2 : Int32) (x3 : Int32) (x4 : Int32) (x5 : Int32) (h : D_X8_closes_b61 recc rec31 x0 x1 x2 x3 x4 x5 = some r) : G x 0 0 61 [(0, .int x0), (1, .int x1), (2, .int x2), (3, .int x3), (4, .int x4), (5, .int x5)] [] ws := by
  unfold D_X8_closes_b61 at h
  refine G.iconst (v := 0) E dX8_closes_61 (by decide) ?_
  refine G.sub (lv' := [(0, .int x0), (1, .int x1), (2, .int x2), (3, .int x3), (4, .int x4), (5, .int x5)]) [0, 1, 2, 3, 4, 5] rfl ?_
  exact B_X8_closes_b62 E K hrecc rec31 hrec31 x0 x1 x2 x3 x4 x5 (0 : Int32) h
noncomputable def D_X8_closes_L31_body (recc : Int32 → Int32 → Int32 → Int32 → Int32 → Option Int32) (rec31 : (Int32 × Int32 × Int32 × Int32 × Int32 × Int32) → Option Int32) (x0 : Int32) (x1 : Int32) (x2 : Int32) (x3 : Int32) (x4 : Int32) (x5 : Int32) : Option Int32 := if (4 : Int32) ≤ x5 then (some (0 : Int32)) else ((D_X8_has x2 x5).bind fun r1 => if r1 = 0 then (D_X8_closes_b61 recc rec31 x0 x1 x2 x3 x4 x5) else ((D_X8_beatBit x1 x5).bind fun r5 => if (x3 &&& r5) = 0 then (D_X8_closes_b61 recc rec31 x0 x1 x2 x3 x4 x5) else (D_X8_closes_b62 recc rec31 x0 x1 x2 x3 x4 x5 (1 : Int32))))
set_option maxRecDepth 100000 in
set_option maxHeartbeats 4000000 in
theorem B_X8_closes_L31_body {n : Nat} {recc : Int32 → Int32 → Int32 → Int32 → Int32 → Option Int32} {x : CX} {cy : Nat → ClassId} {ws : va_W} {r : Int32} (E : Ev x cy cX8_closes RX8 7 (n + 1 + 2) (40 * (n + 1) + 60)) (K : RetI x cX8_closes .boolean r ws) (hrecc : ∀ (a b c d e r : Int32), recc a b c d e = some r → MI (xL x) yX8_closes cX8_closes 7 (some .boolean) (n + 2) (40 * n + 60) (xD x) cy ws [.int a, .int b, .int c, .int d, .int e] r ws)  (rec31 : (Int32 × Int32 × Int32 × Int32 × Int32 × Int32) → Option Int32) (hrec31 : ∀ a, rec31 a = some r → G x 0 0 31 [(0, .int a.1), (1, .int a.2.1), (2, .int a.2.2.1), (3, .int a.2.2.2.1), (4, .int a.2.2.2.2.1), (5, .int a.2.2.2.2.2)] [] ws) (x0 : Int32) (x1 : Int32) (x2 : Int32) (x3 : Int32) (x4 : Int32) (x5 : Int32) (h : D_X8_closes_L31_body recc rec31 x0 x1 x2 x3 x4 x5 = some r) : G x 0 0 31 [(0, .int x0), (1, .int x1), (2, .int x2), (3, .int x3), (4, .int x4), (5, .int x5)] [] ws := by
  unfold D_X8_closes_L31_body at h
  refine G.iload E dX8_closes_31 5 rfl ?_
  refine G.iconst (v := 4) E dX8_closes_33 (by decide) ?_
  refine G.icmp_ge (tgt := 99) E dX8_closes_34 (by decide) (fun q => ?_) (fun q => ?_)
  · have h := ite_t h q
    refine G.iconst (v := 0) E dX8_closes_99 (by decide) ?_
    obtain rfl := Option.some.inj h
    exact K rfl _ _ dX8_closes_100
  · have h := ite_f h q
    refine G.iload_n E dX8_closes_37 rfl 2 rfl ?_
    refine G.iload E dX8_closes_38 5 rfl ?_
    obtain ⟨r1, h2, h⟩ := bind_s h
    refine G.retI E (runS (st := []) (As := [.int x2, .int x5]) E (C_X8_has h2) ck_X8_has (f512 E.fx) (f480 E.fx) (by omega) (by omega) rfl (Nat.le_of_ble_eq_true rfl) dX8_closes_40 ⟨Nat.zero_le _, Nat.zero_le _⟩) ?_
    refine G.if_eq (tgt := 61) E dX8_closes_43 (by decide) (fun q => ?_) (fun q => ?_)
    · have h := ite_t h q
      refine G.sub (lv' := [(0, .int x0), (1, .int x1), (2, .int x2), (3, .int x3), (4, .int x4), (5, .int x5)]) [0, 1, 2, 3, 4, 5] rfl ?_
      exact B_X8_closes_b61 E K hrecc rec31 hrec31 x0 x1 x2 x3 x4 x5 h
    · have h := ite_f h q
      refine G.iload_n E dX8_closes_46 rfl 3 rfl ?_
      refine G.iload_n E dX8_closes_47 rfl 1 rfl ?_
      refine G.iload E dX8_closes_48 5 rfl ?_
      obtain ⟨r5, h6, h⟩ := bind_s h
      refine G.retI E (runS (st := [.int x3]) (As := [.int x1, .int x5]) E (C_X8_beatBit h6) ck_X8_beatBit (f603 E.fx) (f604 E.fx) (by omega) (by omega) rfl (Nat.le_of_ble_eq_true rfl) dX8_closes_50 ⟨Nat.zero_le _, Nat.zero_le _⟩) ?_
      refine G.iand E dX8_closes_53 ?_
      refine G.if_eq (tgt := 61) E dX8_closes_54 (by decide) (fun q => ?_) (fun q => ?_)
      · have h := ite_t h q
        refine G.sub (lv' := [(0, .int x0), (1, .int x1), (2, .int x2), (3, .int x3), (4, .int x4), (5, .int x5)]) [0, 1, 2, 3, 4, 5] rfl ?_
        exact B_X8_closes_b61 E K hrecc rec31 hrec31 x0 x1 x2 x3 x4 x5 h
      · have h := ite_f h q
        refine G.iconst (v := 1) E dX8_closes_57 (by decide) ?_
        refine G.goto (tgt := 62) E dX8_closes_58 (by decide) ?_
        refine G.sub (lv' := [(0, .int x0), (1, .int x1), (2, .int x2), (3, .int x3), (4, .int x4), (5, .int x5)]) [0, 1, 2, 3, 4, 5] rfl ?_
        exact B_X8_closes_b62 E K hrecc rec31 hrec31 x0 x1 x2 x3 x4 x5 (1 : Int32) h
noncomputable def D_X8_closes_L31 (recc : Int32 → Int32 → Int32 → Int32 → Int32 → Option Int32)  (x0 : Int32) (x1 : Int32) (x2 : Int32) (x3 : Int32) (x4 : Int32) (x5 : Int32) : Option Int32 := itr (fun (rec31 : (Int32 × Int32 × Int32 × Int32 × Int32 × Int32) → Option Int32) (a : (Int32 × Int32 × Int32 × Int32 × Int32 × Int32)) => D_X8_closes_L31_body recc rec31 a.1 a.2.1 a.2.2.1 a.2.2.2.1 a.2.2.2.2.1 a.2.2.2.2.2) 200 (x0, x1, x2, x3, x4, x5)
set_option maxRecDepth 100000 in
set_option maxHeartbeats 4000000 in
theorem B_X8_closes_L31 {n : Nat} {recc : Int32 → Int32 → Int32 → Int32 → Int32 → Option Int32} {x : CX} {cy : Nat → ClassId} {ws : va_W} {r : Int32} (E : Ev x cy cX8_closes RX8 7 (n + 1 + 2) (40 * (n + 1) + 60)) (K : RetI x cX8_closes .boolean r ws) (hrecc : ∀ (a b c d e r : Int32), recc a b c d e = some r → MI (xL x) yX8_closes cX8_closes 7 (some .boolean) (n + 2) (40 * n + 60) (xD x) cy ws [.int a, .int b, .int c, .int d, .int e] r ws)   (x0 : Int32) (x1 : Int32) (x2 : Int32) (x3 : Int32) (x4 : Int32) (x5 : Int32) (h : D_X8_closes_L31 recc x0 x1 x2 x3 x4 x5 = some r) : G x 0 0 31 [(0, .int x0), (1, .int x1), (2, .int x2), (3, .int x3), (4, .int x4), (5, .int x5)] [] ws :=
  itr_ind (P := fun a => G x 0 0 31 [(0, .int a.1), (1, .int a.2.1), (2, .int a.2.2.1), (3, .int a.2.2.2.1), (4, .int a.2.2.2.2.1), (5, .int a.2.2.2.2.2)] [] ws) (fun rec31 hrec31 a h => B_X8_closes_L31_body E K hrecc rec31 hrec31 a.1 a.2.1 a.2.2.1 a.2.2.2.1 a.2.2.2.2.1 a.2.2.2.2.2 h) 200 (x0, x1, x2, x3, x4, x5) h
noncomputable def D_X8_closes_g (recc : Int32 → Int32 → Int32 → Int32 → Int32 → Option Int32) (p0 : Int32) (p1 : Int32) (p2 : Int32) (p3 : Int32) (p4 : Int32) : Option Int32 := if p2 = 0 then ((D_X8_beatBit p1 p0).bind fun r7 => if (p3 &&& r7) = 0 then (some (0 : Int32)) else (some (1 : Int32))) else (if p4 < (4 : Int32) then (D_X8_closes_L31 recc p0 p1 p2 p3 p4 (0 : Int32)) else (some (0 : Int32)))
set_option maxRecDepth 100000 in
set_option maxHeartbeats 4000000 in
theorem B_X8_closes_g {n : Nat} {recc : Int32 → Int32 → Int32 → Int32 → Int32 → Option Int32} {x : CX} {cy : Nat → ClassId} {ws : va_W} {r : Int32} (E : Ev x cy cX8_closes RX8 7 (n + 1 + 2) (40 * (n + 1) + 60)) (K : RetI x cX8_closes .boolean r ws) (hrecc : ∀ (a b c d e r : Int32), recc a b c d e = some r → MI (xL x) yX8_closes cX8_closes 7 (some .boolean) (n + 2) (40 * n + 60) (xD x) cy ws [.int a, .int b, .int c, .int d, .int e] r ws)  (p0 : Int32) (p1 : Int32) (p2 : Int32) (p3 : Int32) (p4 : Int32) (h : D_X8_closes_g recc p0 p1 p2 p3 p4 = some r) : G x 0 0 0 [(0, .int p0), (1, .int p1), (2, .int p2), (3, .int p3), (4, .int p4)] [] ws := by
  unfold D_X8_closes_g at h
  refine G.iload_n E dX8_closes_0 rfl 2 rfl ?_
  refine G.if_ne (tgt := 20) E dX8_closes_1 (by decide) (fun q => ?_) (fun q => ?_)
  · have h := ite_f h q
    refine G.iload E dX8_closes_20 4 rfl ?_
    refine G.iconst (v := 4) E dX8_closes_22 (by decide) ?_
    refine G.icmp_lt (tgt := 28) E dX8_closes_23 (by decide) (fun q => ?_) (fun q => ?_)
    · have h := ite_t h q
      refine G.iconst (v := 0) E dX8_closes_28 (by decide) ?_
      refine G.istore (lv' := [(5, .int (0 : Int32)), (0, .int p0), (1, .int p1), (2, .int p2), (3, .int p3), (4, .int p4)]) E dX8_closes_29 (by decide) rfl ?_
      refine G.sub (lv' := [(0, .int p0), (1, .int p1), (2, .int p2), (3, .int p3), (4, .int p4), (5, .int (0 : Int32))]) [1, 2, 3, 4, 5, 0] rfl ?_
      exact B_X8_closes_L31 E K hrecc p0 p1 p2 p3 p4 (0 : Int32) h
    · have h := ite_f h q
      refine G.iconst (v := 0) E dX8_closes_26 (by decide) ?_
      obtain rfl := Option.some.inj h
      exact K rfl _ _ dX8_closes_27
  · have h := ite_t h q
    refine G.iload_n E dX8_closes_4 rfl 3 rfl ?_
    refine G.iload_n E dX8_closes_5 rfl 1 rfl ?_
    refine G.iload_n E dX8_closes_6 rfl 0 rfl ?_
    obtain ⟨r7, h8, h⟩ := bind_s h
    refine G.retI E (runS (st := [.int p3]) (As := [.int p1, .int p0]) E (C_X8_beatBit h8) ck_X8_beatBit (f603 E.fx) (f604 E.fx) (by omega) (by omega) rfl (Nat.le_of_ble_eq_true rfl) dX8_closes_7 ⟨Nat.zero_le _, Nat.zero_le _⟩) ?_
    refine G.iand E dX8_closes_10 ?_
    refine G.if_eq (tgt := 18) E dX8_closes_11 (by decide) (fun q => ?_) (fun q => ?_)
    · have h := ite_t h q
      refine G.iconst (v := 0) E dX8_closes_18 (by decide) ?_
      obtain rfl := Option.some.inj h
      exact K rfl _ _ dX8_closes_19
    · have h := ite_f h q
      refine G.iconst (v := 1) E dX8_closes_14 (by decide) ?_
      refine G.goto (tgt := 19) E dX8_closes_15 (by decide) ?_
      obtain rfl := Option.some.inj h
      exact K rfl _ _ dX8_closes_19
noncomputable def D_X8_closes_f (n : Nat) : Int32 → Int32 → Int32 → Int32 → Int32 → Option Int32 := Nat.rec (fun _ _ _ _ _ => none) (fun _ ih => D_X8_closes_g ih) n
noncomputable def D_X8_closes (a b c d e : Int32) : Option Int32 := D_X8_closes_f 8 a b c d e
set_option maxRecDepth 100000 in
set_option maxHeartbeats 4000000 in
theorem C_X8_closes_f {l : Launch} {D : va_G} {cy : Nat → ClassId} {ws : va_W} : ∀ (n : Nat) (a b c d e r : Int32), D_X8_closes_f n a b c d e = some r → MI l yX8_closes cX8_closes 7 (some .boolean) (n + 2) (40 * n + 60) D cy ws [.int a, .int b, .int c, .int d, .int e] r ws := by
  intro n
  induction n with
  | zero => intro a b c d e r h; cases h
  | succ n ih =>
    intro a b c d e r h
    exact MI.mk (lv := [(0, .int a), (1, .int b), (2, .int c), (3, .int d), (4, .int e)]) (by decide) (Nat.le_of_ble_eq_true rfl) rfl (fun x hl hD E K => by subst hl; subst hD; exact B_X8_closes_g E K ih a b c d e h)
theorem C_X8_closes {l : Launch} {D : va_G} {cy : Nat → ClassId} {ws : va_W} {p0 p1 p2 p3 p4 r : Int32} (h : D_X8_closes p0 p1 p2 p3 p4 = some r) : MI l yX8_closes cX8_closes 7 (some .boolean) 10 380 D cy ws [.int p0, .int p1, .int p2, .int p3, .int p4] r ws := C_X8_closes_f 8 _ _ _ _ _ _ h

noncomputable def D_X8_isRing_L2_body (rec2 : (Int32 × Int32 × Int32) → Option Int32) (x0 : Int32) (x1 : Int32) (x2 : Int32) : Option Int32 := if (4 : Int32) ≤ x2 then (some (0 : Int32)) else ((D_X8_has x0 x2).bind fun r1 => if r1 = 0 then (rec2 (x0, x1, (x2 + 1))) else ((D_X8_closes x2 x2 (x0 &&& (((1 : Int32) <<< (x2 &&& 31)) ^^^ (-1 : Int32))) x1 (0 : Int32)).bind fun r3 => if ¬ vp_nar .boolean r3 = r3 then none else (some r3)))
set_option maxRecDepth 100000 in
set_option maxHeartbeats 4000000 in
theorem B_X8_isRing_L2_body {x : CX} {cy : Nat → ClassId} {ws : va_W} {r : Int32} (E : Ev x cy cX8_isRing RX8 3 11 406) (K : RetI x cX8_isRing .boolean r ws) (rec2 : (Int32 × Int32 × Int32) → Option Int32) (hrec2 : ∀ a, rec2 a = some r → G x 0 0 2 [(0, .int a.1), (1, .int a.2.1), (2, .int a.2.2)] [] ws) (x0 : Int32) (x1 : Int32) (x2 : Int32) (h : D_X8_isRing_L2_body rec2 x0 x1 x2 = some r) : G x 0 0 2 [(0, .int x0), (1, .int x1), (2, .int x2)] [] ws := by
  unfold D_X8_isRing_L2_body at h
  refine G.iload_n E dX8_isRing_2 rfl 2 rfl ?_
  refine G.iconst (v := 4) E dX8_isRing_3 (by decide) ?_
  refine G.icmp_ge (tgt := 36) E dX8_isRing_4 (by decide) (fun q => ?_) (fun q => ?_)
  · have h := ite_t h q
    refine G.iconst (v := 0) E dX8_isRing_36 (by decide) ?_
    obtain rfl := Option.some.inj h
    exact K rfl _ _ dX8_isRing_37
  · have h := ite_f h q
    refine G.iload_n E dX8_isRing_7 rfl 0 rfl ?_
    refine G.iload_n E dX8_isRing_8 rfl 2 rfl ?_
    obtain ⟨r1, h2, h⟩ := bind_s h
    refine G.retI E (runS (st := []) (As := [.int x0, .int x2]) E (C_X8_has h2) ck_X8_has (f512 E.fx) (f480 E.fx) (by decide) (by decide) rfl (Nat.le_of_ble_eq_true rfl) dX8_isRing_9 ⟨Nat.zero_le _, Nat.zero_le _⟩) ?_
    refine G.if_eq (tgt := 30) E dX8_isRing_12 (by decide) (fun q => ?_) (fun q => ?_)
    · have h := ite_t h q
      refine G.iinc (w := x2 + 1) (lv' := [(2, .int (x2 + 1)), (0, .int x0), (1, .int x1)]) E dX8_isRing_30 2 rfl rfl (by decide) rfl ?_
      refine G.goto (tgt := 2) E dX8_isRing_33 (by decide) ?_
      refine G.sub (lv' := [(0, .int x0), (1, .int x1), (2, .int (x2 + 1))]) [1, 2, 0] rfl ?_
      exact hrec2 (x0, x1, (x2 + 1)) h
    · have h := ite_f h q
      refine G.iload_n E dX8_isRing_15 rfl 2 rfl ?_
      refine G.iload_n E dX8_isRing_16 rfl 2 rfl ?_
      refine G.iload_n E dX8_isRing_17 rfl 0 rfl ?_
      refine G.iconst (v := 1) E dX8_isRing_18 (by decide) ?_
      refine G.iload_n E dX8_isRing_19 rfl 2 rfl ?_
      refine G.ishl E dX8_isRing_20 ?_
      refine G.iconst (v := -1) E dX8_isRing_21 (by decide) ?_
      refine G.ixor E dX8_isRing_22 ?_
      refine G.iand E dX8_isRing_23 ?_
      refine G.iload_n E dX8_isRing_24 rfl 1 rfl ?_
      refine G.iconst (v := 0) E dX8_isRing_25 (by decide) ?_
      obtain ⟨r3, h4, h⟩ := bind_s h
      refine G.retI E (runS (st := []) (As := [.int x2, .int x2, .int (x0 &&& (((1 : Int32) <<< (x2 &&& 31)) ^^^ (-1 : Int32))), .int x1, .int (0 : Int32)]) E (C_X8_closes h4) ck_X8_closes (f609 E.fx) (f610 E.fx) (by decide) (by decide) rfl (Nat.le_of_ble_eq_true rfl) dX8_isRing_26 ⟨Nat.zero_le _, Nat.zero_le _⟩) ?_
      obtain ⟨hg, h⟩ := ite_n h
      obtain rfl := Option.some.inj h
      exact K (nar_okZ (Classical.not_not.mp hg)) _ _ dX8_isRing_29
noncomputable def D_X8_isRing_L2  (x0 : Int32) (x1 : Int32) (x2 : Int32) : Option Int32 := itr (fun (rec2 : (Int32 × Int32 × Int32) → Option Int32) (a : (Int32 × Int32 × Int32)) => D_X8_isRing_L2_body rec2 a.1 a.2.1 a.2.2) 200 (x0, x1, x2)
set_option maxRecDepth 100000 in
set_option maxHeartbeats 4000000 in
theorem B_X8_isRing_L2 {x : CX} {cy : Nat → ClassId} {ws : va_W} {r : Int32} (E : Ev x cy cX8_isRing RX8 3 11 406) (K : RetI x cX8_isRing .boolean r ws)  (x0 : Int32) (x1 : Int32) (x2 : Int32) (h : D_X8_isRing_L2 x0 x1 x2 = some r) : G x 0 0 2 [(0, .int x0), (1, .int x1), (2, .int x2)] [] ws :=
  itr_ind (P := fun a => G x 0 0 2 [(0, .int a.1), (1, .int a.2.1), (2, .int a.2.2)] [] ws) (fun rec2 hrec2 a h => B_X8_isRing_L2_body E K rec2 hrec2 a.1 a.2.1 a.2.2 h) 200 (x0, x1, x2) h
noncomputable def D_X8_isRing (p0 : Int32) (p1 : Int32) : Option Int32 := D_X8_isRing_L2 p0 p1 (0 : Int32)
set_option maxRecDepth 100000 in
set_option maxHeartbeats 4000000 in
theorem B_X8_isRing {x : CX} {cy : Nat → ClassId} {ws : va_W} {r : Int32} (E : Ev x cy cX8_isRing RX8 3 11 406) (K : RetI x cX8_isRing .boolean r ws) (p0 : Int32) (p1 : Int32) (h : D_X8_isRing p0 p1 = some r) : G x 0 0 0 [(0, .int p0), (1, .int p1)] [] ws := by
  unfold D_X8_isRing at h
  refine G.iconst (v := 0) E dX8_isRing_0 (by decide) ?_
  refine G.istore_n (lv' := [(2, .int (0 : Int32)), (0, .int p0), (1, .int p1)]) E dX8_isRing_1 rfl (by decide) rfl ?_
  refine G.sub (lv' := [(0, .int p0), (1, .int p1), (2, .int (0 : Int32))]) [1, 2, 0] rfl ?_
  exact B_X8_isRing_L2 E K p0 p1 (0 : Int32) h
set_option maxRecDepth 100000 in
set_option maxHeartbeats 4000000 in
theorem C_X8_isRing {l : Launch} {D : va_G} {cy : Nat → ClassId} {ws : va_W} {p0 : Int32} {p1 : Int32} {r : Int32} (h : D_X8_isRing p0 p1 = some r) : MI l yX8_isRing cX8_isRing 3 (some .boolean) 11 406 D cy ws [.int p0, .int p1] r ws :=
  MI.mk (lv := [(0, .int p0), (1, .int p1)]) (by decide) (Nat.le_of_ble_eq_true rfl) rfl (fun x _ _ E K => B_X8_isRing E K p0 p1 h)
