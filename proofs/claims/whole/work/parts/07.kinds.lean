noncomputable def D_X6_rowsHitWith (p1 : Int32) (p2 : Int32) : Option Int32 := some ((1 : Int32) <<< (p1 &&& 31))
set_option maxRecDepth 100000 in
set_option maxHeartbeats 4000000 in
theorem B_X6_rowsHitWith {x : CX} {cy : Nat → ClassId} {a0 : Nat} {ws : va_W} {r : Int32} (E : Ev x cy cX6_rowsHitWith RX6 3 0 0) (K : RetI x cX6_rowsHitWith .int r ws) (p1 : Int32) (p2 : Int32) (h : D_X6_rowsHitWith p1 p2 = some r) : G x 0 0 0 [(0, .ref a0), (1, .int p1), (2, .int p2)] [] ws := by
  unfold D_X6_rowsHitWith at h
  refine G.iconst (v := 1) E dX6_rowsHitWith_0 (by decide) ?_
  refine G.iload_n E dX6_rowsHitWith_1 rfl 1 rfl ?_
  refine G.ishl E dX6_rowsHitWith_2 ?_
  obtain rfl := Option.some.inj h
  exact K rfl _ _ dX6_rowsHitWith_3
set_option maxRecDepth 100000 in
set_option maxHeartbeats 4000000 in
theorem C_X6_rowsHitWith {l : Launch} {D : va_G} {cy : Nat → ClassId} {ws : va_W} {a0 : Nat} {p1 : Int32} {p2 : Int32} {r : Int32} (h : D_X6_rowsHitWith p1 p2 = some r) : MI l yX6_rowsHitWith cX6_rowsHitWith 3 (some .int) 0 0 D cy ws [.ref a0, .int p1, .int p2] r ws :=
  MI.mk (lv := [(0, .ref a0), (1, .int p1), (2, .int p2)]) (by decide) (Nat.le_of_ble_eq_true rfl) rfl (fun x _ _ E K => B_X6_rowsHitWith E K p1 p2 h)

noncomputable def D_X8_fromItsEnd_L4_body (rec4 : (Int32 × Int32 × Int32 × Int32) → Option Int32) (x0 : Int32) (x1 : Int32) (x2 : Int32) (x3 : Int32) : Option Int32 := if x1 ≤ x3 then (some x2) else (rec4 (x0, x1, (((2 : Int32) * x2) + ((x0 >>> (x3 &&& 31)) &&& (1 : Int32))), (x3 + 1)))
set_option maxRecDepth 100000 in
set_option maxHeartbeats 4000000 in
theorem B_X8_fromItsEnd_L4_body {x : CX} {cy : Nat → ClassId} {ws : va_W} {r : Int32} (E : Ev x cy cX8_fromItsEnd RX8 4 0 0) (K : RetI x cX8_fromItsEnd .int r ws) (rec4 : (Int32 × Int32 × Int32 × Int32) → Option Int32) (hrec4 : ∀ a, rec4 a = some r → G x 0 0 4 [(0, .int a.1), (1, .int a.2.1), (2, .int a.2.2.1), (3, .int a.2.2.2)] [] ws) (x0 : Int32) (x1 : Int32) (x2 : Int32) (x3 : Int32) (h : D_X8_fromItsEnd_L4_body rec4 x0 x1 x2 x3 = some r) : G x 0 0 4 [(0, .int x0), (1, .int x1), (2, .int x2), (3, .int x3)] [] ws := by
  unfold D_X8_fromItsEnd_L4_body at h
  refine G.iload_n E dX8_fromItsEnd_4 rfl 3 rfl ?_
  refine G.iload_n E dX8_fromItsEnd_5 rfl 1 rfl ?_
  refine G.icmp_ge (tgt := 25) E dX8_fromItsEnd_6 (by decide) (fun q => ?_) (fun q => ?_)
  · have h := ite_t h q
    refine G.iload_n E dX8_fromItsEnd_25 rfl 2 rfl ?_
    obtain rfl := Option.some.inj h
    exact K rfl _ _ dX8_fromItsEnd_26
  · have h := ite_f h q
    refine G.iconst (v := 2) E dX8_fromItsEnd_9 (by decide) ?_
    refine G.iload_n E dX8_fromItsEnd_10 rfl 2 rfl ?_
    refine G.imul E dX8_fromItsEnd_11 ?_
    refine G.iload_n E dX8_fromItsEnd_12 rfl 0 rfl ?_
    refine G.iload_n E dX8_fromItsEnd_13 rfl 3 rfl ?_
    refine G.ishr E dX8_fromItsEnd_14 ?_
    refine G.iconst (v := 1) E dX8_fromItsEnd_15 (by decide) ?_
    refine G.iand E dX8_fromItsEnd_16 ?_
    refine G.iadd E dX8_fromItsEnd_17 ?_
    refine G.istore_n (lv' := [(2, .int (((2 : Int32) * x2) + ((x0 >>> (x3 &&& 31)) &&& (1 : Int32)))), (0, .int x0), (1, .int x1), (3, .int x3)]) E dX8_fromItsEnd_18 rfl (by decide) rfl ?_
    refine G.iinc (w := x3 + 1) (lv' := [(3, .int (x3 + 1)), (2, .int (((2 : Int32) * x2) + ((x0 >>> (x3 &&& 31)) &&& (1 : Int32)))), (0, .int x0), (1, .int x1)]) E dX8_fromItsEnd_19 3 rfl rfl (by decide) rfl ?_
    refine G.goto (tgt := 4) E dX8_fromItsEnd_22 (by decide) ?_
    refine G.sub (lv' := [(0, .int x0), (1, .int x1), (2, .int (((2 : Int32) * x2) + ((x0 >>> (x3 &&& 31)) &&& (1 : Int32)))), (3, .int (x3 + 1))]) [2, 3, 1, 0] rfl ?_
    exact hrec4 (x0, x1, (((2 : Int32) * x2) + ((x0 >>> (x3 &&& 31)) &&& (1 : Int32))), (x3 + 1)) h
noncomputable def D_X8_fromItsEnd_L4  (x0 : Int32) (x1 : Int32) (x2 : Int32) (x3 : Int32) : Option Int32 := itr (fun (rec4 : (Int32 × Int32 × Int32 × Int32) → Option Int32) (a : (Int32 × Int32 × Int32 × Int32)) => D_X8_fromItsEnd_L4_body rec4 a.1 a.2.1 a.2.2.1 a.2.2.2) 200 (x0, x1, x2, x3)
set_option maxRecDepth 100000 in
set_option maxHeartbeats 4000000 in
theorem B_X8_fromItsEnd_L4 {x : CX} {cy : Nat → ClassId} {ws : va_W} {r : Int32} (E : Ev x cy cX8_fromItsEnd RX8 4 0 0) (K : RetI x cX8_fromItsEnd .int r ws)  (x0 : Int32) (x1 : Int32) (x2 : Int32) (x3 : Int32) (h : D_X8_fromItsEnd_L4 x0 x1 x2 x3 = some r) : G x 0 0 4 [(0, .int x0), (1, .int x1), (2, .int x2), (3, .int x3)] [] ws :=
  itr_ind (P := fun a => G x 0 0 4 [(0, .int a.1), (1, .int a.2.1), (2, .int a.2.2.1), (3, .int a.2.2.2)] [] ws) (fun rec4 hrec4 a h => B_X8_fromItsEnd_L4_body E K rec4 hrec4 a.1 a.2.1 a.2.2.1 a.2.2.2 h) 200 (x0, x1, x2, x3) h
noncomputable def D_X8_fromItsEnd (p0 : Int32) (p1 : Int32) : Option Int32 := D_X8_fromItsEnd_L4 p0 p1 (0 : Int32) (0 : Int32)
set_option maxRecDepth 100000 in
set_option maxHeartbeats 4000000 in
theorem B_X8_fromItsEnd {x : CX} {cy : Nat → ClassId} {ws : va_W} {r : Int32} (E : Ev x cy cX8_fromItsEnd RX8 4 0 0) (K : RetI x cX8_fromItsEnd .int r ws) (p0 : Int32) (p1 : Int32) (h : D_X8_fromItsEnd p0 p1 = some r) : G x 0 0 0 [(0, .int p0), (1, .int p1)] [] ws := by
  unfold D_X8_fromItsEnd at h
  refine G.iconst (v := 0) E dX8_fromItsEnd_0 (by decide) ?_
  refine G.istore_n (lv' := [(2, .int (0 : Int32)), (0, .int p0), (1, .int p1)]) E dX8_fromItsEnd_1 rfl (by decide) rfl ?_
  refine G.iconst (v := 0) E dX8_fromItsEnd_2 (by decide) ?_
  refine G.istore_n (lv' := [(3, .int (0 : Int32)), (2, .int (0 : Int32)), (0, .int p0), (1, .int p1)]) E dX8_fromItsEnd_3 rfl (by decide) rfl ?_
  refine G.sub (lv' := [(0, .int p0), (1, .int p1), (2, .int (0 : Int32)), (3, .int (0 : Int32))]) [2, 3, 1, 0] rfl ?_
  exact B_X8_fromItsEnd_L4 E K p0 p1 (0 : Int32) (0 : Int32) h
set_option maxRecDepth 100000 in
set_option maxHeartbeats 4000000 in
theorem C_X8_fromItsEnd {l : Launch} {D : va_G} {cy : Nat → ClassId} {ws : va_W} {p0 : Int32} {p1 : Int32} {r : Int32} (h : D_X8_fromItsEnd p0 p1 = some r) : MI l yX8_fromItsEnd cX8_fromItsEnd 4 (some .int) 0 0 D cy ws [.int p0, .int p1] r ws :=
  MI.mk (lv := [(0, .int p0), (1, .int p1)]) (by decide) (Nat.le_of_ble_eq_true rfl) rfl (fun x _ _ E K => B_X8_fromItsEnd E K p0 p1 h)

noncomputable def D_X3_rowsHitWith (p1 : Int32) (p2 : Int32) : Option Int32 := (D_X8_fromItsEnd p1 p2).bind fun r1 => some ((1 : Int32) <<< (r1 &&& 31))
set_option maxRecDepth 100000 in
set_option maxHeartbeats 4000000 in
theorem B_X3_rowsHitWith {x : CX} {cy : Nat → ClassId} {a0 : Nat} {ws : va_W} {r : Int32} (E : Ev x cy cX3_rowsHitWith RX3 3 1 23) (K : RetI x cX3_rowsHitWith .int r ws) (p1 : Int32) (p2 : Int32) (h : D_X3_rowsHitWith p1 p2 = some r) : G x 0 0 0 [(0, .ref a0), (1, .int p1), (2, .int p2)] [] ws := by
  unfold D_X3_rowsHitWith at h
  refine G.iconst (v := 1) E dX3_rowsHitWith_0 (by decide) ?_
  refine G.iload_n E dX3_rowsHitWith_1 rfl 1 rfl ?_
  refine G.iload_n E dX3_rowsHitWith_2 rfl 2 rfl ?_
  obtain ⟨r1, h2, h⟩ := bind_s h
  refine G.retI E (runSN (st := [.int (1 : Int32)]) (As := [.int p1, .int p2]) E (C_X8_fromItsEnd h2) ck_X8_fromItsEnd (f461 E.fx) (f455 E.fx) (by decide) (by decide) rfl (Nat.le_of_ble_eq_true rfl) dX3_rowsHitWith_3 ⟨Nat.zero_le _, Nat.zero_le _⟩) ?_
  refine G.ishl E dX3_rowsHitWith_6 ?_
  obtain rfl := Option.some.inj h
  exact K rfl _ _ dX3_rowsHitWith_7
set_option maxRecDepth 100000 in
set_option maxHeartbeats 4000000 in
theorem C_X3_rowsHitWith {l : Launch} {D : va_G} {cy : Nat → ClassId} {ws : va_W} {a0 : Nat} {p1 : Int32} {p2 : Int32} {r : Int32} (h : D_X3_rowsHitWith p1 p2 = some r) : MI l yX3_rowsHitWith cX3_rowsHitWith 3 (some .int) 1 23 D cy ws [.ref a0, .int p1, .int p2] r ws :=
  MI.mk (lv := [(0, .ref a0), (1, .int p1), (2, .int p2)]) (by decide) (Nat.le_of_ble_eq_true rfl) rfl (fun x _ _ E K => B_X3_rowsHitWith E K p1 p2 h)

noncomputable def D_X8_withOtherSigns (p0 : Int32) (p1 : Int32) : Option Int32 := some (p0 ^^^ (((1 : Int32) <<< (p1 &&& 31)) - (1 : Int32)))
set_option maxRecDepth 100000 in
set_option maxHeartbeats 4000000 in
theorem B_X8_withOtherSigns {x : CX} {cy : Nat → ClassId} {ws : va_W} {r : Int32} (E : Ev x cy cX8_withOtherSigns RX8 2 0 0) (K : RetI x cX8_withOtherSigns .int r ws) (p0 : Int32) (p1 : Int32) (h : D_X8_withOtherSigns p0 p1 = some r) : G x 0 0 0 [(0, .int p0), (1, .int p1)] [] ws := by
  unfold D_X8_withOtherSigns at h
  refine G.iload_n E dX8_withOtherSigns_0 rfl 0 rfl ?_
  refine G.iconst (v := 1) E dX8_withOtherSigns_1 (by decide) ?_
  refine G.iload_n E dX8_withOtherSigns_2 rfl 1 rfl ?_
  refine G.ishl E dX8_withOtherSigns_3 ?_
  refine G.iconst (v := 1) E dX8_withOtherSigns_4 (by decide) ?_
  refine G.isub E dX8_withOtherSigns_5 ?_
  refine G.ixor E dX8_withOtherSigns_6 ?_
  obtain rfl := Option.some.inj h
  exact K rfl _ _ dX8_withOtherSigns_7
set_option maxRecDepth 100000 in
set_option maxHeartbeats 4000000 in
theorem C_X8_withOtherSigns {l : Launch} {D : va_G} {cy : Nat → ClassId} {ws : va_W} {p0 : Int32} {p1 : Int32} {r : Int32} (h : D_X8_withOtherSigns p0 p1 = some r) : MI l yX8_withOtherSigns cX8_withOtherSigns 2 (some .int) 0 0 D cy ws [.int p0, .int p1] r ws :=
  MI.mk (lv := [(0, .int p0), (1, .int p1)]) (by decide) (Nat.le_of_ble_eq_true rfl) rfl (fun x _ _ E K => B_X8_withOtherSigns E K p0 p1 h)

noncomputable def D_X4_rowsHitWith (p1 : Int32) (p2 : Int32) : Option Int32 := (D_X8_withOtherSigns p1 p2).bind fun r1 => some ((1 : Int32) <<< (r1 &&& 31))
set_option maxRecDepth 100000 in
set_option maxHeartbeats 4000000 in
theorem B_X4_rowsHitWith {x : CX} {cy : Nat → ClassId} {a0 : Nat} {ws : va_W} {r : Int32} (E : Ev x cy cX4_rowsHitWith RX4 3 1 21) (K : RetI x cX4_rowsHitWith .int r ws) (p1 : Int32) (p2 : Int32) (h : D_X4_rowsHitWith p1 p2 = some r) : G x 0 0 0 [(0, .ref a0), (1, .int p1), (2, .int p2)] [] ws := by
  unfold D_X4_rowsHitWith at h
  refine G.iconst (v := 1) E dX4_rowsHitWith_0 (by decide) ?_
  refine G.iload_n E dX4_rowsHitWith_1 rfl 1 rfl ?_
  refine G.iload_n E dX4_rowsHitWith_2 rfl 2 rfl ?_
  obtain ⟨r1, h2, h⟩ := bind_s h
  refine G.retI E (runSN (st := [.int (1 : Int32)]) (As := [.int p1, .int p2]) E (C_X8_withOtherSigns h2) ck_X8_withOtherSigns (f465 E.fx) (f452 E.fx) (by decide) (by decide) rfl (Nat.le_of_ble_eq_true rfl) dX4_rowsHitWith_3 ⟨Nat.zero_le _, Nat.zero_le _⟩) ?_
  refine G.ishl E dX4_rowsHitWith_6 ?_
  obtain rfl := Option.some.inj h
  exact K rfl _ _ dX4_rowsHitWith_7
set_option maxRecDepth 100000 in
set_option maxHeartbeats 4000000 in
theorem C_X4_rowsHitWith {l : Launch} {D : va_G} {cy : Nat → ClassId} {ws : va_W} {a0 : Nat} {p1 : Int32} {p2 : Int32} {r : Int32} (h : D_X4_rowsHitWith p1 p2 = some r) : MI l yX4_rowsHitWith cX4_rowsHitWith 3 (some .int) 1 21 D cy ws [.ref a0, .int p1, .int p2] r ws :=
  MI.mk (lv := [(0, .ref a0), (1, .int p1), (2, .int p2)]) (by decide) (Nat.le_of_ble_eq_true rfl) rfl (fun x _ _ E K => B_X4_rowsHitWith E K p1 p2 h)

noncomputable def D_X2_rowsHitWith (p1 : Int32) (p2 : Int32) : Option Int32 := (D_X8_withOtherSigns p1 p2).bind fun r1 => some (((1 : Int32) <<< (p1 &&& 31)) ||| ((1 : Int32) <<< (r1 &&& 31)))
set_option maxRecDepth 100000 in
set_option maxHeartbeats 4000000 in
theorem B_X2_rowsHitWith {x : CX} {cy : Nat → ClassId} {a0 : Nat} {ws : va_W} {r : Int32} (E : Ev x cy cX2_rowsHitWith RX2 3 1 21) (K : RetI x cX2_rowsHitWith .int r ws) (p1 : Int32) (p2 : Int32) (h : D_X2_rowsHitWith p1 p2 = some r) : G x 0 0 0 [(0, .ref a0), (1, .int p1), (2, .int p2)] [] ws := by
  unfold D_X2_rowsHitWith at h
  refine G.iconst (v := 1) E dX2_rowsHitWith_0 (by decide) ?_
  refine G.iload_n E dX2_rowsHitWith_1 rfl 1 rfl ?_
  refine G.ishl E dX2_rowsHitWith_2 ?_
  refine G.iconst (v := 1) E dX2_rowsHitWith_3 (by decide) ?_
  refine G.iload_n E dX2_rowsHitWith_4 rfl 1 rfl ?_
  refine G.iload_n E dX2_rowsHitWith_5 rfl 2 rfl ?_
  obtain ⟨r1, h2, h⟩ := bind_s h
  refine G.retI E (runSN (st := [.int (1 : Int32), .int ((1 : Int32) <<< (p1 &&& 31))]) (As := [.int p1, .int p2]) E (C_X8_withOtherSigns h2) ck_X8_withOtherSigns (f451 E.fx) (f452 E.fx) (by decide) (by decide) rfl (Nat.le_of_ble_eq_true rfl) dX2_rowsHitWith_6 ⟨Nat.zero_le _, Nat.zero_le _⟩) ?_
  refine G.ishl E dX2_rowsHitWith_9 ?_
  refine G.ior E dX2_rowsHitWith_10 ?_
  obtain rfl := Option.some.inj h
  exact K rfl _ _ dX2_rowsHitWith_11
set_option maxRecDepth 100000 in
set_option maxHeartbeats 4000000 in
theorem C_X2_rowsHitWith {l : Launch} {D : va_G} {cy : Nat → ClassId} {ws : va_W} {a0 : Nat} {p1 : Int32} {p2 : Int32} {r : Int32} (h : D_X2_rowsHitWith p1 p2 = some r) : MI l yX2_rowsHitWith cX2_rowsHitWith 3 (some .int) 1 21 D cy ws [.ref a0, .int p1, .int p2] r ws :=
  MI.mk (lv := [(0, .ref a0), (1, .int p1), (2, .int p2)]) (by decide) (Nat.le_of_ble_eq_true rfl) rfl (fun x _ _ E K => B_X2_rowsHitWith E K p1 p2 h)

noncomputable def D_X0_rowsHitWith (σ : ST) (p1 : Int32) (p2 : Int32) : Option Int32 := (D_X2_rowsHitWith p1 p2).bind fun r1 => (D_X8_fromItsEnd p1 p2).bind fun r3 => some (r1 ||| ((1 : Int32) <<< (r3 &&& 31)))
set_option maxRecDepth 100000 in
set_option maxHeartbeats 4000000 in
theorem B_X0_rowsHitWith {x : CX} {cy : Nat → ClassId} {ad : Nat → Nat} {r : Int32} {σ : ST} (E : Ev x cy cX0_rowsHitWith RX0 3 2 43) (K : RetI x cX0_rowsHitWith .int r (wT ad cy σ)) (p1 : Int32) (p2 : Int32) (h : D_X0_rowsHitWith σ p1 p2 = some r) : G x 0 0 0 [(0, .ref (ad 31)), (1, .int p1), (2, .int p2)] [] (wT ad cy σ) := by
  unfold D_X0_rowsHitWith at h
  refine G.aload_n E dX0_rowsHitWith_0 rfl 0 rfl ?_
  refine G.iload_n E dX0_rowsHitWith_1 rfl 1 rfl ?_
  refine G.iload_n E dX0_rowsHitWith_2 rfl 2 rfl ?_
  obtain ⟨r1, h2, h⟩ := bind_s h
  refine G.retI E (runSU (st := []) (As := [.int p1, .int p2]) E (C_X2_rowsHitWith h2) ck_X2_rowsHitWith (f448 E.fx) (f1096 E.fx) (f213 E.fx) (f449 E.fx) (by decide) 31 0 rfl rfl (by decide) (by decide) rfl (Nat.le_of_ble_eq_true rfl) dX0_rowsHitWith_3 ⟨Nat.zero_le _, Nat.zero_le _⟩) ?_
  refine G.iconst (v := 1) E dX0_rowsHitWith_6 (by decide) ?_
  refine G.iload_n E dX0_rowsHitWith_7 rfl 1 rfl ?_
  refine G.iload_n E dX0_rowsHitWith_8 rfl 2 rfl ?_
  obtain ⟨r3, h4, h⟩ := bind_s h
  refine G.retI E (runSN (st := [.int (1 : Int32), .int r1]) (As := [.int p1, .int p2]) E (C_X8_fromItsEnd h4) ck_X8_fromItsEnd (f454 E.fx) (f455 E.fx) (by decide) (by decide) rfl (Nat.le_of_ble_eq_true rfl) dX0_rowsHitWith_9 ⟨Nat.zero_le _, Nat.zero_le _⟩) ?_
  refine G.ishl E dX0_rowsHitWith_12 ?_
  refine G.ior E dX0_rowsHitWith_13 ?_
  obtain rfl := Option.some.inj h
  exact K rfl _ _ dX0_rowsHitWith_14
set_option maxRecDepth 100000 in
set_option maxHeartbeats 4000000 in
theorem C_X0_rowsHitWith {l : Launch} {D : va_G} {cy : Nat → ClassId} {ad : Nat → Nat} {σ : ST} {p1 : Int32} {p2 : Int32} {r : Int32} (h : D_X0_rowsHitWith σ p1 p2 = some r) : MI l yX0_rowsHitWith cX0_rowsHitWith 3 (some .int) 2 43 D cy (wT ad cy σ) [.ref (ad 31), .int p1, .int p2] r (wT ad cy σ) :=
  MI.mk (lv := [(0, .ref (ad 31)), (1, .int p1), (2, .int p2)]) (by decide) (Nat.le_of_ble_eq_true rfl) rfl (fun x _ _ E K => B_X0_rowsHitWith E K p1 p2 h)
noncomputable def D_rowsHitWith (σ : ST) (k : Nat) (row sz : Int32) : Option Int32 := if k = 0 then D_X6_rowsHitWith row sz else if k = 1 then D_X3_rowsHitWith row sz else if k = 2 then D_X4_rowsHitWith row sz else if k = 3 then D_X2_rowsHitWith row sz else if k = 4 then D_X0_rowsHitWith σ row sz else none
set_option maxHeartbeats 4000000 in
theorem run_rowsHitWith {x : CX} {cy : Nat → ClassId} {cc : ByteArray} {nL fr lo pc : Nat} {lv : List (Nat × Value)} {st stk : List Value} {ad : Nat → Nat} {σ : ST} {k : Nat} {row sz v : Int32} (E : Ev x cy cc RX8 nL fr lo) (h : D_rowsHitWith σ k row sz = some v) (hst : stk = .int sz :: .int row :: .ref (ad (27 + k)) :: st) (hW : (st.map fun v => v.category).sum ≤ 8) (d : decode cc pc = .ok (.invokevirtual 260, 3)) (hfr : 4 ≤ fr) (hlo : 120 ≤ lo) : RunG x 0 0 pc lv stk st (wT ad cy σ) (QI (xD x) (wT ad cy σ) (wT ad cy σ) v) (Value.ref (ad (27 + k)) :: [.int row, .int sz]).toArray := by
  subst hst
  refine k5 (P := fun k => RunG x 0 0 pc lv (.int sz :: .int row :: .ref (ad (27 + k)) :: st) st (wT ad cy σ) (QI (xD x) (wT ad cy σ) (wT ad cy σ) v) (Value.ref (ad (27 + k)) :: [.int row, .int sz]).toArray) (f := fun k => D_rowsHitWith σ k row sz) (v := v) (fun k hk => ?_) ?_ ?_ ?_ ?_ ?_ h
  · simp only [D_rowsHitWith, show ¬ k = 0 by omega, show ¬ k = 1 by omega, show ¬ k = 2 by omega, show ¬ k = 3 by omega, show ¬ k = 4 by omega, if_false]
  · intro h
    exact runV (As := [.int row, .int sz]) E (C_X6_rowsHitWith h) ck_X6_rowsHitWith (E.fx.at 441 (by decide +kernel) rfl) (E.fx.at 442 (by decide +kernel) rfl) (E.fx.at 443 (by decide +kernel) rfl) 27 6 rfl rfl rfl (Nat.le_trans (by decide) hfr) (Nat.le_trans (by decide) hlo) rfl hW d ⟨Nat.zero_le _, Nat.zero_le _⟩
  · intro h
    exact runU (x0 := yX6_rowsHitWith) (As := [.int row, .int sz]) E (C_X3_rowsHitWith h) ck_X3_rowsHitWith ck_X6_rowsHitWith (E.fx.at 441 (by decide +kernel) rfl) (E.fx.at 444 (by decide +kernel) rfl) (E.fx.at 442 (by decide +kernel) rfl) (E.fx.at 458 (by decide +kernel) rfl) (E.fx.at 459 (by decide +kernel) rfl) 28 3 rfl rfl rfl (Nat.le_trans (by decide) hfr) (Nat.le_trans (by decide) hlo) rfl hW d ⟨Nat.zero_le _, Nat.zero_le _⟩
  · intro h
    exact runU (x0 := yX6_rowsHitWith) (As := [.int row, .int sz]) E (C_X4_rowsHitWith h) ck_X4_rowsHitWith ck_X6_rowsHitWith (E.fx.at 441 (by decide +kernel) rfl) (E.fx.at 444 (by decide +kernel) rfl) (E.fx.at 442 (by decide +kernel) rfl) (E.fx.at 462 (by decide +kernel) rfl) (E.fx.at 463 (by decide +kernel) rfl) 29 4 rfl rfl rfl (Nat.le_trans (by decide) hfr) (Nat.le_trans (by decide) hlo) rfl hW d ⟨Nat.zero_le _, Nat.zero_le _⟩
  · intro h
    exact runU (x0 := yX6_rowsHitWith) (As := [.int row, .int sz]) E (C_X2_rowsHitWith h) ck_X2_rowsHitWith ck_X6_rowsHitWith (E.fx.at 441 (by decide +kernel) rfl) (E.fx.at 444 (by decide +kernel) rfl) (E.fx.at 442 (by decide +kernel) rfl) (E.fx.at 457 (by decide +kernel) rfl) (E.fx.at 449 (by decide +kernel) rfl) 30 2 rfl rfl rfl (Nat.le_trans (by decide) hfr) (Nat.le_trans (by decide) hlo) rfl hW d ⟨Nat.zero_le _, Nat.zero_le _⟩
  · intro h
    exact runU (x0 := yX6_rowsHitWith) (As := [.int row, .int sz]) E (C_X0_rowsHitWith h) ck_X0_rowsHitWith ck_X6_rowsHitWith (E.fx.at 441 (by decide +kernel) rfl) (E.fx.at 444 (by decide +kernel) rfl) (E.fx.at 442 (by decide +kernel) rfl) (E.fx.at 445 (by decide +kernel) rfl) (E.fx.at 446 (by decide +kernel) rfl) 31 0 rfl rfl rfl (Nat.le_trans (by decide) hfr) (Nat.le_trans (by decide) hlo) rfl hW d ⟨Nat.zero_le _, Nat.zero_le _⟩
