noncomputable def D_X8_ring_b55 (rec17 : (ST × Int32 × Int32) → Option (Int32 × ST)) (rec27 : (ST × Int32 × Int32 × Int32) → Option (Int32 × ST)) (σ : ST) (x1 : Int32) (x2 : Int32) (x3 : Int32) : Option (Int32 × ST) := rec27 (σ, x1, x2, (x3 + 1))
set_option maxRecDepth 100000 in
set_option maxHeartbeats 4000000 in
theorem B_X8_ring_b55 {x : CX} {cy : Nat → ClassId} {ad : Nat → Nat} {r : (Int32 × ST)} (E : Ev x cy cX8_ring RX8 4 12 428) (K : RetI x cX8_ring .int r.1 (wT ad cy r.2)) (rec17 : (ST × Int32 × Int32) → Option (Int32 × ST)) (hrec17 : ∀ a, rec17 a = some r → G x 0 0 17 [(0, .ref (ad 0)), (1, .int a.2.1), (2, .int a.2.2)] [] (wT ad cy a.1)) (rec27 : (ST × Int32 × Int32 × Int32) → Option (Int32 × ST)) (hrec27 : ∀ a, rec27 a = some r → G x 0 0 27 [(0, .ref (ad 0)), (1, .int a.2.1), (2, .int a.2.2.1), (3, .int a.2.2.2)] [] (wT ad cy a.1)) (σ : ST) (x1 : Int32) (x2 : Int32) (x3 : Int32) (h : D_X8_ring_b55 rec17 rec27 σ x1 x2 x3 = some r) : G x 0 0 55 [(0, .ref (ad 0)), (1, .int x1), (2, .int x2), (3, .int x3)] [] (wT ad cy σ) := by
  unfold D_X8_ring_b55 at h
  refine G.iinc (w := x3 + 1) (lv' := [(3, .int (x3 + 1)), (0, .ref (ad 0)), (1, .int x1), (2, .int x2)]) E dX8_ring_55 3 rfl rfl (by decide) rfl ?_
  refine G.goto (tgt := 27) E dX8_ring_58 (by decide) ?_
  refine G.sub (lv' := [(0, .ref (ad 0)), (1, .int x1), (2, .int x2), (3, .int (x3 + 1))]) [1, 2, 3, 0] rfl ?_
  exact hrec27 (σ, x1, x2, (x3 + 1)) h
noncomputable def D_X8_ring_L27_body (rec17 : (ST × Int32 × Int32) → Option (Int32 × ST)) (rec27 : (ST × Int32 × Int32 × Int32) → Option (Int32 × ST)) (σ : ST) (x1 : Int32) (x2 : Int32) (x3 : Int32) : Option (Int32 × ST) := if ((1 : Int32) <<< ((gI σ 1) &&& 31)) ≤ x3 then (rec17 (σ, x1, (x2 + 1))) else ((D_J6_bitCount_0f7a4 x3).bind fun r3 => if r3 = x2 then ((D_X8_isRing x3 x1).bind fun r5 => if r5 = 0 then (D_X8_ring_b55 rec17 rec27 σ x1 x2 x3) else (some (x3, σ))) else (D_X8_ring_b55 rec17 rec27 σ x1 x2 x3))
set_option maxRecDepth 100000 in
set_option maxHeartbeats 4000000 in
theorem B_X8_ring_L27_body {x : CX} {cy : Nat → ClassId} {ad : Nat → Nat} {r : (Int32 × ST)} (E : Ev x cy cX8_ring RX8 4 12 428) (K : RetI x cX8_ring .int r.1 (wT ad cy r.2)) (rec17 : (ST × Int32 × Int32) → Option (Int32 × ST)) (hrec17 : ∀ a, rec17 a = some r → G x 0 0 17 [(0, .ref (ad 0)), (1, .int a.2.1), (2, .int a.2.2)] [] (wT ad cy a.1)) (rec27 : (ST × Int32 × Int32 × Int32) → Option (Int32 × ST)) (hrec27 : ∀ a, rec27 a = some r → G x 0 0 27 [(0, .ref (ad 0)), (1, .int a.2.1), (2, .int a.2.2.1), (3, .int a.2.2.2)] [] (wT ad cy a.1)) (σ : ST) (x1 : Int32) (x2 : Int32) (x3 : Int32) (h : D_X8_ring_L27_body rec17 rec27 σ x1 x2 x3 = some r) : G x 0 0 27 [(0, .ref (ad 0)), (1, .int x1), (2, .int x2), (3, .int x3)] [] (wT ad cy σ) := by
  unfold D_X8_ring_L27_body at h
  refine G.iload_n E dX8_ring_27 rfl 3 rfl ?_
  refine G.iconst (v := 1) E dX8_ring_28 (by decide) ?_
  refine G.aload_n E dX8_ring_29 rfl 0 rfl ?_
  refine G.get E inX8 0 rfl rfl 9 (by decide) (f223 E.fx) rfl dX8_ring_30 ?_
  refine G.ishl E dX8_ring_33 ?_
  refine G.icmp_ge (tgt := 61) E dX8_ring_34 (by decide) (fun q => ?_) (fun q => ?_)
  · have h := ite_t h q
    refine G.iinc (w := x2 + 1) (lv' := [(2, .int (x2 + 1)), (0, .ref (ad 0)), (1, .int x1), (3, .int x3)]) E dX8_ring_61 2 rfl rfl (by decide) rfl ?_
    refine G.goto (tgt := 17) E dX8_ring_64 (by decide) ?_
    refine G.sub (lv' := [(0, .ref (ad 0)), (1, .int x1), (2, .int (x2 + 1))]) [1, 2, 0] rfl ?_
    exact hrec17 (σ, x1, (x2 + 1)) h
  · have h := ite_f h q
    refine G.iload_n E dX8_ring_37 rfl 3 rfl ?_
    obtain ⟨r3, h4, h⟩ := bind_s h
    refine G.retI E (runS (st := []) (As := [.int x3]) E (C_J6_bitCount_0f7a4 h4) ck_J6_bitCount_0f7a4 (f498 E.fx) (f499 E.fx) (by decide) (by decide) rfl (Nat.le_of_ble_eq_true rfl) dX8_ring_38 ⟨Nat.zero_le _, Nat.zero_le _⟩) ?_
    refine G.iload_n E dX8_ring_41 rfl 2 rfl ?_
    refine G.icmp_ne (tgt := 55) E dX8_ring_42 (by decide) (fun q => ?_) (fun q => ?_)
    · have h := ite_f h q
      refine G.sub (lv' := [(0, .ref (ad 0)), (1, .int x1), (2, .int x2), (3, .int x3)]) [0, 1, 2, 3] rfl ?_
      exact B_X8_ring_b55 E K rec17 hrec17 rec27 hrec27 σ x1 x2 x3 h
    · have h := ite_t h q
      refine G.iload_n E dX8_ring_45 rfl 3 rfl ?_
      refine G.iload_n E dX8_ring_46 rfl 1 rfl ?_
      obtain ⟨r5, h6, h⟩ := bind_s h
      refine G.retI E (runS (st := []) (As := [.int x3, .int x1]) E (C_X8_isRing h6) ck_X8_isRing (f606 E.fx) (f607 E.fx) (by decide) (by decide) rfl (Nat.le_of_ble_eq_true rfl) dX8_ring_47 ⟨Nat.zero_le _, Nat.zero_le _⟩) ?_
      refine G.if_eq (tgt := 55) E dX8_ring_50 (by decide) (fun q => ?_) (fun q => ?_)
      · have h := ite_t h q
        refine G.sub (lv' := [(0, .ref (ad 0)), (1, .int x1), (2, .int x2), (3, .int x3)]) [0, 1, 2, 3] rfl ?_
        exact B_X8_ring_b55 E K rec17 hrec17 rec27 hrec27 σ x1 x2 x3 h
      · have h := ite_f h q
        refine G.iload_n E dX8_ring_53 rfl 3 rfl ?_
        obtain rfl := Option.some.inj h
        exact K rfl _ _ dX8_ring_54
noncomputable def D_X8_ring_L27 (rec17 : (ST × Int32 × Int32) → Option (Int32 × ST)) (σ : ST) (x1 : Int32) (x2 : Int32) (x3 : Int32) : Option (Int32 × ST) := itr (fun (rec27 : (ST × Int32 × Int32 × Int32) → Option (Int32 × ST)) (a : (ST × Int32 × Int32 × Int32)) => D_X8_ring_L27_body rec17 rec27 a.1 a.2.1 a.2.2.1 a.2.2.2) 200 (σ, x1, x2, x3)
set_option maxRecDepth 100000 in
set_option maxHeartbeats 4000000 in
theorem B_X8_ring_L27 {x : CX} {cy : Nat → ClassId} {ad : Nat → Nat} {r : (Int32 × ST)} (E : Ev x cy cX8_ring RX8 4 12 428) (K : RetI x cX8_ring .int r.1 (wT ad cy r.2)) (rec17 : (ST × Int32 × Int32) → Option (Int32 × ST)) (hrec17 : ∀ a, rec17 a = some r → G x 0 0 17 [(0, .ref (ad 0)), (1, .int a.2.1), (2, .int a.2.2)] [] (wT ad cy a.1)) (σ : ST) (x1 : Int32) (x2 : Int32) (x3 : Int32) (h : D_X8_ring_L27 rec17 σ x1 x2 x3 = some r) : G x 0 0 27 [(0, .ref (ad 0)), (1, .int x1), (2, .int x2), (3, .int x3)] [] (wT ad cy σ) :=
  itr_ind (P := fun a => G x 0 0 27 [(0, .ref (ad 0)), (1, .int a.2.1), (2, .int a.2.2.1), (3, .int a.2.2.2)] [] (wT ad cy a.1)) (fun rec27 hrec27 a h => B_X8_ring_L27_body E K rec17 hrec17 rec27 hrec27 a.1 a.2.1 a.2.2.1 a.2.2.2 h) 200 (σ, x1, x2, x3) h
noncomputable def D_X8_ring_L17_body (rec17 : (ST × Int32 × Int32) → Option (Int32 × ST)) (σ : ST) (x1 : Int32) (x2 : Int32) : Option (Int32 × ST) := if (gI σ 1) < x2 then (some ((0 : Int32), σ)) else (D_X8_ring_L27 rec17 σ x1 x2 (0 : Int32))
set_option maxRecDepth 100000 in
set_option maxHeartbeats 4000000 in
theorem B_X8_ring_L17_body {x : CX} {cy : Nat → ClassId} {ad : Nat → Nat} {r : (Int32 × ST)} (E : Ev x cy cX8_ring RX8 4 12 428) (K : RetI x cX8_ring .int r.1 (wT ad cy r.2)) (rec17 : (ST × Int32 × Int32) → Option (Int32 × ST)) (hrec17 : ∀ a, rec17 a = some r → G x 0 0 17 [(0, .ref (ad 0)), (1, .int a.2.1), (2, .int a.2.2)] [] (wT ad cy a.1)) (σ : ST) (x1 : Int32) (x2 : Int32) (h : D_X8_ring_L17_body rec17 σ x1 x2 = some r) : G x 0 0 17 [(0, .ref (ad 0)), (1, .int x1), (2, .int x2)] [] (wT ad cy σ) := by
  unfold D_X8_ring_L17_body at h
  refine G.iload_n E dX8_ring_17 rfl 2 rfl ?_
  refine G.aload_n E dX8_ring_18 rfl 0 rfl ?_
  refine G.get E inX8 0 rfl rfl 9 (by decide) (f223 E.fx) rfl dX8_ring_19 ?_
  refine G.icmp_gt (tgt := 67) E dX8_ring_22 (by decide) (fun q => ?_) (fun q => ?_)
  · have h := ite_t h q
    refine G.iconst (v := 0) E dX8_ring_67 (by decide) ?_
    obtain rfl := Option.some.inj h
    exact K rfl _ _ dX8_ring_68
  · have h := ite_f h q
    refine G.iconst (v := 0) E dX8_ring_25 (by decide) ?_
    refine G.istore_n (lv' := [(3, .int (0 : Int32)), (0, .ref (ad 0)), (1, .int x1), (2, .int x2)]) E dX8_ring_26 rfl (by decide) rfl ?_
    refine G.sub (lv' := [(0, .ref (ad 0)), (1, .int x1), (2, .int x2), (3, .int (0 : Int32))]) [1, 2, 3, 0] rfl ?_
    exact B_X8_ring_L27 E K rec17 hrec17 σ x1 x2 (0 : Int32) h
noncomputable def D_X8_ring_L17  (σ : ST) (x1 : Int32) (x2 : Int32) : Option (Int32 × ST) := itr (fun (rec17 : (ST × Int32 × Int32) → Option (Int32 × ST)) (a : (ST × Int32 × Int32)) => D_X8_ring_L17_body rec17 a.1 a.2.1 a.2.2) 200 (σ, x1, x2)
set_option maxRecDepth 100000 in
set_option maxHeartbeats 4000000 in
theorem B_X8_ring_L17 {x : CX} {cy : Nat → ClassId} {ad : Nat → Nat} {r : (Int32 × ST)} (E : Ev x cy cX8_ring RX8 4 12 428) (K : RetI x cX8_ring .int r.1 (wT ad cy r.2))  (σ : ST) (x1 : Int32) (x2 : Int32) (h : D_X8_ring_L17 σ x1 x2 = some r) : G x 0 0 17 [(0, .ref (ad 0)), (1, .int x1), (2, .int x2)] [] (wT ad cy σ) :=
  itr_ind (P := fun a => G x 0 0 17 [(0, .ref (ad 0)), (1, .int a.2.1), (2, .int a.2.2)] [] (wT ad cy a.1)) (fun rec17 hrec17 a h => B_X8_ring_L17_body E K rec17 hrec17 a.1 a.2.1 a.2.2 h) 200 (σ, x1, x2) h
noncomputable def D_X8_ring (σ : ST)  : Option (Int32 × ST) := if (gI σ 1) = 0 then (some ((-103 : Int32), σ)) else ((D_X8_whoBeatsWhom σ).bind fun r1 => D_X8_ring_L17 r1.2 r1.1 (3 : Int32))
set_option maxRecDepth 100000 in
set_option maxHeartbeats 4000000 in
theorem B_X8_ring {x : CX} {cy : Nat → ClassId} {ad : Nat → Nat} {r : (Int32 × ST)} (E : Ev x cy cX8_ring RX8 4 12 428) (K : RetI x cX8_ring .int r.1 (wT ad cy r.2)) (σ : ST)  (h : D_X8_ring σ = some r) : G x 0 0 0 [(0, .ref (ad 0))] [] (wT ad cy σ) := by
  unfold D_X8_ring at h
  refine G.aload_n E dX8_ring_0 rfl 0 rfl ?_
  refine G.get E inX8 0 rfl rfl 9 (by decide) (f223 E.fx) rfl dX8_ring_1 ?_
  refine G.if_ne (tgt := 10) E dX8_ring_4 (by decide) (fun q => ?_) (fun q => ?_)
  · have h := ite_f h q
    refine G.aload_n E dX8_ring_10 rfl 0 rfl ?_
    obtain ⟨r1, h2, h⟩ := bind_s h
    refine G.retI E (runV (st := []) (As := []) E (C_X8_whoBeatsWhom h2) ck_X8_whoBeatsWhom (f599 E.fx) (f601 E.fx) (f22 E.fx) 0 8 rfl rfl rfl (by decide) (by decide) rfl (Nat.le_of_ble_eq_true rfl) dX8_ring_11 ⟨Nat.zero_le _, Nat.zero_le _⟩) ?_
    refine G.istore_n (lv' := [(1, .int r1.1), (0, .ref (ad 0))]) E dX8_ring_14 rfl (by decide) rfl ?_
    refine G.iconst (v := 3) E dX8_ring_15 (by decide) ?_
    refine G.istore_n (lv' := [(2, .int (3 : Int32)), (1, .int r1.1), (0, .ref (ad 0))]) E dX8_ring_16 rfl (by decide) rfl ?_
    refine G.sub (lv' := [(0, .ref (ad 0)), (1, .int r1.1), (2, .int (3 : Int32))]) [2, 1, 0] rfl ?_
    exact B_X8_ring_L17 E K r1.2 r1.1 (3 : Int32) h
  · have h := ite_t h q
    refine G.bipush (v := -103) E dX8_ring_7 (by decide) ?_
    obtain rfl := Option.some.inj h
    exact K rfl _ _ dX8_ring_9
set_option maxRecDepth 100000 in
set_option maxHeartbeats 4000000 in
theorem C_X8_ring {l : Launch} {D : va_G} {cy : Nat → ClassId} {ad : Nat → Nat} {σ : ST}  {r : (Int32 × ST)} (h : D_X8_ring σ = some r) : MI l yX8_ring cX8_ring 4 (some .int) 12 428 D cy (wT ad cy σ) [.ref (ad 0)] r.1 (wT ad cy r.2) :=
  MI.mk (lv := [(0, .ref (ad 0))]) (by decide) (Nat.le_of_ble_eq_true rfl) rfl (fun x _ _ E K => B_X8_ring E K σ h)

noncomputable def D_J7_fill_53178_33_L5_body (rec5 : (ST × Int32 × Int32 × Int32) → Option ST) (σ : ST) (x1 : Int32) (x2 : Int32) (x3 : Int32) : Option ST := if x3 ≤ x2 then (some σ) else (if x2 < 0 ∨ 32 ≤ x2.toNatClampNeg then none else (rec5 ((pA σ 15 x2.toNatClampNeg x1), x1, (x2 + 1), x3)))
set_option maxRecDepth 100000 in
set_option maxHeartbeats 4000000 in
theorem B_J7_fill_53178_33_L5_body {x : CX} {cy : Nat → ClassId} {ad : Nat → Nat} {r : ST} (E : Ev x cy cJ7_fill_53178 RJ7 4 0 0) (K : RetV x cJ7_fill_53178 (wT ad cy r)) (rec5 : (ST × Int32 × Int32 × Int32) → Option ST) (hrec5 : ∀ a, rec5 a = some r → G x 0 0 5 [(0, .ref (ad 33)), (1, .int a.2.1), (2, .int a.2.2.1), (3, .int a.2.2.2)] [] (wT ad cy a.1)) (σ : ST) (x1 : Int32) (x2 : Int32) (x3 : Int32) (h : D_J7_fill_53178_33_L5_body rec5 σ x1 x2 x3 = some r) : G x 0 0 5 [(0, .ref (ad 33)), (1, .int x1), (2, .int x2), (3, .int x3)] [] (wT ad cy σ) := by
  unfold D_J7_fill_53178_33_L5_body at h
  refine G.iload_n E dJ7_fill_53178_5 rfl 2 rfl ?_
  refine G.iload_n E dJ7_fill_53178_6 rfl 3 rfl ?_
  refine G.icmp_ge (tgt := 20) E dJ7_fill_53178_7 (by decide) (fun q => ?_) (fun q => ?_)
  · have h := ite_t h q
    obtain rfl := Option.some.inj h
    exact K _ _ dJ7_fill_53178_20
  · have h := ite_f h q
    refine G.aload_n E dJ7_fill_53178_10 rfl 0 rfl ?_
    refine G.iload_n E dJ7_fill_53178_11 rfl 2 rfl ?_
    refine G.iload_n E dJ7_fill_53178_12 rfl 1 rfl ?_
    obtain ⟨hg, h⟩ := ite_n h
    refine G.iast (ws' := (wT ad cy (pA σ 15 x2.toNatClampNeg x1))) E 33 0 rfl rfl hg dJ7_fill_53178_13 (wT_aI15 ad cy _ _ _) ?_
    refine G.iinc (w := x2 + 1) (lv' := [(2, .int (x2 + 1)), (0, .ref (ad 33)), (1, .int x1), (3, .int x3)]) E dJ7_fill_53178_14 2 rfl rfl (by decide) rfl ?_
    refine G.goto (tgt := 5) E dJ7_fill_53178_17 (by decide) ?_
    refine G.sub (lv' := [(0, .ref (ad 33)), (1, .int x1), (2, .int (x2 + 1)), (3, .int x3)]) [1, 2, 0, 3] rfl ?_
    exact hrec5 ((pA σ 15 x2.toNatClampNeg x1), x1, (x2 + 1), x3) h
noncomputable def D_J7_fill_53178_33_L5  (σ : ST) (x1 : Int32) (x2 : Int32) (x3 : Int32) : Option ST := itr (fun (rec5 : (ST × Int32 × Int32 × Int32) → Option ST) (a : (ST × Int32 × Int32 × Int32)) => D_J7_fill_53178_33_L5_body rec5 a.1 a.2.1 a.2.2.1 a.2.2.2) 200 (σ, x1, x2, x3)
set_option maxRecDepth 100000 in
set_option maxHeartbeats 4000000 in
theorem B_J7_fill_53178_33_L5 {x : CX} {cy : Nat → ClassId} {ad : Nat → Nat} {r : ST} (E : Ev x cy cJ7_fill_53178 RJ7 4 0 0) (K : RetV x cJ7_fill_53178 (wT ad cy r))  (σ : ST) (x1 : Int32) (x2 : Int32) (x3 : Int32) (h : D_J7_fill_53178_33_L5 σ x1 x2 x3 = some r) : G x 0 0 5 [(0, .ref (ad 33)), (1, .int x1), (2, .int x2), (3, .int x3)] [] (wT ad cy σ) :=
  itr_ind (P := fun a => G x 0 0 5 [(0, .ref (ad 33)), (1, .int a.2.1), (2, .int a.2.2.1), (3, .int a.2.2.2)] [] (wT ad cy a.1)) (fun rec5 hrec5 a h => B_J7_fill_53178_33_L5_body E K rec5 hrec5 a.1 a.2.1 a.2.2.1 a.2.2.2 h) 200 (σ, x1, x2, x3) h
noncomputable def D_J7_fill_53178_33 (σ : ST) (p1 : Int32) : Option ST := D_J7_fill_53178_33_L5 σ p1 (0 : Int32) (32 : Int32)
set_option maxRecDepth 100000 in
set_option maxHeartbeats 4000000 in
theorem B_J7_fill_53178_33 {x : CX} {cy : Nat → ClassId} {ad : Nat → Nat} {r : ST} (E : Ev x cy cJ7_fill_53178 RJ7 4 0 0) (K : RetV x cJ7_fill_53178 (wT ad cy r)) (σ : ST) (p1 : Int32) (h : D_J7_fill_53178_33 σ p1 = some r) : G x 0 0 0 [(0, .ref (ad 33)), (1, .int p1)] [] (wT ad cy σ) := by
  unfold D_J7_fill_53178_33 at h
  refine G.iconst (v := 0) E dJ7_fill_53178_0 (by decide) ?_
  refine G.istore_n (lv' := [(2, .int (0 : Int32)), (0, .ref (ad 33)), (1, .int p1)]) E dJ7_fill_53178_1 rfl (by decide) rfl ?_
  refine G.aload_n E dJ7_fill_53178_2 rfl 1 rfl ?_
  refine G.alen (v := 32) E 33 0 rfl rfl rfl dJ7_fill_53178_3 ?_
  refine G.istore_n (lv' := [(3, .int (32 : Int32)), (2, .int (0 : Int32)), (0, .ref (ad 33)), (1, .int p1)]) E dJ7_fill_53178_4 rfl (by decide) rfl ?_
  refine G.sub (lv' := [(0, .ref (ad 33)), (1, .int p1), (2, .int (0 : Int32)), (3, .int (32 : Int32))]) [2, 3, 1, 0] rfl ?_
  exact B_J7_fill_53178_33_L5 E K σ p1 (0 : Int32) (32 : Int32) h
set_option maxRecDepth 100000 in
set_option maxHeartbeats 4000000 in
theorem C_J7_fill_53178_33 {l : Launch} {D : va_G} {cy : Nat → ClassId} {ad : Nat → Nat} {σ : ST} {p1 : Int32} {r : ST} (h : D_J7_fill_53178_33 σ p1 = some r) : MV l yJ7_fill_53178 cJ7_fill_53178 4 none 0 0 D cy (wT ad cy σ) [.ref (ad 33), .int p1]  (wT ad cy r) :=
  MV.mk (lv := [(0, .ref (ad 33)), (1, .int p1)]) (by decide) (Nat.le_of_ble_eq_true rfl) rfl (fun x _ _ E K => B_J7_fill_53178_33 E K σ p1 h)

noncomputable def D_J7_fill_53178_34_L5_body (rec5 : (ST × Int32 × Int32 × Int32) → Option ST) (σ : ST) (x1 : Int32) (x2 : Int32) (x3 : Int32) : Option ST := if x3 ≤ x2 then (some σ) else (if x2 < 0 ∨ 32 ≤ x2.toNatClampNeg then none else (rec5 ((pA σ 16 x2.toNatClampNeg x1), x1, (x2 + 1), x3)))
set_option maxRecDepth 100000 in
set_option maxHeartbeats 4000000 in
theorem B_J7_fill_53178_34_L5_body {x : CX} {cy : Nat → ClassId} {ad : Nat → Nat} {r : ST} (E : Ev x cy cJ7_fill_53178 RJ7 4 0 0) (K : RetV x cJ7_fill_53178 (wT ad cy r)) (rec5 : (ST × Int32 × Int32 × Int32) → Option ST) (hrec5 : ∀ a, rec5 a = some r → G x 0 0 5 [(0, .ref (ad 34)), (1, .int a.2.1), (2, .int a.2.2.1), (3, .int a.2.2.2)] [] (wT ad cy a.1)) (σ : ST) (x1 : Int32) (x2 : Int32) (x3 : Int32) (h : D_J7_fill_53178_34_L5_body rec5 σ x1 x2 x3 = some r) : G x 0 0 5 [(0, .ref (ad 34)), (1, .int x1), (2, .int x2), (3, .int x3)] [] (wT ad cy σ) := by
  unfold D_J7_fill_53178_34_L5_body at h
  refine G.iload_n E dJ7_fill_53178_5 rfl 2 rfl ?_
  refine G.iload_n E dJ7_fill_53178_6 rfl 3 rfl ?_
  refine G.icmp_ge (tgt := 20) E dJ7_fill_53178_7 (by decide) (fun q => ?_) (fun q => ?_)
  · have h := ite_t h q
    obtain rfl := Option.some.inj h
    exact K _ _ dJ7_fill_53178_20
  · have h := ite_f h q
    refine G.aload_n E dJ7_fill_53178_10 rfl 0 rfl ?_
    refine G.iload_n E dJ7_fill_53178_11 rfl 2 rfl ?_
    refine G.iload_n E dJ7_fill_53178_12 rfl 1 rfl ?_
    obtain ⟨hg, h⟩ := ite_n h
    refine G.iast (ws' := (wT ad cy (pA σ 16 x2.toNatClampNeg x1))) E 34 0 rfl rfl hg dJ7_fill_53178_13 (wT_aI16 ad cy _ _ _) ?_
    refine G.iinc (w := x2 + 1) (lv' := [(2, .int (x2 + 1)), (0, .ref (ad 34)), (1, .int x1), (3, .int x3)]) E dJ7_fill_53178_14 2 rfl rfl (by decide) rfl ?_
    refine G.goto (tgt := 5) E dJ7_fill_53178_17 (by decide) ?_
    refine G.sub (lv' := [(0, .ref (ad 34)), (1, .int x1), (2, .int (x2 + 1)), (3, .int x3)]) [1, 2, 0, 3] rfl ?_
    exact hrec5 ((pA σ 16 x2.toNatClampNeg x1), x1, (x2 + 1), x3) h
noncomputable def D_J7_fill_53178_34_L5  (σ : ST) (x1 : Int32) (x2 : Int32) (x3 : Int32) : Option ST := itr (fun (rec5 : (ST × Int32 × Int32 × Int32) → Option ST) (a : (ST × Int32 × Int32 × Int32)) => D_J7_fill_53178_34_L5_body rec5 a.1 a.2.1 a.2.2.1 a.2.2.2) 200 (σ, x1, x2, x3)
set_option maxRecDepth 100000 in
set_option maxHeartbeats 4000000 in
theorem B_J7_fill_53178_34_L5 {x : CX} {cy : Nat → ClassId} {ad : Nat → Nat} {r : ST} (E : Ev x cy cJ7_fill_53178 RJ7 4 0 0) (K : RetV x cJ7_fill_53178 (wT ad cy r))  (σ : ST) (x1 : Int32) (x2 : Int32) (x3 : Int32) (h : D_J7_fill_53178_34_L5 σ x1 x2 x3 = some r) : G x 0 0 5 [(0, .ref (ad 34)), (1, .int x1), (2, .int x2), (3, .int x3)] [] (wT ad cy σ) :=
  itr_ind (P := fun a => G x 0 0 5 [(0, .ref (ad 34)), (1, .int a.2.1), (2, .int a.2.2.1), (3, .int a.2.2.2)] [] (wT ad cy a.1)) (fun rec5 hrec5 a h => B_J7_fill_53178_34_L5_body E K rec5 hrec5 a.1 a.2.1 a.2.2.1 a.2.2.2 h) 200 (σ, x1, x2, x3) h
noncomputable def D_J7_fill_53178_34 (σ : ST) (p1 : Int32) : Option ST := D_J7_fill_53178_34_L5 σ p1 (0 : Int32) (32 : Int32)
set_option maxRecDepth 100000 in
set_option maxHeartbeats 4000000 in
theorem B_J7_fill_53178_34 {x : CX} {cy : Nat → ClassId} {ad : Nat → Nat} {r : ST} (E : Ev x cy cJ7_fill_53178 RJ7 4 0 0) (K : RetV x cJ7_fill_53178 (wT ad cy r)) (σ : ST) (p1 : Int32) (h : D_J7_fill_53178_34 σ p1 = some r) : G x 0 0 0 [(0, .ref (ad 34)), (1, .int p1)] [] (wT ad cy σ) := by
  unfold D_J7_fill_53178_34 at h
  refine G.iconst (v := 0) E dJ7_fill_53178_0 (by decide) ?_
  refine G.istore_n (lv' := [(2, .int (0 : Int32)), (0, .ref (ad 34)), (1, .int p1)]) E dJ7_fill_53178_1 rfl (by decide) rfl ?_
  refine G.aload_n E dJ7_fill_53178_2 rfl 1 rfl ?_
  refine G.alen (v := 32) E 34 0 rfl rfl rfl dJ7_fill_53178_3 ?_
  refine G.istore_n (lv' := [(3, .int (32 : Int32)), (2, .int (0 : Int32)), (0, .ref (ad 34)), (1, .int p1)]) E dJ7_fill_53178_4 rfl (by decide) rfl ?_
  refine G.sub (lv' := [(0, .ref (ad 34)), (1, .int p1), (2, .int (0 : Int32)), (3, .int (32 : Int32))]) [2, 3, 1, 0] rfl ?_
  exact B_J7_fill_53178_34_L5 E K σ p1 (0 : Int32) (32 : Int32) h
set_option maxRecDepth 100000 in
set_option maxHeartbeats 4000000 in
theorem C_J7_fill_53178_34 {l : Launch} {D : va_G} {cy : Nat → ClassId} {ad : Nat → Nat} {σ : ST} {p1 : Int32} {r : ST} (h : D_J7_fill_53178_34 σ p1 = some r) : MV l yJ7_fill_53178 cJ7_fill_53178 4 none 0 0 D cy (wT ad cy σ) [.ref (ad 34), .int p1]  (wT ad cy r) :=
  MV.mk (lv := [(0, .ref (ad 34)), (1, .int p1)]) (by decide) (Nat.le_of_ble_eq_true rfl) rfl (fun x _ _ E K => B_J7_fill_53178_34 E K σ p1 h)

noncomputable def D_X8_winsByToss_b152 (rec13 : (ST × Int32 × Int32 × Int32 × Int32) → Option (Int32 × ST)) (σ : ST) (x1 : Int32) (x2 : Int32) (x3 : Int32) (x4 : Int32) : Option (Int32 × ST) := rec13 (σ, x1, x2, x3, (x4 + 1))
set_option maxRecDepth 100000 in
set_option maxHeartbeats 4000000 in
theorem B_X8_winsByToss_b152 {x : CX} {cy : Nat → ClassId} {ad : Nat → Nat} {r : (Int32 × ST)} (E : Ev x cy cX8_winsByToss RX8 9 1 24) (K : RetI x cX8_winsByToss .int r.1 (wT ad cy r.2)) (rec13 : (ST × Int32 × Int32 × Int32 × Int32) → Option (Int32 × ST)) (hrec13 : ∀ a, rec13 a = some r → G x 0 0 13 [(0, .ref (ad 0)), (1, .int a.2.1), (2, .int a.2.2.1), (3, .int a.2.2.2.1), (4, .int a.2.2.2.2)] [] (wT ad cy a.1)) (σ : ST) (x1 : Int32) (x2 : Int32) (x3 : Int32) (x4 : Int32) (h : D_X8_winsByToss_b152 rec13 σ x1 x2 x3 x4 = some r) : G x 0 0 152 [(0, .ref (ad 0)), (1, .int x1), (2, .int x2), (3, .int x3), (4, .int x4)] [] (wT ad cy σ) := by
  unfold D_X8_winsByToss_b152 at h
  refine G.iinc (w := x4 + 1) (lv' := [(4, .int (x4 + 1)), (0, .ref (ad 0)), (1, .int x1), (2, .int x2), (3, .int x3)]) E dX8_winsByToss_152 4 rfl rfl (by decide) rfl ?_
  refine G.goto (tgt := 13) E dX8_winsByToss_155 (by decide) ?_
  refine G.sub (lv' := [(0, .ref (ad 0)), (1, .int x1), (2, .int x2), (3, .int x3), (4, .int (x4 + 1))]) [1, 2, 3, 4, 0] rfl ?_
  exact hrec13 (σ, x1, x2, x3, (x4 + 1)) h
noncomputable def D_X8_winsByToss_b146 (rec13 : (ST × Int32 × Int32 × Int32 × Int32) → Option (Int32 × ST)) (rec39 : (ST × Int32 × Int32 × Int32 × Int32 × Int32) → Option (Int32 × ST)) (σ : ST) (x1 : Int32) (x2 : Int32) (x3 : Int32) (x4 : Int32) (x5 : Int32) : Option (Int32 × ST) := rec39 (σ, x1, x2, x3, x4, (x5 + 1))
set_option maxRecDepth 100000 in
set_option maxHeartbeats 4000000 in
theorem B_X8_winsByToss_b146 {x : CX} {cy : Nat → ClassId} {ad : Nat → Nat} {r : (Int32 × ST)} (E : Ev x cy cX8_winsByToss RX8 9 1 24) (K : RetI x cX8_winsByToss .int r.1 (wT ad cy r.2)) (rec13 : (ST × Int32 × Int32 × Int32 × Int32) → Option (Int32 × ST)) (hrec13 : ∀ a, rec13 a = some r → G x 0 0 13 [(0, .ref (ad 0)), (1, .int a.2.1), (2, .int a.2.2.1), (3, .int a.2.2.2.1), (4, .int a.2.2.2.2)] [] (wT ad cy a.1)) (rec39 : (ST × Int32 × Int32 × Int32 × Int32 × Int32) → Option (Int32 × ST)) (hrec39 : ∀ a, rec39 a = some r → G x 0 0 39 [(0, .ref (ad 0)), (1, .int a.2.1), (2, .int a.2.2.1), (3, .int a.2.2.2.1), (4, .int a.2.2.2.2.1), (5, .int a.2.2.2.2.2)] [] (wT ad cy a.1)) (σ : ST) (x1 : Int32) (x2 : Int32) (x3 : Int32) (x4 : Int32) (x5 : Int32) (h : D_X8_winsByToss_b146 rec13 rec39 σ x1 x2 x3 x4 x5 = some r) : G x 0 0 146 [(0, .ref (ad 0)), (1, .int x1), (2, .int x2), (3, .int x3), (4, .int x4), (5, .int x5)] [] (wT ad cy σ) := by
  unfold D_X8_winsByToss_b146 at h
  refine G.iinc (w := x5 + 1) (lv' := [(5, .int (x5 + 1)), (0, .ref (ad 0)), (1, .int x1), (2, .int x2), (3, .int x3), (4, .int x4)]) E dX8_winsByToss_146 5 rfl rfl (by decide) rfl ?_
  refine G.goto (tgt := 39) E dX8_winsByToss_149 (by decide) ?_
  refine G.sub (lv' := [(0, .ref (ad 0)), (1, .int x1), (2, .int x2), (3, .int x3), (4, .int x4), (5, .int (x5 + 1))]) [1, 2, 3, 4, 5, 0] rfl ?_
  exact hrec39 (σ, x1, x2, x3, x4, (x5 + 1)) h
noncomputable def D_X8_winsByToss_b109 (rec13 : (ST × Int32 × Int32 × Int32 × Int32) → Option (Int32 × ST)) (rec39 : (ST × Int32 × Int32 × Int32 × Int32 × Int32) → Option (Int32 × ST)) (σ : ST) (x1 : Int32) (x2 : Int32) (x3 : Int32) (x4 : Int32) (x5 : Int32) (x6 : Int32) (x8 : Int32) : Option (Int32 × ST) := if x8 = 0 then (if x6 < 0 then (D_X8_winsByToss_b146 rec13 rec39 σ x1 x2 x3 x4 x5) else (if (32 : Int32) ≤ x6 then (D_X8_winsByToss_b146 rec13 rec39 σ x1 x2 x3 x4 x5) else (if x6 < 0 ∨ 32 ≤ x6.toNatClampNeg then none else (if x4 < 0 ∨ 32 ≤ x4.toNatClampNeg then none else (if x6 < 0 ∨ 32 ≤ x6.toNatClampNeg then none else (D_X8_winsByToss_b146 rec13 rec39 (pA σ 16 x6.toNatClampNeg ((gA σ 16 x6.toNatClampNeg) + (gA σ 15 x4.toNatClampNeg))) x1 x2 x3 x4 x5)))))) else (D_X8_winsByToss_b146 rec13 rec39 σ x1 x2 x3 x4 x5)
set_option maxRecDepth 100000 in
set_option maxHeartbeats 4000000 in
theorem B_X8_winsByToss_b109 {x : CX} {cy : Nat → ClassId} {ad : Nat → Nat} {r : (Int32 × ST)} (E : Ev x cy cX8_winsByToss RX8 9 1 24) (K : RetI x cX8_winsByToss .int r.1 (wT ad cy r.2)) (rec13 : (ST × Int32 × Int32 × Int32 × Int32) → Option (Int32 × ST)) (hrec13 : ∀ a, rec13 a = some r → G x 0 0 13 [(0, .ref (ad 0)), (1, .int a.2.1), (2, .int a.2.2.1), (3, .int a.2.2.2.1), (4, .int a.2.2.2.2)] [] (wT ad cy a.1)) (rec39 : (ST × Int32 × Int32 × Int32 × Int32 × Int32) → Option (Int32 × ST)) (hrec39 : ∀ a, rec39 a = some r → G x 0 0 39 [(0, .ref (ad 0)), (1, .int a.2.1), (2, .int a.2.2.1), (3, .int a.2.2.2.1), (4, .int a.2.2.2.2.1), (5, .int a.2.2.2.2.2)] [] (wT ad cy a.1)) (σ : ST) (x1 : Int32) (x2 : Int32) (x3 : Int32) (x4 : Int32) (x5 : Int32) (x6 : Int32) (x8 : Int32) (h : D_X8_winsByToss_b109 rec13 rec39 σ x1 x2 x3 x4 x5 x6 x8 = some r) : G x 0 0 109 [(0, .ref (ad 0)), (1, .int x1), (2, .int x2), (3, .int x3), (4, .int x4), (5, .int x5), (6, .int x6), (8, .int x8)] [] (wT ad cy σ) := by
  unfold D_X8_winsByToss_b109 at h
  refine G.iload E dX8_winsByToss_109 7 rfl ?_
  refine G.if_ne (tgt := 146) E dX8_winsByToss_111 (by decide) (fun q => ?_) (fun q => ?_)
  · have h := ite_f h q
    refine G.sub (lv' := [(0, .ref (ad 0)), (1, .int x1), (2, .int x2), (3, .int x3), (4, .int x4), (5, .int x5)]) [0, 1, 2, 3, 4, 5] rfl ?_
    exact B_X8_winsByToss_b146 E K rec13 hrec13 rec39 hrec39 σ x1 x2 x3 x4 x5 h
  · have h := ite_t h q
    refine G.iload E dX8_winsByToss_114 6 rfl ?_
    refine G.if_lt (tgt := 146) E dX8_winsByToss_116 (by decide) (fun q => ?_) (fun q => ?_)
    · have h := ite_t h q
      refine G.sub (lv' := [(0, .ref (ad 0)), (1, .int x1), (2, .int x2), (3, .int x3), (4, .int x4), (5, .int x5)]) [0, 1, 2, 3, 4, 5] rfl ?_
      exact B_X8_winsByToss_b146 E K rec13 hrec13 rec39 hrec39 σ x1 x2 x3 x4 x5 h
    · have h := ite_f h q
      refine G.iload E dX8_winsByToss_119 6 rfl ?_
      refine G.aload_n E dX8_winsByToss_121 rfl 0 rfl ?_
      refine G.get E inX8 0 rfl rfl 7 (by decide) (f221 E.fx) rfl dX8_winsByToss_122 ?_
      refine G.alen (v := 32) E 34 0 rfl rfl rfl dX8_winsByToss_125 ?_
      refine G.icmp_ge (tgt := 146) E dX8_winsByToss_126 (by decide) (fun q => ?_) (fun q => ?_)
      · have h := ite_t h q
        refine G.sub (lv' := [(0, .ref (ad 0)), (1, .int x1), (2, .int x2), (3, .int x3), (4, .int x4), (5, .int x5)]) [0, 1, 2, 3, 4, 5] rfl ?_
        exact B_X8_winsByToss_b146 E K rec13 hrec13 rec39 hrec39 σ x1 x2 x3 x4 x5 h
      · have h := ite_f h q
        refine G.aload_n E dX8_winsByToss_129 rfl 0 rfl ?_
        refine G.get E inX8 0 rfl rfl 7 (by decide) (f221 E.fx) rfl dX8_winsByToss_130 ?_
        refine G.iload E dX8_winsByToss_133 6 rfl ?_
        refine G.dup2 E dX8_winsByToss_135 rfl rfl ?_
        obtain ⟨hg, h⟩ := ite_n h
        refine G.iald E 34 0 rfl rfl hg dX8_winsByToss_136 ?_
        refine G.aload_n E dX8_winsByToss_137 rfl 0 rfl ?_
        refine G.get E inX8 0 rfl rfl 6 (by decide) (f220 E.fx) rfl dX8_winsByToss_138 ?_
        refine G.iload E dX8_winsByToss_141 4 rfl ?_
        obtain ⟨hg, h⟩ := ite_n h
        refine G.iald E 33 0 rfl rfl hg dX8_winsByToss_143 ?_
        refine G.iadd E dX8_winsByToss_144 ?_
        obtain ⟨hg, h⟩ := ite_n h
        refine G.iast (ws' := (wT ad cy (pA σ 16 x6.toNatClampNeg ((gA σ 16 x6.toNatClampNeg) + (gA σ 15 x4.toNatClampNeg))))) E 34 0 rfl rfl hg dX8_winsByToss_145 (wT_aI16 ad cy _ _ _) ?_
        refine G.sub (lv' := [(0, .ref (ad 0)), (1, .int x1), (2, .int x2), (3, .int x3), (4, .int x4), (5, .int x5)]) [0, 1, 2, 3, 4, 5] rfl ?_
        exact B_X8_winsByToss_b146 E K rec13 hrec13 rec39 hrec39 (pA σ 16 x6.toNatClampNeg ((gA σ 16 x6.toNatClampNeg) + (gA σ 15 x4.toNatClampNeg))) x1 x2 x3 x4 x5 h
noncomputable def D_X8_winsByToss_b83 (rec13 : (ST × Int32 × Int32 × Int32 × Int32) → Option (Int32 × ST)) (rec39 : (ST × Int32 × Int32 × Int32 × Int32 × Int32) → Option (Int32 × ST)) (σ : ST) (x1 : Int32) (x2 : Int32) (x3 : Int32) (x4 : Int32) (x5 : Int32) (x6 : Int32) (x7 : Int32) (s0 : Int32) : Option (Int32 × ST) := if s0 = 0 then (D_X8_winsByToss_b109 rec13 rec39 σ x1 x2 x3 x4 x5 x6 s0) else ((D_X8_has x1 x7).bind fun r7 => if r7 = 0 then (D_X8_winsByToss_b109 rec13 rec39 σ x1 x2 x3 x4 x5 x6 s0) else (if x4 < 0 ∨ 32 ≤ x4.toNatClampNeg then none else (D_X8_winsByToss_b109 rec13 rec39 σ x1 x2 (x3 + (gA σ 15 x4.toNatClampNeg)) x4 x5 x6 s0)))
set_option maxRecDepth 100000 in
set_option maxHeartbeats 4000000 in
theorem B_X8_winsByToss_b83 {x : CX} {cy : Nat → ClassId} {ad : Nat → Nat} {r : (Int32 × ST)} (E : Ev x cy cX8_winsByToss RX8 9 1 24) (K : RetI x cX8_winsByToss .int r.1 (wT ad cy r.2)) (rec13 : (ST × Int32 × Int32 × Int32 × Int32) → Option (Int32 × ST)) (hrec13 : ∀ a, rec13 a = some r → G x 0 0 13 [(0, .ref (ad 0)), (1, .int a.2.1), (2, .int a.2.2.1), (3, .int a.2.2.2.1), (4, .int a.2.2.2.2)] [] (wT ad cy a.1)) (rec39 : (ST × Int32 × Int32 × Int32 × Int32 × Int32) → Option (Int32 × ST)) (hrec39 : ∀ a, rec39 a = some r → G x 0 0 39 [(0, .ref (ad 0)), (1, .int a.2.1), (2, .int a.2.2.1), (3, .int a.2.2.2.1), (4, .int a.2.2.2.2.1), (5, .int a.2.2.2.2.2)] [] (wT ad cy a.1)) (σ : ST) (x1 : Int32) (x2 : Int32) (x3 : Int32) (x4 : Int32) (x5 : Int32) (x6 : Int32) (x7 : Int32) (s0 : Int32) (h : D_X8_winsByToss_b83 rec13 rec39 σ x1 x2 x3 x4 x5 x6 x7 s0 = some r) : G x 0 0 83 [(0, .ref (ad 0)), (1, .int x1), (2, .int x2), (3, .int x3), (4, .int x4), (5, .int x5), (6, .int x6), (7, .int x7)] [.int s0] (wT ad cy σ) := by
  unfold D_X8_winsByToss_b83 at h
  refine G.istore (lv' := [(8, .int s0), (0, .ref (ad 0)), (1, .int x1), (2, .int x2), (3, .int x3), (4, .int x4), (5, .int x5), (6, .int x6), (7, .int x7)]) E dX8_winsByToss_83 (by decide) rfl ?_
  refine G.iload E dX8_winsByToss_85 0 rfl ?_
  refine G.if_eq (tgt := 109) E dX8_winsByToss_87 (by decide) (fun q => ?_) (fun q => ?_)
  · have h := ite_t h q
    refine G.sub (lv' := [(0, .ref (ad 0)), (1, .int x1), (2, .int x2), (3, .int x3), (4, .int x4), (5, .int x5), (6, .int x6), (8, .int s0)]) [1, 2, 3, 4, 5, 6, 7, 0] rfl ?_
    exact B_X8_winsByToss_b109 E K rec13 hrec13 rec39 hrec39 σ x1 x2 x3 x4 x5 x6 s0 h
  · have h := ite_f h q
    refine G.iload_n E dX8_winsByToss_90 rfl 2 rfl ?_
    refine G.iload E dX8_winsByToss_91 8 rfl ?_
    obtain ⟨r7, h8, h⟩ := bind_s h
    refine G.retI E (runS (st := []) (As := [.int x1, .int x7]) E (C_X8_has h8) ck_X8_has (f512 E.fx) (f480 E.fx) (by decide) (by decide) rfl (Nat.le_of_ble_eq_true rfl) dX8_winsByToss_93 ⟨Nat.zero_le _, Nat.zero_le _⟩) ?_
    refine G.if_eq (tgt := 109) E dX8_winsByToss_96 (by decide) (fun q => ?_) (fun q => ?_)
    · have h := ite_t h q
      refine G.sub (lv' := [(0, .ref (ad 0)), (1, .int x1), (2, .int x2), (3, .int x3), (4, .int x4), (5, .int x5), (6, .int x6), (8, .int s0)]) [1, 2, 3, 4, 5, 6, 7, 0] rfl ?_
      exact B_X8_winsByToss_b109 E K rec13 hrec13 rec39 hrec39 σ x1 x2 x3 x4 x5 x6 s0 h
    · have h := ite_f h q
      refine G.iload_n E dX8_winsByToss_99 rfl 4 rfl ?_
      refine G.aload_n E dX8_winsByToss_100 rfl 1 rfl ?_
      refine G.get E inX8 0 rfl rfl 6 (by decide) (f220 E.fx) rfl dX8_winsByToss_101 ?_
      refine G.iload E dX8_winsByToss_104 5 rfl ?_
      obtain ⟨hg, h⟩ := ite_n h
      refine G.iald E 33 0 rfl rfl hg dX8_winsByToss_106 ?_
      refine G.iadd E dX8_winsByToss_107 ?_
      refine G.istore_n (lv' := [(3, .int (x3 + (gA σ 15 x4.toNatClampNeg))), (8, .int s0), (0, .ref (ad 0)), (1, .int x1), (2, .int x2), (4, .int x4), (5, .int x5), (6, .int x6), (7, .int x7)]) E dX8_winsByToss_108 rfl (by decide) rfl ?_
      refine G.sub (lv' := [(0, .ref (ad 0)), (1, .int x1), (2, .int x2), (3, .int (x3 + (gA σ 15 x4.toNatClampNeg))), (4, .int x4), (5, .int x5), (6, .int x6), (8, .int s0)]) [2, 3, 4, 0, 5, 6, 7, 1] rfl ?_
      exact B_X8_winsByToss_b109 E K rec13 hrec13 rec39 hrec39 σ x1 x2 (x3 + (gA σ 15 x4.toNatClampNeg)) x4 x5 x6 s0 h
noncomputable def D_X8_winsByToss_b82 (rec13 : (ST × Int32 × Int32 × Int32 × Int32) → Option (Int32 × ST)) (rec39 : (ST × Int32 × Int32 × Int32 × Int32 × Int32) → Option (Int32 × ST)) (σ : ST) (x1 : Int32) (x2 : Int32) (x3 : Int32) (x4 : Int32) (x5 : Int32) (x6 : Int32) (x7 : Int32) : Option (Int32 × ST) := D_X8_winsByToss_b83 rec13 rec39 σ x1 x2 x3 x4 x5 x6 x7 (0 : Int32)
set_option maxRecDepth 100000 in
set_option maxHeartbeats 4000000 in
theorem B_X8_winsByToss_b82 {x : CX} {cy : Nat → ClassId} {ad : Nat → Nat} {r : (Int32 × ST)} (E : Ev x cy cX8_winsByToss RX8 9 1 24) (K : RetI x cX8_winsByToss .int r.1 (wT ad cy r.2)) (rec13 : (ST × Int32 × Int32 × Int32 × Int32) → Option (Int32 × ST)) (hrec13 : ∀ a, rec13 a = some r → G x 0 0 13 [(0, .ref (ad 0)), (1, .int a.2.1), (2, .int a.2.2.1), (3, .int a.2.2.2.1), (4, .int a.2.2.2.2)] [] (wT ad cy a.1)) (rec39 : (ST × Int32 × Int32 × Int32 × Int32 × Int32) → Option (Int32 × ST)) (hrec39 : ∀ a, rec39 a = some r → G x 0 0 39 [(0, .ref (ad 0)), (1, .int a.2.1), (2, .int a.2.2.1), (3, .int a.2.2.2.1), (4, .int a.2.2.2.2.1), (5, .int a.2.2.2.2.2)] [] (wT ad cy a.1)) (σ : ST) (x1 : Int32) (x2 : Int32) (x3 : Int32) (x4 : Int32) (x5 : Int32) (x6 : Int32) (x7 : Int32) (h : D_X8_winsByToss_b82 rec13 rec39 σ x1 x2 x3 x4 x5 x6 x7 = some r) : G x 0 0 82 [(0, .ref (ad 0)), (1, .int x1), (2, .int x2), (3, .int x3), (4, .int x4), (5, .int x5), (6, .int x6), (7, .int x7)] [] (wT ad cy σ) := by
  unfold D_X8_winsByToss_b82 at h
  refine G.iconst (v := 0) E dX8_winsByToss_82 (by decide) ?_
  refine G.sub (lv' := [(0, .ref (ad 0)), (1, .int x1), (2, .int x2), (3, .int x3), (4, .int x4), (5, .int x5), (6, .int x6), (7, .int x7)]) [0, 1, 2, 3, 4, 5, 6, 7] rfl ?_
  exact B_X8_winsByToss_b83 E K rec13 hrec13 rec39 hrec39 σ x1 x2 x3 x4 x5 x6 x7 (0 : Int32) h
noncomputable def D_X8_winsByToss_L39_body (rec13 : (ST × Int32 × Int32 × Int32 × Int32) → Option (Int32 × ST)) (rec39 : (ST × Int32 × Int32 × Int32 × Int32 × Int32) → Option (Int32 × ST)) (σ : ST) (x1 : Int32) (x2 : Int32) (x3 : Int32) (x4 : Int32) (x5 : Int32) : Option (Int32 × ST) := if (2 : Int32) ≤ x5 then (D_X8_winsByToss_b152 rec13 σ x1 x2 x3 x4) else ((D_X8_trackBehind σ x4 x5).bind fun r3 => (D_X8_tailOf σ r3).bind fun r5 => if r5 = (-1 : Int32) then (D_X8_winsByToss_b82 rec13 rec39 σ x1 x2 x3 x4 x5 r3 r5) else ((D_X8_has x2 r5).bind fun r9 => if r9 = 0 then (D_X8_winsByToss_b82 rec13 rec39 σ x1 x2 x3 x4 x5 r3 r5) else (D_X8_winsByToss_b83 rec13 rec39 σ x1 x2 x3 x4 x5 r3 r5 (1 : Int32))))
set_option maxRecDepth 100000 in
set_option maxHeartbeats 4000000 in
theorem B_X8_winsByToss_L39_body {x : CX} {cy : Nat → ClassId} {ad : Nat → Nat} {r : (Int32 × ST)} (E : Ev x cy cX8_winsByToss RX8 9 1 24) (K : RetI x cX8_winsByToss .int r.1 (wT ad cy r.2)) (rec13 : (ST × Int32 × Int32 × Int32 × Int32) → Option (Int32 × ST)) (hrec13 : ∀ a, rec13 a = some r → G x 0 0 13 [(0, .ref (ad 0)), (1, .int a.2.1), (2, .int a.2.2.1), (3, .int a.2.2.2.1), (4, .int a.2.2.2.2)] [] (wT ad cy a.1)) (rec39 : (ST × Int32 × Int32 × Int32 × Int32 × Int32) → Option (Int32 × ST)) (hrec39 : ∀ a, rec39 a = some r → G x 0 0 39 [(0, .ref (ad 0)), (1, .int a.2.1), (2, .int a.2.2.1), (3, .int a.2.2.2.1), (4, .int a.2.2.2.2.1), (5, .int a.2.2.2.2.2)] [] (wT ad cy a.1)) (σ : ST) (x1 : Int32) (x2 : Int32) (x3 : Int32) (x4 : Int32) (x5 : Int32) (h : D_X8_winsByToss_L39_body rec13 rec39 σ x1 x2 x3 x4 x5 = some r) : G x 0 0 39 [(0, .ref (ad 0)), (1, .int x1), (2, .int x2), (3, .int x3), (4, .int x4), (5, .int x5)] [] (wT ad cy σ) := by
  unfold D_X8_winsByToss_L39_body at h
  refine G.iload E dX8_winsByToss_39 5 rfl ?_
  refine G.iconst (v := 2) E dX8_winsByToss_41 (by decide) ?_
  refine G.icmp_ge (tgt := 152) E dX8_winsByToss_42 (by decide) (fun q => ?_) (fun q => ?_)
  · have h := ite_t h q
    refine G.sub (lv' := [(0, .ref (ad 0)), (1, .int x1), (2, .int x2), (3, .int x3), (4, .int x4)]) [0, 1, 2, 3, 4] rfl ?_
    exact B_X8_winsByToss_b152 E K rec13 hrec13 σ x1 x2 x3 x4 h
  · have h := ite_f h q
    refine G.aload_n E dX8_winsByToss_45 rfl 0 rfl ?_
    refine G.iload E dX8_winsByToss_46 4 rfl ?_
    refine G.iload E dX8_winsByToss_48 5 rfl ?_
    obtain ⟨r3, h4, h⟩ := bind_s h
    refine G.retI E (runV (st := []) (As := [.int x4, .int x5]) E (C_X8_trackBehind h4) ck_X8_trackBehind (f537 E.fx) (f539 E.fx) (f16 E.fx) 0 8 rfl rfl rfl (by decide) (by decide) rfl (Nat.le_of_ble_eq_true rfl) dX8_winsByToss_50 ⟨Nat.zero_le _, Nat.zero_le _⟩) ?_
    refine G.istore (lv' := [(6, .int r3), (0, .ref (ad 0)), (1, .int x1), (2, .int x2), (3, .int x3), (4, .int x4), (5, .int x5)]) E dX8_winsByToss_53 (by decide) rfl ?_
    refine G.aload_n E dX8_winsByToss_55 rfl 1 rfl ?_
    refine G.iload E dX8_winsByToss_56 0 rfl ?_
    obtain ⟨r5, h6, h⟩ := bind_s h
    refine G.retI E (runV (st := []) (As := [.int r3]) E (C_X8_tailOf h6) ck_X8_tailOf (f545 E.fx) (f547 E.fx) (f18 E.fx) 0 8 rfl rfl rfl (by decide) (by decide) rfl (Nat.le_of_ble_eq_true rfl) dX8_winsByToss_58 ⟨Nat.zero_le _, Nat.zero_le _⟩) ?_
    refine G.istore (lv' := [(7, .int r5), (6, .int r3), (0, .ref (ad 0)), (1, .int x1), (2, .int x2), (3, .int x3), (4, .int x4), (5, .int x5)]) E dX8_winsByToss_61 (by decide) rfl ?_
    refine G.iload E dX8_winsByToss_63 0 rfl ?_
    refine G.iconst (v := -1) E dX8_winsByToss_65 (by decide) ?_
    refine G.icmp_eq (tgt := 82) E dX8_winsByToss_66 (by decide) (fun q => ?_) (fun q => ?_)
    · have h := ite_t h q
      refine G.sub (lv' := [(0, .ref (ad 0)), (1, .int x1), (2, .int x2), (3, .int x3), (4, .int x4), (5, .int x5), (6, .int r3), (7, .int r5)]) [2, 3, 4, 5, 6, 7, 1, 0] rfl ?_
      exact B_X8_winsByToss_b82 E K rec13 hrec13 rec39 hrec39 σ x1 x2 x3 x4 x5 r3 r5 h
    · have h := ite_f h q
      refine G.iload_n E dX8_winsByToss_69 rfl 4 rfl ?_
      refine G.iload E dX8_winsByToss_70 0 rfl ?_
      obtain ⟨r9, h10, h⟩ := bind_s h
      refine G.retI E (runS (st := []) (As := [.int x2, .int r5]) E (C_X8_has h10) ck_X8_has (f512 E.fx) (f480 E.fx) (by decide) (by decide) rfl (Nat.le_of_ble_eq_true rfl) dX8_winsByToss_72 ⟨Nat.zero_le _, Nat.zero_le _⟩) ?_
      refine G.if_eq (tgt := 82) E dX8_winsByToss_75 (by decide) (fun q => ?_) (fun q => ?_)
      · have h := ite_t h q
        refine G.sub (lv' := [(0, .ref (ad 0)), (1, .int x1), (2, .int x2), (3, .int x3), (4, .int x4), (5, .int x5), (6, .int r3), (7, .int r5)]) [2, 3, 4, 5, 6, 7, 1, 0] rfl ?_
        exact B_X8_winsByToss_b82 E K rec13 hrec13 rec39 hrec39 σ x1 x2 x3 x4 x5 r3 r5 h
      · have h := ite_f h q
        refine G.iconst (v := 1) E dX8_winsByToss_78 (by decide) ?_
        refine G.goto (tgt := 83) E dX8_winsByToss_79 (by decide) ?_
        refine G.sub (lv' := [(0, .ref (ad 0)), (1, .int x1), (2, .int x2), (3, .int x3), (4, .int x4), (5, .int x5), (6, .int r3), (7, .int r5)]) [2, 3, 4, 5, 6, 7, 1, 0] rfl ?_
        exact B_X8_winsByToss_b83 E K rec13 hrec13 rec39 hrec39 σ x1 x2 x3 x4 x5 r3 r5 (1 : Int32) h
noncomputable def D_X8_winsByToss_L39 (rec13 : (ST × Int32 × Int32 × Int32 × Int32) → Option (Int32 × ST)) (σ : ST) (x1 : Int32) (x2 : Int32) (x3 : Int32) (x4 : Int32) (x5 : Int32) : Option (Int32 × ST) := itr (fun (rec39 : (ST × Int32 × Int32 × Int32 × Int32 × Int32) → Option (Int32 × ST)) (a : (ST × Int32 × Int32 × Int32 × Int32 × Int32)) => D_X8_winsByToss_L39_body rec13 rec39 a.1 a.2.1 a.2.2.1 a.2.2.2.1 a.2.2.2.2.1 a.2.2.2.2.2) 200 (σ, x1, x2, x3, x4, x5)
set_option maxRecDepth 100000 in
set_option maxHeartbeats 4000000 in
theorem B_X8_winsByToss_L39 {x : CX} {cy : Nat → ClassId} {ad : Nat → Nat} {r : (Int32 × ST)} (E : Ev x cy cX8_winsByToss RX8 9 1 24) (K : RetI x cX8_winsByToss .int r.1 (wT ad cy r.2)) (rec13 : (ST × Int32 × Int32 × Int32 × Int32) → Option (Int32 × ST)) (hrec13 : ∀ a, rec13 a = some r → G x 0 0 13 [(0, .ref (ad 0)), (1, .int a.2.1), (2, .int a.2.2.1), (3, .int a.2.2.2.1), (4, .int a.2.2.2.2)] [] (wT ad cy a.1)) (σ : ST) (x1 : Int32) (x2 : Int32) (x3 : Int32) (x4 : Int32) (x5 : Int32) (h : D_X8_winsByToss_L39 rec13 σ x1 x2 x3 x4 x5 = some r) : G x 0 0 39 [(0, .ref (ad 0)), (1, .int x1), (2, .int x2), (3, .int x3), (4, .int x4), (5, .int x5)] [] (wT ad cy σ) :=
  itr_ind (P := fun a => G x 0 0 39 [(0, .ref (ad 0)), (1, .int a.2.1), (2, .int a.2.2.1), (3, .int a.2.2.2.1), (4, .int a.2.2.2.2.1), (5, .int a.2.2.2.2.2)] [] (wT ad cy a.1)) (fun rec39 hrec39 a h => B_X8_winsByToss_L39_body E K rec13 hrec13 rec39 hrec39 a.1 a.2.1 a.2.2.1 a.2.2.2.1 a.2.2.2.2.1 a.2.2.2.2.2 h) 200 (σ, x1, x2, x3, x4, x5) h
noncomputable def D_X8_winsByToss_L13_body (rec13 : (ST × Int32 × Int32 × Int32 × Int32) → Option (Int32 × ST)) (σ : ST) (x1 : Int32) (x2 : Int32) (x3 : Int32) (x4 : Int32) : Option (Int32 × ST) := if (32 : Int32) ≤ x4 then (some (x3, σ)) else (if x4 < 0 ∨ 32 ≤ x4.toNatClampNeg then none else (if (gA σ 15 x4.toNatClampNeg) = 0 then (D_X8_winsByToss_b152 rec13 σ x1 x2 x3 x4) else (D_X8_winsByToss_L39 rec13 σ x1 x2 x3 x4 (0 : Int32))))
set_option maxRecDepth 100000 in
set_option maxHeartbeats 4000000 in
theorem B_X8_winsByToss_L13_body {x : CX} {cy : Nat → ClassId} {ad : Nat → Nat} {r : (Int32 × ST)} (E : Ev x cy cX8_winsByToss RX8 9 1 24) (K : RetI x cX8_winsByToss .int r.1 (wT ad cy r.2)) (rec13 : (ST × Int32 × Int32 × Int32 × Int32) → Option (Int32 × ST)) (hrec13 : ∀ a, rec13 a = some r → G x 0 0 13 [(0, .ref (ad 0)), (1, .int a.2.1), (2, .int a.2.2.1), (3, .int a.2.2.2.1), (4, .int a.2.2.2.2)] [] (wT ad cy a.1)) (σ : ST) (x1 : Int32) (x2 : Int32) (x3 : Int32) (x4 : Int32) (h : D_X8_winsByToss_L13_body rec13 σ x1 x2 x3 x4 = some r) : G x 0 0 13 [(0, .ref (ad 0)), (1, .int x1), (2, .int x2), (3, .int x3), (4, .int x4)] [] (wT ad cy σ) := by
  unfold D_X8_winsByToss_L13_body at h
  refine G.iload E dX8_winsByToss_13 4 rfl ?_
  refine G.aload_n E dX8_winsByToss_15 rfl 0 rfl ?_
  refine G.get E inX8 0 rfl rfl 6 (by decide) (f220 E.fx) rfl dX8_winsByToss_16 ?_
  refine G.alen (v := 32) E 33 0 rfl rfl rfl dX8_winsByToss_19 ?_
  refine G.icmp_ge (tgt := 158) E dX8_winsByToss_20 (by decide) (fun q => ?_) (fun q => ?_)
  · have h := ite_t h q
    refine G.iload_n E dX8_winsByToss_158 rfl 3 rfl ?_
    obtain rfl := Option.some.inj h
    exact K rfl _ _ dX8_winsByToss_159
  · have h := ite_f h q
    refine G.aload_n E dX8_winsByToss_23 rfl 0 rfl ?_
    refine G.get E inX8 0 rfl rfl 6 (by decide) (f220 E.fx) rfl dX8_winsByToss_24 ?_
    refine G.iload E dX8_winsByToss_27 4 rfl ?_
    obtain ⟨hg, h⟩ := ite_n h
    refine G.iald E 33 0 rfl rfl hg dX8_winsByToss_29 ?_
    refine G.if_ne (tgt := 36) E dX8_winsByToss_30 (by decide) (fun q => ?_) (fun q => ?_)
    · have h := ite_f h q
      refine G.iconst (v := 0) E dX8_winsByToss_36 (by decide) ?_
      refine G.istore (lv' := [(5, .int (0 : Int32)), (0, .ref (ad 0)), (1, .int x1), (2, .int x2), (3, .int x3), (4, .int x4)]) E dX8_winsByToss_37 (by decide) rfl ?_
      refine G.sub (lv' := [(0, .ref (ad 0)), (1, .int x1), (2, .int x2), (3, .int x3), (4, .int x4), (5, .int (0 : Int32))]) [1, 2, 3, 4, 5, 0] rfl ?_
      exact B_X8_winsByToss_L39 E K rec13 hrec13 σ x1 x2 x3 x4 (0 : Int32) h
    · have h := ite_t h q
      refine G.goto (tgt := 152) E dX8_winsByToss_33 (by decide) ?_
      refine G.sub (lv' := [(0, .ref (ad 0)), (1, .int x1), (2, .int x2), (3, .int x3), (4, .int x4)]) [0, 1, 2, 3, 4] rfl ?_
      exact B_X8_winsByToss_b152 E K rec13 hrec13 σ x1 x2 x3 x4 h
noncomputable def D_X8_winsByToss_L13  (σ : ST) (x1 : Int32) (x2 : Int32) (x3 : Int32) (x4 : Int32) : Option (Int32 × ST) := itr (fun (rec13 : (ST × Int32 × Int32 × Int32 × Int32) → Option (Int32 × ST)) (a : (ST × Int32 × Int32 × Int32 × Int32)) => D_X8_winsByToss_L13_body rec13 a.1 a.2.1 a.2.2.1 a.2.2.2.1 a.2.2.2.2) 200 (σ, x1, x2, x3, x4)
set_option maxRecDepth 100000 in
set_option maxHeartbeats 4000000 in
theorem B_X8_winsByToss_L13 {x : CX} {cy : Nat → ClassId} {ad : Nat → Nat} {r : (Int32 × ST)} (E : Ev x cy cX8_winsByToss RX8 9 1 24) (K : RetI x cX8_winsByToss .int r.1 (wT ad cy r.2))  (σ : ST) (x1 : Int32) (x2 : Int32) (x3 : Int32) (x4 : Int32) (h : D_X8_winsByToss_L13 σ x1 x2 x3 x4 = some r) : G x 0 0 13 [(0, .ref (ad 0)), (1, .int x1), (2, .int x2), (3, .int x3), (4, .int x4)] [] (wT ad cy σ) :=
  itr_ind (P := fun a => G x 0 0 13 [(0, .ref (ad 0)), (1, .int a.2.1), (2, .int a.2.2.1), (3, .int a.2.2.2.1), (4, .int a.2.2.2.2)] [] (wT ad cy a.1)) (fun rec13 hrec13 a h => B_X8_winsByToss_L13_body E K rec13 hrec13 a.1 a.2.1 a.2.2.1 a.2.2.2.1 a.2.2.2.2 h) 200 (σ, x1, x2, x3, x4) h
noncomputable def D_X8_winsByToss (σ : ST) (p1 : Int32) (p2 : Int32) : Option (Int32 × ST) := (D_J7_fill_53178_34 σ (0 : Int32)).bind fun r1 => D_X8_winsByToss_L13 r1 p1 p2 (0 : Int32) (1 : Int32)
set_option maxRecDepth 100000 in
set_option maxHeartbeats 4000000 in
theorem B_X8_winsByToss {x : CX} {cy : Nat → ClassId} {ad : Nat → Nat} {r : (Int32 × ST)} (E : Ev x cy cX8_winsByToss RX8 9 1 24) (K : RetI x cX8_winsByToss .int r.1 (wT ad cy r.2)) (σ : ST) (p1 : Int32) (p2 : Int32) (h : D_X8_winsByToss σ p1 p2 = some r) : G x 0 0 0 [(0, .ref (ad 0)), (1, .int p1), (2, .int p2)] [] (wT ad cy σ) := by
  unfold D_X8_winsByToss at h
  refine G.aload_n E dX8_winsByToss_0 rfl 0 rfl ?_
  refine G.get E inX8 0 rfl rfl 7 (by decide) (f221 E.fx) rfl dX8_winsByToss_1 ?_
  refine G.iconst (v := 0) E dX8_winsByToss_4 (by decide) ?_
  obtain ⟨r1, h2, h⟩ := bind_s h
  refine G.retV E (runS (st := []) (As := [.ref (ad 34), .int (0 : Int32)]) E (C_J7_fill_53178_34 h2) ck_J7_fill_53178 (f620 E.fx) (f402 E.fx) (by decide) (by decide) rfl (Nat.le_of_ble_eq_true rfl) dX8_winsByToss_5 ⟨Nat.zero_le _, Nat.zero_le _⟩) ?_
  refine G.iconst (v := 0) E dX8_winsByToss_8 (by decide) ?_
  refine G.istore_n (lv' := [(3, .int (0 : Int32)), (0, .ref (ad 0)), (1, .int p1), (2, .int p2)]) E dX8_winsByToss_9 rfl (by decide) rfl ?_
  refine G.iconst (v := 1) E dX8_winsByToss_10 (by decide) ?_
  refine G.istore (lv' := [(4, .int (1 : Int32)), (3, .int (0 : Int32)), (0, .ref (ad 0)), (1, .int p1), (2, .int p2)]) E dX8_winsByToss_11 (by decide) rfl ?_
  refine G.sub (lv' := [(0, .ref (ad 0)), (1, .int p1), (2, .int p2), (3, .int (0 : Int32)), (4, .int (1 : Int32))]) [2, 3, 4, 1, 0] rfl ?_
  exact B_X8_winsByToss_L13 E K r1 p1 p2 (0 : Int32) (1 : Int32) h
set_option maxRecDepth 100000 in
set_option maxHeartbeats 4000000 in
theorem C_X8_winsByToss {l : Launch} {D : va_G} {cy : Nat → ClassId} {ad : Nat → Nat} {σ : ST} {p1 : Int32} {p2 : Int32} {r : (Int32 × ST)} (h : D_X8_winsByToss σ p1 p2 = some r) : MI l yX8_winsByToss cX8_winsByToss 9 (some .int) 1 24 D cy (wT ad cy σ) [.ref (ad 0), .int p1, .int p2] r.1 (wT ad cy r.2) :=
  MI.mk (lv := [(0, .ref (ad 0)), (1, .int p1), (2, .int p2)]) (by decide) (Nat.le_of_ble_eq_true rfl) rfl (fun x _ _ E K => B_X8_winsByToss E K σ p1 p2 h)

noncomputable def D_X8_waysToWin_L90_body (rec90 : (ST × Int32 × Int32 × Int32 × Int32 × Int32) → Option (Int32 × ST)) (σ : ST) (x2 : Int32) (x3 : Int32) (x4 : Int32) (x5 : Int32) (x6 : Int32) : Option (Int32 × ST) := if x2 ≤ x6 then (some (x5, σ)) else ((D_X8_winsByToss σ x3 x4).bind fun r5 => rec90 ((pF r5.2 15 (va_cpy (gA r5.2 16) (gA r5.2 15) (0 : Int32).toNatClampNeg (0 : Int32).toNatClampNeg (32 : Int32).toNatClampNeg)), x2, x3, x4, (((2 : Int32) * x5) + r5.1), (x6 + 1)))
set_option maxRecDepth 100000 in
set_option maxHeartbeats 4000000 in
theorem B_X8_waysToWin_L90_body {x : CX} {cy : Nat → ClassId} {ad : Nat → Nat} {r : (Int32 × ST)} (E : Ev x cy cX8_waysToWin RX8 7 5 141) (K : RetI x cX8_waysToWin .int r.1 (wT ad cy r.2)) (rec90 : (ST × Int32 × Int32 × Int32 × Int32 × Int32) → Option (Int32 × ST)) (hrec90 : ∀ a, rec90 a = some r → G x 0 0 90 [(0, .ref (ad 0)), (2, .int a.2.1), (3, .int a.2.2.1), (4, .int a.2.2.2.1), (5, .int a.2.2.2.2.1), (6, .int a.2.2.2.2.2)] [] (wT ad cy a.1)) (σ : ST) (x2 : Int32) (x3 : Int32) (x4 : Int32) (x5 : Int32) (x6 : Int32) (h : D_X8_waysToWin_L90_body rec90 σ x2 x3 x4 x5 x6 = some r) : G x 0 0 90 [(0, .ref (ad 0)), (2, .int x2), (3, .int x3), (4, .int x4), (5, .int x5), (6, .int x6)] [] (wT ad cy σ) := by
  unfold D_X8_waysToWin_L90_body at h
  refine G.iload E dX8_waysToWin_90 5 rfl ?_
  refine G.iload_n E dX8_waysToWin_92 rfl 1 rfl ?_
  refine G.icmp_ge (tgt := 131) E dX8_waysToWin_93 (by decide) (fun q => ?_) (fun q => ?_)
  · have h := ite_t h q
    refine G.iload E dX8_waysToWin_131 4 rfl ?_
    obtain rfl := Option.some.inj h
    exact K rfl _ _ dX8_waysToWin_133
  · have h := ite_f h q
    refine G.iconst (v := 2) E dX8_waysToWin_96 (by decide) ?_
    refine G.iload E dX8_waysToWin_97 4 rfl ?_
    refine G.imul E dX8_waysToWin_99 ?_
    refine G.aload_n E dX8_waysToWin_100 rfl 0 rfl ?_
    refine G.iload_n E dX8_waysToWin_101 rfl 2 rfl ?_
    refine G.iload E dX8_waysToWin_102 3 rfl ?_
    obtain ⟨r5, h6, h⟩ := bind_s h
    refine G.retI E (runV (st := [.int ((2 : Int32) * x5)]) (As := [.int x3, .int x4]) E (C_X8_winsByToss h6) ck_X8_winsByToss (f621 E.fx) (f623 E.fx) (f24 E.fx) 0 8 rfl rfl rfl (by decide) (by decide) rfl (Nat.le_of_ble_eq_true rfl) dX8_waysToWin_104 ⟨Nat.zero_le _, Nat.zero_le _⟩) ?_
    refine G.iadd E dX8_waysToWin_107 ?_
    refine G.istore (lv' := [(5, .int (((2 : Int32) * x5) + r5.1)), (0, .ref (ad 0)), (2, .int x2), (3, .int x3), (4, .int x4), (6, .int x6)]) E dX8_waysToWin_108 (by decide) rfl ?_
    refine G.aload_n E dX8_waysToWin_110 rfl 1 rfl ?_
    refine G.get E inX8 0 rfl rfl 7 (by decide) (f221 E.fx) rfl dX8_waysToWin_111 ?_
    refine G.iconst (v := 0) E dX8_waysToWin_114 (by decide) ?_
    refine G.aload_n E dX8_waysToWin_115 rfl 1 rfl ?_
    refine G.get E inX8 0 rfl rfl 6 (by decide) (f220 E.fx) rfl dX8_waysToWin_116 ?_
    refine G.iconst (v := 0) E dX8_waysToWin_119 (by decide) ?_
    refine G.bipush (v := 32) E dX8_waysToWin_120 (by decide) ?_
    refine G.copyi (ws' := (wT ad cy (pF r5.2 15 (va_cpy (gA r5.2 16) (gA r5.2 15) (0 : Int32).toNatClampNeg (0 : Int32).toNatClampNeg (32 : Int32).toNatClampNeg)))) E (f625 E.fx) (f627 E.fx) (f626 E.fx) (f87 E.fx) 34 33 rfl rfl (by decide) (by decide) (by decide) (by decide) (by decide) (by decide) (by decide) (Nat.le_of_ble_eq_true rfl) dX8_waysToWin_122 rfl ?_
    refine G.iinc (w := x6 + 1) (lv' := [(6, .int (x6 + 1)), (5, .int (((2 : Int32) * x5) + r5.1)), (0, .ref (ad 0)), (2, .int x2), (3, .int x3), (4, .int x4)]) E dX8_waysToWin_125 5 rfl rfl (by decide) rfl ?_
    refine G.goto (tgt := 90) E dX8_waysToWin_128 (by decide) ?_
    refine G.sub (lv' := [(0, .ref (ad 0)), (2, .int x2), (3, .int x3), (4, .int x4), (5, .int (((2 : Int32) * x5) + r5.1)), (6, .int (x6 + 1))]) [2, 3, 4, 5, 1, 0] rfl ?_
    exact hrec90 ((pF r5.2 15 (va_cpy (gA r5.2 16) (gA r5.2 15) (0 : Int32).toNatClampNeg (0 : Int32).toNatClampNeg (32 : Int32).toNatClampNeg)), x2, x3, x4, (((2 : Int32) * x5) + r5.1), (x6 + 1)) h
noncomputable def D_X8_waysToWin_L90  (σ : ST) (x2 : Int32) (x3 : Int32) (x4 : Int32) (x5 : Int32) (x6 : Int32) : Option (Int32 × ST) := itr (fun (rec90 : (ST × Int32 × Int32 × Int32 × Int32 × Int32) → Option (Int32 × ST)) (a : (ST × Int32 × Int32 × Int32 × Int32 × Int32)) => D_X8_waysToWin_L90_body rec90 a.1 a.2.1 a.2.2.1 a.2.2.2.1 a.2.2.2.2.1 a.2.2.2.2.2) 200 (σ, x2, x3, x4, x5, x6)
set_option maxRecDepth 100000 in
set_option maxHeartbeats 4000000 in
theorem B_X8_waysToWin_L90 {x : CX} {cy : Nat → ClassId} {ad : Nat → Nat} {r : (Int32 × ST)} (E : Ev x cy cX8_waysToWin RX8 7 5 141) (K : RetI x cX8_waysToWin .int r.1 (wT ad cy r.2))  (σ : ST) (x2 : Int32) (x3 : Int32) (x4 : Int32) (x5 : Int32) (x6 : Int32) (h : D_X8_waysToWin_L90 σ x2 x3 x4 x5 x6 = some r) : G x 0 0 90 [(0, .ref (ad 0)), (2, .int x2), (3, .int x3), (4, .int x4), (5, .int x5), (6, .int x6)] [] (wT ad cy σ) :=
  itr_ind (P := fun a => G x 0 0 90 [(0, .ref (ad 0)), (2, .int a.2.1), (3, .int a.2.2.1), (4, .int a.2.2.2.1), (5, .int a.2.2.2.2.1), (6, .int a.2.2.2.2.2)] [] (wT ad cy a.1)) (fun rec90 hrec90 a h => B_X8_waysToWin_L90_body E K rec90 hrec90 a.1 a.2.1 a.2.2.1 a.2.2.2.1 a.2.2.2.2.1 a.2.2.2.2.2 h) 200 (σ, x2, x3, x4, x5, x6) h
noncomputable def D_X8_waysToWin_b84  (σ : ST) (x2 : Int32) (x3 : Int32) (x4 : Int32) : Option (Int32 × ST) := D_X8_waysToWin_L90 σ x2 x3 x4 (0 : Int32) (0 : Int32)
set_option maxRecDepth 100000 in
set_option maxHeartbeats 4000000 in
theorem B_X8_waysToWin_b84 {x : CX} {cy : Nat → ClassId} {ad : Nat → Nat} {r : (Int32 × ST)} (E : Ev x cy cX8_waysToWin RX8 7 5 141) (K : RetI x cX8_waysToWin .int r.1 (wT ad cy r.2))  (σ : ST) (x2 : Int32) (x3 : Int32) (x4 : Int32) (h : D_X8_waysToWin_b84 σ x2 x3 x4 = some r) : G x 0 0 84 [(0, .ref (ad 0)), (2, .int x2), (3, .int x3), (4, .int x4)] [] (wT ad cy σ) := by
  unfold D_X8_waysToWin_b84 at h
  refine G.iconst (v := 0) E dX8_waysToWin_84 (by decide) ?_
  refine G.istore (lv' := [(5, .int (0 : Int32)), (0, .ref (ad 0)), (2, .int x2), (3, .int x3), (4, .int x4)]) E dX8_waysToWin_85 (by decide) rfl ?_
  refine G.iconst (v := 0) E dX8_waysToWin_87 (by decide) ?_
  refine G.istore (lv' := [(6, .int (0 : Int32)), (5, .int (0 : Int32)), (0, .ref (ad 0)), (2, .int x2), (3, .int x3), (4, .int x4)]) E dX8_waysToWin_88 (by decide) rfl ?_
  refine G.sub (lv' := [(0, .ref (ad 0)), (2, .int x2), (3, .int x3), (4, .int x4), (5, .int (0 : Int32)), (6, .int (0 : Int32))]) [2, 3, 4, 5, 1, 0] rfl ?_
  exact B_X8_waysToWin_L90 E K σ x2 x3 x4 (0 : Int32) (0 : Int32) h
noncomputable def D_X8_waysToWin_L12_body (rec12 : (ST × Int32 × Int32 × Int32 × Int32) → Option (Int32 × ST)) (σ : ST) (x2 : Int32) (x3 : Int32) (x4 : Int32) (x5 : Int32) : Option (Int32 × ST) := if (gI σ 1) ≤ x5 then ((D_J7_fill_53178_33 σ (0 : Int32)).bind fun r3 => if (gI r3 8) < 0 then (D_X8_waysToWin_b84 r3 x2 x3 x4) else (if (32 : Int32) ≤ (gI r3 8) then (D_X8_waysToWin_b84 r3 x2 x3 x4) else (if (gI r3 8) < 0 ∨ 32 ≤ (gI r3 8).toNatClampNeg then none else (D_X8_waysToWin_b84 (pA r3 15 (gI r3 8).toNatClampNeg (1 : Int32)) x2 x3 x4)))) else ((D_X8_rowsHitBy σ x5).bind fun r7 => rec12 (σ, x2, x3, (x4 ||| r7), (x5 + 1)))
set_option maxRecDepth 100000 in
set_option maxHeartbeats 4000000 in
theorem B_X8_waysToWin_L12_body {x : CX} {cy : Nat → ClassId} {ad : Nat → Nat} {r : (Int32 × ST)} (E : Ev x cy cX8_waysToWin RX8 7 5 141) (K : RetI x cX8_waysToWin .int r.1 (wT ad cy r.2)) (rec12 : (ST × Int32 × Int32 × Int32 × Int32) → Option (Int32 × ST)) (hrec12 : ∀ a, rec12 a = some r → G x 0 0 12 [(0, .ref (ad 0)), (2, .int a.2.1), (3, .int a.2.2.1), (4, .int a.2.2.2.1), (5, .int a.2.2.2.2)] [] (wT ad cy a.1)) (σ : ST) (x2 : Int32) (x3 : Int32) (x4 : Int32) (x5 : Int32) (h : D_X8_waysToWin_L12_body rec12 σ x2 x3 x4 x5 = some r) : G x 0 0 12 [(0, .ref (ad 0)), (2, .int x2), (3, .int x3), (4, .int x4), (5, .int x5)] [] (wT ad cy σ) := by
  unfold D_X8_waysToWin_L12_body at h
  refine G.iload E dX8_waysToWin_12 4 rfl ?_
  refine G.aload_n E dX8_waysToWin_14 rfl 0 rfl ?_
  refine G.get E inX8 0 rfl rfl 9 (by decide) (f223 E.fx) rfl dX8_waysToWin_15 ?_
  refine G.icmp_ge (tgt := 38) E dX8_waysToWin_18 (by decide) (fun q => ?_) (fun q => ?_)
  · have h := ite_t h q
    refine G.aload_n E dX8_waysToWin_38 rfl 0 rfl ?_
    refine G.get E inX8 0 rfl rfl 6 (by decide) (f220 E.fx) rfl dX8_waysToWin_39 ?_
    refine G.iconst (v := 0) E dX8_waysToWin_42 (by decide) ?_
    obtain ⟨r3, h4, h⟩ := bind_s h
    refine G.retV E (runS (st := []) (As := [.ref (ad 33), .int (0 : Int32)]) E (C_J7_fill_53178_33 h4) ck_J7_fill_53178 (f620 E.fx) (f402 E.fx) (by decide) (by decide) rfl (Nat.le_of_ble_eq_true rfl) dX8_waysToWin_43 ⟨Nat.zero_le _, Nat.zero_le _⟩) ?_
    refine G.aload_n E dX8_waysToWin_46 rfl 0 rfl ?_
    refine G.get E inX8 0 rfl rfl 1 (by decide) (f215 E.fx) rfl dX8_waysToWin_47 ?_
    refine G.getN E inX1 3 rfl rfl 9 (by decide) (f135 E.fx) rfl dX8_waysToWin_50 ?_
    refine G.if_lt (tgt := 84) E dX8_waysToWin_53 (by decide) (fun q => ?_) (fun q => ?_)
    · have h := ite_t h q
      refine G.sub (lv' := [(0, .ref (ad 0)), (2, .int x2), (3, .int x3), (4, .int x4)]) [0, 1, 2, 3] rfl ?_
      exact B_X8_waysToWin_b84 E K r3 x2 x3 x4 h
    · have h := ite_f h q
      refine G.aload_n E dX8_waysToWin_56 rfl 0 rfl ?_
      refine G.get E inX8 0 rfl rfl 1 (by decide) (f215 E.fx) rfl dX8_waysToWin_57 ?_
      refine G.getN E inX1 3 rfl rfl 9 (by decide) (f135 E.fx) rfl dX8_waysToWin_60 ?_
      refine G.aload_n E dX8_waysToWin_63 rfl 0 rfl ?_
      refine G.get E inX8 0 rfl rfl 6 (by decide) (f220 E.fx) rfl dX8_waysToWin_64 ?_
      refine G.alen (v := 32) E 33 0 rfl rfl rfl dX8_waysToWin_67 ?_
      refine G.icmp_ge (tgt := 84) E dX8_waysToWin_68 (by decide) (fun q => ?_) (fun q => ?_)
      · have h := ite_t h q
        refine G.sub (lv' := [(0, .ref (ad 0)), (2, .int x2), (3, .int x3), (4, .int x4)]) [0, 1, 2, 3] rfl ?_
        exact B_X8_waysToWin_b84 E K r3 x2 x3 x4 h
      · have h := ite_f h q
        refine G.aload_n E dX8_waysToWin_71 rfl 0 rfl ?_
        refine G.get E inX8 0 rfl rfl 6 (by decide) (f220 E.fx) rfl dX8_waysToWin_72 ?_
        refine G.aload_n E dX8_waysToWin_75 rfl 0 rfl ?_
        refine G.get E inX8 0 rfl rfl 1 (by decide) (f215 E.fx) rfl dX8_waysToWin_76 ?_
        refine G.getN E inX1 3 rfl rfl 9 (by decide) (f135 E.fx) rfl dX8_waysToWin_79 ?_
        refine G.iconst (v := 1) E dX8_waysToWin_82 (by decide) ?_
        obtain ⟨hg, h⟩ := ite_n h
        refine G.iast (ws' := (wT ad cy (pA r3 15 (gI r3 8).toNatClampNeg (1 : Int32)))) E 33 0 rfl rfl hg dX8_waysToWin_83 (wT_aI15 ad cy _ _ _) ?_
        refine G.sub (lv' := [(0, .ref (ad 0)), (2, .int x2), (3, .int x3), (4, .int x4)]) [0, 1, 2, 3] rfl ?_
        exact B_X8_waysToWin_b84 E K (pA r3 15 (gI r3 8).toNatClampNeg (1 : Int32)) x2 x3 x4 h
  · have h := ite_f h q
    refine G.iload E dX8_waysToWin_21 3 rfl ?_
    refine G.aload_n E dX8_waysToWin_23 rfl 0 rfl ?_
    refine G.iload E dX8_waysToWin_24 4 rfl ?_
    obtain ⟨r7, h8, h⟩ := bind_s h
    refine G.retI E (runV (st := [.int x4]) (As := [.int x5]) E (C_X8_rowsHitBy h8) ck_X8_rowsHitBy (f429 E.fx) (f431 E.fx) (f4 E.fx) 0 8 rfl rfl rfl (by decide) (by decide) rfl (Nat.le_of_ble_eq_true rfl) dX8_waysToWin_26 ⟨Nat.zero_le _, Nat.zero_le _⟩) ?_
    refine G.ior E dX8_waysToWin_29 ?_
    refine G.istore (lv' := [(4, .int (x4 ||| r7)), (0, .ref (ad 0)), (2, .int x2), (3, .int x3), (5, .int x5)]) E dX8_waysToWin_30 (by decide) rfl ?_
    refine G.iinc (w := x5 + 1) (lv' := [(5, .int (x5 + 1)), (4, .int (x4 ||| r7)), (0, .ref (ad 0)), (2, .int x2), (3, .int x3)]) E dX8_waysToWin_32 4 rfl rfl (by decide) rfl ?_
    refine G.goto (tgt := 12) E dX8_waysToWin_35 (by decide) ?_
    refine G.sub (lv' := [(0, .ref (ad 0)), (2, .int x2), (3, .int x3), (4, .int (x4 ||| r7)), (5, .int (x5 + 1))]) [2, 3, 4, 1, 0] rfl ?_
    exact hrec12 (σ, x2, x3, (x4 ||| r7), (x5 + 1)) h
noncomputable def D_X8_waysToWin_L12  (σ : ST) (x2 : Int32) (x3 : Int32) (x4 : Int32) (x5 : Int32) : Option (Int32 × ST) := itr (fun (rec12 : (ST × Int32 × Int32 × Int32 × Int32) → Option (Int32 × ST)) (a : (ST × Int32 × Int32 × Int32 × Int32)) => D_X8_waysToWin_L12_body rec12 a.1 a.2.1 a.2.2.1 a.2.2.2.1 a.2.2.2.2) 200 (σ, x2, x3, x4, x5)
set_option maxRecDepth 100000 in
set_option maxHeartbeats 4000000 in
theorem B_X8_waysToWin_L12 {x : CX} {cy : Nat → ClassId} {ad : Nat → Nat} {r : (Int32 × ST)} (E : Ev x cy cX8_waysToWin RX8 7 5 141) (K : RetI x cX8_waysToWin .int r.1 (wT ad cy r.2))  (σ : ST) (x2 : Int32) (x3 : Int32) (x4 : Int32) (x5 : Int32) (h : D_X8_waysToWin_L12 σ x2 x3 x4 x5 = some r) : G x 0 0 12 [(0, .ref (ad 0)), (2, .int x2), (3, .int x3), (4, .int x4), (5, .int x5)] [] (wT ad cy σ) :=
  itr_ind (P := fun a => G x 0 0 12 [(0, .ref (ad 0)), (2, .int a.2.1), (3, .int a.2.2.1), (4, .int a.2.2.2.1), (5, .int a.2.2.2.2)] [] (wT ad cy a.1)) (fun rec12 hrec12 a h => B_X8_waysToWin_L12_body E K rec12 hrec12 a.1 a.2.1 a.2.2.1 a.2.2.2.1 a.2.2.2.2 h) 200 (σ, x2, x3, x4, x5) h
noncomputable def D_X8_waysToWin (σ : ST) (p1 : Int32) (p2 : Int32) : Option (Int32 × ST) := (D_X8_rowsHitBy σ p1).bind fun r1 => D_X8_waysToWin_L12 σ p2 r1 (0 : Int32) (0 : Int32)
set_option maxRecDepth 100000 in
set_option maxHeartbeats 4000000 in
theorem B_X8_waysToWin {x : CX} {cy : Nat → ClassId} {ad : Nat → Nat} {r : (Int32 × ST)} (E : Ev x cy cX8_waysToWin RX8 7 5 141) (K : RetI x cX8_waysToWin .int r.1 (wT ad cy r.2)) (σ : ST) (p1 : Int32) (p2 : Int32) (h : D_X8_waysToWin σ p1 p2 = some r) : G x 0 0 0 [(0, .ref (ad 0)), (1, .int p1), (2, .int p2)] [] (wT ad cy σ) := by
  unfold D_X8_waysToWin at h
  refine G.aload_n E dX8_waysToWin_0 rfl 0 rfl ?_
  refine G.iload_n E dX8_waysToWin_1 rfl 1 rfl ?_
  obtain ⟨r1, h2, h⟩ := bind_s h
  refine G.retI E (runV (st := []) (As := [.int p1]) E (C_X8_rowsHitBy h2) ck_X8_rowsHitBy (f429 E.fx) (f431 E.fx) (f4 E.fx) 0 8 rfl rfl rfl (by decide) (by decide) rfl (Nat.le_of_ble_eq_true rfl) dX8_waysToWin_2 ⟨Nat.zero_le _, Nat.zero_le _⟩) ?_
  refine G.istore_n (lv' := [(3, .int r1), (0, .ref (ad 0)), (1, .int p1), (2, .int p2)]) E dX8_waysToWin_5 rfl (by decide) rfl ?_
  refine G.iconst (v := 0) E dX8_waysToWin_6 (by decide) ?_
  refine G.istore (lv' := [(4, .int (0 : Int32)), (3, .int r1), (0, .ref (ad 0)), (1, .int p1), (2, .int p2)]) E dX8_waysToWin_7 (by decide) rfl ?_
  refine G.iconst (v := 0) E dX8_waysToWin_9 (by decide) ?_
  refine G.istore (lv' := [(5, .int (0 : Int32)), (4, .int (0 : Int32)), (3, .int r1), (0, .ref (ad 0)), (1, .int p1), (2, .int p2)]) E dX8_waysToWin_10 (by decide) rfl ?_
  refine G.sub (lv' := [(0, .ref (ad 0)), (2, .int p2), (3, .int r1), (4, .int (0 : Int32)), (5, .int (0 : Int32))]) [3, 5, 2, 1, 0] rfl ?_
  exact B_X8_waysToWin_L12 E K σ p2 r1 (0 : Int32) (0 : Int32) h
set_option maxRecDepth 100000 in
set_option maxHeartbeats 4000000 in
theorem C_X8_waysToWin {l : Launch} {D : va_G} {cy : Nat → ClassId} {ad : Nat → Nat} {σ : ST} {p1 : Int32} {p2 : Int32} {r : (Int32 × ST)} (h : D_X8_waysToWin σ p1 p2 = some r) : MI l yX8_waysToWin cX8_waysToWin 7 (some .int) 5 141 D cy (wT ad cy σ) [.ref (ad 0), .int p1, .int p2] r.1 (wT ad cy r.2) :=
  MI.mk (lv := [(0, .ref (ad 0)), (1, .int p1), (2, .int p2)]) (by decide) (Nat.le_of_ble_eq_true rfl) rfl (fun x _ _ E K => B_X8_waysToWin E K σ p1 p2 h)
