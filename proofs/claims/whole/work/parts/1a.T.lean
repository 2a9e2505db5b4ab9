noncomputable def D_X5_isFull (σ : ST)  : Option Int32 := if (gI σ 4) < (28 : Int32) then (some (0 : Int32)) else (some (1 : Int32))
set_option maxRecDepth 100000 in
set_option maxHeartbeats 4000000 in
theorem B_X5_isFull {x : CX} {cy : Nat → ClassId} {ad : Nat → Nat} {r : Int32} {σ : ST} (E : Ev x cy cX5_isFull RX5 1 0 0) (K : RetI x cX5_isFull .boolean r (wT ad cy σ))  (h : D_X5_isFull σ = some r) : G x 0 0 0 [(0, .ref (ad 1))] [] (wT ad cy σ) := by
  unfold D_X5_isFull at h
  refine G.aload_n E dX5_isFull_0 rfl 0 rfl ?_
  refine G.get E inX5 1 rfl rfl 1 (by decide) (f103 E.fx) rfl dX5_isFull_1 ?_
  refine G.bipush (v := 28) E dX5_isFull_4 (by decide) ?_
  refine G.icmp_lt (tgt := 13) E dX5_isFull_6 (by decide) (fun q => ?_) (fun q => ?_)
  · have h := ite_t h q
    refine G.iconst (v := 0) E dX5_isFull_13 (by decide) ?_
    obtain rfl := Option.some.inj h
    exact K rfl _ _ dX5_isFull_14
  · have h := ite_f h q
    refine G.iconst (v := 1) E dX5_isFull_9 (by decide) ?_
    refine G.goto (tgt := 14) E dX5_isFull_10 (by decide) ?_
    obtain rfl := Option.some.inj h
    exact K rfl _ _ dX5_isFull_14
set_option maxRecDepth 100000 in
set_option maxHeartbeats 4000000 in
theorem C_X5_isFull {l : Launch} {D : va_G} {cy : Nat → ClassId} {ad : Nat → Nat} {σ : ST}  {r : Int32} (h : D_X5_isFull σ = some r) : MI l yX5_isFull cX5_isFull 1 (some .boolean) 0 0 D cy (wT ad cy σ) [.ref (ad 1)] r (wT ad cy σ) :=
  MI.mk (lv := [(0, .ref (ad 1))]) (by decide) (Nat.le_of_ble_eq_true rfl) rfl (fun x _ _ E K => B_X5_isFull E K  h)

noncomputable def D_X5_append (σ : ST) (p1 : Int32) : Option ST := if (28 : Int32) ≤ (gI σ 4) then (some σ) else (if (gI σ 4) < 0 ∨ 28 ≤ (gI σ 4).toNatClampNeg then none else (some (pI (pA σ 0 (gI σ 4).toNatClampNeg (vp_nar .char p1)) 4 ((gI (pA σ 0 (gI σ 4).toNatClampNeg (vp_nar .char p1)) 4) + (1 : Int32)))))
set_option maxRecDepth 100000 in
set_option maxHeartbeats 4000000 in
theorem B_X5_append {x : CX} {cy : Nat → ClassId} {ad : Nat → Nat} {r : ST} (E : Ev x cy cX5_append RX5 2 0 0) (K : RetV x cX5_append (wT ad cy r)) (σ : ST) (p1 : Int32) (h : D_X5_append σ p1 = some r) : G x 0 0 0 [(0, .ref (ad 1)), (1, .int p1)] [] (wT ad cy σ) := by
  unfold D_X5_append at h
  refine G.aload_n E dX5_append_0 rfl 0 rfl ?_
  refine G.get E inX5 1 rfl rfl 1 (by decide) (f103 E.fx) rfl dX5_append_1 ?_
  refine G.bipush (v := 28) E dX5_append_4 (by decide) ?_
  refine G.icmp_ge (tgt := 29) E dX5_append_6 (by decide) (fun q => ?_) (fun q => ?_)
  · have h := ite_t h q
    obtain rfl := Option.some.inj h
    exact K _ _ dX5_append_29
  · have h := ite_f h q
    refine G.aload_n E dX5_append_9 rfl 0 rfl ?_
    refine G.get E inX5 1 rfl rfl 0 (by decide) (f102 E.fx) rfl dX5_append_10 ?_
    refine G.aload_n E dX5_append_13 rfl 0 rfl ?_
    refine G.get E inX5 1 rfl rfl 1 (by decide) (f103 E.fx) rfl dX5_append_14 ?_
    refine G.iload_n E dX5_append_17 rfl 1 rfl ?_
    obtain ⟨hg, h⟩ := ite_n h
    refine G.cast (ws' := (wT ad cy (pA σ 0 (gI σ 4).toNatClampNeg (vp_nar .char p1)))) E 2 1 rfl rfl hg dX5_append_18 (wT_aI0 ad cy _ _ _) ?_
    refine G.aload_n E dX5_append_19 rfl 0 rfl ?_
    refine G.dup E dX5_append_20 rfl ?_
    refine G.get E inX5 1 rfl rfl 1 (by decide) (f103 E.fx) rfl dX5_append_21 ?_
    refine G.iconst (v := 1) E dX5_append_24 (by decide) ?_
    refine G.iadd E dX5_append_25 ?_
    refine G.put (ws' := (wT ad cy (pI (pA σ 0 (gI σ 4).toNatClampNeg (vp_nar .char p1)) 4 ((gI (pA σ 0 (gI σ 4).toNatClampNeg (vp_nar .char p1)) 4) + (1 : Int32))))) E inX5 tyX5 tyX5_ok nmX5 1 rfl rfl 1 (by decide) (f103 E.fx) rfl rfl rfl rfl (Nat.le_of_ble_eq_true rfl) dX5_append_26 (wT_fI4 ad cy _ _) ?_
    obtain rfl := Option.some.inj h
    exact K _ _ dX5_append_29
set_option maxRecDepth 100000 in
set_option maxHeartbeats 4000000 in
theorem C_X5_append {l : Launch} {D : va_G} {cy : Nat → ClassId} {ad : Nat → Nat} {σ : ST} {p1 : Int32} {r : ST} (h : D_X5_append σ p1 = some r) : MV l yX5_append cX5_append 2 none 0 0 D cy (wT ad cy σ) [.ref (ad 1), .int p1]  (wT ad cy r) :=
  MV.mk (lv := [(0, .ref (ad 1)), (1, .int p1)]) (by decide) (Nat.le_of_ble_eq_true rfl) rfl (fun x _ _ E K => B_X5_append E K σ p1 h)

noncomputable def D_X5_length (σ : ST)  : Option Int32 := some (gI σ 4)
set_option maxRecDepth 100000 in
set_option maxHeartbeats 4000000 in
theorem B_X5_length {x : CX} {cy : Nat → ClassId} {ad : Nat → Nat} {r : Int32} {σ : ST} (E : Ev x cy cX5_length RX5 1 0 0) (K : RetI x cX5_length .int r (wT ad cy σ))  (h : D_X5_length σ = some r) : G x 0 0 0 [(0, .ref (ad 1))] [] (wT ad cy σ) := by
  unfold D_X5_length at h
  refine G.aload_n E dX5_length_0 rfl 0 rfl ?_
  refine G.get E inX5 1 rfl rfl 1 (by decide) (f103 E.fx) rfl dX5_length_1 ?_
  obtain rfl := Option.some.inj h
  exact K rfl _ _ dX5_length_4
set_option maxRecDepth 100000 in
set_option maxHeartbeats 4000000 in
theorem C_X5_length {l : Launch} {D : va_G} {cy : Nat → ClassId} {ad : Nat → Nat} {σ : ST}  {r : Int32} (h : D_X5_length σ = some r) : MI l yX5_length cX5_length 1 (some .int) 0 0 D cy (wT ad cy σ) [.ref (ad 1)] r (wT ad cy σ) :=
  MI.mk (lv := [(0, .ref (ad 1))]) (by decide) (Nat.le_of_ble_eq_true rfl) rfl (fun x _ _ E K => B_X5_length E K  h)

noncomputable def D_X8_letter (σ : ST) (p1 : Int32) : Option (Int32 × ST) := if p1 < (32 : Int32) then (some ((-102 : Int32), σ)) else (if p1 ≤ (126 : Int32) then ((D_X5_isFull σ).bind fun r1 => if r1 = 0 then ((D_X5_append σ ((p1.toUInt32 % 65536).toInt32)).bind fun r3 => (D_X5_length r3).bind fun r5 => some (r5, r3)) else (some ((-104 : Int32), σ))) else (some ((-102 : Int32), σ)))
set_option maxRecDepth 100000 in
set_option maxHeartbeats 4000000 in
theorem B_X8_letter {x : CX} {cy : Nat → ClassId} {ad : Nat → Nat} {r : (Int32 × ST)} (E : Ev x cy cX8_letter RX8 2 1 21) (K : RetI x cX8_letter .int r.1 (wT ad cy r.2)) (σ : ST) (p1 : Int32) (h : D_X8_letter σ p1 = some r) : G x 0 0 0 [(0, .ref (ad 0)), (1, .int p1)] [] (wT ad cy σ) := by
  unfold D_X8_letter at h
  refine G.iload_n E dX8_letter_0 rfl 1 rfl ?_
  refine G.bipush (v := 32) E dX8_letter_1 (by decide) ?_
  refine G.icmp_lt (tgt := 12) E dX8_letter_3 (by decide) (fun q => ?_) (fun q => ?_)
  · have h := ite_t h q
    refine G.bipush (v := -102) E dX8_letter_12 (by decide) ?_
    obtain rfl := Option.some.inj h
    exact K rfl _ _ dX8_letter_14
  · have h := ite_f h q
    refine G.iload_n E dX8_letter_6 rfl 1 rfl ?_
    refine G.bipush (v := 126) E dX8_letter_7 (by decide) ?_
    refine G.icmp_le (tgt := 15) E dX8_letter_9 (by decide) (fun q => ?_) (fun q => ?_)
    · have h := ite_t h q
      refine G.aload_n E dX8_letter_15 rfl 0 rfl ?_
      refine G.get E inX8 0 rfl rfl 0 (by decide) (f214 E.fx) rfl dX8_letter_16 ?_
      obtain ⟨r1, h2, h⟩ := bind_s h
      refine G.retI E (runV (st := []) (As := []) E (C_X5_isFull h2) ck_X5_isFull (f255 E.fx) (f256 E.fx) (f257 E.fx) 1 5 rfl rfl rfl (by decide) (by decide) rfl (Nat.le_of_ble_eq_true rfl) dX8_letter_19 ⟨Nat.zero_le _, Nat.zero_le _⟩) ?_
      refine G.if_eq (tgt := 28) E dX8_letter_22 (by decide) (fun q => ?_) (fun q => ?_)
      · have h := ite_t h q
        refine G.aload_n E dX8_letter_28 rfl 0 rfl ?_
        refine G.get E inX8 0 rfl rfl 0 (by decide) (f214 E.fx) rfl dX8_letter_29 ?_
        refine G.iload_n E dX8_letter_32 rfl 1 rfl ?_
        refine G.i2c E dX8_letter_33 ?_
        obtain ⟨r3, h4, h⟩ := bind_s h
        refine G.retV E (runV (st := []) (As := [.int ((p1.toUInt32 % 65536).toInt32)]) E (C_X5_append h4) ck_X5_append (f259 E.fx) (f260 E.fx) (f261 E.fx) 1 5 rfl rfl rfl (by decide) (by decide) rfl (Nat.le_of_ble_eq_true rfl) dX8_letter_34 ⟨Nat.zero_le _, Nat.zero_le _⟩) ?_
        refine G.aload_n E dX8_letter_37 rfl 0 rfl ?_
        refine G.get E inX8 0 rfl rfl 0 (by decide) (f214 E.fx) rfl dX8_letter_38 ?_
        obtain ⟨r5, h6, h⟩ := bind_s h
        refine G.retI E (runV (st := []) (As := []) E (C_X5_length h6) ck_X5_length (f263 E.fx) (f264 E.fx) (f265 E.fx) 1 5 rfl rfl rfl (by decide) (by decide) rfl (Nat.le_of_ble_eq_true rfl) dX8_letter_41 ⟨Nat.zero_le _, Nat.zero_le _⟩) ?_
        obtain rfl := Option.some.inj h
        exact K rfl _ _ dX8_letter_44
      · have h := ite_f h q
        refine G.bipush (v := -104) E dX8_letter_25 (by decide) ?_
        obtain rfl := Option.some.inj h
        exact K rfl _ _ dX8_letter_27
    · have h := ite_f h q
      refine G.bipush (v := -102) E dX8_letter_12 (by decide) ?_
      obtain rfl := Option.some.inj h
      exact K rfl _ _ dX8_letter_14
set_option maxRecDepth 100000 in
set_option maxHeartbeats 4000000 in
theorem C_X8_letter {l : Launch} {D : va_G} {cy : Nat → ClassId} {ad : Nat → Nat} {σ : ST} {p1 : Int32} {r : (Int32 × ST)} (h : D_X8_letter σ p1 = some r) : MI l yX8_letter cX8_letter 2 (some .int) 1 21 D cy (wT ad cy σ) [.ref (ad 0), .int p1] r.1 (wT ad cy r.2) :=
  MI.mk (lv := [(0, .ref (ad 0)), (1, .int p1)]) (by decide) (Nat.le_of_ble_eq_true rfl) rfl (fun x _ _ E K => B_X8_letter E K σ p1 h)

noncomputable def D_X5_clear (σ : ST)  : Option ST := some (pI σ 4 (0 : Int32))
set_option maxRecDepth 100000 in
set_option maxHeartbeats 4000000 in
theorem B_X5_clear {x : CX} {cy : Nat → ClassId} {ad : Nat → Nat} {r : ST} (E : Ev x cy cX5_clear RX5 1 0 0) (K : RetV x cX5_clear (wT ad cy r)) (σ : ST)  (h : D_X5_clear σ = some r) : G x 0 0 0 [(0, .ref (ad 1))] [] (wT ad cy σ) := by
  unfold D_X5_clear at h
  refine G.aload_n E dX5_clear_0 rfl 0 rfl ?_
  refine G.iconst (v := 0) E dX5_clear_1 (by decide) ?_
  refine G.put (ws' := (wT ad cy (pI σ 4 (0 : Int32)))) E inX5 tyX5 tyX5_ok nmX5 1 rfl rfl 1 (by decide) (f103 E.fx) rfl rfl rfl rfl (Nat.le_of_ble_eq_true rfl) dX5_clear_2 (wT_fI4 ad cy _ _) ?_
  obtain rfl := Option.some.inj h
  exact K _ _ dX5_clear_5
set_option maxRecDepth 100000 in
set_option maxHeartbeats 4000000 in
theorem C_X5_clear {l : Launch} {D : va_G} {cy : Nat → ClassId} {ad : Nat → Nat} {σ : ST}  {r : ST} (h : D_X5_clear σ = some r) : MV l yX5_clear cX5_clear 1 none 0 0 D cy (wT ad cy σ) [.ref (ad 1)]  (wT ad cy r) :=
  MV.mk (lv := [(0, .ref (ad 1))]) (by decide) (Nat.le_of_ble_eq_true rfl) rfl (fun x _ _ E K => B_X5_clear E K σ h)

noncomputable def D_X8_blank (σ : ST)  : Option (Int32 × ST) := (D_X5_length σ).bind fun r1 => (D_X5_clear σ).bind fun r3 => some (r1, r3)
set_option maxRecDepth 100000 in
set_option maxHeartbeats 4000000 in
theorem B_X8_blank {x : CX} {cy : Nat → ClassId} {ad : Nat → Nat} {r : (Int32 × ST)} (E : Ev x cy cX8_blank RX8 2 1 20) (K : RetI x cX8_blank .int r.1 (wT ad cy r.2)) (σ : ST)  (h : D_X8_blank σ = some r) : G x 0 0 0 [(0, .ref (ad 0))] [] (wT ad cy σ) := by
  unfold D_X8_blank at h
  refine G.aload_n E dX8_blank_0 rfl 0 rfl ?_
  refine G.get E inX8 0 rfl rfl 0 (by decide) (f214 E.fx) rfl dX8_blank_1 ?_
  obtain ⟨r1, h2, h⟩ := bind_s h
  refine G.retI E (runV (st := []) (As := []) E (C_X5_length h2) ck_X5_length (f263 E.fx) (f264 E.fx) (f265 E.fx) 1 5 rfl rfl rfl (by decide) (by decide) rfl (Nat.le_of_ble_eq_true rfl) dX8_blank_4 ⟨Nat.zero_le _, Nat.zero_le _⟩) ?_
  refine G.istore_n (lv' := [(1, .int r1), (0, .ref (ad 0))]) E dX8_blank_7 rfl (by decide) rfl ?_
  refine G.aload_n E dX8_blank_8 rfl 1 rfl ?_
  refine G.get E inX8 0 rfl rfl 0 (by decide) (f214 E.fx) rfl dX8_blank_9 ?_
  obtain ⟨r3, h4, h⟩ := bind_s h
  refine G.retV E (runV (st := []) (As := []) E (C_X5_clear h4) ck_X5_clear (f271 E.fx) (f272 E.fx) (f273 E.fx) 1 5 rfl rfl rfl (by decide) (by decide) rfl (Nat.le_of_ble_eq_true rfl) dX8_blank_12 ⟨Nat.zero_le _, Nat.zero_le _⟩) ?_
  refine G.iload_n E dX8_blank_15 rfl 0 rfl ?_
  obtain rfl := Option.some.inj h
  exact K rfl _ _ dX8_blank_16
set_option maxRecDepth 100000 in
set_option maxHeartbeats 4000000 in
theorem C_X8_blank {l : Launch} {D : va_G} {cy : Nat → ClassId} {ad : Nat → Nat} {σ : ST}  {r : (Int32 × ST)} (h : D_X8_blank σ = some r) : MI l yX8_blank cX8_blank 2 (some .int) 1 20 D cy (wT ad cy σ) [.ref (ad 0)] r.1 (wT ad cy r.2) :=
  MI.mk (lv := [(0, .ref (ad 0))]) (by decide) (Nat.le_of_ble_eq_true rfl) rfl (fun x _ _ E K => B_X8_blank E K σ h)

noncomputable def D_X5_at (σ : ST) (p1 : Int32) : Option Int32 := if p1 < 0 then (some (32 : Int32)) else (if (gI σ 4) ≤ p1 then (some (32 : Int32)) else (if p1 < 0 ∨ 28 ≤ p1.toNatClampNeg then none else (if ¬ vp_nar .char (gA σ 0 p1.toNatClampNeg) = (gA σ 0 p1.toNatClampNeg) then none else (some (gA σ 0 p1.toNatClampNeg)))))
set_option maxRecDepth 100000 in
set_option maxHeartbeats 4000000 in
theorem B_X5_at {x : CX} {cy : Nat → ClassId} {ad : Nat → Nat} {r : Int32} {σ : ST} (E : Ev x cy cX5_at RX5 2 0 0) (K : RetI x cX5_at .char r (wT ad cy σ)) (p1 : Int32) (h : D_X5_at σ p1 = some r) : G x 0 0 0 [(0, .ref (ad 1)), (1, .int p1)] [] (wT ad cy σ) := by
  unfold D_X5_at at h
  refine G.iload_n E dX5_at_0 rfl 1 rfl ?_
  refine G.if_lt (tgt := 21) E dX5_at_1 (by decide) (fun q => ?_) (fun q => ?_)
  · have h := ite_t h q
    refine G.bipush (v := 32) E dX5_at_21 (by decide) ?_
    obtain rfl := Option.some.inj h
    exact K rfl _ _ dX5_at_23
  · have h := ite_f h q
    refine G.iload_n E dX5_at_4 rfl 1 rfl ?_
    refine G.aload_n E dX5_at_5 rfl 0 rfl ?_
    refine G.get E inX5 1 rfl rfl 1 (by decide) (f103 E.fx) rfl dX5_at_6 ?_
    refine G.icmp_ge (tgt := 21) E dX5_at_9 (by decide) (fun q => ?_) (fun q => ?_)
    · have h := ite_t h q
      refine G.bipush (v := 32) E dX5_at_21 (by decide) ?_
      obtain rfl := Option.some.inj h
      exact K rfl _ _ dX5_at_23
    · have h := ite_f h q
      refine G.aload_n E dX5_at_12 rfl 0 rfl ?_
      refine G.get E inX5 1 rfl rfl 0 (by decide) (f102 E.fx) rfl dX5_at_13 ?_
      refine G.iload_n E dX5_at_16 rfl 1 rfl ?_
      obtain ⟨hg, h⟩ := ite_n h
      refine G.cald E 2 1 rfl rfl hg dX5_at_17 ?_
      refine G.goto (tgt := 23) E dX5_at_18 (by decide) ?_
      obtain ⟨hg, h⟩ := ite_n h
      obtain rfl := Option.some.inj h
      exact K (nar_okC (Classical.not_not.mp hg)) _ _ dX5_at_23
set_option maxRecDepth 100000 in
set_option maxHeartbeats 4000000 in
theorem C_X5_at {l : Launch} {D : va_G} {cy : Nat → ClassId} {ad : Nat → Nat} {σ : ST} {p1 : Int32} {r : Int32} (h : D_X5_at σ p1 = some r) : MI l yX5_at cX5_at 2 (some .char) 0 0 D cy (wT ad cy σ) [.ref (ad 1), .int p1] r (wT ad cy σ) :=
  MI.mk (lv := [(0, .ref (ad 1)), (1, .int p1)]) (by decide) (Nat.le_of_ble_eq_true rfl) rfl (fun x _ _ E K => B_X5_at E K p1 h)

noncomputable def D_X5_size (σ : ST)  : Option Int32 := (D_X5_at σ (0 : Int32)).bind fun r1 => if (r1 - (48 : Int32)) < (2 : Int32) then (some (0 : Int32)) else (if (4 : Int32) < (r1 - (48 : Int32)) then (some (0 : Int32)) else (some (r1 - (48 : Int32))))
set_option maxRecDepth 100000 in
set_option maxHeartbeats 4000000 in
theorem B_X5_size {x : CX} {cy : Nat → ClassId} {ad : Nat → Nat} {r : Int32} {σ : ST} (E : Ev x cy cX5_size RX5 2 1 21) (K : RetI x cX5_size .int r (wT ad cy σ))  (h : D_X5_size σ = some r) : G x 0 0 0 [(0, .ref (ad 1))] [] (wT ad cy σ) := by
  unfold D_X5_size at h
  refine G.aload_n E dX5_size_0 rfl 0 rfl ?_
  refine G.iconst (v := 0) E dX5_size_1 (by decide) ?_
  obtain ⟨r1, h2, h⟩ := bind_s h
  refine G.retI E (runV (st := []) (As := [.int (0 : Int32)]) E (C_X5_at h2) ck_X5_at (f291 E.fx) (f292 E.fx) (f293 E.fx) 1 5 rfl rfl rfl (by decide) (by decide) rfl (Nat.le_of_ble_eq_true rfl) dX5_size_2 ⟨Nat.zero_le _, Nat.zero_le _⟩) ?_
  refine G.bipush (v := 48) E dX5_size_5 (by decide) ?_
  refine G.isub E dX5_size_7 ?_
  refine G.istore_n (lv' := [(1, .int (r1 - (48 : Int32))), (0, .ref (ad 1))]) E dX5_size_8 rfl (by decide) rfl ?_
  refine G.iload_n E dX5_size_9 rfl 0 rfl ?_
  refine G.iconst (v := 2) E dX5_size_10 (by decide) ?_
  refine G.icmp_lt (tgt := 23) E dX5_size_11 (by decide) (fun q => ?_) (fun q => ?_)
  · have h := ite_t h q
    refine G.iconst (v := 0) E dX5_size_23 (by decide) ?_
    obtain rfl := Option.some.inj h
    exact K rfl _ _ dX5_size_24
  · have h := ite_f h q
    refine G.iload_n E dX5_size_14 rfl 0 rfl ?_
    refine G.iconst (v := 4) E dX5_size_15 (by decide) ?_
    refine G.icmp_gt (tgt := 23) E dX5_size_16 (by decide) (fun q => ?_) (fun q => ?_)
    · have h := ite_t h q
      refine G.iconst (v := 0) E dX5_size_23 (by decide) ?_
      obtain rfl := Option.some.inj h
      exact K rfl _ _ dX5_size_24
    · have h := ite_f h q
      refine G.iload_n E dX5_size_19 rfl 0 rfl ?_
      refine G.goto (tgt := 24) E dX5_size_20 (by decide) ?_
      obtain rfl := Option.some.inj h
      exact K rfl _ _ dX5_size_24
set_option maxRecDepth 100000 in
set_option maxHeartbeats 4000000 in
theorem C_X5_size {l : Launch} {D : va_G} {cy : Nat → ClassId} {ad : Nat → Nat} {σ : ST}  {r : Int32} (h : D_X5_size σ = some r) : MI l yX5_size cX5_size 2 (some .int) 1 21 D cy (wT ad cy σ) [.ref (ad 1)] r (wT ad cy σ) :=
  MI.mk (lv := [(0, .ref (ad 1))]) (by decide) (Nat.le_of_ble_eq_true rfl) rfl (fun x _ _ E K => B_X5_size E K  h)

noncomputable def D_X5_step (σ : ST)  : Option Int32 := (D_X5_size σ).bind fun r1 => some (r1 + (2 : Int32))
set_option maxRecDepth 100000 in
set_option maxHeartbeats 4000000 in
theorem B_X5_step {x : CX} {cy : Nat → ClassId} {ad : Nat → Nat} {r : Int32} {σ : ST} (E : Ev x cy cX5_step RX5 1 2 42) (K : RetI x cX5_step .int r (wT ad cy σ))  (h : D_X5_step σ = some r) : G x 0 0 0 [(0, .ref (ad 1))] [] (wT ad cy σ) := by
  unfold D_X5_step at h
  refine G.aload_n E dX5_step_0 rfl 0 rfl ?_
  obtain ⟨r1, h2, h⟩ := bind_s h
  refine G.retI E (runV (st := []) (As := []) E (C_X5_size h2) ck_X5_size (f287 E.fx) (f288 E.fx) (f289 E.fx) 1 5 rfl rfl rfl (by decide) (by decide) rfl (Nat.le_of_ble_eq_true rfl) dX5_step_1 ⟨Nat.zero_le _, Nat.zero_le _⟩) ?_
  refine G.iconst (v := 2) E dX5_step_4 (by decide) ?_
  refine G.iadd E dX5_step_5 ?_
  obtain rfl := Option.some.inj h
  exact K rfl _ _ dX5_step_6
set_option maxRecDepth 100000 in
set_option maxHeartbeats 4000000 in
theorem C_X5_step {l : Launch} {D : va_G} {cy : Nat → ClassId} {ad : Nat → Nat} {σ : ST}  {r : Int32} (h : D_X5_step σ = some r) : MI l yX5_step cX5_step 1 (some .int) 2 42 D cy (wT ad cy σ) [.ref (ad 1)] r (wT ad cy σ) :=
  MI.mk (lv := [(0, .ref (ad 1))]) (by decide) (Nat.le_of_ble_eq_true rfl) rfl (fun x _ _ E K => B_X5_step E K  h)

noncomputable def D_X5_canStand (σ : ST) (p1 : Int32) : Option Int32 := (D_X5_size σ).bind fun r1 => if r1 = 0 then (some (0 : Int32)) else (if (2 : Int32) ≤ p1 then ((D_X5_step σ).bind fun r3 => if r3 = 0 then none else ((D_X5_step σ).bind fun r5 => if r5 = 0 then none else (if ((p1 - (2 : Int32)) - (p1 - (2 : Int32)) / r5 * r5) = 0 then ((D_X5_at σ p1).bind fun r15 => (D_indexOf r15).bind fun r17 => if r17 < 0 then (some (0 : Int32)) else (some (1 : Int32))) else ((D_X5_size σ).bind fun r7 => if r7 < ((p1 - (2 : Int32)) - (p1 - (2 : Int32)) / r5 * r5) then ((D_X5_at σ p1).bind fun r9 => if r9 = (44 : Int32) then (if (4 : Int32) ≤ (((p1 - (2 : Int32)) / r3) + (1 : Int32)) then (some (0 : Int32)) else (some (1 : Int32))) else (some (0 : Int32))) else ((D_X5_at σ p1).bind fun r11 => if r11 = (104 : Int32) then (some (1 : Int32)) else ((D_X5_at σ p1).bind fun r13 => if r13 = (116 : Int32) then (some (1 : Int32)) else (some (0 : Int32)))))))) else (if p1 = 0 then (some (1 : Int32)) else ((D_X5_at σ p1).bind fun r19 => if r19 = (59 : Int32) then (some (1 : Int32)) else (some (0 : Int32)))))
set_option maxRecDepth 100000 in
set_option maxHeartbeats 4000000 in
theorem B_X5_canStand {x : CX} {cy : Nat → ClassId} {ad : Nat → Nat} {r : Int32} {σ : ST} (E : Ev x cy cX5_canStand RX5 4 8 300) (K : RetI x cX5_canStand .boolean r (wT ad cy σ)) (p1 : Int32) (h : D_X5_canStand σ p1 = some r) : G x 0 0 0 [(0, .ref (ad 1)), (1, .int p1)] [] (wT ad cy σ) := by
  unfold D_X5_canStand at h
  refine G.aload_n E dX5_canStand_0 rfl 0 rfl ?_
  obtain ⟨r1, h2, h⟩ := bind_s h
  refine G.retI E (runV (st := []) (As := []) E (C_X5_size h2) ck_X5_size (f287 E.fx) (f288 E.fx) (f289 E.fx) 1 5 rfl rfl rfl (by decide) (by decide) rfl (Nat.le_of_ble_eq_true rfl) dX5_canStand_1 ⟨Nat.zero_le _, Nat.zero_le _⟩) ?_
  refine G.if_ne (tgt := 9) E dX5_canStand_4 (by decide) (fun q => ?_) (fun q => ?_)
  · have h := ite_f h q
    refine G.iload_n E dX5_canStand_9 rfl 1 rfl ?_
    refine G.iconst (v := 2) E dX5_canStand_10 (by decide) ?_
    refine G.icmp_ge (tgt := 34) E dX5_canStand_11 (by decide) (fun q => ?_) (fun q => ?_)
    · have h := ite_t h q
      refine G.iload_n E dX5_canStand_34 rfl 1 rfl ?_
      refine G.iconst (v := 2) E dX5_canStand_35 (by decide) ?_
      refine G.isub E dX5_canStand_36 ?_
      refine G.aload_n E dX5_canStand_37 rfl 0 rfl ?_
      obtain ⟨r3, h4, h⟩ := bind_s h
      refine G.retI E (runV (st := [.int (p1 - (2 : Int32))]) (As := []) E (C_X5_step h4) ck_X5_step (f295 E.fx) (f297 E.fx) (f1 E.fx) 1 5 rfl rfl rfl (by decide) (by decide) rfl (Nat.le_of_ble_eq_true rfl) dX5_canStand_38 ⟨Nat.zero_le _, Nat.zero_le _⟩) ?_
      obtain ⟨hg, h⟩ := ite_n h
      refine G.idiv E dX5_canStand_41 hg ?_
      refine G.istore_n (lv' := [(2, .int ((p1 - (2 : Int32)) / r3)), (0, .ref (ad 1)), (1, .int p1)]) E dX5_canStand_42 rfl (by decide) rfl ?_
      refine G.iload_n E dX5_canStand_43 rfl 2 rfl ?_
      refine G.iconst (v := 2) E dX5_canStand_44 (by decide) ?_
      refine G.isub E dX5_canStand_45 ?_
      refine G.aload_n E dX5_canStand_46 rfl 1 rfl ?_
      obtain ⟨r5, h6, h⟩ := bind_s h
      refine G.retI E (runV (st := [.int (p1 - (2 : Int32))]) (As := []) E (C_X5_step h6) ck_X5_step (f295 E.fx) (f297 E.fx) (f1 E.fx) 1 5 rfl rfl rfl (by decide) (by decide) rfl (Nat.le_of_ble_eq_true rfl) dX5_canStand_47 ⟨Nat.zero_le _, Nat.zero_le _⟩) ?_
      obtain ⟨hg, h⟩ := ite_n h
      refine G.irem E dX5_canStand_50 hg ?_
      refine G.istore_n (lv' := [(3, .int ((p1 - (2 : Int32)) - (p1 - (2 : Int32)) / r5 * r5)), (2, .int ((p1 - (2 : Int32)) / r3)), (0, .ref (ad 1)), (1, .int p1)]) E dX5_canStand_51 rfl (by decide) rfl ?_
      refine G.iload_n E dX5_canStand_52 rfl 0 rfl ?_
      refine G.if_ne (tgt := 75) E dX5_canStand_53 (by decide) (fun q => ?_) (fun q => ?_)
      · have h := ite_f h q
        refine G.iload_n E dX5_canStand_75 rfl 0 rfl ?_
        refine G.aload_n E dX5_canStand_76 rfl 2 rfl ?_
        obtain ⟨r7, h8, h⟩ := bind_s h
        refine G.retI E (runV (st := [.int ((p1 - (2 : Int32)) - (p1 - (2 : Int32)) / r5 * r5)]) (As := []) E (C_X5_size h8) ck_X5_size (f287 E.fx) (f288 E.fx) (f289 E.fx) 1 5 rfl rfl rfl (by decide) (by decide) rfl (Nat.le_of_ble_eq_true rfl) dX5_canStand_77 ⟨Nat.zero_le _, Nat.zero_le _⟩) ?_
        refine G.icmp_gt (tgt := 109) E dX5_canStand_80 (by decide) (fun q => ?_) (fun q => ?_)
        · have h := ite_t h q
          refine G.aload_n E dX5_canStand_109 rfl 2 rfl ?_
          refine G.iload_n E dX5_canStand_110 rfl 3 rfl ?_
          obtain ⟨r9, h10, h⟩ := bind_s h
          refine G.retI E (runV (st := []) (As := [.int p1]) E (C_X5_at h10) ck_X5_at (f291 E.fx) (f292 E.fx) (f293 E.fx) 1 5 rfl rfl rfl (by decide) (by decide) rfl (Nat.le_of_ble_eq_true rfl) dX5_canStand_111 ⟨Nat.zero_le _, Nat.zero_le _⟩) ?_
          refine G.bipush (v := 44) E dX5_canStand_114 (by decide) ?_
          refine G.icmp_ne (tgt := 130) E dX5_canStand_116 (by decide) (fun q => ?_) (fun q => ?_)
          · have h := ite_f h q
            refine G.iconst (v := 0) E dX5_canStand_130 (by decide) ?_
            obtain rfl := Option.some.inj h
            exact K rfl _ _ dX5_canStand_131
          · have h := ite_t h q
            refine G.iload_n E dX5_canStand_119 rfl 1 rfl ?_
            refine G.iconst (v := 1) E dX5_canStand_120 (by decide) ?_
            refine G.iadd E dX5_canStand_121 ?_
            refine G.iconst (v := 4) E dX5_canStand_122 (by decide) ?_
            refine G.icmp_ge (tgt := 130) E dX5_canStand_123 (by decide) (fun q => ?_) (fun q => ?_)
            · have h := ite_t h q
              refine G.iconst (v := 0) E dX5_canStand_130 (by decide) ?_
              obtain rfl := Option.some.inj h
              exact K rfl _ _ dX5_canStand_131
            · have h := ite_f h q
              refine G.iconst (v := 1) E dX5_canStand_126 (by decide) ?_
              refine G.goto (tgt := 131) E dX5_canStand_127 (by decide) ?_
              obtain rfl := Option.some.inj h
              exact K rfl _ _ dX5_canStand_131
        · have h := ite_f h q
          refine G.aload_n E dX5_canStand_83 rfl 2 rfl ?_
          refine G.iload_n E dX5_canStand_84 rfl 3 rfl ?_
          obtain ⟨r11, h12, h⟩ := bind_s h
          refine G.retI E (runV (st := []) (As := [.int p1]) E (C_X5_at h12) ck_X5_at (f291 E.fx) (f292 E.fx) (f293 E.fx) 1 5 rfl rfl rfl (by decide) (by decide) rfl (Nat.le_of_ble_eq_true rfl) dX5_canStand_85 ⟨Nat.zero_le _, Nat.zero_le _⟩) ?_
          refine G.bipush (v := 104) E dX5_canStand_88 (by decide) ?_
          refine G.icmp_eq (tgt := 103) E dX5_canStand_90 (by decide) (fun q => ?_) (fun q => ?_)
          · have h := ite_t h q
            refine G.iconst (v := 1) E dX5_canStand_103 (by decide) ?_
            refine G.goto (tgt := 108) E dX5_canStand_104 (by decide) ?_
            obtain rfl := Option.some.inj h
            exact K rfl _ _ dX5_canStand_108
          · have h := ite_f h q
            refine G.aload_n E dX5_canStand_93 rfl 2 rfl ?_
            refine G.iload_n E dX5_canStand_94 rfl 3 rfl ?_
            obtain ⟨r13, h14, h⟩ := bind_s h
            refine G.retI E (runV (st := []) (As := [.int p1]) E (C_X5_at h14) ck_X5_at (f291 E.fx) (f292 E.fx) (f293 E.fx) 1 5 rfl rfl rfl (by decide) (by decide) rfl (Nat.le_of_ble_eq_true rfl) dX5_canStand_95 ⟨Nat.zero_le _, Nat.zero_le _⟩) ?_
            refine G.bipush (v := 116) E dX5_canStand_98 (by decide) ?_
            refine G.icmp_ne (tgt := 107) E dX5_canStand_100 (by decide) (fun q => ?_) (fun q => ?_)
            · have h := ite_f h q
              refine G.iconst (v := 0) E dX5_canStand_107 (by decide) ?_
              obtain rfl := Option.some.inj h
              exact K rfl _ _ dX5_canStand_108
            · have h := ite_t h q
              refine G.iconst (v := 1) E dX5_canStand_103 (by decide) ?_
              refine G.goto (tgt := 108) E dX5_canStand_104 (by decide) ?_
              obtain rfl := Option.some.inj h
              exact K rfl _ _ dX5_canStand_108
      · have h := ite_t h q
        refine G.ldcS E dX5_canStand_56 ?_
        refine G.aload_n E dX5_canStand_58 rfl 2 rfl ?_
        refine G.iload_n E dX5_canStand_59 rfl 3 rfl ?_
        obtain ⟨r15, h16, h⟩ := bind_s h
        refine G.retI E (runV (st := [.ref (cy 7)]) (As := [.int p1]) E (C_X5_at h16) ck_X5_at (f291 E.fx) (f292 E.fx) (f293 E.fx) 1 5 rfl rfl rfl (by decide) (by decide) rfl (Nat.le_of_ble_eq_true rfl) dX5_canStand_60 ⟨Nat.zero_le _, Nat.zero_le _⟩) ?_
        obtain ⟨r17, h18, h⟩ := bind_s h
        refine G.retI E (run_indexOf (st := []) E h18 rfl (Nat.le_of_ble_eq_true rfl) dX5_canStand_63 (by decide) (by decide)) ?_
        refine G.if_lt (tgt := 73) E dX5_canStand_66 (by decide) (fun q => ?_) (fun q => ?_)
        · have h := ite_t h q
          refine G.iconst (v := 0) E dX5_canStand_73 (by decide) ?_
          obtain rfl := Option.some.inj h
          exact K rfl _ _ dX5_canStand_74
        · have h := ite_f h q
          refine G.iconst (v := 1) E dX5_canStand_69 (by decide) ?_
          refine G.goto (tgt := 74) E dX5_canStand_70 (by decide) ?_
          obtain rfl := Option.some.inj h
          exact K rfl _ _ dX5_canStand_74
    · have h := ite_f h q
      refine G.iload_n E dX5_canStand_14 rfl 1 rfl ?_
      refine G.if_eq (tgt := 28) E dX5_canStand_15 (by decide) (fun q => ?_) (fun q => ?_)
      · have h := ite_t h q
        refine G.iconst (v := 1) E dX5_canStand_28 (by decide) ?_
        refine G.goto (tgt := 33) E dX5_canStand_29 (by decide) ?_
        obtain rfl := Option.some.inj h
        exact K rfl _ _ dX5_canStand_33
      · have h := ite_f h q
        refine G.aload_n E dX5_canStand_18 rfl 0 rfl ?_
        refine G.iload_n E dX5_canStand_19 rfl 1 rfl ?_
        obtain ⟨r19, h20, h⟩ := bind_s h
        refine G.retI E (runV (st := []) (As := [.int p1]) E (C_X5_at h20) ck_X5_at (f291 E.fx) (f292 E.fx) (f293 E.fx) 1 5 rfl rfl rfl (by decide) (by decide) rfl (Nat.le_of_ble_eq_true rfl) dX5_canStand_20 ⟨Nat.zero_le _, Nat.zero_le _⟩) ?_
        refine G.bipush (v := 59) E dX5_canStand_23 (by decide) ?_
        refine G.icmp_ne (tgt := 32) E dX5_canStand_25 (by decide) (fun q => ?_) (fun q => ?_)
        · have h := ite_f h q
          refine G.iconst (v := 0) E dX5_canStand_32 (by decide) ?_
          obtain rfl := Option.some.inj h
          exact K rfl _ _ dX5_canStand_33
        · have h := ite_t h q
          refine G.iconst (v := 1) E dX5_canStand_28 (by decide) ?_
          refine G.goto (tgt := 33) E dX5_canStand_29 (by decide) ?_
          obtain rfl := Option.some.inj h
          exact K rfl _ _ dX5_canStand_33
  · have h := ite_t h q
    refine G.iconst (v := 0) E dX5_canStand_7 (by decide) ?_
    obtain rfl := Option.some.inj h
    exact K rfl _ _ dX5_canStand_8
set_option maxRecDepth 100000 in
set_option maxHeartbeats 4000000 in
theorem C_X5_canStand {l : Launch} {D : va_G} {cy : Nat → ClassId} {ad : Nat → Nat} {σ : ST} {p1 : Int32} {r : Int32} (h : D_X5_canStand σ p1 = some r) : MI l yX5_canStand cX5_canStand 4 (some .boolean) 8 300 D cy (wT ad cy σ) [.ref (ad 1), .int p1] r (wT ad cy σ) :=
  MI.mk (lv := [(0, .ref (ad 1)), (1, .int p1)]) (by decide) (Nat.le_of_ble_eq_true rfl) rfl (fun x _ _ E K => B_X5_canStand E K p1 h)

noncomputable def D_X5_firstWrong_L2_body (rec2 : Int32 → Option Int32) (σ : ST) (x1 : Int32) : Option Int32 := if (gI σ 4) ≤ x1 then (some (gI σ 4)) else ((D_X5_canStand σ x1).bind fun r1 => if r1 = 0 then (some x1) else (rec2 (x1 + 1)))
set_option maxRecDepth 100000 in
set_option maxHeartbeats 4000000 in
theorem B_X5_firstWrong_L2_body {x : CX} {cy : Nat → ClassId} {ad : Nat → Nat} {r : Int32} {σ : ST} (E : Ev x cy cX5_firstWrong RX5 2 9 323) (K : RetI x cX5_firstWrong .int r (wT ad cy σ)) (rec2 : Int32 → Option Int32) (hrec2 : ∀ a, rec2 a = some r → G x 0 0 2 [(0, .ref (ad 1)), (1, .int a)] [] (wT ad cy σ)) (σ9 : ST) (x1 : Int32) (h : D_X5_firstWrong_L2_body rec2 σ x1 = some r) : G x 0 0 2 [(0, .ref (ad 1)), (1, .int x1)] [] (wT ad cy σ) := by
  unfold D_X5_firstWrong_L2_body at h
  refine G.iload_n E dX5_firstWrong_2 rfl 1 rfl ?_
  refine G.aload_n E dX5_firstWrong_3 rfl 0 rfl ?_
  refine G.get E inX5 1 rfl rfl 1 (by decide) (f103 E.fx) rfl dX5_firstWrong_4 ?_
  refine G.icmp_ge (tgt := 26) E dX5_firstWrong_7 (by decide) (fun q => ?_) (fun q => ?_)
  · have h := ite_t h q
    refine G.aload_n E dX5_firstWrong_26 rfl 0 rfl ?_
    refine G.get E inX5 1 rfl rfl 1 (by decide) (f103 E.fx) rfl dX5_firstWrong_27 ?_
    obtain rfl := Option.some.inj h
    exact K rfl _ _ dX5_firstWrong_30
  · have h := ite_f h q
    refine G.aload_n E dX5_firstWrong_10 rfl 0 rfl ?_
    refine G.iload_n E dX5_firstWrong_11 rfl 1 rfl ?_
    obtain ⟨r1, h2, h⟩ := bind_s h
    refine G.retI E (runV (st := []) (As := [.int x1]) E (C_X5_canStand h2) ck_X5_canStand (f283 E.fx) (f285 E.fx) (f0 E.fx) 1 5 rfl rfl rfl (by decide) (by decide) rfl (Nat.le_of_ble_eq_true rfl) dX5_firstWrong_12 ⟨Nat.zero_le _, Nat.zero_le _⟩) ?_
    refine G.if_ne (tgt := 20) E dX5_firstWrong_15 (by decide) (fun q => ?_) (fun q => ?_)
    · have h := ite_f h q
      refine G.iinc (w := x1 + 1) (lv' := [(1, .int (x1 + 1)), (0, .ref (ad 1))]) E dX5_firstWrong_20 1 rfl rfl (by decide) rfl ?_
      refine G.goto (tgt := 2) E dX5_firstWrong_23 (by decide) ?_
      refine G.sub (lv' := [(0, .ref (ad 1)), (1, .int (x1 + 1))]) [1, 0] rfl ?_
      exact hrec2 (x1 + 1) h
    · have h := ite_t h q
      refine G.iload_n E dX5_firstWrong_18 rfl 1 rfl ?_
      obtain rfl := Option.some.inj h
      exact K rfl _ _ dX5_firstWrong_19
noncomputable def D_X5_firstWrong_L2  (σ : ST) (x1 : Int32) : Option Int32 := itr (fun (rec2 : Int32 → Option Int32) (a : Int32) => D_X5_firstWrong_L2_body rec2 σ a) 200 x1
set_option maxRecDepth 100000 in
set_option maxHeartbeats 4000000 in
theorem B_X5_firstWrong_L2 {x : CX} {cy : Nat → ClassId} {ad : Nat → Nat} {r : Int32} {σ : ST} (E : Ev x cy cX5_firstWrong RX5 2 9 323) (K : RetI x cX5_firstWrong .int r (wT ad cy σ))  (σ9 : ST) (x1 : Int32) (h : D_X5_firstWrong_L2 σ x1 = some r) : G x 0 0 2 [(0, .ref (ad 1)), (1, .int x1)] [] (wT ad cy σ) :=
  itr_ind (P := fun a => G x 0 0 2 [(0, .ref (ad 1)), (1, .int a)] [] (wT ad cy σ)) (fun rec2 hrec2 a h => B_X5_firstWrong_L2_body E K rec2 hrec2 σ a h) 200 x1 h
noncomputable def D_X5_firstWrong (σ : ST)  : Option Int32 := D_X5_firstWrong_L2 σ (0 : Int32)
set_option maxRecDepth 100000 in
set_option maxHeartbeats 4000000 in
theorem B_X5_firstWrong {x : CX} {cy : Nat → ClassId} {ad : Nat → Nat} {r : Int32} {σ : ST} (E : Ev x cy cX5_firstWrong RX5 2 9 323) (K : RetI x cX5_firstWrong .int r (wT ad cy σ))  (h : D_X5_firstWrong σ = some r) : G x 0 0 0 [(0, .ref (ad 1))] [] (wT ad cy σ) := by
  unfold D_X5_firstWrong at h
  refine G.iconst (v := 0) E dX5_firstWrong_0 (by decide) ?_
  refine G.istore_n (lv' := [(1, .int (0 : Int32)), (0, .ref (ad 1))]) E dX5_firstWrong_1 rfl (by decide) rfl ?_
  refine G.sub (lv' := [(0, .ref (ad 1)), (1, .int (0 : Int32))]) [1, 0] rfl ?_
  exact B_X5_firstWrong_L2 E K σ (0 : Int32) h
set_option maxRecDepth 100000 in
set_option maxHeartbeats 4000000 in
theorem C_X5_firstWrong {l : Launch} {D : va_G} {cy : Nat → ClassId} {ad : Nat → Nat} {σ : ST}  {r : Int32} (h : D_X5_firstWrong σ = some r) : MI l yX5_firstWrong cX5_firstWrong 2 (some .int) 9 323 D cy (wT ad cy σ) [.ref (ad 1)] r (wT ad cy σ) :=
  MI.mk (lv := [(0, .ref (ad 1))]) (by decide) (Nat.le_of_ble_eq_true rfl) rfl (fun x _ _ E K => B_X5_firstWrong E K  h)

noncomputable def D_X8_fault (σ : ST)  : Option Int32 := (D_X5_firstWrong σ).bind fun r1 => some r1
set_option maxRecDepth 100000 in
set_option maxHeartbeats 4000000 in
theorem B_X8_fault {x : CX} {cy : Nat → ClassId} {ad : Nat → Nat} {r : Int32} {σ : ST} (E : Ev x cy cX8_fault RX8 1 10 344) (K : RetI x cX8_fault .int r (wT ad cy σ))  (h : D_X8_fault σ = some r) : G x 0 0 0 [(0, .ref (ad 0))] [] (wT ad cy σ) := by
  unfold D_X8_fault at h
  refine G.aload_n E dX8_fault_0 rfl 0 rfl ?_
  refine G.get E inX8 0 rfl rfl 0 (by decide) (f214 E.fx) rfl dX8_fault_1 ?_
  obtain ⟨r1, h2, h⟩ := bind_s h
  refine G.retI E (runV (st := []) (As := []) E (C_X5_firstWrong h2) ck_X5_firstWrong (f279 E.fx) (f280 E.fx) (f281 E.fx) 1 5 rfl rfl rfl (by decide) (by decide) rfl (Nat.le_of_ble_eq_true rfl) dX8_fault_4 ⟨Nat.zero_le _, Nat.zero_le _⟩) ?_
  obtain rfl := Option.some.inj h
  exact K rfl _ _ dX8_fault_7
set_option maxRecDepth 100000 in
set_option maxHeartbeats 4000000 in
theorem C_X8_fault {l : Launch} {D : va_G} {cy : Nat → ClassId} {ad : Nat → Nat} {σ : ST}  {r : Int32} (h : D_X8_fault σ = some r) : MI l yX8_fault cX8_fault 1 (some .int) 10 344 D cy (wT ad cy σ) [.ref (ad 0)] r (wT ad cy σ) :=
  MI.mk (lv := [(0, .ref (ad 0))]) (by decide) (Nat.le_of_ble_eq_true rfl) rfl (fun x _ _ E K => B_X8_fault E K  h)

noncomputable def D_X5_playersOfTable (σ : ST)  : Option Int32 := (D_X5_size σ).bind fun r1 => if r1 = 0 then (some (0 : Int32)) else ((D_X5_firstWrong σ).bind fun r3 => if (gI σ 4) ≤ r3 then ((D_X5_step σ).bind fun r5 => if r5 = 0 then none else ((D_X5_step σ).bind fun r7 => if r7 = 0 then none else (if ((((gI σ 4) + (1 : Int32)) - (2 : Int32)) - (((gI σ 4) + (1 : Int32)) - (2 : Int32)) / r7 * r7) = 0 then (if ((((gI σ 4) + (1 : Int32)) - (2 : Int32)) / r5) < (2 : Int32) then (some (0 : Int32)) else (some ((((gI σ 4) + (1 : Int32)) - (2 : Int32)) / r5))) else (some (0 : Int32))))) else (some (0 : Int32)))
set_option maxRecDepth 100000 in
set_option maxHeartbeats 4000000 in
theorem B_X5_playersOfTable {x : CX} {cy : Nat → ClassId} {ad : Nat → Nat} {r : Int32} {σ : ST} (E : Ev x cy cX5_playersOfTable RX5 3 10 344) (K : RetI x cX5_playersOfTable .int r (wT ad cy σ))  (h : D_X5_playersOfTable σ = some r) : G x 0 0 0 [(0, .ref (ad 1))] [] (wT ad cy σ) := by
  unfold D_X5_playersOfTable at h
  refine G.aload_n E dX5_playersOfTable_0 rfl 0 rfl ?_
  obtain ⟨r1, h2, h⟩ := bind_s h
  refine G.retI E (runV (st := []) (As := []) E (C_X5_size h2) ck_X5_size (f287 E.fx) (f288 E.fx) (f289 E.fx) 1 5 rfl rfl rfl (by decide) (by decide) rfl (Nat.le_of_ble_eq_true rfl) dX5_playersOfTable_1 ⟨Nat.zero_le _, Nat.zero_le _⟩) ?_
  refine G.if_eq (tgt := 18) E dX5_playersOfTable_4 (by decide) (fun q => ?_) (fun q => ?_)
  · have h := ite_t h q
    refine G.iconst (v := 0) E dX5_playersOfTable_18 (by decide) ?_
    obtain rfl := Option.some.inj h
    exact K rfl _ _ dX5_playersOfTable_19
  · have h := ite_f h q
    refine G.aload_n E dX5_playersOfTable_7 rfl 0 rfl ?_
    obtain ⟨r3, h4, h⟩ := bind_s h
    refine G.retI E (runV (st := []) (As := []) E (C_X5_firstWrong h4) ck_X5_firstWrong (f395 E.fx) (f280 E.fx) (f281 E.fx) 1 5 rfl rfl rfl (by decide) (by decide) rfl (Nat.le_of_ble_eq_true rfl) dX5_playersOfTable_8 ⟨Nat.zero_le _, Nat.zero_le _⟩) ?_
    refine G.aload_n E dX5_playersOfTable_11 rfl 0 rfl ?_
    refine G.get E inX5 1 rfl rfl 1 (by decide) (f103 E.fx) rfl dX5_playersOfTable_12 ?_
    refine G.icmp_ge (tgt := 20) E dX5_playersOfTable_15 (by decide) (fun q => ?_) (fun q => ?_)
    · have h := ite_t h q
      refine G.aload_n E dX5_playersOfTable_20 rfl 0 rfl ?_
      refine G.get E inX5 1 rfl rfl 1 (by decide) (f103 E.fx) rfl dX5_playersOfTable_21 ?_
      refine G.iconst (v := 1) E dX5_playersOfTable_24 (by decide) ?_
      refine G.iadd E dX5_playersOfTable_25 ?_
      refine G.iconst (v := 2) E dX5_playersOfTable_26 (by decide) ?_
      refine G.isub E dX5_playersOfTable_27 ?_
      refine G.istore_n (lv' := [(1, .int (((gI σ 4) + (1 : Int32)) - (2 : Int32))), (0, .ref (ad 1))]) E dX5_playersOfTable_28 rfl (by decide) rfl ?_
      refine G.iload_n E dX5_playersOfTable_29 rfl 0 rfl ?_
      refine G.aload_n E dX5_playersOfTable_30 rfl 1 rfl ?_
      obtain ⟨r5, h6, h⟩ := bind_s h
      refine G.retI E (runV (st := [.int (((gI σ 4) + (1 : Int32)) - (2 : Int32))]) (As := []) E (C_X5_step h6) ck_X5_step (f295 E.fx) (f297 E.fx) (f1 E.fx) 1 5 rfl rfl rfl (by decide) (by decide) rfl (Nat.le_of_ble_eq_true rfl) dX5_playersOfTable_31 ⟨Nat.zero_le _, Nat.zero_le _⟩) ?_
      obtain ⟨hg, h⟩ := ite_n h
      refine G.idiv E dX5_playersOfTable_34 hg ?_
      refine G.istore_n (lv' := [(2, .int ((((gI σ 4) + (1 : Int32)) - (2 : Int32)) / r5)), (1, .int (((gI σ 4) + (1 : Int32)) - (2 : Int32))), (0, .ref (ad 1))]) E dX5_playersOfTable_35 rfl (by decide) rfl ?_
      refine G.iload_n E dX5_playersOfTable_36 rfl 1 rfl ?_
      refine G.aload_n E dX5_playersOfTable_37 rfl 2 rfl ?_
      obtain ⟨r7, h8, h⟩ := bind_s h
      refine G.retI E (runV (st := [.int (((gI σ 4) + (1 : Int32)) - (2 : Int32))]) (As := []) E (C_X5_step h8) ck_X5_step (f295 E.fx) (f297 E.fx) (f1 E.fx) 1 5 rfl rfl rfl (by decide) (by decide) rfl (Nat.le_of_ble_eq_true rfl) dX5_playersOfTable_38 ⟨Nat.zero_le _, Nat.zero_le _⟩) ?_
      obtain ⟨hg, h⟩ := ite_n h
      refine G.irem E dX5_playersOfTable_41 hg ?_
      refine G.if_ne (tgt := 54) E dX5_playersOfTable_42 (by decide) (fun q => ?_) (fun q => ?_)
      · have h := ite_f h q
        refine G.iconst (v := 0) E dX5_playersOfTable_54 (by decide) ?_
        obtain rfl := Option.some.inj h
        exact K rfl _ _ dX5_playersOfTable_55
      · have h := ite_t h q
        refine G.iload_n E dX5_playersOfTable_45 rfl 0 rfl ?_
        refine G.iconst (v := 2) E dX5_playersOfTable_46 (by decide) ?_
        refine G.icmp_lt (tgt := 54) E dX5_playersOfTable_47 (by decide) (fun q => ?_) (fun q => ?_)
        · have h := ite_t h q
          refine G.iconst (v := 0) E dX5_playersOfTable_54 (by decide) ?_
          obtain rfl := Option.some.inj h
          exact K rfl _ _ dX5_playersOfTable_55
        · have h := ite_f h q
          refine G.iload_n E dX5_playersOfTable_50 rfl 0 rfl ?_
          refine G.goto (tgt := 55) E dX5_playersOfTable_51 (by decide) ?_
          obtain rfl := Option.some.inj h
          exact K rfl _ _ dX5_playersOfTable_55
    · have h := ite_f h q
      refine G.iconst (v := 0) E dX5_playersOfTable_18 (by decide) ?_
      obtain rfl := Option.some.inj h
      exact K rfl _ _ dX5_playersOfTable_19
set_option maxRecDepth 100000 in
set_option maxHeartbeats 4000000 in
theorem C_X5_playersOfTable {l : Launch} {D : va_G} {cy : Nat → ClassId} {ad : Nat → Nat} {σ : ST}  {r : Int32} (h : D_X5_playersOfTable σ = some r) : MI l yX5_playersOfTable cX5_playersOfTable 3 (some .int) 10 344 D cy (wT ad cy σ) [.ref (ad 1)] r (wT ad cy σ) :=
  MI.mk (lv := [(0, .ref (ad 1))]) (by decide) (Nat.le_of_ble_eq_true rfl) rfl (fun x _ _ E K => B_X5_playersOfTable E K  h)

noncomputable def D_J7_fill_53178_6_L5_body (rec5 : (ST × Int32 × Int32 × Int32) → Option ST) (σ : ST) (x1 : Int32) (x2 : Int32) (x3 : Int32) : Option ST := if x3 ≤ x2 then (some σ) else (if x2 < 0 ∨ 4 ≤ x2.toNatClampNeg then none else (rec5 ((pA σ 3 x2.toNatClampNeg x1), x1, (x2 + 1), x3)))
set_option maxRecDepth 100000 in
set_option maxHeartbeats 4000000 in
theorem B_J7_fill_53178_6_L5_body {x : CX} {cy : Nat → ClassId} {ad : Nat → Nat} {r : ST} (E : Ev x cy cJ7_fill_53178 RJ7 4 0 0) (K : RetV x cJ7_fill_53178 (wT ad cy r)) (rec5 : (ST × Int32 × Int32 × Int32) → Option ST) (hrec5 : ∀ a, rec5 a = some r → G x 0 0 5 [(0, .ref (ad 6)), (1, .int a.2.1), (2, .int a.2.2.1), (3, .int a.2.2.2)] [] (wT ad cy a.1)) (σ : ST) (x1 : Int32) (x2 : Int32) (x3 : Int32) (h : D_J7_fill_53178_6_L5_body rec5 σ x1 x2 x3 = some r) : G x 0 0 5 [(0, .ref (ad 6)), (1, .int x1), (2, .int x2), (3, .int x3)] [] (wT ad cy σ) := by
  unfold D_J7_fill_53178_6_L5_body at h
  refine G.iload_n E dJ7_fill_53178_5 rfl 2 rfl ?_
  refine G.iload_n E dJ7_fill_53178_6 rfl 3 rfl ?_
  refine G.icmp_ge (tgt := 20) E dJ7_fill_53178_7 (by decide) (fun q => ?_) (fun q => ?_)
  · have h := ite_t h q
    obtain rfl := Option.some.inj h
    exact K _ _ dJ7_fill_53178_20
  · have h := ite_f h q
    refine G.aload_n E dJ7_fill_53178_10 rfl 0 rfl ?_
    refine G.iload_n E dJ7_fill_53178_11 rfl 2 rfl ?_
    refine G.iload_n E dJ7_fill_53178_12 rfl 1 rfl ?_
    obtain ⟨hg, h⟩ := ite_n h
    refine G.iast (ws' := (wT ad cy (pA σ 3 x2.toNatClampNeg x1))) E 6 0 rfl rfl hg dJ7_fill_53178_13 (wT_aI3 ad cy _ _ _) ?_
    refine G.iinc (w := x2 + 1) (lv' := [(2, .int (x2 + 1)), (0, .ref (ad 6)), (1, .int x1), (3, .int x3)]) E dJ7_fill_53178_14 2 rfl rfl (by decide) rfl ?_
    refine G.goto (tgt := 5) E dJ7_fill_53178_17 (by decide) ?_
    refine G.sub (lv' := [(0, .ref (ad 6)), (1, .int x1), (2, .int (x2 + 1)), (3, .int x3)]) [1, 2, 0, 3] rfl ?_
    exact hrec5 ((pA σ 3 x2.toNatClampNeg x1), x1, (x2 + 1), x3) h
noncomputable def D_J7_fill_53178_6_L5  (σ : ST) (x1 : Int32) (x2 : Int32) (x3 : Int32) : Option ST := itr (fun (rec5 : (ST × Int32 × Int32 × Int32) → Option ST) (a : (ST × Int32 × Int32 × Int32)) => D_J7_fill_53178_6_L5_body rec5 a.1 a.2.1 a.2.2.1 a.2.2.2) 200 (σ, x1, x2, x3)
set_option maxRecDepth 100000 in
set_option maxHeartbeats 4000000 in
theorem B_J7_fill_53178_6_L5 {x : CX} {cy : Nat → ClassId} {ad : Nat → Nat} {r : ST} (E : Ev x cy cJ7_fill_53178 RJ7 4 0 0) (K : RetV x cJ7_fill_53178 (wT ad cy r))  (σ : ST) (x1 : Int32) (x2 : Int32) (x3 : Int32) (h : D_J7_fill_53178_6_L5 σ x1 x2 x3 = some r) : G x 0 0 5 [(0, .ref (ad 6)), (1, .int x1), (2, .int x2), (3, .int x3)] [] (wT ad cy σ) :=
  itr_ind (P := fun a => G x 0 0 5 [(0, .ref (ad 6)), (1, .int a.2.1), (2, .int a.2.2.1), (3, .int a.2.2.2)] [] (wT ad cy a.1)) (fun rec5 hrec5 a h => B_J7_fill_53178_6_L5_body E K rec5 hrec5 a.1 a.2.1 a.2.2.1 a.2.2.2 h) 200 (σ, x1, x2, x3) h
noncomputable def D_J7_fill_53178_6 (σ : ST) (p1 : Int32) : Option ST := D_J7_fill_53178_6_L5 σ p1 (0 : Int32) (4 : Int32)
set_option maxRecDepth 100000 in
set_option maxHeartbeats 4000000 in
theorem B_J7_fill_53178_6 {x : CX} {cy : Nat → ClassId} {ad : Nat → Nat} {r : ST} (E : Ev x cy cJ7_fill_53178 RJ7 4 0 0) (K : RetV x cJ7_fill_53178 (wT ad cy r)) (σ : ST) (p1 : Int32) (h : D_J7_fill_53178_6 σ p1 = some r) : G x 0 0 0 [(0, .ref (ad 6)), (1, .int p1)] [] (wT ad cy σ) := by
  unfold D_J7_fill_53178_6 at h
  refine G.iconst (v := 0) E dJ7_fill_53178_0 (by decide) ?_
  refine G.istore_n (lv' := [(2, .int (0 : Int32)), (0, .ref (ad 6)), (1, .int p1)]) E dJ7_fill_53178_1 rfl (by decide) rfl ?_
  refine G.aload_n E dJ7_fill_53178_2 rfl 1 rfl ?_
  refine G.alen (v := 4) E 6 0 rfl rfl rfl dJ7_fill_53178_3 ?_
  refine G.istore_n (lv' := [(3, .int (4 : Int32)), (2, .int (0 : Int32)), (0, .ref (ad 6)), (1, .int p1)]) E dJ7_fill_53178_4 rfl (by decide) rfl ?_
  refine G.sub (lv' := [(0, .ref (ad 6)), (1, .int p1), (2, .int (0 : Int32)), (3, .int (4 : Int32))]) [2, 3, 1, 0] rfl ?_
  exact B_J7_fill_53178_6_L5 E K σ p1 (0 : Int32) (4 : Int32) h
set_option maxRecDepth 100000 in
set_option maxHeartbeats 4000000 in
theorem C_J7_fill_53178_6 {l : Launch} {D : va_G} {cy : Nat → ClassId} {ad : Nat → Nat} {σ : ST} {p1 : Int32} {r : ST} (h : D_J7_fill_53178_6 σ p1 = some r) : MV l yJ7_fill_53178 cJ7_fill_53178 4 none 0 0 D cy (wT ad cy σ) [.ref (ad 6), .int p1]  (wT ad cy r) :=
  MV.mk (lv := [(0, .ref (ad 6)), (1, .int p1)]) (by decide) (Nat.le_of_ble_eq_true rfl) rfl (fun x _ _ E K => B_J7_fill_53178_6 E K σ p1 h)

noncomputable def D_X1_beginGame (σ : ST)  : Option ST := some (pI (pI σ 7 (0 : Int32)) 8 (1 : Int32))
set_option maxRecDepth 100000 in
set_option maxHeartbeats 4000000 in
theorem B_X1_beginGame {x : CX} {cy : Nat → ClassId} {ad : Nat → Nat} {r : ST} (E : Ev x cy cX1_beginGame RX1 1 0 0) (K : RetV x cX1_beginGame (wT ad cy r)) (σ : ST)  (h : D_X1_beginGame σ = some r) : G x 0 0 0 [(0, .ref (ad 3))] [] (wT ad cy σ) := by
  unfold D_X1_beginGame at h
  refine G.aload_n E dX1_beginGame_0 rfl 0 rfl ?_
  refine G.iconst (v := 0) E dX1_beginGame_1 (by decide) ?_
  refine G.put (ws' := (wT ad cy (pI σ 7 (0 : Int32)))) E inX1 tyX1 tyX1_ok nmX1 3 rfl rfl 8 (by decide) (f132 E.fx) rfl rfl rfl rfl (Nat.le_of_ble_eq_true rfl) dX1_beginGame_2 (wT_fI7 ad cy _ _) ?_
  refine G.aload_n E dX1_beginGame_5 rfl 0 rfl ?_
  refine G.iconst (v := 1) E dX1_beginGame_6 (by decide) ?_
  refine G.put (ws' := (wT ad cy (pI (pI σ 7 (0 : Int32)) 8 (1 : Int32)))) E inX1 tyX1 tyX1_ok nmX1 3 rfl rfl 9 (by decide) (f134 E.fx) rfl rfl rfl rfl (Nat.le_of_ble_eq_true rfl) dX1_beginGame_7 (wT_fI8 ad cy _ _) ?_
  obtain rfl := Option.some.inj h
  exact K _ _ dX1_beginGame_10
set_option maxRecDepth 100000 in
set_option maxHeartbeats 4000000 in
theorem C_X1_beginGame {l : Launch} {D : va_G} {cy : Nat → ClassId} {ad : Nat → Nat} {σ : ST}  {r : ST} (h : D_X1_beginGame σ = some r) : MV l yX1_beginGame cX1_beginGame 1 none 0 0 D cy (wT ad cy σ) [.ref (ad 3)]  (wT ad cy r) :=
  MV.mk (lv := [(0, .ref (ad 3))]) (by decide) (Nat.le_of_ble_eq_true rfl) rfl (fun x _ _ E K => B_X1_beginGame E K σ h)

noncomputable def D_X1_clear (σ : ST)  : Option ST := (D_J7_fill_53178_6 σ (0 : Int32)).bind fun r1 => (D_X1_beginGame (pI (pI r1 5 (0 : Int32)) 6 (0 : Int32))).bind fun r3 => some r3
set_option maxRecDepth 100000 in
set_option maxHeartbeats 4000000 in
theorem B_X1_clear {x : CX} {cy : Nat → ClassId} {ad : Nat → Nat} {r : ST} (E : Ev x cy cX1_clear RX1 1 1 23) (K : RetV x cX1_clear (wT ad cy r)) (σ : ST)  (h : D_X1_clear σ = some r) : G x 0 0 0 [(0, .ref (ad 3))] [] (wT ad cy σ) := by
  unfold D_X1_clear at h
  refine G.aload_n E dX1_clear_0 rfl 0 rfl ?_
  refine G.get E inX1 3 rfl rfl 2 (by decide) (f120 E.fx) rfl dX1_clear_1 ?_
  refine G.iconst (v := 0) E dX1_clear_4 (by decide) ?_
  obtain ⟨r1, h2, h⟩ := bind_s h
  refine G.retV E (runS (st := []) (As := [.ref (ad 6), .int (0 : Int32)]) E (C_J7_fill_53178_6 h2) ck_J7_fill_53178 (f401 E.fx) (f402 E.fx) (by decide) (by decide) rfl (Nat.le_of_ble_eq_true rfl) dX1_clear_5 ⟨Nat.zero_le _, Nat.zero_le _⟩) ?_
  refine G.aload_n E dX1_clear_8 rfl 0 rfl ?_
  refine G.iconst (v := 0) E dX1_clear_9 (by decide) ?_
  refine G.put (ws' := (wT ad cy (pI r1 5 (0 : Int32)))) E inX1 tyX1 tyX1_ok nmX1 3 rfl rfl 6 (by decide) (f128 E.fx) rfl rfl rfl rfl (Nat.le_of_ble_eq_true rfl) dX1_clear_10 (wT_fI5 ad cy _ _) ?_
  refine G.aload_n E dX1_clear_13 rfl 0 rfl ?_
  refine G.iconst (v := 0) E dX1_clear_14 (by decide) ?_
  refine G.put (ws' := (wT ad cy (pI (pI r1 5 (0 : Int32)) 6 (0 : Int32)))) E inX1 tyX1 tyX1_ok nmX1 3 rfl rfl 7 (by decide) (f130 E.fx) rfl rfl rfl rfl (Nat.le_of_ble_eq_true rfl) dX1_clear_15 (wT_fI6 ad cy _ _) ?_
  refine G.aload_n E dX1_clear_18 rfl 0 rfl ?_
  obtain ⟨r3, h4, h⟩ := bind_s h
  refine G.retV E (runV (st := []) (As := []) E (C_X1_beginGame h4) ck_X1_beginGame (f404 E.fx) (f405 E.fx) (f406 E.fx) 3 1 rfl rfl rfl (by decide) (by decide) rfl (Nat.le_of_ble_eq_true rfl) dX1_clear_19 ⟨Nat.zero_le _, Nat.zero_le _⟩) ?_
  obtain rfl := Option.some.inj h
  exact K _ _ dX1_clear_22
set_option maxRecDepth 100000 in
set_option maxHeartbeats 4000000 in
theorem C_X1_clear {l : Launch} {D : va_G} {cy : Nat → ClassId} {ad : Nat → Nat} {σ : ST}  {r : ST} (h : D_X1_clear σ = some r) : MV l yX1_clear cX1_clear 1 none 1 23 D cy (wT ad cy σ) [.ref (ad 3)]  (wT ad cy r) :=
  MV.mk (lv := [(0, .ref (ad 3))]) (by decide) (Nat.le_of_ble_eq_true rfl) rfl (fun x _ _ E K => B_X1_clear E K σ h)

noncomputable def D_X5_placeOf (σ : ST) (p1 : Int32) : Option Int32 := (D_X5_step σ).bind fun r1 => some ((2 : Int32) + (p1 * r1))
set_option maxRecDepth 100000 in
set_option maxHeartbeats 4000000 in
theorem B_X5_placeOf {x : CX} {cy : Nat → ClassId} {ad : Nat → Nat} {r : Int32} {σ : ST} (E : Ev x cy cX5_placeOf RX5 2 3 62) (K : RetI x cX5_placeOf .int r (wT ad cy σ)) (p1 : Int32) (h : D_X5_placeOf σ p1 = some r) : G x 0 0 0 [(0, .ref (ad 1)), (1, .int p1)] [] (wT ad cy σ) := by
  unfold D_X5_placeOf at h
  refine G.iconst (v := 2) E dX5_placeOf_0 (by decide) ?_
  refine G.iload_n E dX5_placeOf_1 rfl 1 rfl ?_
  refine G.aload_n E dX5_placeOf_2 rfl 0 rfl ?_
  obtain ⟨r1, h2, h⟩ := bind_s h
  refine G.retI E (runV (st := [.int p1, .int (2 : Int32)]) (As := []) E (C_X5_step h2) ck_X5_step (f295 E.fx) (f297 E.fx) (f1 E.fx) 1 5 rfl rfl rfl (by decide) (by decide) rfl (Nat.le_of_ble_eq_true rfl) dX5_placeOf_3 ⟨Nat.zero_le _, Nat.zero_le _⟩) ?_
  refine G.imul E dX5_placeOf_6 ?_
  refine G.iadd E dX5_placeOf_7 ?_
  obtain rfl := Option.some.inj h
  exact K rfl _ _ dX5_placeOf_8
set_option maxRecDepth 100000 in
set_option maxHeartbeats 4000000 in
theorem C_X5_placeOf {l : Launch} {D : va_G} {cy : Nat → ClassId} {ad : Nat → Nat} {σ : ST} {p1 : Int32} {r : Int32} (h : D_X5_placeOf σ p1 = some r) : MI l yX5_placeOf cX5_placeOf 2 (some .int) 3 62 D cy (wT ad cy σ) [.ref (ad 1), .int p1] r (wT ad cy σ) :=
  MI.mk (lv := [(0, .ref (ad 1)), (1, .int p1)]) (by decide) (Nat.le_of_ble_eq_true rfl) rfl (fun x _ _ E K => B_X5_placeOf E K p1 h)

noncomputable def D_X5_kindOf (σ : ST) (p1 : Int32) : Option Int32 := (D_X5_placeOf σ p1).bind fun r1 => (D_X5_at σ r1).bind fun r3 => (D_indexOf r3).bind fun r5 => some (if r5 < (0 : Int32) then (0 : Int32) else r5)
set_option maxRecDepth 100000 in
set_option maxHeartbeats 4000000 in
theorem B_X5_kindOf {x : CX} {cy : Nat → ClassId} {ad : Nat → Nat} {r : Int32} {σ : ST} (E : Ev x cy cX5_kindOf RX5 2 8 300) (K : RetI x cX5_kindOf .int r (wT ad cy σ)) (p1 : Int32) (h : D_X5_kindOf σ p1 = some r) : G x 0 0 0 [(0, .ref (ad 1)), (1, .int p1)] [] (wT ad cy σ) := by
  unfold D_X5_kindOf at h
  refine G.ldcS E dX5_kindOf_0 ?_
  refine G.aload_n E dX5_kindOf_2 rfl 0 rfl ?_
  refine G.aload_n E dX5_kindOf_3 rfl 0 rfl ?_
  refine G.iload_n E dX5_kindOf_4 rfl 1 rfl ?_
  obtain ⟨r1, h2, h⟩ := bind_s h
  refine G.retI E (runV (st := [.ref (ad 1), .ref (cy 7)]) (As := [.int p1]) E (C_X5_placeOf h2) ck_X5_placeOf (f412 E.fx) (f414 E.fx) (f2 E.fx) 1 5 rfl rfl rfl (by decide) (by decide) rfl (Nat.le_of_ble_eq_true rfl) dX5_kindOf_5 ⟨Nat.zero_le _, Nat.zero_le _⟩) ?_
  obtain ⟨r3, h4, h⟩ := bind_s h
  refine G.retI E (runV (st := [.ref (cy 7)]) (As := [.int r1]) E (C_X5_at h4) ck_X5_at (f291 E.fx) (f292 E.fx) (f293 E.fx) 1 5 rfl rfl rfl (by decide) (by decide) rfl (Nat.le_of_ble_eq_true rfl) dX5_kindOf_8 ⟨Nat.zero_le _, Nat.zero_le _⟩) ?_
  obtain ⟨r5, h6, h⟩ := bind_s h
  refine G.retI E (run_indexOf (st := []) E h6 rfl (Nat.le_of_ble_eq_true rfl) dX5_kindOf_11 (by decide) (by decide)) ?_
  refine G.iconst (v := 0) E dX5_kindOf_14 (by decide) ?_
  refine G.mmax E (f416 E.fx) (f329 E.fx) (f81 E.fx) (f330 E.fx) (by decide) (by decide) ⟨rfl, rfl⟩ (Nat.le_of_ble_eq_true rfl) dX5_kindOf_15 ?_
  obtain rfl := Option.some.inj h
  exact K rfl _ _ dX5_kindOf_18
set_option maxRecDepth 100000 in
set_option maxHeartbeats 4000000 in
theorem C_X5_kindOf {l : Launch} {D : va_G} {cy : Nat → ClassId} {ad : Nat → Nat} {σ : ST} {p1 : Int32} {r : Int32} (h : D_X5_kindOf σ p1 = some r) : MI l yX5_kindOf cX5_kindOf 2 (some .int) 8 300 D cy (wT ad cy σ) [.ref (ad 1), .int p1] r (wT ad cy σ) :=
  MI.mk (lv := [(0, .ref (ad 1)), (1, .int p1)]) (by decide) (Nat.le_of_ble_eq_true rfl) rfl (fun x _ _ E K => B_X5_kindOf E K p1 h)

noncomputable def D_X5_rowOf_b36 (rec4 : (Int32 × Int32 × Int32) → Option Int32) (σ : ST) (x1 : Int32) (x3 : Int32) (s0 : Int32) (s1 : Int32) : Option Int32 := rec4 (x1, (s1 + s0), (x3 + 1))
set_option maxRecDepth 100000 in
set_option maxHeartbeats 4000000 in
theorem B_X5_rowOf_b36 {x : CX} {cy : Nat → ClassId} {ad : Nat → Nat} {r : Int32} {σ : ST} (E : Ev x cy cX5_rowOf RX5 4 4 83) (K : RetI x cX5_rowOf .int r (wT ad cy σ)) (rec4 : (Int32 × Int32 × Int32) → Option Int32) (hrec4 : ∀ a, rec4 a = some r → G x 0 0 4 [(0, .ref (ad 1)), (1, .int a.1), (2, .int a.2.1), (3, .int a.2.2)] [] (wT ad cy σ)) (σ9 : ST) (x1 : Int32) (x3 : Int32) (s0 : Int32) (s1 : Int32) (h : D_X5_rowOf_b36 rec4 σ x1 x3 s0 s1 = some r) : G x 0 0 36 [(0, .ref (ad 1)), (1, .int x1), (3, .int x3)] [.int s0, .int s1] (wT ad cy σ) := by
  unfold D_X5_rowOf_b36 at h
  refine G.iadd E dX5_rowOf_36 ?_
  refine G.istore_n (lv' := [(2, .int (s1 + s0)), (0, .ref (ad 1)), (1, .int x1), (3, .int x3)]) E dX5_rowOf_37 rfl (by decide) rfl ?_
  refine G.iinc (w := x3 + 1) (lv' := [(3, .int (x3 + 1)), (2, .int (s1 + s0)), (0, .ref (ad 1)), (1, .int x1)]) E dX5_rowOf_38 3 rfl rfl (by decide) rfl ?_
  refine G.goto (tgt := 4) E dX5_rowOf_41 (by decide) ?_
  refine G.sub (lv' := [(0, .ref (ad 1)), (1, .int x1), (2, .int (s1 + s0)), (3, .int (x3 + 1))]) [2, 3, 1, 0] rfl ?_
  exact hrec4 (x1, (s1 + s0), (x3 + 1)) h
noncomputable def D_X5_rowOf_L4_body (rec4 : (Int32 × Int32 × Int32) → Option Int32) (σ : ST) (x1 : Int32) (x2 : Int32) (x3 : Int32) : Option Int32 := (D_X5_size σ).bind fun r1 => if r1 < x3 then (some x2) else ((D_X5_placeOf σ x1).bind fun r3 => (D_X5_at σ (r3 + x3)).bind fun r5 => if r5 = (116 : Int32) then (D_X5_rowOf_b36 rec4 σ x1 x3 (1 : Int32) ((2 : Int32) * x2)) else (D_X5_rowOf_b36 rec4 σ x1 x3 (0 : Int32) ((2 : Int32) * x2)))
set_option maxRecDepth 100000 in
set_option maxHeartbeats 4000000 in
theorem B_X5_rowOf_L4_body {x : CX} {cy : Nat → ClassId} {ad : Nat → Nat} {r : Int32} {σ : ST} (E : Ev x cy cX5_rowOf RX5 4 4 83) (K : RetI x cX5_rowOf .int r (wT ad cy σ)) (rec4 : (Int32 × Int32 × Int32) → Option Int32) (hrec4 : ∀ a, rec4 a = some r → G x 0 0 4 [(0, .ref (ad 1)), (1, .int a.1), (2, .int a.2.1), (3, .int a.2.2)] [] (wT ad cy σ)) (σ9 : ST) (x1 : Int32) (x2 : Int32) (x3 : Int32) (h : D_X5_rowOf_L4_body rec4 σ x1 x2 x3 = some r) : G x 0 0 4 [(0, .ref (ad 1)), (1, .int x1), (2, .int x2), (3, .int x3)] [] (wT ad cy σ) := by
  unfold D_X5_rowOf_L4_body at h
  refine G.iload_n E dX5_rowOf_4 rfl 3 rfl ?_
  refine G.aload_n E dX5_rowOf_5 rfl 0 rfl ?_
  obtain ⟨r1, h2, h⟩ := bind_s h
  refine G.retI E (runV (st := [.int x3]) (As := []) E (C_X5_size h2) ck_X5_size (f287 E.fx) (f288 E.fx) (f289 E.fx) 1 5 rfl rfl rfl (by decide) (by decide) rfl (Nat.le_of_ble_eq_true rfl) dX5_rowOf_6 ⟨Nat.zero_le _, Nat.zero_le _⟩) ?_
  refine G.icmp_gt (tgt := 44) E dX5_rowOf_9 (by decide) (fun q => ?_) (fun q => ?_)
  · have h := ite_t h q
    refine G.iload_n E dX5_rowOf_44 rfl 2 rfl ?_
    obtain rfl := Option.some.inj h
    exact K rfl _ _ dX5_rowOf_45
  · have h := ite_f h q
    refine G.iconst (v := 2) E dX5_rowOf_12 (by decide) ?_
    refine G.iload_n E dX5_rowOf_13 rfl 2 rfl ?_
    refine G.imul E dX5_rowOf_14 ?_
    refine G.aload_n E dX5_rowOf_15 rfl 0 rfl ?_
    refine G.aload_n E dX5_rowOf_16 rfl 0 rfl ?_
    refine G.iload_n E dX5_rowOf_17 rfl 1 rfl ?_
    obtain ⟨r3, h4, h⟩ := bind_s h
    refine G.retI E (runV (st := [.ref (ad 1), .int ((2 : Int32) * x2)]) (As := [.int x1]) E (C_X5_placeOf h4) ck_X5_placeOf (f412 E.fx) (f414 E.fx) (f2 E.fx) 1 5 rfl rfl rfl (by decide) (by decide) rfl (Nat.le_of_ble_eq_true rfl) dX5_rowOf_18 ⟨Nat.zero_le _, Nat.zero_le _⟩) ?_
    refine G.iload_n E dX5_rowOf_21 rfl 3 rfl ?_
    refine G.iadd E dX5_rowOf_22 ?_
    obtain ⟨r5, h6, h⟩ := bind_s h
    refine G.retI E (runV (st := [.int ((2 : Int32) * x2)]) (As := [.int (r3 + x3)]) E (C_X5_at h6) ck_X5_at (f291 E.fx) (f292 E.fx) (f293 E.fx) 1 5 rfl rfl rfl (by decide) (by decide) rfl (Nat.le_of_ble_eq_true rfl) dX5_rowOf_23 ⟨Nat.zero_le _, Nat.zero_le _⟩) ?_
    refine G.bipush (v := 116) E dX5_rowOf_26 (by decide) ?_
    refine G.icmp_ne (tgt := 35) E dX5_rowOf_28 (by decide) (fun q => ?_) (fun q => ?_)
    · have h := ite_f h q
      refine G.iconst (v := 0) E dX5_rowOf_35 (by decide) ?_
      refine G.sub (lv' := [(0, .ref (ad 1)), (1, .int x1), (3, .int x3)]) [0, 1, 3] rfl ?_
      exact B_X5_rowOf_b36 E K rec4 hrec4 σ x1 x3 (0 : Int32) ((2 : Int32) * x2) h
    · have h := ite_t h q
      refine G.iconst (v := 1) E dX5_rowOf_31 (by decide) ?_
      refine G.goto (tgt := 36) E dX5_rowOf_32 (by decide) ?_
      refine G.sub (lv' := [(0, .ref (ad 1)), (1, .int x1), (3, .int x3)]) [0, 1, 3] rfl ?_
      exact B_X5_rowOf_b36 E K rec4 hrec4 σ x1 x3 (1 : Int32) ((2 : Int32) * x2) h
noncomputable def D_X5_rowOf_L4  (σ : ST) (x1 : Int32) (x2 : Int32) (x3 : Int32) : Option Int32 := itr (fun (rec4 : (Int32 × Int32 × Int32) → Option Int32) (a : (Int32 × Int32 × Int32)) => D_X5_rowOf_L4_body rec4 σ a.1 a.2.1 a.2.2) 200 (x1, x2, x3)
set_option maxRecDepth 100000 in
set_option maxHeartbeats 4000000 in
theorem B_X5_rowOf_L4 {x : CX} {cy : Nat → ClassId} {ad : Nat → Nat} {r : Int32} {σ : ST} (E : Ev x cy cX5_rowOf RX5 4 4 83) (K : RetI x cX5_rowOf .int r (wT ad cy σ))  (σ9 : ST) (x1 : Int32) (x2 : Int32) (x3 : Int32) (h : D_X5_rowOf_L4 σ x1 x2 x3 = some r) : G x 0 0 4 [(0, .ref (ad 1)), (1, .int x1), (2, .int x2), (3, .int x3)] [] (wT ad cy σ) :=
  itr_ind (P := fun a => G x 0 0 4 [(0, .ref (ad 1)), (1, .int a.1), (2, .int a.2.1), (3, .int a.2.2)] [] (wT ad cy σ)) (fun rec4 hrec4 a h => B_X5_rowOf_L4_body E K rec4 hrec4 σ a.1 a.2.1 a.2.2 h) 200 (x1, x2, x3) h
noncomputable def D_X5_rowOf (σ : ST) (p1 : Int32) : Option Int32 := D_X5_rowOf_L4 σ p1 (0 : Int32) (1 : Int32)
set_option maxRecDepth 100000 in
set_option maxHeartbeats 4000000 in
theorem B_X5_rowOf {x : CX} {cy : Nat → ClassId} {ad : Nat → Nat} {r : Int32} {σ : ST} (E : Ev x cy cX5_rowOf RX5 4 4 83) (K : RetI x cX5_rowOf .int r (wT ad cy σ)) (p1 : Int32) (h : D_X5_rowOf σ p1 = some r) : G x 0 0 0 [(0, .ref (ad 1)), (1, .int p1)] [] (wT ad cy σ) := by
  unfold D_X5_rowOf at h
  refine G.iconst (v := 0) E dX5_rowOf_0 (by decide) ?_
  refine G.istore_n (lv' := [(2, .int (0 : Int32)), (0, .ref (ad 1)), (1, .int p1)]) E dX5_rowOf_1 rfl (by decide) rfl ?_
  refine G.iconst (v := 1) E dX5_rowOf_2 (by decide) ?_
  refine G.istore_n (lv' := [(3, .int (1 : Int32)), (2, .int (0 : Int32)), (0, .ref (ad 1)), (1, .int p1)]) E dX5_rowOf_3 rfl (by decide) rfl ?_
  refine G.sub (lv' := [(0, .ref (ad 1)), (1, .int p1), (2, .int (0 : Int32)), (3, .int (1 : Int32))]) [2, 3, 1, 0] rfl ?_
  exact B_X5_rowOf_L4 E K σ p1 (0 : Int32) (1 : Int32) h
set_option maxRecDepth 100000 in
set_option maxHeartbeats 4000000 in
theorem C_X5_rowOf {l : Launch} {D : va_G} {cy : Nat → ClassId} {ad : Nat → Nat} {σ : ST} {p1 : Int32} {r : Int32} (h : D_X5_rowOf σ p1 = some r) : MI l yX5_rowOf cX5_rowOf 4 (some .int) 4 83 D cy (wT ad cy σ) [.ref (ad 1), .int p1] r (wT ad cy σ) :=
  MI.mk (lv := [(0, .ref (ad 1)), (1, .int p1)]) (by decide) (Nat.le_of_ble_eq_true rfl) rfl (fun x _ _ E K => B_X5_rowOf E K p1 h)
