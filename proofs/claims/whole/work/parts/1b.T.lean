noncomputable def D_X8_table_b93  (σ : ST)  : Option (Int32 × ST) := (D_X5_clear σ).bind fun r7 => some (gI (pI (pI r7 0 (0 : Int32)) 3 ((gI (pI r7 0 (0 : Int32)) 3) + (1 : Int32))) 1, pI (pI r7 0 (0 : Int32)) 3 ((gI (pI r7 0 (0 : Int32)) 3) + (1 : Int32)))
set_option maxRecDepth 100000 in
set_option maxHeartbeats 4000000 in
theorem B_X8_table_b93 {x : CX} {cy : Nat → ClassId} {ad : Nat → Nat} {r : (Int32 × ST)} (E : Ev x cy cX8_table RX8 3 11 366) (K : RetI x cX8_table .int r.1 (wT ad cy r.2))  (σ : ST)  (h : D_X8_table_b93 σ = some r) : G x 0 0 93 [(0, .ref (ad 0))] [] (wT ad cy σ) := by
  unfold D_X8_table_b93 at h
  refine G.aload_n E dX8_table_93 rfl 0 rfl ?_
  refine G.get E inX8 0 rfl rfl 0 (by decide) (f214 E.fx) rfl dX8_table_94 ?_
  obtain ⟨r7, h8, h⟩ := bind_s h
  refine G.retV E (runV (st := []) (As := []) E (C_X5_clear h8) ck_X5_clear (f271 E.fx) (f272 E.fx) (f273 E.fx) 1 5 rfl rfl rfl (by decide) (by decide) rfl (Nat.le_of_ble_eq_true rfl) dX8_table_97 ⟨Nat.zero_le _, Nat.zero_le _⟩) ?_
  refine G.aload_n E dX8_table_100 rfl 0 rfl ?_
  refine G.iconst (v := 0) E dX8_table_101 (by decide) ?_
  refine G.put (ws' := (wT ad cy (pI r7 0 (0 : Int32)))) E inX8 tyX8 tyX8_ok nmX8 0 rfl rfl 8 (by decide) (f222 E.fx) rfl rfl rfl rfl (Nat.le_of_ble_eq_true rfl) dX8_table_102 (wT_fI0 ad cy _ _) ?_
  refine G.aload_n E dX8_table_105 rfl 0 rfl ?_
  refine G.dup E dX8_table_106 rfl ?_
  refine G.get E inX8 0 rfl rfl 11 (by decide) (f225 E.fx) rfl dX8_table_107 ?_
  refine G.iconst (v := 1) E dX8_table_110 (by decide) ?_
  refine G.iadd E dX8_table_111 ?_
  refine G.put (ws' := (wT ad cy (pI (pI r7 0 (0 : Int32)) 3 ((gI (pI r7 0 (0 : Int32)) 3) + (1 : Int32))))) E inX8 tyX8 tyX8_ok nmX8 0 rfl rfl 11 (by decide) (f225 E.fx) rfl rfl rfl rfl (Nat.le_of_ble_eq_true rfl) dX8_table_112 (wT_fI3 ad cy _ _) ?_
  refine G.aload_n E dX8_table_115 rfl 0 rfl ?_
  refine G.get E inX8 0 rfl rfl 9 (by decide) (f223 E.fx) rfl dX8_table_116 ?_
  obtain rfl := Option.some.inj h
  exact K rfl _ _ dX8_table_119
noncomputable def D_X8_table_L40_body (rec40 : (ST × Int32) → Option (Int32 × ST)) (σ : ST) (x2 : Int32) : Option (Int32 × ST) := if (gI σ 1) ≤ x2 then (D_X8_table_b93 σ) else (if (4 : Int32) ≤ x2 then (D_X8_table_b93 σ) else ((D_X5_kindOf σ x2).bind fun r9 => if x2 < 0 ∨ 4 ≤ x2.toNatClampNeg then none else ((D_X5_rowOf (pA σ 1 x2.toNatClampNeg r9) x2).bind fun r11 => if x2 < 0 ∨ 4 ≤ x2.toNatClampNeg then none else (rec40 ((pA (pA σ 1 x2.toNatClampNeg r9) 2 x2.toNatClampNeg r11), (x2 + 1))))))
set_option maxRecDepth 100000 in
set_option maxHeartbeats 4000000 in
theorem B_X8_table_L40_body {x : CX} {cy : Nat → ClassId} {ad : Nat → Nat} {r : (Int32 × ST)} (E : Ev x cy cX8_table RX8 3 11 366) (K : RetI x cX8_table .int r.1 (wT ad cy r.2)) (rec40 : (ST × Int32) → Option (Int32 × ST)) (hrec40 : ∀ a, rec40 a = some r → G x 0 0 40 [(0, .ref (ad 0)), (2, .int a.2)] [] (wT ad cy a.1)) (σ : ST) (x2 : Int32) (h : D_X8_table_L40_body rec40 σ x2 = some r) : G x 0 0 40 [(0, .ref (ad 0)), (2, .int x2)] [] (wT ad cy σ) := by
  unfold D_X8_table_L40_body at h
  refine G.iload_n E dX8_table_40 rfl 1 rfl ?_
  refine G.aload_n E dX8_table_41 rfl 0 rfl ?_
  refine G.get E inX8 0 rfl rfl 9 (by decide) (f223 E.fx) rfl dX8_table_42 ?_
  refine G.icmp_ge (tgt := 93) E dX8_table_45 (by decide) (fun q => ?_) (fun q => ?_)
  · have h := ite_t h q
    refine G.sub (lv' := [(0, .ref (ad 0))]) [0] rfl ?_
    exact B_X8_table_b93 E K σ h
  · have h := ite_f h q
    refine G.iload_n E dX8_table_48 rfl 1 rfl ?_
    refine G.iconst (v := 4) E dX8_table_49 (by decide) ?_
    refine G.icmp_ge (tgt := 93) E dX8_table_50 (by decide) (fun q => ?_) (fun q => ?_)
    · have h := ite_t h q
      refine G.sub (lv' := [(0, .ref (ad 0))]) [0] rfl ?_
      exact B_X8_table_b93 E K σ h
    · have h := ite_f h q
      refine G.aload_n E dX8_table_53 rfl 0 rfl ?_
      refine G.get E inX8 0 rfl rfl 1 (by decide) (f215 E.fx) rfl dX8_table_54 ?_
      refine G.getN E inX1 3 rfl rfl 0 (by decide) (f117 E.fx) rfl dX8_table_57 ?_
      refine G.iload_n E dX8_table_60 rfl 1 rfl ?_
      refine G.aload_n E dX8_table_61 rfl 0 rfl ?_
      refine G.get E inX8 0 rfl rfl 0 (by decide) (f214 E.fx) rfl dX8_table_62 ?_
      refine G.iload_n E dX8_table_65 rfl 1 rfl ?_
      obtain ⟨r9, h10, h⟩ := bind_s h
      refine G.retI E (runV (st := [.int x2, .ref (ad 4)]) (As := [.int x2]) E (C_X5_kindOf h10) ck_X5_kindOf (f408 E.fx) (f409 E.fx) (f410 E.fx) 1 5 rfl rfl rfl (by decide) (by decide) rfl (Nat.le_of_ble_eq_true rfl) dX8_table_66 ⟨Nat.zero_le _, Nat.zero_le _⟩) ?_
      obtain ⟨hg, h⟩ := ite_n h
      refine G.iast (ws' := (wT ad cy (pA σ 1 x2.toNatClampNeg r9))) E 4 0 rfl rfl hg dX8_table_69 (wT_aI1 ad cy _ _ _) ?_
      refine G.aload_n E dX8_table_70 rfl 0 rfl ?_
      refine G.get E inX8 0 rfl rfl 1 (by decide) (f215 E.fx) rfl dX8_table_71 ?_
      refine G.getN E inX1 3 rfl rfl 1 (by decide) (f119 E.fx) rfl dX8_table_74 ?_
      refine G.iload_n E dX8_table_77 rfl 1 rfl ?_
      refine G.aload_n E dX8_table_78 rfl 0 rfl ?_
      refine G.get E inX8 0 rfl rfl 0 (by decide) (f214 E.fx) rfl dX8_table_79 ?_
      refine G.iload_n E dX8_table_82 rfl 1 rfl ?_
      obtain ⟨r11, h12, h⟩ := bind_s h
      refine G.retI E (runV (st := [.int x2, .ref (ad 5)]) (As := [.int x2]) E (C_X5_rowOf h12) ck_X5_rowOf (f417 E.fx) (f418 E.fx) (f419 E.fx) 1 5 rfl rfl rfl (by decide) (by decide) rfl (Nat.le_of_ble_eq_true rfl) dX8_table_83 ⟨Nat.zero_le _, Nat.zero_le _⟩) ?_
      obtain ⟨hg, h⟩ := ite_n h
      refine G.iast (ws' := (wT ad cy (pA (pA σ 1 x2.toNatClampNeg r9) 2 x2.toNatClampNeg r11))) E 5 0 rfl rfl hg dX8_table_86 (wT_aI2 ad cy _ _ _) ?_
      refine G.iinc (w := x2 + 1) (lv' := [(2, .int (x2 + 1)), (0, .ref (ad 0))]) E dX8_table_87 1 rfl rfl (by decide) rfl ?_
      refine G.goto (tgt := 40) E dX8_table_90 (by decide) ?_
      refine G.sub (lv' := [(0, .ref (ad 0)), (2, .int (x2 + 1))]) [1, 0] rfl ?_
      exact hrec40 ((pA (pA σ 1 x2.toNatClampNeg r9) 2 x2.toNatClampNeg r11), (x2 + 1)) h
noncomputable def D_X8_table_L40  (σ : ST) (x2 : Int32) : Option (Int32 × ST) := itr (fun (rec40 : (ST × Int32) → Option (Int32 × ST)) (a : (ST × Int32)) => D_X8_table_L40_body rec40 a.1 a.2) 200 (σ, x2)
set_option maxRecDepth 100000 in
set_option maxHeartbeats 4000000 in
theorem B_X8_table_L40 {x : CX} {cy : Nat → ClassId} {ad : Nat → Nat} {r : (Int32 × ST)} (E : Ev x cy cX8_table RX8 3 11 366) (K : RetI x cX8_table .int r.1 (wT ad cy r.2))  (σ : ST) (x2 : Int32) (h : D_X8_table_L40 σ x2 = some r) : G x 0 0 40 [(0, .ref (ad 0)), (2, .int x2)] [] (wT ad cy σ) :=
  itr_ind (P := fun a => G x 0 0 40 [(0, .ref (ad 0)), (2, .int a.2)] [] (wT ad cy a.1)) (fun rec40 hrec40 a h => B_X8_table_L40_body E K rec40 hrec40 a.1 a.2 h) 200 (σ, x2) h
noncomputable def D_X8_table (σ : ST)  : Option (Int32 × ST) := (D_X5_playersOfTable σ).bind fun r1 => if r1 = 0 then (some ((-103 : Int32), σ)) else ((D_X5_size (pI σ 1 r1)).bind fun r3 => (D_X1_clear (pI (pI σ 1 r1) 2 r3)).bind fun r5 => D_X8_table_L40 r5 (0 : Int32))
set_option maxRecDepth 100000 in
set_option maxHeartbeats 4000000 in
theorem B_X8_table {x : CX} {cy : Nat → ClassId} {ad : Nat → Nat} {r : (Int32 × ST)} (E : Ev x cy cX8_table RX8 3 11 366) (K : RetI x cX8_table .int r.1 (wT ad cy r.2)) (σ : ST)  (h : D_X8_table σ = some r) : G x 0 0 0 [(0, .ref (ad 0))] [] (wT ad cy σ) := by
  unfold D_X8_table at h
  refine G.aload_n E dX8_table_0 rfl 0 rfl ?_
  refine G.get E inX8 0 rfl rfl 0 (by decide) (f214 E.fx) rfl dX8_table_1 ?_
  obtain ⟨r1, h2, h⟩ := bind_s h
  refine G.retI E (runV (st := []) (As := []) E (C_X5_playersOfTable h2) ck_X5_playersOfTable (f391 E.fx) (f392 E.fx) (f393 E.fx) 1 5 rfl rfl rfl (by decide) (by decide) rfl (Nat.le_of_ble_eq_true rfl) dX8_table_4 ⟨Nat.zero_le _, Nat.zero_le _⟩) ?_
  refine G.istore_n (lv' := [(1, .int r1), (0, .ref (ad 0))]) E dX8_table_7 rfl (by decide) rfl ?_
  refine G.iload_n E dX8_table_8 rfl 0 rfl ?_
  refine G.if_ne (tgt := 15) E dX8_table_9 (by decide) (fun q => ?_) (fun q => ?_)
  · have h := ite_f h q
    refine G.aload_n E dX8_table_15 rfl 1 rfl ?_
    refine G.iload_n E dX8_table_16 rfl 0 rfl ?_
    refine G.put (ws' := (wT ad cy (pI σ 1 r1))) E inX8 tyX8 tyX8_ok nmX8 0 rfl rfl 9 (by decide) (f223 E.fx) rfl rfl rfl rfl (Nat.le_of_ble_eq_true rfl) dX8_table_17 (wT_fI1 ad cy _ _) ?_
    refine G.aload_n E dX8_table_20 rfl 1 rfl ?_
    refine G.aload_n E dX8_table_21 rfl 1 rfl ?_
    refine G.get E inX8 0 rfl rfl 0 (by decide) (f214 E.fx) rfl dX8_table_22 ?_
    obtain ⟨r3, h4, h⟩ := bind_s h
    refine G.retI E (runV (st := [.ref (ad 0)]) (As := []) E (C_X5_size h4) ck_X5_size (f396 E.fx) (f288 E.fx) (f289 E.fx) 1 5 rfl rfl rfl (by decide) (by decide) rfl (Nat.le_of_ble_eq_true rfl) dX8_table_25 ⟨Nat.zero_le _, Nat.zero_le _⟩) ?_
    refine G.put (ws' := (wT ad cy (pI (pI σ 1 r1) 2 r3))) E inX8 tyX8 tyX8_ok nmX8 0 rfl rfl 10 (by decide) (f224 E.fx) rfl rfl rfl rfl (Nat.le_of_ble_eq_true rfl) dX8_table_28 (wT_fI2 ad cy _ _) ?_
    refine G.aload_n E dX8_table_31 rfl 1 rfl ?_
    refine G.get E inX8 0 rfl rfl 1 (by decide) (f215 E.fx) rfl dX8_table_32 ?_
    obtain ⟨r5, h6, h⟩ := bind_s h
    refine G.retV E (runV (st := []) (As := []) E (C_X1_clear h6) ck_X1_clear (f397 E.fx) (f398 E.fx) (f399 E.fx) 3 1 rfl rfl rfl (by decide) (by decide) rfl (Nat.le_of_ble_eq_true rfl) dX8_table_35 ⟨Nat.zero_le _, Nat.zero_le _⟩) ?_
    refine G.iconst (v := 0) E dX8_table_38 (by decide) ?_
    refine G.istore_n (lv' := [(2, .int (0 : Int32)), (1, .int r1), (0, .ref (ad 0))]) E dX8_table_39 rfl (by decide) rfl ?_
    refine G.sub (lv' := [(0, .ref (ad 0)), (2, .int (0 : Int32))]) [2, 0] rfl ?_
    exact B_X8_table_L40 E K r5 (0 : Int32) h
  · have h := ite_t h q
    refine G.bipush (v := -103) E dX8_table_12 (by decide) ?_
    obtain rfl := Option.some.inj h
    exact K rfl _ _ dX8_table_14
set_option maxRecDepth 100000 in
set_option maxHeartbeats 4000000 in
theorem C_X8_table {l : Launch} {D : va_G} {cy : Nat → ClassId} {ad : Nat → Nat} {σ : ST}  {r : (Int32 × ST)} (h : D_X8_table σ = some r) : MI l yX8_table cX8_table 3 (some .int) 11 366 D cy (wT ad cy σ) [.ref (ad 0)] r.1 (wT ad cy r.2) :=
  MI.mk (lv := [(0, .ref (ad 0))]) (by decide) (Nat.le_of_ble_eq_true rfl) rfl (fun x _ _ E K => B_X8_table E K σ h)

noncomputable def D_X8_isPlayer (σ : ST) (p1 : Int32) : Option Int32 := if p1 < 0 then (some (0 : Int32)) else (if (gI σ 1) ≤ p1 then (some (0 : Int32)) else (if (4 : Int32) ≤ p1 then (some (0 : Int32)) else (some (1 : Int32))))
set_option maxRecDepth 100000 in
set_option maxHeartbeats 4000000 in
theorem B_X8_isPlayer {x : CX} {cy : Nat → ClassId} {ad : Nat → Nat} {r : Int32} {σ : ST} (E : Ev x cy cX8_isPlayer RX8 2 0 0) (K : RetI x cX8_isPlayer .boolean r (wT ad cy σ)) (p1 : Int32) (h : D_X8_isPlayer σ p1 = some r) : G x 0 0 0 [(0, .ref (ad 0)), (1, .int p1)] [] (wT ad cy σ) := by
  unfold D_X8_isPlayer at h
  refine G.iload_n E dX8_isPlayer_0 rfl 1 rfl ?_
  refine G.if_lt (tgt := 21) E dX8_isPlayer_1 (by decide) (fun q => ?_) (fun q => ?_)
  · have h := ite_t h q
    refine G.iconst (v := 0) E dX8_isPlayer_21 (by decide) ?_
    obtain rfl := Option.some.inj h
    exact K rfl _ _ dX8_isPlayer_22
  · have h := ite_f h q
    refine G.iload_n E dX8_isPlayer_4 rfl 1 rfl ?_
    refine G.aload_n E dX8_isPlayer_5 rfl 0 rfl ?_
    refine G.get E inX8 0 rfl rfl 9 (by decide) (f223 E.fx) rfl dX8_isPlayer_6 ?_
    refine G.icmp_ge (tgt := 21) E dX8_isPlayer_9 (by decide) (fun q => ?_) (fun q => ?_)
    · have h := ite_t h q
      refine G.iconst (v := 0) E dX8_isPlayer_21 (by decide) ?_
      obtain rfl := Option.some.inj h
      exact K rfl _ _ dX8_isPlayer_22
    · have h := ite_f h q
      refine G.iload_n E dX8_isPlayer_12 rfl 1 rfl ?_
      refine G.iconst (v := 4) E dX8_isPlayer_13 (by decide) ?_
      refine G.icmp_ge (tgt := 21) E dX8_isPlayer_14 (by decide) (fun q => ?_) (fun q => ?_)
      · have h := ite_t h q
        refine G.iconst (v := 0) E dX8_isPlayer_21 (by decide) ?_
        obtain rfl := Option.some.inj h
        exact K rfl _ _ dX8_isPlayer_22
      · have h := ite_f h q
        refine G.iconst (v := 1) E dX8_isPlayer_17 (by decide) ?_
        refine G.goto (tgt := 22) E dX8_isPlayer_18 (by decide) ?_
        obtain rfl := Option.some.inj h
        exact K rfl _ _ dX8_isPlayer_22
set_option maxRecDepth 100000 in
set_option maxHeartbeats 4000000 in
theorem C_X8_isPlayer {l : Launch} {D : va_G} {cy : Nat → ClassId} {ad : Nat → Nat} {σ : ST} {p1 : Int32} {r : Int32} (h : D_X8_isPlayer σ p1 = some r) : MI l yX8_isPlayer cX8_isPlayer 2 (some .boolean) 0 0 D cy (wT ad cy σ) [.ref (ad 0), .int p1] r (wT ad cy σ) :=
  MI.mk (lv := [(0, .ref (ad 0)), (1, .int p1)]) (by decide) (Nat.le_of_ble_eq_true rfl) rfl (fun x _ _ E K => B_X8_isPlayer E K p1 h)

noncomputable def D_X8_isKind (σ : ST) (p1 : Int32) : Option Int32 := if p1 < 0 then (some (0 : Int32)) else (if (5 : Int32) ≤ p1 then (some (0 : Int32)) else (some (1 : Int32)))
set_option maxRecDepth 100000 in
set_option maxHeartbeats 4000000 in
theorem B_X8_isKind {x : CX} {cy : Nat → ClassId} {ad : Nat → Nat} {r : Int32} {σ : ST} (E : Ev x cy cX8_isKind RX8 2 0 0) (K : RetI x cX8_isKind .boolean r (wT ad cy σ)) (p1 : Int32) (h : D_X8_isKind σ p1 = some r) : G x 0 0 0 [(0, .ref (ad 0)), (1, .int p1)] [] (wT ad cy σ) := by
  unfold D_X8_isKind at h
  refine G.iload_n E dX8_isKind_0 rfl 1 rfl ?_
  refine G.if_lt (tgt := 17) E dX8_isKind_1 (by decide) (fun q => ?_) (fun q => ?_)
  · have h := ite_t h q
    refine G.iconst (v := 0) E dX8_isKind_17 (by decide) ?_
    obtain rfl := Option.some.inj h
    exact K rfl _ _ dX8_isKind_18
  · have h := ite_f h q
    refine G.iload_n E dX8_isKind_4 rfl 1 rfl ?_
    refine G.aload_n E dX8_isKind_5 rfl 0 rfl ?_
    refine G.get E inX8 0 rfl rfl 4 (by decide) (f218 E.fx) rfl dX8_isKind_6 ?_
    refine G.alen (v := 5) E 26 5 rfl rfl rfl dX8_isKind_9 ?_
    refine G.icmp_ge (tgt := 17) E dX8_isKind_10 (by decide) (fun q => ?_) (fun q => ?_)
    · have h := ite_t h q
      refine G.iconst (v := 0) E dX8_isKind_17 (by decide) ?_
      obtain rfl := Option.some.inj h
      exact K rfl _ _ dX8_isKind_18
    · have h := ite_f h q
      refine G.iconst (v := 1) E dX8_isKind_13 (by decide) ?_
      refine G.goto (tgt := 18) E dX8_isKind_14 (by decide) ?_
      obtain rfl := Option.some.inj h
      exact K rfl _ _ dX8_isKind_18
set_option maxRecDepth 100000 in
set_option maxHeartbeats 4000000 in
theorem C_X8_isKind {l : Launch} {D : va_G} {cy : Nat → ClassId} {ad : Nat → Nat} {σ : ST} {p1 : Int32} {r : Int32} (h : D_X8_isKind σ p1 = some r) : MI l yX8_isKind cX8_isKind 2 (some .boolean) 0 0 D cy (wT ad cy σ) [.ref (ad 0), .int p1] r (wT ad cy σ) :=
  MI.mk (lv := [(0, .ref (ad 0)), (1, .int p1)]) (by decide) (Nat.le_of_ble_eq_true rfl) rfl (fun x _ _ E K => B_X8_isKind E K p1 h)

noncomputable def D_X8_kindAt (σ : ST) (p1 : Int32) : Option Nat := (D_X8_isKind σ p1).bind fun r1 => if r1 = 0 then (if (0 : Int32) < 0 ∨ 5 ≤ (0 : Int32).toNatClampNeg then none else (some ((0 : Int32).toNatClampNeg))) else (if p1 < 0 ∨ 5 ≤ p1.toNatClampNeg then none else (some p1.toNatClampNeg))
set_option maxRecDepth 100000 in
set_option maxHeartbeats 4000000 in
theorem B_X8_kindAt {x : CX} {cy : Nat → ClassId} {ad : Nat → Nat} {r : Nat} {σ : ST} (E : Ev x cy cX8_kindAt RX8 2 1 21) (K : RetR x cX8_kindAt (ad (27 + r)) (wT ad cy σ)) (p1 : Int32) (h : D_X8_kindAt σ p1 = some r) : G x 0 0 0 [(0, .ref (ad 0)), (1, .int p1)] [] (wT ad cy σ) := by
  unfold D_X8_kindAt at h
  refine G.aload_n E dX8_kindAt_0 rfl 0 rfl ?_
  refine G.iload_n E dX8_kindAt_1 rfl 1 rfl ?_
  obtain ⟨r1, h2, h⟩ := bind_s h
  refine G.retI E (runV (st := []) (As := [.int p1]) E (C_X8_isKind h2) ck_X8_isKind (f437 E.fx) (f439 E.fx) (f6 E.fx) 0 8 rfl rfl rfl (by decide) (by decide) rfl (Nat.le_of_ble_eq_true rfl) dX8_kindAt_2 ⟨Nat.zero_le _, Nat.zero_le _⟩) ?_
  refine G.if_eq (tgt := 17) E dX8_kindAt_5 (by decide) (fun q => ?_) (fun q => ?_)
  · have h := ite_t h q
    refine G.aload_n E dX8_kindAt_17 rfl 0 rfl ?_
    refine G.get E inX8 0 rfl rfl 4 (by decide) (f218 E.fx) rfl dX8_kindAt_18 ?_
    refine G.iconst (v := 0) E dX8_kindAt_21 (by decide) ?_
    obtain ⟨hg, h⟩ := ite_n h
    refine G.aldq (b := ad (27 + (0 : Int32).toNatClampNeg)) E 26 5 rfl rfl hg (if_pos (Nat.not_le.mp fun q => hg (Or.inr q))) dX8_kindAt_22 ?_
    obtain rfl := Option.some.inj h
    exact K _ _ dX8_kindAt_23
  · have h := ite_f h q
    refine G.aload_n E dX8_kindAt_8 rfl 0 rfl ?_
    refine G.get E inX8 0 rfl rfl 4 (by decide) (f218 E.fx) rfl dX8_kindAt_9 ?_
    refine G.iload_n E dX8_kindAt_12 rfl 1 rfl ?_
    obtain ⟨hg, h⟩ := ite_n h
    refine G.aldq (b := ad (27 + p1.toNatClampNeg)) E 26 5 rfl rfl hg (if_pos (Nat.not_le.mp fun q => hg (Or.inr q))) dX8_kindAt_13 ?_
    refine G.goto (tgt := 23) E dX8_kindAt_14 (by decide) ?_
    obtain rfl := Option.some.inj h
    exact K _ _ dX8_kindAt_23
set_option maxRecDepth 100000 in
set_option maxHeartbeats 4000000 in
theorem C_X8_kindAt {l : Launch} {D : va_G} {cy : Nat → ClassId} {ad : Nat → Nat} {σ : ST} {p1 : Int32} {r : Nat} (h : D_X8_kindAt σ p1 = some r) : MR l yX8_kindAt cX8_kindAt 2 (some (.object "TossRows$Plain")) 1 21 D cy (wT ad cy σ) [.ref (ad 0), .int p1] (ad (27 + r)) (wT ad cy σ) :=
  MR.mk (lv := [(0, .ref (ad 0)), (1, .int p1)]) (by decide) (Nat.le_of_ble_eq_true rfl) rfl (fun x _ _ E K => B_X8_kindAt E K p1 h)

noncomputable def D_X8_rowsHitBy (σ : ST) (p1 : Int32) : Option Int32 := (D_X8_isPlayer σ p1).bind fun r1 => if r1 = 0 then (some (0 : Int32)) else (if p1 < 0 ∨ 4 ≤ p1.toNatClampNeg then none else ((D_X8_kindAt σ (gA σ 1 p1.toNatClampNeg)).bind fun r3 => if p1 < 0 ∨ 4 ≤ p1.toNatClampNeg then none else ((D_rowsHitWith σ r3 (gA σ 2 p1.toNatClampNeg) (gI σ 2)).bind fun r5 => some r5)))
set_option maxRecDepth 100000 in
set_option maxHeartbeats 4000000 in
theorem B_X8_rowsHitBy {x : CX} {cy : Nat → ClassId} {ad : Nat → Nat} {r : Int32} {σ : ST} (E : Ev x cy cX8_rowsHitBy RX8 2 4 120) (K : RetI x cX8_rowsHitBy .int r (wT ad cy σ)) (p1 : Int32) (h : D_X8_rowsHitBy σ p1 = some r) : G x 0 0 0 [(0, .ref (ad 0)), (1, .int p1)] [] (wT ad cy σ) := by
  unfold D_X8_rowsHitBy at h
  refine G.aload_n E dX8_rowsHitBy_0 rfl 0 rfl ?_
  refine G.iload_n E dX8_rowsHitBy_1 rfl 1 rfl ?_
  obtain ⟨r1, h2, h⟩ := bind_s h
  refine G.retI E (runV (st := []) (As := [.int p1]) E (C_X8_isPlayer h2) ck_X8_isPlayer (f425 E.fx) (f427 E.fx) (f3 E.fx) 0 8 rfl rfl rfl (by decide) (by decide) rfl (Nat.le_of_ble_eq_true rfl) dX8_rowsHitBy_2 ⟨Nat.zero_le _, Nat.zero_le _⟩) ?_
  refine G.if_eq (tgt := 40) E dX8_rowsHitBy_5 (by decide) (fun q => ?_) (fun q => ?_)
  · have h := ite_t h q
    refine G.iconst (v := 0) E dX8_rowsHitBy_40 (by decide) ?_
    obtain rfl := Option.some.inj h
    exact K rfl _ _ dX8_rowsHitBy_41
  · have h := ite_f h q
    refine G.aload_n E dX8_rowsHitBy_8 rfl 0 rfl ?_
    refine G.aload_n E dX8_rowsHitBy_9 rfl 0 rfl ?_
    refine G.get E inX8 0 rfl rfl 1 (by decide) (f215 E.fx) rfl dX8_rowsHitBy_10 ?_
    refine G.getN E inX1 3 rfl rfl 0 (by decide) (f117 E.fx) rfl dX8_rowsHitBy_13 ?_
    refine G.iload_n E dX8_rowsHitBy_16 rfl 1 rfl ?_
    obtain ⟨hg, h⟩ := ite_n h
    refine G.iald E 4 0 rfl rfl hg dX8_rowsHitBy_17 ?_
    obtain ⟨r3, h4, h⟩ := bind_s h
    refine G.retR E (runV (st := []) (As := [.int (gA σ 1 p1.toNatClampNeg)]) E (C_X8_kindAt h4) ck_X8_kindAt (f433 E.fx) (f435 E.fx) (f5 E.fx) 0 8 rfl rfl rfl (by decide) (by decide) rfl (Nat.le_of_ble_eq_true rfl) dX8_rowsHitBy_18 ⟨Nat.zero_le _, Nat.zero_le _⟩) ?_
    refine G.aload_n E dX8_rowsHitBy_21 rfl 0 rfl ?_
    refine G.get E inX8 0 rfl rfl 1 (by decide) (f215 E.fx) rfl dX8_rowsHitBy_22 ?_
    refine G.getN E inX1 3 rfl rfl 1 (by decide) (f119 E.fx) rfl dX8_rowsHitBy_25 ?_
    refine G.iload_n E dX8_rowsHitBy_28 rfl 1 rfl ?_
    obtain ⟨hg, h⟩ := ite_n h
    refine G.iald E 5 0 rfl rfl hg dX8_rowsHitBy_29 ?_
    refine G.aload_n E dX8_rowsHitBy_30 rfl 0 rfl ?_
    refine G.get E inX8 0 rfl rfl 10 (by decide) (f224 E.fx) rfl dX8_rowsHitBy_31 ?_
    obtain ⟨r5, h6, h⟩ := bind_s h
    refine G.retI E (run_rowsHitWith (st := []) E h6 rfl (Nat.le_of_ble_eq_true rfl) dX8_rowsHitBy_34 (by decide) (by decide)) ?_
    refine G.goto (tgt := 41) E dX8_rowsHitBy_37 (by decide) ?_
    obtain rfl := Option.some.inj h
    exact K rfl _ _ dX8_rowsHitBy_41
set_option maxRecDepth 100000 in
set_option maxHeartbeats 4000000 in
theorem C_X8_rowsHitBy {l : Launch} {D : va_G} {cy : Nat → ClassId} {ad : Nat → Nat} {σ : ST} {p1 : Int32} {r : Int32} (h : D_X8_rowsHitBy σ p1 = some r) : MI l yX8_rowsHitBy cX8_rowsHitBy 2 (some .int) 4 120 D cy (wT ad cy σ) [.ref (ad 0), .int p1] r (wT ad cy σ) :=
  MI.mk (lv := [(0, .ref (ad 0)), (1, .int p1)]) (by decide) (Nat.le_of_ble_eq_true rfl) rfl (fun x _ _ E K => B_X8_rowsHitBy E K p1 h)

noncomputable def D_X8_has (p0 : Int32) (p1 : Int32) : Option Int32 := if ((p0 >>> (p1 &&& 31)) &&& (1 : Int32)) = (1 : Int32) then (some (1 : Int32)) else (some (0 : Int32))
set_option maxRecDepth 100000 in
set_option maxHeartbeats 4000000 in
theorem B_X8_has {x : CX} {cy : Nat → ClassId} {ws : va_W} {r : Int32} (E : Ev x cy cX8_has RX8 2 0 0) (K : RetI x cX8_has .boolean r ws) (p0 : Int32) (p1 : Int32) (h : D_X8_has p0 p1 = some r) : G x 0 0 0 [(0, .int p0), (1, .int p1)] [] ws := by
  unfold D_X8_has at h
  refine G.iload_n E dX8_has_0 rfl 0 rfl ?_
  refine G.iload_n E dX8_has_1 rfl 1 rfl ?_
  refine G.ishr E dX8_has_2 ?_
  refine G.iconst (v := 1) E dX8_has_3 (by decide) ?_
  refine G.iand E dX8_has_4 ?_
  refine G.iconst (v := 1) E dX8_has_5 (by decide) ?_
  refine G.icmp_ne (tgt := 13) E dX8_has_6 (by decide) (fun q => ?_) (fun q => ?_)
  · have h := ite_f h q
    refine G.iconst (v := 0) E dX8_has_13 (by decide) ?_
    obtain rfl := Option.some.inj h
    exact K rfl _ _ dX8_has_14
  · have h := ite_t h q
    refine G.iconst (v := 1) E dX8_has_9 (by decide) ?_
    refine G.goto (tgt := 14) E dX8_has_10 (by decide) ?_
    obtain rfl := Option.some.inj h
    exact K rfl _ _ dX8_has_14
set_option maxRecDepth 100000 in
set_option maxHeartbeats 4000000 in
theorem C_X8_has {l : Launch} {D : va_G} {cy : Nat → ClassId} {ws : va_W} {p0 : Int32} {p1 : Int32} {r : Int32} (h : D_X8_has p0 p1 = some r) : MI l yX8_has cX8_has 2 (some .boolean) 0 0 D cy ws [.int p0, .int p1] r ws :=
  MI.mk (lv := [(0, .int p0), (1, .int p1)]) (by decide) (Nat.le_of_ble_eq_true rfl) rfl (fun x _ _ E K => B_X8_has E K p0 p1 h)

noncomputable def D_X7_setRows_b51 (rec7 : (ST × Int32 × Int32 × Int32) → Option ST) (σ : ST) (x1 : Int32) (x2 : Int32) (x3 : Int32) : Option ST := rec7 (σ, x1, x2, (x3 + 1))
set_option maxRecDepth 100000 in
set_option maxHeartbeats 4000000 in
theorem B_X7_setRows_b51 {x : CX} {cy : Nat → ClassId} {ad : Nat → Nat} {r : ST} (E : Ev x cy cX7_setRows RX7 4 1 21) (K : RetV x cX7_setRows (wT ad cy r)) (rec7 : (ST × Int32 × Int32 × Int32) → Option ST) (hrec7 : ∀ a, rec7 a = some r → G x 0 0 7 [(0, .ref (ad 17)), (1, .int a.2.1), (2, .int a.2.2.1), (3, .int a.2.2.2)] [] (wT ad cy a.1)) (σ : ST) (x1 : Int32) (x2 : Int32) (x3 : Int32) (h : D_X7_setRows_b51 rec7 σ x1 x2 x3 = some r) : G x 0 0 51 [(0, .ref (ad 17)), (1, .int x1), (2, .int x2), (3, .int x3)] [] (wT ad cy σ) := by
  unfold D_X7_setRows_b51 at h
  refine G.iinc (w := x3 + 1) (lv' := [(3, .int (x3 + 1)), (0, .ref (ad 17)), (1, .int x1), (2, .int x2)]) E dX7_setRows_51 3 rfl rfl (by decide) rfl ?_
  refine G.goto (tgt := 7) E dX7_setRows_54 (by decide) ?_
  refine G.sub (lv' := [(0, .ref (ad 17)), (1, .int x1), (2, .int x2), (3, .int (x3 + 1))]) [1, 2, 3, 0] rfl ?_
  exact hrec7 (σ, x1, x2, (x3 + 1)) h
noncomputable def D_X7_setRows_L7_body (rec7 : (ST × Int32 × Int32 × Int32) → Option ST) (σ : ST) (x1 : Int32) (x2 : Int32) (x3 : Int32) : Option ST := if ((1 : Int32) <<< (x2 &&& 31)) ≤ x3 then (some σ) else (if (6 : Int32) ≤ (gI σ 13) then (some σ) else ((D_X8_has x1 x3).bind fun r1 => if r1 = 0 then (D_X7_setRows_b51 rec7 σ x1 x2 x3) else (if (gI σ 13) < 0 ∨ 6 ≤ (gI σ 13).toNatClampNeg then none else (D_X7_setRows_b51 rec7 (pI (pA σ 13 (gI σ 13).toNatClampNeg x3) 13 ((gI (pA σ 13 (gI σ 13).toNatClampNeg x3) 13) + (1 : Int32))) x1 x2 x3))))
set_option maxRecDepth 100000 in
set_option maxHeartbeats 4000000 in
theorem B_X7_setRows_L7_body {x : CX} {cy : Nat → ClassId} {ad : Nat → Nat} {r : ST} (E : Ev x cy cX7_setRows RX7 4 1 21) (K : RetV x cX7_setRows (wT ad cy r)) (rec7 : (ST × Int32 × Int32 × Int32) → Option ST) (hrec7 : ∀ a, rec7 a = some r → G x 0 0 7 [(0, .ref (ad 17)), (1, .int a.2.1), (2, .int a.2.2.1), (3, .int a.2.2.2)] [] (wT ad cy a.1)) (σ : ST) (x1 : Int32) (x2 : Int32) (x3 : Int32) (h : D_X7_setRows_L7_body rec7 σ x1 x2 x3 = some r) : G x 0 0 7 [(0, .ref (ad 17)), (1, .int x1), (2, .int x2), (3, .int x3)] [] (wT ad cy σ) := by
  unfold D_X7_setRows_L7_body at h
  refine G.iload_n E dX7_setRows_7 rfl 3 rfl ?_
  refine G.iconst (v := 1) E dX7_setRows_8 (by decide) ?_
  refine G.iload_n E dX7_setRows_9 rfl 2 rfl ?_
  refine G.ishl E dX7_setRows_10 ?_
  refine G.icmp_ge (tgt := 57) E dX7_setRows_11 (by decide) (fun q => ?_) (fun q => ?_)
  · have h := ite_t h q
    obtain rfl := Option.some.inj h
    exact K _ _ dX7_setRows_57
  · have h := ite_f h q
    refine G.aload_n E dX7_setRows_14 rfl 0 rfl ?_
    refine G.get E inX7 17 rfl rfl 2 (by decide) (f169 E.fx) rfl dX7_setRows_15 ?_
    refine G.bipush (v := 6) E dX7_setRows_18 (by decide) ?_
    refine G.icmp_ge (tgt := 57) E dX7_setRows_20 (by decide) (fun q => ?_) (fun q => ?_)
    · have h := ite_t h q
      obtain rfl := Option.some.inj h
      exact K _ _ dX7_setRows_57
    · have h := ite_f h q
      refine G.iload_n E dX7_setRows_23 rfl 1 rfl ?_
      refine G.iload_n E dX7_setRows_24 rfl 3 rfl ?_
      obtain ⟨r1, h2, h⟩ := bind_s h
      refine G.retI E (runSN (st := []) (As := [.int x1, .int x3]) E (C_X8_has h2) ck_X8_has (f479 E.fx) (f480 E.fx) (by decide) (by decide) rfl (Nat.le_of_ble_eq_true rfl) dX7_setRows_25 ⟨Nat.zero_le _, Nat.zero_le _⟩) ?_
      refine G.if_eq (tgt := 51) E dX7_setRows_28 (by decide) (fun q => ?_) (fun q => ?_)
      · have h := ite_t h q
        refine G.sub (lv' := [(0, .ref (ad 17)), (1, .int x1), (2, .int x2), (3, .int x3)]) [0, 1, 2, 3] rfl ?_
        exact B_X7_setRows_b51 E K rec7 hrec7 σ x1 x2 x3 h
      · have h := ite_f h q
        refine G.aload_n E dX7_setRows_31 rfl 0 rfl ?_
        refine G.get E inX7 17 rfl rfl 0 (by decide) (f167 E.fx) rfl dX7_setRows_32 ?_
        refine G.aload_n E dX7_setRows_35 rfl 0 rfl ?_
        refine G.get E inX7 17 rfl rfl 2 (by decide) (f169 E.fx) rfl dX7_setRows_36 ?_
        refine G.iload_n E dX7_setRows_39 rfl 3 rfl ?_
        obtain ⟨hg, h⟩ := ite_n h
        refine G.iast (ws' := (wT ad cy (pA σ 13 (gI σ 13).toNatClampNeg x3))) E 18 0 rfl rfl hg dX7_setRows_40 (wT_aI13 ad cy _ _ _) ?_
        refine G.aload_n E dX7_setRows_41 rfl 0 rfl ?_
        refine G.dup E dX7_setRows_42 rfl ?_
        refine G.get E inX7 17 rfl rfl 2 (by decide) (f169 E.fx) rfl dX7_setRows_43 ?_
        refine G.iconst (v := 1) E dX7_setRows_46 (by decide) ?_
        refine G.iadd E dX7_setRows_47 ?_
        refine G.put (ws' := (wT ad cy (pI (pA σ 13 (gI σ 13).toNatClampNeg x3) 13 ((gI (pA σ 13 (gI σ 13).toNatClampNeg x3) 13) + (1 : Int32))))) E inX7 tyX7 tyX7_ok nmX7 17 rfl rfl 2 (by decide) (f169 E.fx) rfl rfl rfl rfl (Nat.le_of_ble_eq_true rfl) dX7_setRows_48 (wT_fI13 ad cy _ _) ?_
        refine G.sub (lv' := [(0, .ref (ad 17)), (1, .int x1), (2, .int x2), (3, .int x3)]) [0, 1, 2, 3] rfl ?_
        exact B_X7_setRows_b51 E K rec7 hrec7 (pI (pA σ 13 (gI σ 13).toNatClampNeg x3) 13 ((gI (pA σ 13 (gI σ 13).toNatClampNeg x3) 13) + (1 : Int32))) x1 x2 x3 h
noncomputable def D_X7_setRows_L7  (σ : ST) (x1 : Int32) (x2 : Int32) (x3 : Int32) : Option ST := itr (fun (rec7 : (ST × Int32 × Int32 × Int32) → Option ST) (a : (ST × Int32 × Int32 × Int32)) => D_X7_setRows_L7_body rec7 a.1 a.2.1 a.2.2.1 a.2.2.2) 200 (σ, x1, x2, x3)
set_option maxRecDepth 100000 in
set_option maxHeartbeats 4000000 in
theorem B_X7_setRows_L7 {x : CX} {cy : Nat → ClassId} {ad : Nat → Nat} {r : ST} (E : Ev x cy cX7_setRows RX7 4 1 21) (K : RetV x cX7_setRows (wT ad cy r))  (σ : ST) (x1 : Int32) (x2 : Int32) (x3 : Int32) (h : D_X7_setRows_L7 σ x1 x2 x3 = some r) : G x 0 0 7 [(0, .ref (ad 17)), (1, .int x1), (2, .int x2), (3, .int x3)] [] (wT ad cy σ) :=
  itr_ind (P := fun a => G x 0 0 7 [(0, .ref (ad 17)), (1, .int a.2.1), (2, .int a.2.2.1), (3, .int a.2.2.2)] [] (wT ad cy a.1)) (fun rec7 hrec7 a h => B_X7_setRows_L7_body E K rec7 hrec7 a.1 a.2.1 a.2.2.1 a.2.2.2 h) 200 (σ, x1, x2, x3) h
noncomputable def D_X7_setRows (σ : ST) (p1 : Int32) (p2 : Int32) : Option ST := D_X7_setRows_L7 (pI σ 13 (0 : Int32)) p1 p2 (0 : Int32)
set_option maxRecDepth 100000 in
set_option maxHeartbeats 4000000 in
theorem B_X7_setRows {x : CX} {cy : Nat → ClassId} {ad : Nat → Nat} {r : ST} (E : Ev x cy cX7_setRows RX7 4 1 21) (K : RetV x cX7_setRows (wT ad cy r)) (σ : ST) (p1 : Int32) (p2 : Int32) (h : D_X7_setRows σ p1 p2 = some r) : G x 0 0 0 [(0, .ref (ad 17)), (1, .int p1), (2, .int p2)] [] (wT ad cy σ) := by
  unfold D_X7_setRows at h
  refine G.aload_n E dX7_setRows_0 rfl 0 rfl ?_
  refine G.iconst (v := 0) E dX7_setRows_1 (by decide) ?_
  refine G.put (ws' := (wT ad cy (pI σ 13 (0 : Int32)))) E inX7 tyX7 tyX7_ok nmX7 17 rfl rfl 2 (by decide) (f169 E.fx) rfl rfl rfl rfl (Nat.le_of_ble_eq_true rfl) dX7_setRows_2 (wT_fI13 ad cy _ _) ?_
  refine G.iconst (v := 0) E dX7_setRows_5 (by decide) ?_
  refine G.istore_n (lv' := [(3, .int (0 : Int32)), (0, .ref (ad 17)), (1, .int p1), (2, .int p2)]) E dX7_setRows_6 rfl (by decide) rfl ?_
  refine G.sub (lv' := [(0, .ref (ad 17)), (1, .int p1), (2, .int p2), (3, .int (0 : Int32))]) [1, 2, 3, 0] rfl ?_
  exact B_X7_setRows_L7 E K (pI σ 13 (0 : Int32)) p1 p2 (0 : Int32) h
set_option maxRecDepth 100000 in
set_option maxHeartbeats 4000000 in
theorem C_X7_setRows {l : Launch} {D : va_G} {cy : Nat → ClassId} {ad : Nat → Nat} {σ : ST} {p1 : Int32} {p2 : Int32} {r : ST} (h : D_X7_setRows σ p1 p2 = some r) : MV l yX7_setRows cX7_setRows 4 none 1 21 D cy (wT ad cy σ) [.ref (ad 17), .int p1, .int p2]  (wT ad cy r) :=
  MV.mk (lv := [(0, .ref (ad 17)), (1, .int p1), (2, .int p2)]) (by decide) (Nat.le_of_ble_eq_true rfl) rfl (fun x _ _ E K => B_X7_setRows E K σ p1 p2 h)

noncomputable def D_X7_overlap_b43 (rec5 : (Int32 × Int32 × Int32 × Int32 × Int32) → Option Int32) (x0 : Int32) (x1 : Int32) (x2 : Int32) (x3 : Int32) (x4 : Int32) : Option Int32 := rec5 (x0, x1, x2, x3, (x4 + 1))
set_option maxRecDepth 100000 in
set_option maxHeartbeats 4000000 in
theorem B_X7_overlap_b43 {x : CX} {cy : Nat → ClassId} {ws : va_W} {r : Int32} (E : Ev x cy cX7_overlap RX7 7 0 0) (K : RetI x cX7_overlap .int r ws) (rec5 : (Int32 × Int32 × Int32 × Int32 × Int32) → Option Int32) (hrec5 : ∀ a, rec5 a = some r → G x 0 0 5 [(0, .int a.1), (1, .int a.2.1), (2, .int a.2.2.1), (3, .int a.2.2.2.1), (4, .int a.2.2.2.2)] [] ws) (x0 : Int32) (x1 : Int32) (x2 : Int32) (x3 : Int32) (x4 : Int32) (h : D_X7_overlap_b43 rec5 x0 x1 x2 x3 x4 = some r) : G x 0 0 43 [(0, .int x0), (1, .int x1), (2, .int x2), (3, .int x3), (4, .int x4)] [] ws := by
  unfold D_X7_overlap_b43 at h
  refine G.iinc (w := x4 + 1) (lv' := [(4, .int (x4 + 1)), (0, .int x0), (1, .int x1), (2, .int x2), (3, .int x3)]) E dX7_overlap_43 4 rfl rfl (by decide) rfl ?_
  refine G.goto (tgt := 5) E dX7_overlap_46 (by decide) ?_
  refine G.sub (lv' := [(0, .int x0), (1, .int x1), (2, .int x2), (3, .int x3), (4, .int (x4 + 1))]) [1, 2, 3, 4, 0] rfl ?_
  exact hrec5 (x0, x1, x2, x3, (x4 + 1)) h
noncomputable def D_X7_overlap_L5_body (rec5 : (Int32 × Int32 × Int32 × Int32 × Int32) → Option Int32) (x0 : Int32) (x1 : Int32) (x2 : Int32) (x3 : Int32) (x4 : Int32) : Option Int32 := if x2 < x4 then (some x3) else (if (x0 &&& (((1 : Int32) <<< (x4 &&& 31)) - (1 : Int32))) = (x1 >>> ((x2 - x4) &&& 31)) then (D_X7_overlap_b43 rec5 x0 x1 x2 (x3 + ((1 : Int32) <<< (x4 &&& 31))) x4) else (D_X7_overlap_b43 rec5 x0 x1 x2 x3 x4))
set_option maxRecDepth 100000 in
set_option maxHeartbeats 4000000 in
theorem B_X7_overlap_L5_body {x : CX} {cy : Nat → ClassId} {ws : va_W} {r : Int32} (E : Ev x cy cX7_overlap RX7 7 0 0) (K : RetI x cX7_overlap .int r ws) (rec5 : (Int32 × Int32 × Int32 × Int32 × Int32) → Option Int32) (hrec5 : ∀ a, rec5 a = some r → G x 0 0 5 [(0, .int a.1), (1, .int a.2.1), (2, .int a.2.2.1), (3, .int a.2.2.2.1), (4, .int a.2.2.2.2)] [] ws) (x0 : Int32) (x1 : Int32) (x2 : Int32) (x3 : Int32) (x4 : Int32) (h : D_X7_overlap_L5_body rec5 x0 x1 x2 x3 x4 = some r) : G x 0 0 5 [(0, .int x0), (1, .int x1), (2, .int x2), (3, .int x3), (4, .int x4)] [] ws := by
  unfold D_X7_overlap_L5_body at h
  refine G.iload E dX7_overlap_5 4 rfl ?_
  refine G.iload_n E dX7_overlap_7 rfl 2 rfl ?_
  refine G.icmp_gt (tgt := 49) E dX7_overlap_8 (by decide) (fun q => ?_) (fun q => ?_)
  · have h := ite_t h q
    refine G.iload_n E dX7_overlap_49 rfl 3 rfl ?_
    obtain rfl := Option.some.inj h
    exact K rfl _ _ dX7_overlap_50
  · have h := ite_f h q
    refine G.iload_n E dX7_overlap_11 rfl 0 rfl ?_
    refine G.iconst (v := 1) E dX7_overlap_12 (by decide) ?_
    refine G.iload E dX7_overlap_13 4 rfl ?_
    refine G.ishl E dX7_overlap_15 ?_
    refine G.iconst (v := 1) E dX7_overlap_16 (by decide) ?_
    refine G.isub E dX7_overlap_17 ?_
    refine G.iand E dX7_overlap_18 ?_
    refine G.istore (lv' := [(5, .int (x0 &&& (((1 : Int32) <<< (x4 &&& 31)) - (1 : Int32)))), (0, .int x0), (1, .int x1), (2, .int x2), (3, .int x3), (4, .int x4)]) E dX7_overlap_19 (by decide) rfl ?_
    refine G.iload_n E dX7_overlap_21 rfl 2 rfl ?_
    refine G.iload_n E dX7_overlap_22 rfl 3 rfl ?_
    refine G.iload E dX7_overlap_23 5 rfl ?_
    refine G.isub E dX7_overlap_25 ?_
    refine G.ishr E dX7_overlap_26 ?_
    refine G.istore (lv' := [(6, .int (x1 >>> ((x2 - x4) &&& 31))), (5, .int (x0 &&& (((1 : Int32) <<< (x4 &&& 31)) - (1 : Int32)))), (0, .int x0), (1, .int x1), (2, .int x2), (3, .int x3), (4, .int x4)]) E dX7_overlap_27 (by decide) rfl ?_
    refine G.iload E dX7_overlap_29 1 rfl ?_
    refine G.iload E dX7_overlap_31 0 rfl ?_
    refine G.icmp_ne (tgt := 43) E dX7_overlap_33 (by decide) (fun q => ?_) (fun q => ?_)
    · have h := ite_f h q
      refine G.sub (lv' := [(0, .int x0), (1, .int x1), (2, .int x2), (3, .int x3), (4, .int x4)]) [2, 3, 4, 5, 6] rfl ?_
      exact B_X7_overlap_b43 E K rec5 hrec5 x0 x1 x2 x3 x4 h
    · have h := ite_t h q
      refine G.iload_n E dX7_overlap_36 rfl 5 rfl ?_
      refine G.iconst (v := 1) E dX7_overlap_37 (by decide) ?_
      refine G.iload E dX7_overlap_38 6 rfl ?_
      refine G.ishl E dX7_overlap_40 ?_
      refine G.iadd E dX7_overlap_41 ?_
      refine G.istore_n (lv' := [(3, .int (x3 + ((1 : Int32) <<< (x4 &&& 31)))), (6, .int (x1 >>> ((x2 - x4) &&& 31))), (5, .int (x0 &&& (((1 : Int32) <<< (x4 &&& 31)) - (1 : Int32)))), (0, .int x0), (1, .int x1), (2, .int x2), (4, .int x4)]) E dX7_overlap_42 rfl (by decide) rfl ?_
      refine G.sub (lv' := [(0, .int x0), (1, .int x1), (2, .int x2), (3, .int (x3 + ((1 : Int32) <<< (x4 &&& 31)))), (4, .int x4)]) [3, 4, 5, 0, 6] rfl ?_
      exact B_X7_overlap_b43 E K rec5 hrec5 x0 x1 x2 (x3 + ((1 : Int32) <<< (x4 &&& 31))) x4 h
noncomputable def D_X7_overlap_L5  (x0 : Int32) (x1 : Int32) (x2 : Int32) (x3 : Int32) (x4 : Int32) : Option Int32 := itr (fun (rec5 : (Int32 × Int32 × Int32 × Int32 × Int32) → Option Int32) (a : (Int32 × Int32 × Int32 × Int32 × Int32)) => D_X7_overlap_L5_body rec5 a.1 a.2.1 a.2.2.1 a.2.2.2.1 a.2.2.2.2) 200 (x0, x1, x2, x3, x4)
set_option maxRecDepth 100000 in
set_option maxHeartbeats 4000000 in
theorem B_X7_overlap_L5 {x : CX} {cy : Nat → ClassId} {ws : va_W} {r : Int32} (E : Ev x cy cX7_overlap RX7 7 0 0) (K : RetI x cX7_overlap .int r ws)  (x0 : Int32) (x1 : Int32) (x2 : Int32) (x3 : Int32) (x4 : Int32) (h : D_X7_overlap_L5 x0 x1 x2 x3 x4 = some r) : G x 0 0 5 [(0, .int x0), (1, .int x1), (2, .int x2), (3, .int x3), (4, .int x4)] [] ws :=
  itr_ind (P := fun a => G x 0 0 5 [(0, .int a.1), (1, .int a.2.1), (2, .int a.2.2.1), (3, .int a.2.2.2.1), (4, .int a.2.2.2.2)] [] ws) (fun rec5 hrec5 a h => B_X7_overlap_L5_body E K rec5 hrec5 a.1 a.2.1 a.2.2.1 a.2.2.2.1 a.2.2.2.2 h) 200 (x0, x1, x2, x3, x4) h
noncomputable def D_X7_overlap (p0 : Int32) (p1 : Int32) (p2 : Int32) : Option Int32 := D_X7_overlap_L5 p0 p1 p2 (0 : Int32) (1 : Int32)
set_option maxRecDepth 100000 in
set_option maxHeartbeats 4000000 in
theorem B_X7_overlap {x : CX} {cy : Nat → ClassId} {ws : va_W} {r : Int32} (E : Ev x cy cX7_overlap RX7 7 0 0) (K : RetI x cX7_overlap .int r ws) (p0 : Int32) (p1 : Int32) (p2 : Int32) (h : D_X7_overlap p0 p1 p2 = some r) : G x 0 0 0 [(0, .int p0), (1, .int p1), (2, .int p2)] [] ws := by
  unfold D_X7_overlap at h
  refine G.iconst (v := 0) E dX7_overlap_0 (by decide) ?_
  refine G.istore_n (lv' := [(3, .int (0 : Int32)), (0, .int p0), (1, .int p1), (2, .int p2)]) E dX7_overlap_1 rfl (by decide) rfl ?_
  refine G.iconst (v := 1) E dX7_overlap_2 (by decide) ?_
  refine G.istore (lv' := [(4, .int (1 : Int32)), (3, .int (0 : Int32)), (0, .int p0), (1, .int p1), (2, .int p2)]) E dX7_overlap_3 (by decide) rfl ?_
  refine G.sub (lv' := [(0, .int p0), (1, .int p1), (2, .int p2), (3, .int (0 : Int32)), (4, .int (1 : Int32))]) [2, 3, 4, 1, 0] rfl ?_
  exact B_X7_overlap_L5 E K p0 p1 p2 (0 : Int32) (1 : Int32) h
set_option maxRecDepth 100000 in
set_option maxHeartbeats 4000000 in
theorem C_X7_overlap {l : Launch} {D : va_G} {cy : Nat → ClassId} {ws : va_W} {p0 : Int32} {p1 : Int32} {p2 : Int32} {r : Int32} (h : D_X7_overlap p0 p1 p2 = some r) : MI l yX7_overlap cX7_overlap 7 (some .int) 0 0 D cy ws [.int p0, .int p1, .int p2] r ws :=
  MI.mk (lv := [(0, .int p0), (1, .int p1), (2, .int p2)]) (by decide) (Nat.le_of_ble_eq_true rfl) rfl (fun x _ _ E K => B_X7_overlap E K p0 p1 p2 h)

noncomputable def D_X7_setSums_L12_body (rec2 : (ST × Int32 × Int32) → Option ST) (rec12 : (ST × Int32 × Int32 × Int32) → Option ST) (σ : ST) (x1 : Int32) (x2 : Int32) (x3 : Int32) : Option ST := if (gI σ 13) ≤ x3 then (if x2 < 0 ∨ 6 ≤ x2.toNatClampNeg then none else (if 6 ≤ x2.toNatClampNeg then none else (if (gI σ 13) < 0 ∨ 7 ≤ (gI σ 13).toNatClampNeg then none else (rec2 ((pB σ x2.toNatClampNeg (gI σ 13).toNatClampNeg (1 : Int64)), x1, (x2 + 1)))))) else (if x2 < 0 ∨ 6 ≤ x2.toNatClampNeg then none else (if x3 < 0 ∨ 6 ≤ x3.toNatClampNeg then none else (if x2 < 0 ∨ 6 ≤ x2.toNatClampNeg then none else ((D_X7_overlap (gA σ 13 x3.toNatClampNeg) (gA σ 13 x2.toNatClampNeg) x1).bind fun r1 => if 6 ≤ x2.toNatClampNeg then none else (if x3 < 0 ∨ 7 ≤ x3.toNatClampNeg then none else (rec12 ((pB σ x2.toNatClampNeg x3.toNatClampNeg r1.toInt64), x1, x2, (x3 + 1))))))))
set_option maxRecDepth 100000 in
set_option maxHeartbeats 4000000 in
theorem B_X7_setSums_L12_body {x : CX} {cy : Nat → ClassId} {ad : Nat → Nat} {r : ST} (E : Ev x cy cX7_setSums RX7 4 1 26) (K : RetV x cX7_setSums (wT ad cy r)) (rec2 : (ST × Int32 × Int32) → Option ST) (hrec2 : ∀ a, rec2 a = some r → G x 0 0 2 [(0, .ref (ad 17)), (1, .int a.2.1), (2, .int a.2.2)] [] (wT ad cy a.1)) (rec12 : (ST × Int32 × Int32 × Int32) → Option ST) (hrec12 : ∀ a, rec12 a = some r → G x 0 0 12 [(0, .ref (ad 17)), (1, .int a.2.1), (2, .int a.2.2.1), (3, .int a.2.2.2)] [] (wT ad cy a.1)) (σ : ST) (x1 : Int32) (x2 : Int32) (x3 : Int32) (h : D_X7_setSums_L12_body rec2 rec12 σ x1 x2 x3 = some r) : G x 0 0 12 [(0, .ref (ad 17)), (1, .int x1), (2, .int x2), (3, .int x3)] [] (wT ad cy σ) := by
  unfold D_X7_setSums_L12_body at h
  refine G.iload_n E dX7_setSums_12 rfl 3 rfl ?_
  refine G.aload_n E dX7_setSums_13 rfl 0 rfl ?_
  refine G.get E inX7 17 rfl rfl 2 (by decide) (f169 E.fx) rfl dX7_setSums_14 ?_
  refine G.icmp_ge (tgt := 51) E dX7_setSums_17 (by decide) (fun q => ?_) (fun q => ?_)
  · have h := ite_t h q
    refine G.aload_n E dX7_setSums_51 rfl 0 rfl ?_
    refine G.get E inX7 17 rfl rfl 1 (by decide) (f168 E.fx) rfl dX7_setSums_52 ?_
    refine G.iload_n E dX7_setSums_55 rfl 2 rfl ?_
    obtain ⟨hg, h⟩ := ite_n h
    refine G.aldA (b := ad (20 + x2.toNatClampNeg)) E 19 6 rfl rfl hg (if_pos (Nat.not_le.mp fun q => hg (Or.inr q))) dX7_setSums_56 ?_
    refine G.aload_n E dX7_setSums_57 rfl 0 rfl ?_
    refine G.get E inX7 17 rfl rfl 2 (by decide) (f169 E.fx) rfl dX7_setSums_58 ?_
    refine G.lconst (v := 1) E dX7_setSums_61 (by decide) ?_
    obtain ⟨hk, h⟩ := ite_n h
    obtain ⟨hg, h⟩ := ite_n h
    refine G.last (ws' := (wT ad cy (pB σ x2.toNatClampNeg (gI σ 13).toNatClampNeg (1 : Int64)))) E (20 + x2.toNatClampNeg) 3 (wT_row ad cy σ (Nat.not_le.mp hk)) rfl hg dX7_setSums_62 (wT_set ad cy σ (Nat.not_le.mp hk) _ _) ?_
    refine G.iinc (w := x2 + 1) (lv' := [(2, .int (x2 + 1)), (0, .ref (ad 17)), (1, .int x1), (3, .int x3)]) E dX7_setSums_63 2 rfl rfl (by decide) rfl ?_
    refine G.goto (tgt := 2) E dX7_setSums_66 (by decide) ?_
    refine G.sub (lv' := [(0, .ref (ad 17)), (1, .int x1), (2, .int (x2 + 1))]) [1, 2, 0] rfl ?_
    exact hrec2 ((pB σ x2.toNatClampNeg (gI σ 13).toNatClampNeg (1 : Int64)), x1, (x2 + 1)) h
  · have h := ite_f h q
    refine G.aload_n E dX7_setSums_20 rfl 0 rfl ?_
    refine G.get E inX7 17 rfl rfl 1 (by decide) (f168 E.fx) rfl dX7_setSums_21 ?_
    refine G.iload_n E dX7_setSums_24 rfl 2 rfl ?_
    obtain ⟨hg, h⟩ := ite_n h
    refine G.aldA (b := ad (20 + x2.toNatClampNeg)) E 19 6 rfl rfl hg (if_pos (Nat.not_le.mp fun q => hg (Or.inr q))) dX7_setSums_25 ?_
    refine G.iload_n E dX7_setSums_26 rfl 3 rfl ?_
    refine G.aload_n E dX7_setSums_27 rfl 0 rfl ?_
    refine G.get E inX7 17 rfl rfl 0 (by decide) (f167 E.fx) rfl dX7_setSums_28 ?_
    refine G.iload_n E dX7_setSums_31 rfl 3 rfl ?_
    obtain ⟨hg, h⟩ := ite_n h
    refine G.iald E 18 0 rfl rfl hg dX7_setSums_32 ?_
    refine G.aload_n E dX7_setSums_33 rfl 0 rfl ?_
    refine G.get E inX7 17 rfl rfl 0 (by decide) (f167 E.fx) rfl dX7_setSums_34 ?_
    refine G.iload_n E dX7_setSums_37 rfl 2 rfl ?_
    obtain ⟨hg, h⟩ := ite_n h
    refine G.iald E 18 0 rfl rfl hg dX7_setSums_38 ?_
    refine G.iload_n E dX7_setSums_39 rfl 1 rfl ?_
    obtain ⟨r1, h2, h⟩ := bind_s h
    refine G.retI E (runS (st := [.int x3, .ref (ad (20 + x2.toNatClampNeg))]) (As := [.int (gA σ 13 x3.toNatClampNeg), .int (gA σ 13 x2.toNatClampNeg), .int x1]) E (C_X7_overlap h2) ck_X7_overlap (f486 E.fx) (f487 E.fx) (by decide) (by decide) rfl (Nat.le_of_ble_eq_true rfl) dX7_setSums_40 ⟨Nat.zero_le _, Nat.zero_le _⟩) ?_
    refine G.i2l E dX7_setSums_43 ?_
    obtain ⟨hk, h⟩ := ite_n h
    obtain ⟨hg, h⟩ := ite_n h
    refine G.last (ws' := (wT ad cy (pB σ x2.toNatClampNeg x3.toNatClampNeg r1.toInt64))) E (20 + x2.toNatClampNeg) 3 (wT_row ad cy σ (Nat.not_le.mp hk)) rfl hg dX7_setSums_44 (wT_set ad cy σ (Nat.not_le.mp hk) _ _) ?_
    refine G.iinc (w := x3 + 1) (lv' := [(3, .int (x3 + 1)), (0, .ref (ad 17)), (1, .int x1), (2, .int x2)]) E dX7_setSums_45 3 rfl rfl (by decide) rfl ?_
    refine G.goto (tgt := 12) E dX7_setSums_48 (by decide) ?_
    refine G.sub (lv' := [(0, .ref (ad 17)), (1, .int x1), (2, .int x2), (3, .int (x3 + 1))]) [1, 2, 3, 0] rfl ?_
    exact hrec12 ((pB σ x2.toNatClampNeg x3.toNatClampNeg r1.toInt64), x1, x2, (x3 + 1)) h
noncomputable def D_X7_setSums_L12 (rec2 : (ST × Int32 × Int32) → Option ST) (σ : ST) (x1 : Int32) (x2 : Int32) (x3 : Int32) : Option ST := itr (fun (rec12 : (ST × Int32 × Int32 × Int32) → Option ST) (a : (ST × Int32 × Int32 × Int32)) => D_X7_setSums_L12_body rec2 rec12 a.1 a.2.1 a.2.2.1 a.2.2.2) 200 (σ, x1, x2, x3)
set_option maxRecDepth 100000 in
set_option maxHeartbeats 4000000 in
theorem B_X7_setSums_L12 {x : CX} {cy : Nat → ClassId} {ad : Nat → Nat} {r : ST} (E : Ev x cy cX7_setSums RX7 4 1 26) (K : RetV x cX7_setSums (wT ad cy r)) (rec2 : (ST × Int32 × Int32) → Option ST) (hrec2 : ∀ a, rec2 a = some r → G x 0 0 2 [(0, .ref (ad 17)), (1, .int a.2.1), (2, .int a.2.2)] [] (wT ad cy a.1)) (σ : ST) (x1 : Int32) (x2 : Int32) (x3 : Int32) (h : D_X7_setSums_L12 rec2 σ x1 x2 x3 = some r) : G x 0 0 12 [(0, .ref (ad 17)), (1, .int x1), (2, .int x2), (3, .int x3)] [] (wT ad cy σ) :=
  itr_ind (P := fun a => G x 0 0 12 [(0, .ref (ad 17)), (1, .int a.2.1), (2, .int a.2.2.1), (3, .int a.2.2.2)] [] (wT ad cy a.1)) (fun rec12 hrec12 a h => B_X7_setSums_L12_body E K rec2 hrec2 rec12 hrec12 a.1 a.2.1 a.2.2.1 a.2.2.2 h) 200 (σ, x1, x2, x3) h
noncomputable def D_X7_setSums_L2_body (rec2 : (ST × Int32 × Int32) → Option ST) (σ : ST) (x1 : Int32) (x2 : Int32) : Option ST := if (gI σ 13) ≤ x2 then (some σ) else (D_X7_setSums_L12 rec2 σ x1 x2 (0 : Int32))
set_option maxRecDepth 100000 in
set_option maxHeartbeats 4000000 in
theorem B_X7_setSums_L2_body {x : CX} {cy : Nat → ClassId} {ad : Nat → Nat} {r : ST} (E : Ev x cy cX7_setSums RX7 4 1 26) (K : RetV x cX7_setSums (wT ad cy r)) (rec2 : (ST × Int32 × Int32) → Option ST) (hrec2 : ∀ a, rec2 a = some r → G x 0 0 2 [(0, .ref (ad 17)), (1, .int a.2.1), (2, .int a.2.2)] [] (wT ad cy a.1)) (σ : ST) (x1 : Int32) (x2 : Int32) (h : D_X7_setSums_L2_body rec2 σ x1 x2 = some r) : G x 0 0 2 [(0, .ref (ad 17)), (1, .int x1), (2, .int x2)] [] (wT ad cy σ) := by
  unfold D_X7_setSums_L2_body at h
  refine G.iload_n E dX7_setSums_2 rfl 2 rfl ?_
  refine G.aload_n E dX7_setSums_3 rfl 0 rfl ?_
  refine G.get E inX7 17 rfl rfl 2 (by decide) (f169 E.fx) rfl dX7_setSums_4 ?_
  refine G.icmp_ge (tgt := 69) E dX7_setSums_7 (by decide) (fun q => ?_) (fun q => ?_)
  · have h := ite_t h q
    obtain rfl := Option.some.inj h
    exact K _ _ dX7_setSums_69
  · have h := ite_f h q
    refine G.iconst (v := 0) E dX7_setSums_10 (by decide) ?_
    refine G.istore_n (lv' := [(3, .int (0 : Int32)), (0, .ref (ad 17)), (1, .int x1), (2, .int x2)]) E dX7_setSums_11 rfl (by decide) rfl ?_
    refine G.sub (lv' := [(0, .ref (ad 17)), (1, .int x1), (2, .int x2), (3, .int (0 : Int32))]) [1, 2, 3, 0] rfl ?_
    exact B_X7_setSums_L12 E K rec2 hrec2 σ x1 x2 (0 : Int32) h
noncomputable def D_X7_setSums_L2  (σ : ST) (x1 : Int32) (x2 : Int32) : Option ST := itr (fun (rec2 : (ST × Int32 × Int32) → Option ST) (a : (ST × Int32 × Int32)) => D_X7_setSums_L2_body rec2 a.1 a.2.1 a.2.2) 200 (σ, x1, x2)
set_option maxRecDepth 100000 in
set_option maxHeartbeats 4000000 in
theorem B_X7_setSums_L2 {x : CX} {cy : Nat → ClassId} {ad : Nat → Nat} {r : ST} (E : Ev x cy cX7_setSums RX7 4 1 26) (K : RetV x cX7_setSums (wT ad cy r))  (σ : ST) (x1 : Int32) (x2 : Int32) (h : D_X7_setSums_L2 σ x1 x2 = some r) : G x 0 0 2 [(0, .ref (ad 17)), (1, .int x1), (2, .int x2)] [] (wT ad cy σ) :=
  itr_ind (P := fun a => G x 0 0 2 [(0, .ref (ad 17)), (1, .int a.2.1), (2, .int a.2.2)] [] (wT ad cy a.1)) (fun rec2 hrec2 a h => B_X7_setSums_L2_body E K rec2 hrec2 a.1 a.2.1 a.2.2 h) 200 (σ, x1, x2) h
noncomputable def D_X7_setSums (σ : ST) (p1 : Int32) : Option ST := D_X7_setSums_L2 σ p1 (0 : Int32)
set_option maxRecDepth 100000 in
set_option maxHeartbeats 4000000 in
theorem B_X7_setSums {x : CX} {cy : Nat → ClassId} {ad : Nat → Nat} {r : ST} (E : Ev x cy cX7_setSums RX7 4 1 26) (K : RetV x cX7_setSums (wT ad cy r)) (σ : ST) (p1 : Int32) (h : D_X7_setSums σ p1 = some r) : G x 0 0 0 [(0, .ref (ad 17)), (1, .int p1)] [] (wT ad cy σ) := by
  unfold D_X7_setSums at h
  refine G.iconst (v := 0) E dX7_setSums_0 (by decide) ?_
  refine G.istore_n (lv' := [(2, .int (0 : Int32)), (0, .ref (ad 17)), (1, .int p1)]) E dX7_setSums_1 rfl (by decide) rfl ?_
  refine G.sub (lv' := [(0, .ref (ad 17)), (1, .int p1), (2, .int (0 : Int32))]) [1, 2, 0] rfl ?_
  exact B_X7_setSums_L2 E K σ p1 (0 : Int32) h
set_option maxRecDepth 100000 in
set_option maxHeartbeats 4000000 in
theorem C_X7_setSums {l : Launch} {D : va_G} {cy : Nat → ClassId} {ad : Nat → Nat} {σ : ST} {p1 : Int32} {r : ST} (h : D_X7_setSums σ p1 = some r) : MV l yX7_setSums cX7_setSums 4 none 1 26 D cy (wT ad cy σ) [.ref (ad 17), .int p1]  (wT ad cy r) :=
  MV.mk (lv := [(0, .ref (ad 17)), (1, .int p1)]) (by decide) (Nat.le_of_ble_eq_true rfl) rfl (fun x _ _ E K => B_X7_setSums E K σ p1 h)

noncomputable def D_X7_eliminate_L13_body (rec13 : (ST × Nat × Nat × Int64 × Int64 × Int64 × Int32) → Option ST) (σ : ST) (x1 : Nat) (x2 : Nat) (x4 : Int64) (x6 : Int64) (x8 : Int64) (x10 : Int32) : Option ST := if (gI σ 13) < x10 then (some σ) else (if (lg_cmp x4 (0 : Int64)) = 0 then (some σ) else (if 6 ≤ x1 then none else (if x10 < 0 ∨ 7 ≤ x10.toNatClampNeg then none else (if 6 ≤ x2 then none else (if x10 < 0 ∨ 7 ≤ x10.toNatClampNeg then none else (if x4 = 0 then none else (if 6 ≤ x1 then none else (if x10 < 0 ∨ 7 ≤ x10.toNatClampNeg then none else (rec13 ((pB σ x1 x10.toNatClampNeg (((x6 * (gB σ x1 x10.toNatClampNeg)) - (x8 * (gB σ x2 x10.toNatClampNeg))) / x4)), x1, x2, x4, x6, x8, (x10 + 1)))))))))))
set_option maxRecDepth 100000 in
set_option maxHeartbeats 4000000 in
theorem B_X7_eliminate_L13_body {x : CX} {cy : Nat → ClassId} {ad : Nat → Nat} {r : ST} (E : Ev x cy cX7_eliminate RX7 11 0 0) (K : RetV x cX7_eliminate (wT ad cy r)) (rec13 : (ST × Nat × Nat × Int64 × Int64 × Int64 × Int32) → Option ST) (hrec13 : ∀ a, rec13 a = some r → G x 0 0 13 [(0, .ref (ad 17)), (1, .ref (ad (20 + a.2.1))), (2, .ref (ad (20 + a.2.2.1))), (4, .long a.2.2.2.1), (6, .long a.2.2.2.2.1), (8, .long a.2.2.2.2.2.1), (10, .int a.2.2.2.2.2.2)] [] (wT ad cy a.1)) (σ : ST) (x1 : Nat) (x2 : Nat) (x4 : Int64) (x6 : Int64) (x8 : Int64) (x10 : Int32) (h : D_X7_eliminate_L13_body rec13 σ x1 x2 x4 x6 x8 x10 = some r) : G x 0 0 13 [(0, .ref (ad 17)), (1, .ref (ad (20 + x1))), (2, .ref (ad (20 + x2))), (4, .long x4), (6, .long x6), (8, .long x8), (10, .int x10)] [] (wT ad cy σ) := by
  unfold D_X7_eliminate_L13_body at h
  refine G.iload E dX7_eliminate_13 6 rfl ?_
  refine G.aload_n E dX7_eliminate_15 rfl 0 rfl ?_
  refine G.get E inX7 17 rfl rfl 2 (by decide) (f169 E.fx) rfl dX7_eliminate_16 ?_
  refine G.icmp_gt (tgt := 57) E dX7_eliminate_19 (by decide) (fun q => ?_) (fun q => ?_)
  · have h := ite_t h q
    obtain rfl := Option.some.inj h
    exact K _ _ dX7_eliminate_57
  · have h := ite_f h q
    refine G.lload E dX7_eliminate_22 3 rfl ?_
    refine G.lconst (v := 0) E dX7_eliminate_24 (by decide) ?_
    refine G.lcmp E dX7_eliminate_25 ?_
    refine G.if_eq (tgt := 57) E dX7_eliminate_26 (by decide) (fun q => ?_) (fun q => ?_)
    · have h := ite_t h q
      obtain rfl := Option.some.inj h
      exact K _ _ dX7_eliminate_57
    · have h := ite_f h q
      refine G.aload_n E dX7_eliminate_29 rfl 1 rfl ?_
      refine G.iload E dX7_eliminate_30 6 rfl ?_
      refine G.lload E dX7_eliminate_32 4 rfl ?_
      refine G.aload_n E dX7_eliminate_34 rfl 1 rfl ?_
      refine G.iload E dX7_eliminate_35 6 rfl ?_
      obtain ⟨hk, h⟩ := ite_n h
      obtain ⟨hg, h⟩ := ite_n h
      refine G.lald E (20 + x1) 3 (wT_row ad cy σ (Nat.not_le.mp hk)) rfl hg dX7_eliminate_37 ?_
      refine G.lmul E dX7_eliminate_38 ?_
      refine G.lload E dX7_eliminate_39 5 rfl ?_
      refine G.aload_n E dX7_eliminate_41 rfl 2 rfl ?_
      refine G.iload E dX7_eliminate_42 6 rfl ?_
      obtain ⟨hk, h⟩ := ite_n h
      obtain ⟨hg, h⟩ := ite_n h
      refine G.lald E (20 + x2) 3 (wT_row ad cy σ (Nat.not_le.mp hk)) rfl hg dX7_eliminate_44 ?_
      refine G.lmul E dX7_eliminate_45 ?_
      refine G.lsub E dX7_eliminate_46 ?_
      refine G.lload E dX7_eliminate_47 3 rfl ?_
      obtain ⟨hg, h⟩ := ite_n h
      refine G.ldiv E dX7_eliminate_49 hg ?_
      obtain ⟨hk, h⟩ := ite_n h
      obtain ⟨hg, h⟩ := ite_n h
      refine G.last (ws' := (wT ad cy (pB σ x1 x10.toNatClampNeg (((x6 * (gB σ x1 x10.toNatClampNeg)) - (x8 * (gB σ x2 x10.toNatClampNeg))) / x4)))) E (20 + x1) 3 (wT_row ad cy σ (Nat.not_le.mp hk)) rfl hg dX7_eliminate_50 (wT_set ad cy σ (Nat.not_le.mp hk) _ _) ?_
      refine G.iinc (w := x10 + 1) (lv' := [(10, .int (x10 + 1)), (0, .ref (ad 17)), (1, .ref (ad (20 + x1))), (2, .ref (ad (20 + x2))), (4, .long x4), (6, .long x6), (8, .long x8)]) E dX7_eliminate_51 6 rfl rfl (by decide) rfl ?_
      refine G.goto (tgt := 13) E dX7_eliminate_54 (by decide) ?_
      refine G.sub (lv' := [(0, .ref (ad 17)), (1, .ref (ad (20 + x1))), (2, .ref (ad (20 + x2))), (4, .long x4), (6, .long x6), (8, .long x8), (10, .int (x10 + 1))]) [1, 2, 3, 4, 5, 6, 0] rfl ?_
      exact hrec13 ((pB σ x1 x10.toNatClampNeg (((x6 * (gB σ x1 x10.toNatClampNeg)) - (x8 * (gB σ x2 x10.toNatClampNeg))) / x4)), x1, x2, x4, x6, x8, (x10 + 1)) h
noncomputable def D_X7_eliminate_L13  (σ : ST) (x1 : Nat) (x2 : Nat) (x4 : Int64) (x6 : Int64) (x8 : Int64) (x10 : Int32) : Option ST := itr (fun (rec13 : (ST × Nat × Nat × Int64 × Int64 × Int64 × Int32) → Option ST) (a : (ST × Nat × Nat × Int64 × Int64 × Int64 × Int32)) => D_X7_eliminate_L13_body rec13 a.1 a.2.1 a.2.2.1 a.2.2.2.1 a.2.2.2.2.1 a.2.2.2.2.2.1 a.2.2.2.2.2.2) 200 (σ, x1, x2, x4, x6, x8, x10)
set_option maxRecDepth 100000 in
set_option maxHeartbeats 4000000 in
theorem B_X7_eliminate_L13 {x : CX} {cy : Nat → ClassId} {ad : Nat → Nat} {r : ST} (E : Ev x cy cX7_eliminate RX7 11 0 0) (K : RetV x cX7_eliminate (wT ad cy r))  (σ : ST) (x1 : Nat) (x2 : Nat) (x4 : Int64) (x6 : Int64) (x8 : Int64) (x10 : Int32) (h : D_X7_eliminate_L13 σ x1 x2 x4 x6 x8 x10 = some r) : G x 0 0 13 [(0, .ref (ad 17)), (1, .ref (ad (20 + x1))), (2, .ref (ad (20 + x2))), (4, .long x4), (6, .long x6), (8, .long x8), (10, .int x10)] [] (wT ad cy σ) :=
  itr_ind (P := fun a => G x 0 0 13 [(0, .ref (ad 17)), (1, .ref (ad (20 + a.2.1))), (2, .ref (ad (20 + a.2.2.1))), (4, .long a.2.2.2.1), (6, .long a.2.2.2.2.1), (8, .long a.2.2.2.2.2.1), (10, .int a.2.2.2.2.2.2)] [] (wT ad cy a.1)) (fun rec13 hrec13 a h => B_X7_eliminate_L13_body E K rec13 hrec13 a.1 a.2.1 a.2.2.1 a.2.2.2.1 a.2.2.2.2.1 a.2.2.2.2.2.1 a.2.2.2.2.2.2 h) 200 (σ, x1, x2, x4, x6, x8, x10) h
noncomputable def D_X7_eliminate (σ : ST) (p1 : Nat) (p2 : Nat) (p3 : Int32) (p4 : Int64) : Option ST := if 6 ≤ p2 then none else (if p3 < 0 ∨ 7 ≤ p3.toNatClampNeg then none else (if 6 ≤ p1 then none else (if p3 < 0 ∨ 7 ≤ p3.toNatClampNeg then none else (D_X7_eliminate_L13 σ p1 p2 p4 (gB σ p2 p3.toNatClampNeg) (gB σ p1 p3.toNatClampNeg) (0 : Int32)))))
set_option maxRecDepth 100000 in
set_option maxHeartbeats 4000000 in
theorem B_X7_eliminate {x : CX} {cy : Nat → ClassId} {ad : Nat → Nat} {r : ST} (E : Ev x cy cX7_eliminate RX7 11 0 0) (K : RetV x cX7_eliminate (wT ad cy r)) (σ : ST) (p1 : Nat) (p2 : Nat) (p3 : Int32) (p4 : Int64) (h : D_X7_eliminate σ p1 p2 p3 p4 = some r) : G x 0 0 0 [(0, .ref (ad 17)), (1, .ref (ad (20 + p1))), (2, .ref (ad (20 + p2))), (3, .int p3), (4, .long p4)] [] (wT ad cy σ) := by
  unfold D_X7_eliminate at h
  refine G.aload_n E dX7_eliminate_0 rfl 2 rfl ?_
  refine G.iload_n E dX7_eliminate_1 rfl 3 rfl ?_
  obtain ⟨hk, h⟩ := ite_n h
  obtain ⟨hg, h⟩ := ite_n h
  refine G.lald E (20 + p2) 3 (wT_row ad cy σ (Nat.not_le.mp hk)) rfl hg dX7_eliminate_2 ?_
  refine G.lstore (lv' := [(6, .long (gB σ p2 p3.toNatClampNeg)), (0, .ref (ad 17)), (1, .ref (ad (20 + p1))), (2, .ref (ad (20 + p2))), (3, .int p3), (4, .long p4)]) E dX7_eliminate_3 (by decide) rfl ?_
  refine G.aload_n E dX7_eliminate_5 rfl 2 rfl ?_
  refine G.iload_n E dX7_eliminate_6 rfl 4 rfl ?_
  obtain ⟨hk, h⟩ := ite_n h
  obtain ⟨hg, h⟩ := ite_n h
  refine G.lald E (20 + p1) 3 (wT_row ad cy σ (Nat.not_le.mp hk)) rfl hg dX7_eliminate_7 ?_
  refine G.lstore (lv' := [(8, .long (gB σ p1 p3.toNatClampNeg)), (6, .long (gB σ p2 p3.toNatClampNeg)), (0, .ref (ad 17)), (1, .ref (ad (20 + p1))), (2, .ref (ad (20 + p2))), (3, .int p3), (4, .long p4)]) E dX7_eliminate_8 (by decide) rfl ?_
  refine G.iconst (v := 0) E dX7_eliminate_10 (by decide) ?_
  refine G.istore (lv' := [(10, .int (0 : Int32)), (8, .long (gB σ p1 p3.toNatClampNeg)), (6, .long (gB σ p2 p3.toNatClampNeg)), (0, .ref (ad 17)), (1, .ref (ad (20 + p1))), (2, .ref (ad (20 + p2))), (3, .int p3), (4, .long p4)]) E dX7_eliminate_11 (by decide) rfl ?_
  refine G.sub (lv' := [(0, .ref (ad 17)), (1, .ref (ad (20 + p1))), (2, .ref (ad (20 + p2))), (4, .long p4), (6, .long (gB σ p2 p3.toNatClampNeg)), (8, .long (gB σ p1 p3.toNatClampNeg)), (10, .int (0 : Int32))]) [3, 4, 5, 7, 2, 1, 0] rfl ?_
  exact B_X7_eliminate_L13 E K σ p1 p2 p4 (gB σ p2 p3.toNatClampNeg) (gB σ p1 p3.toNatClampNeg) (0 : Int32) h
set_option maxRecDepth 100000 in
set_option maxHeartbeats 4000000 in
theorem C_X7_eliminate {l : Launch} {D : va_G} {cy : Nat → ClassId} {ad : Nat → Nat} {σ : ST} {p1 : Nat} {p2 : Nat} {p3 : Int32} {p4 : Int64} {r : ST} (h : D_X7_eliminate σ p1 p2 p3 p4 = some r) : MV l yX7_eliminate cX7_eliminate 11 none 0 0 D cy (wT ad cy σ) [.ref (ad 17), .ref (ad (20 + p1)), .ref (ad (20 + p2)), .int p3, .long p4]  (wT ad cy r) :=
  MV.mk (lv := [(0, .ref (ad 17)), (1, .ref (ad (20 + p1))), (2, .ref (ad (20 + p2))), (3, .int p3), (4, .long p4)]) (by decide) (Nat.le_of_ble_eq_true rfl) rfl (fun x _ _ E K => B_X7_eliminate E K σ p1 p2 p3 p4 h)
