noncomputable def D_X7_run_b92 (rec16 : (ST × Int64 × Int32) → Option (Int64 × ST)) (rec55 : (ST × Int64 × Int32 × Int64 × Int32) → Option (Int64 × ST)) (σ : ST) (x3 : Int64) (x5 : Int32) (x6 : Int64) (x8 : Int32) : Option (Int64 × ST) := rec55 (σ, x3, x5, x6, (x8 + 1))
set_option maxRecDepth 100000 in
set_option maxHeartbeats 4000000 in
theorem B_X7_run_b92 {x : CX} {cy : Nat → ClassId} {ad : Nat → Nat} {r : (Int64 × ST)} (E : Ev x cy cX7_run RX7 9 2 49) (K : RetL x cX7_run r.1 (wT ad cy r.2)) (rec16 : (ST × Int64 × Int32) → Option (Int64 × ST)) (hrec16 : ∀ a, rec16 a = some r → G x 0 0 16 [(0, .ref (ad 17)), (3, .long a.2.1), (5, .int a.2.2)] [] (wT ad cy a.1)) (rec55 : (ST × Int64 × Int32 × Int64 × Int32) → Option (Int64 × ST)) (hrec55 : ∀ a, rec55 a = some r → G x 0 0 55 [(0, .ref (ad 17)), (3, .long a.2.1), (5, .int a.2.2.1), (6, .long a.2.2.2.1), (8, .int a.2.2.2.2)] [] (wT ad cy a.1)) (σ : ST) (x3 : Int64) (x5 : Int32) (x6 : Int64) (x8 : Int32) (h : D_X7_run_b92 rec16 rec55 σ x3 x5 x6 x8 = some r) : G x 0 0 92 [(0, .ref (ad 17)), (3, .long x3), (5, .int x5), (6, .long x6), (8, .int x8)] [] (wT ad cy σ) := by
  unfold D_X7_run_b92 at h
  refine G.iinc (w := x8 + 1) (lv' := [(8, .int (x8 + 1)), (0, .ref (ad 17)), (3, .long x3), (5, .int x5), (6, .long x6)]) E dX7_run_92 4 rfl rfl (by decide) rfl ?_
  refine G.goto (tgt := 55) E dX7_run_95 (by decide) ?_
  refine G.sub (lv' := [(0, .ref (ad 17)), (3, .long x3), (5, .int x5), (6, .long x6), (8, .int (x8 + 1))]) [1, 2, 3, 4, 0] rfl ?_
  exact hrec55 (σ, x3, x5, x6, (x8 + 1)) h
noncomputable def D_X7_run_L55_body (rec16 : (ST × Int64 × Int32) → Option (Int64 × ST)) (rec55 : (ST × Int64 × Int32 × Int64 × Int32) → Option (Int64 × ST)) (σ : ST) (x3 : Int64) (x5 : Int32) (x6 : Int64) (x8 : Int32) : Option (Int64 × ST) := if (gI σ 13) ≤ x8 then (rec16 (σ, x6, (x5 + 1))) else (if x8 = x5 then (D_X7_run_b92 rec16 rec55 σ x3 x5 x6 x8) else (if x8 < 0 ∨ 6 ≤ x8.toNatClampNeg then none else (if x5 < 0 ∨ 6 ≤ x5.toNatClampNeg then none else ((D_X7_eliminate σ x8.toNatClampNeg x5.toNatClampNeg x5 x3).bind fun r5 => D_X7_run_b92 rec16 rec55 r5 x3 x5 x6 x8))))
set_option maxRecDepth 100000 in
set_option maxHeartbeats 4000000 in
theorem B_X7_run_L55_body {x : CX} {cy : Nat → ClassId} {ad : Nat → Nat} {r : (Int64 × ST)} (E : Ev x cy cX7_run RX7 9 2 49) (K : RetL x cX7_run r.1 (wT ad cy r.2)) (rec16 : (ST × Int64 × Int32) → Option (Int64 × ST)) (hrec16 : ∀ a, rec16 a = some r → G x 0 0 16 [(0, .ref (ad 17)), (3, .long a.2.1), (5, .int a.2.2)] [] (wT ad cy a.1)) (rec55 : (ST × Int64 × Int32 × Int64 × Int32) → Option (Int64 × ST)) (hrec55 : ∀ a, rec55 a = some r → G x 0 0 55 [(0, .ref (ad 17)), (3, .long a.2.1), (5, .int a.2.2.1), (6, .long a.2.2.2.1), (8, .int a.2.2.2.2)] [] (wT ad cy a.1)) (σ : ST) (x3 : Int64) (x5 : Int32) (x6 : Int64) (x8 : Int32) (h : D_X7_run_L55_body rec16 rec55 σ x3 x5 x6 x8 = some r) : G x 0 0 55 [(0, .ref (ad 17)), (3, .long x3), (5, .int x5), (6, .long x6), (8, .int x8)] [] (wT ad cy σ) := by
  unfold D_X7_run_L55_body at h
  refine G.iload E dX7_run_55 4 rfl ?_
  refine G.aload_n E dX7_run_57 rfl 0 rfl ?_
  refine G.get E inX7 17 rfl rfl 2 (by decide) (f169 E.fx) rfl dX7_run_58 ?_
  refine G.icmp_ge (tgt := 98) E dX7_run_61 (by decide) (fun q => ?_) (fun q => ?_)
  · have h := ite_t h q
    refine G.lload E dX7_run_98 3 rfl ?_
    refine G.lstore_n (lv' := [(3, .long x6), (0, .ref (ad 17)), (5, .int x5), (6, .long x6), (8, .int x8)]) E dX7_run_100 rfl (by decide) rfl ?_
    refine G.iinc (w := x5 + 1) (lv' := [(5, .int (x5 + 1)), (3, .long x6), (0, .ref (ad 17)), (6, .long x6), (8, .int x8)]) E dX7_run_101 2 rfl rfl (by decide) rfl ?_
    refine G.goto (tgt := 16) E dX7_run_104 (by decide) ?_
    refine G.sub (lv' := [(0, .ref (ad 17)), (3, .long x6), (5, .int (x5 + 1))]) [2, 1, 0] rfl ?_
    exact hrec16 (σ, x6, (x5 + 1)) h
  · have h := ite_f h q
    refine G.iload E dX7_run_64 4 rfl ?_
    refine G.iload E dX7_run_66 2 rfl ?_
    refine G.icmp_eq (tgt := 92) E dX7_run_68 (by decide) (fun q => ?_) (fun q => ?_)
    · have h := ite_t h q
      refine G.sub (lv' := [(0, .ref (ad 17)), (3, .long x3), (5, .int x5), (6, .long x6), (8, .int x8)]) [0, 1, 2, 3, 4] rfl ?_
      exact B_X7_run_b92 E K rec16 hrec16 rec55 hrec55 σ x3 x5 x6 x8 h
    · have h := ite_f h q
      refine G.aload_n E dX7_run_71 rfl 0 rfl ?_
      refine G.aload_n E dX7_run_72 rfl 0 rfl ?_
      refine G.get E inX7 17 rfl rfl 1 (by decide) (f168 E.fx) rfl dX7_run_73 ?_
      refine G.iload E dX7_run_76 4 rfl ?_
      obtain ⟨hg, h⟩ := ite_n h
      refine G.aldA (b := ad (20 + x8.toNatClampNeg)) E 19 6 rfl rfl hg (if_pos (Nat.not_le.mp fun q => hg (Or.inr q))) dX7_run_78 ?_
      refine G.aload_n E dX7_run_79 rfl 0 rfl ?_
      refine G.get E inX7 17 rfl rfl 1 (by decide) (f168 E.fx) rfl dX7_run_80 ?_
      refine G.iload E dX7_run_83 2 rfl ?_
      obtain ⟨hg, h⟩ := ite_n h
      refine G.aldA (b := ad (20 + x5.toNatClampNeg)) E 19 6 rfl rfl hg (if_pos (Nat.not_le.mp fun q => hg (Or.inr q))) dX7_run_85 ?_
      refine G.iload E dX7_run_86 2 rfl ?_
      refine G.lload_n E dX7_run_88 rfl 1 rfl ?_
      obtain ⟨r5, h6, h⟩ := bind_s h
      refine G.retV E (runV (st := []) (As := [.ref (ad (20 + x8.toNatClampNeg)), .ref (ad (20 + x5.toNatClampNeg)), .int x5, .long x3]) E (C_X7_eliminate h6) ck_X7_eliminate (f489 E.fx) (f491 E.fx) (f10 E.fx) 17 7 rfl rfl rfl (by decide) (by decide) rfl (Nat.le_of_ble_eq_true rfl) dX7_run_89 ⟨Nat.zero_le _, Nat.zero_le _⟩) ?_
      refine G.sub (lv' := [(0, .ref (ad 17)), (3, .long x3), (5, .int x5), (6, .long x6), (8, .int x8)]) [0, 1, 2, 3, 4] rfl ?_
      exact B_X7_run_b92 E K rec16 hrec16 rec55 hrec55 r5 x3 x5 x6 x8 h
noncomputable def D_X7_run_L55 (rec16 : (ST × Int64 × Int32) → Option (Int64 × ST)) (σ : ST) (x3 : Int64) (x5 : Int32) (x6 : Int64) (x8 : Int32) : Option (Int64 × ST) := itr (fun (rec55 : (ST × Int64 × Int32 × Int64 × Int32) → Option (Int64 × ST)) (a : (ST × Int64 × Int32 × Int64 × Int32)) => D_X7_run_L55_body rec16 rec55 a.1 a.2.1 a.2.2.1 a.2.2.2.1 a.2.2.2.2) 200 (σ, x3, x5, x6, x8)
set_option maxRecDepth 100000 in
set_option maxHeartbeats 4000000 in
theorem B_X7_run_L55 {x : CX} {cy : Nat → ClassId} {ad : Nat → Nat} {r : (Int64 × ST)} (E : Ev x cy cX7_run RX7 9 2 49) (K : RetL x cX7_run r.1 (wT ad cy r.2)) (rec16 : (ST × Int64 × Int32) → Option (Int64 × ST)) (hrec16 : ∀ a, rec16 a = some r → G x 0 0 16 [(0, .ref (ad 17)), (3, .long a.2.1), (5, .int a.2.2)] [] (wT ad cy a.1)) (σ : ST) (x3 : Int64) (x5 : Int32) (x6 : Int64) (x8 : Int32) (h : D_X7_run_L55 rec16 σ x3 x5 x6 x8 = some r) : G x 0 0 55 [(0, .ref (ad 17)), (3, .long x3), (5, .int x5), (6, .long x6), (8, .int x8)] [] (wT ad cy σ) :=
  itr_ind (P := fun a => G x 0 0 55 [(0, .ref (ad 17)), (3, .long a.2.1), (5, .int a.2.2.1), (6, .long a.2.2.2.1), (8, .int a.2.2.2.2)] [] (wT ad cy a.1)) (fun rec55 hrec55 a h => B_X7_run_L55_body E K rec16 hrec16 rec55 hrec55 a.1 a.2.1 a.2.2.1 a.2.2.2.1 a.2.2.2.2 h) 200 (σ, x3, x5, x6, x8) h
noncomputable def D_X7_run_L16_body (rec16 : (ST × Int64 × Int32) → Option (Int64 × ST)) (σ : ST) (x3 : Int64) (x5 : Int32) : Option (Int64 × ST) := if (gI σ 13) ≤ x5 then (some (x3, σ)) else (if x5 < 0 ∨ 6 ≤ x5.toNatClampNeg then none else (if 6 ≤ x5.toNatClampNeg then none else (if x5 < 0 ∨ 7 ≤ x5.toNatClampNeg then none else (if (lg_cmp x3 (0 : Int64)) = 0 then (some ((0 : Int64), σ)) else (if (lg_cmp (gB σ x5.toNatClampNeg x5.toNatClampNeg) (0 : Int64)) = 0 then (some ((0 : Int64), σ)) else (D_X7_run_L55 rec16 σ x3 x5 (gB σ x5.toNatClampNeg x5.toNatClampNeg) (0 : Int32)))))))
set_option maxRecDepth 100000 in
set_option maxHeartbeats 4000000 in
theorem B_X7_run_L16_body {x : CX} {cy : Nat → ClassId} {ad : Nat → Nat} {r : (Int64 × ST)} (E : Ev x cy cX7_run RX7 9 2 49) (K : RetL x cX7_run r.1 (wT ad cy r.2)) (rec16 : (ST × Int64 × Int32) → Option (Int64 × ST)) (hrec16 : ∀ a, rec16 a = some r → G x 0 0 16 [(0, .ref (ad 17)), (3, .long a.2.1), (5, .int a.2.2)] [] (wT ad cy a.1)) (σ : ST) (x3 : Int64) (x5 : Int32) (h : D_X7_run_L16_body rec16 σ x3 x5 = some r) : G x 0 0 16 [(0, .ref (ad 17)), (3, .long x3), (5, .int x5)] [] (wT ad cy σ) := by
  unfold D_X7_run_L16_body at h
  refine G.iload E dX7_run_16 2 rfl ?_
  refine G.aload_n E dX7_run_18 rfl 0 rfl ?_
  refine G.get E inX7 17 rfl rfl 2 (by decide) (f169 E.fx) rfl dX7_run_19 ?_
  refine G.icmp_ge (tgt := 107) E dX7_run_22 (by decide) (fun q => ?_) (fun q => ?_)
  · have h := ite_t h q
    refine G.lload_n E dX7_run_107 rfl 1 rfl ?_
    obtain rfl := Option.some.inj h
    exact K _ _ dX7_run_108
  · have h := ite_f h q
    refine G.aload_n E dX7_run_25 rfl 0 rfl ?_
    refine G.get E inX7 17 rfl rfl 1 (by decide) (f168 E.fx) rfl dX7_run_26 ?_
    refine G.iload E dX7_run_29 2 rfl ?_
    obtain ⟨hg, h⟩ := ite_n h
    refine G.aldA (b := ad (20 + x5.toNatClampNeg)) E 19 6 rfl rfl hg (if_pos (Nat.not_le.mp fun q => hg (Or.inr q))) dX7_run_31 ?_
    refine G.iload E dX7_run_32 2 rfl ?_
    obtain ⟨hk, h⟩ := ite_n h
    obtain ⟨hg, h⟩ := ite_n h
    refine G.lald E (20 + x5.toNatClampNeg) 3 (wT_row ad cy σ (Nat.not_le.mp hk)) rfl hg dX7_run_34 ?_
    refine G.lstore (lv' := [(6, .long (gB σ x5.toNatClampNeg x5.toNatClampNeg)), (0, .ref (ad 17)), (3, .long x3), (5, .int x5)]) E dX7_run_35 (by decide) rfl ?_
    refine G.lload_n E dX7_run_37 rfl 2 rfl ?_
    refine G.lconst (v := 0) E dX7_run_38 (by decide) ?_
    refine G.lcmp E dX7_run_39 ?_
    refine G.if_eq (tgt := 50) E dX7_run_40 (by decide) (fun q => ?_) (fun q => ?_)
    · have h := ite_t h q
      refine G.lconst (v := 0) E dX7_run_50 (by decide) ?_
      obtain rfl := Option.some.inj h
      exact K _ _ dX7_run_51
    · have h := ite_f h q
      refine G.lload E dX7_run_43 0 rfl ?_
      refine G.lconst (v := 0) E dX7_run_45 (by decide) ?_
      refine G.lcmp E dX7_run_46 ?_
      refine G.if_ne (tgt := 52) E dX7_run_47 (by decide) (fun q => ?_) (fun q => ?_)
      · have h := ite_f h q
        refine G.iconst (v := 0) E dX7_run_52 (by decide) ?_
        refine G.istore (lv' := [(8, .int (0 : Int32)), (6, .long (gB σ x5.toNatClampNeg x5.toNatClampNeg)), (0, .ref (ad 17)), (3, .long x3), (5, .int x5)]) E dX7_run_53 (by decide) rfl ?_
        refine G.sub (lv' := [(0, .ref (ad 17)), (3, .long x3), (5, .int x5), (6, .long (gB σ x5.toNatClampNeg x5.toNatClampNeg)), (8, .int (0 : Int32))]) [2, 3, 4, 1, 0] rfl ?_
        exact B_X7_run_L55 E K rec16 hrec16 σ x3 x5 (gB σ x5.toNatClampNeg x5.toNatClampNeg) (0 : Int32) h
      · have h := ite_t h q
        refine G.lconst (v := 0) E dX7_run_50 (by decide) ?_
        obtain rfl := Option.some.inj h
        exact K _ _ dX7_run_51
noncomputable def D_X7_run_L16  (σ : ST) (x3 : Int64) (x5 : Int32) : Option (Int64 × ST) := itr (fun (rec16 : (ST × Int64 × Int32) → Option (Int64 × ST)) (a : (ST × Int64 × Int32)) => D_X7_run_L16_body rec16 a.1 a.2.1 a.2.2) 200 (σ, x3, x5)
set_option maxRecDepth 100000 in
set_option maxHeartbeats 4000000 in
theorem B_X7_run_L16 {x : CX} {cy : Nat → ClassId} {ad : Nat → Nat} {r : (Int64 × ST)} (E : Ev x cy cX7_run RX7 9 2 49) (K : RetL x cX7_run r.1 (wT ad cy r.2))  (σ : ST) (x3 : Int64) (x5 : Int32) (h : D_X7_run_L16 σ x3 x5 = some r) : G x 0 0 16 [(0, .ref (ad 17)), (3, .long x3), (5, .int x5)] [] (wT ad cy σ) :=
  itr_ind (P := fun a => G x 0 0 16 [(0, .ref (ad 17)), (3, .long a.2.1), (5, .int a.2.2)] [] (wT ad cy a.1)) (fun rec16 hrec16 a h => B_X7_run_L16_body E K rec16 hrec16 a.1 a.2.1 a.2.2 h) 200 (σ, x3, x5) h
noncomputable def D_X7_run (σ : ST) (p1 : Int32) (p2 : Int32) : Option (Int64 × ST) := (D_X7_setRows σ p1 p2).bind fun r1 => (D_X7_setSums r1 p2).bind fun r3 => D_X7_run_L16 r3 (1 : Int64) (0 : Int32)
set_option maxRecDepth 100000 in
set_option maxHeartbeats 4000000 in
theorem B_X7_run {x : CX} {cy : Nat → ClassId} {ad : Nat → Nat} {r : (Int64 × ST)} (E : Ev x cy cX7_run RX7 9 2 49) (K : RetL x cX7_run r.1 (wT ad cy r.2)) (σ : ST) (p1 : Int32) (p2 : Int32) (h : D_X7_run σ p1 p2 = some r) : G x 0 0 0 [(0, .ref (ad 17)), (1, .int p1), (2, .int p2)] [] (wT ad cy σ) := by
  unfold D_X7_run at h
  refine G.aload_n E dX7_run_0 rfl 0 rfl ?_
  refine G.iload_n E dX7_run_1 rfl 1 rfl ?_
  refine G.iload_n E dX7_run_2 rfl 2 rfl ?_
  obtain ⟨r1, h2, h⟩ := bind_s h
  refine G.retV E (runV (st := []) (As := [.int p1, .int p2]) E (C_X7_setRows h2) ck_X7_setRows (f475 E.fx) (f477 E.fx) (f8 E.fx) 17 7 rfl rfl rfl (by decide) (by decide) rfl (Nat.le_of_ble_eq_true rfl) dX7_run_3 ⟨Nat.zero_le _, Nat.zero_le _⟩) ?_
  refine G.aload_n E dX7_run_6 rfl 0 rfl ?_
  refine G.iload_n E dX7_run_7 rfl 2 rfl ?_
  obtain ⟨r3, h4, h⟩ := bind_s h
  refine G.retV E (runV (st := []) (As := [.int p2]) E (C_X7_setSums h4) ck_X7_setSums (f482 E.fx) (f484 E.fx) (f9 E.fx) 17 7 rfl rfl rfl (by decide) (by decide) rfl (Nat.le_of_ble_eq_true rfl) dX7_run_8 ⟨Nat.zero_le _, Nat.zero_le _⟩) ?_
  refine G.lconst (v := 1) E dX7_run_11 (by decide) ?_
  refine G.lstore_n (lv' := [(3, .long (1 : Int64)), (0, .ref (ad 17)), (1, .int p1), (2, .int p2)]) E dX7_run_12 rfl (by decide) rfl ?_
  refine G.iconst (v := 0) E dX7_run_13 (by decide) ?_
  refine G.istore (lv' := [(5, .int (0 : Int32)), (3, .long (1 : Int64)), (0, .ref (ad 17)), (1, .int p1), (2, .int p2)]) E dX7_run_14 (by decide) rfl ?_
  refine G.sub (lv' := [(0, .ref (ad 17)), (3, .long (1 : Int64)), (5, .int (0 : Int32))]) [2, 1, 0] rfl ?_
  exact B_X7_run_L16 E K r3 (1 : Int64) (0 : Int32) h
set_option maxRecDepth 100000 in
set_option maxHeartbeats 4000000 in
theorem C_X7_run {l : Launch} {D : va_G} {cy : Nat → ClassId} {ad : Nat → Nat} {σ : ST} {p1 : Int32} {p2 : Int32} {r : (Int64 × ST)} (h : D_X7_run σ p1 p2 = some r) : ML l yX7_run cX7_run 9 (some .long) 2 49 D cy (wT ad cy σ) [.ref (ad 17), .int p1, .int p2] r.1 (wT ad cy r.2) :=
  ML.mk (lv := [(0, .ref (ad 17)), (1, .int p1), (2, .int p2)]) (by decide) (Nat.le_of_ble_eq_true rfl) rfl (fun x _ _ E K => B_X7_run E K σ p1 p2 h)

noncomputable def D_X7_sharesOf_b43 (rec5 : (Int32 × Int64 × Int32) → Option Int64) (σ : ST) (x1 : Int32) (x2 : Int64) (x4 : Int32) : Option Int64 := rec5 (x1, x2, (x4 + 1))
set_option maxRecDepth 100000 in
set_option maxHeartbeats 4000000 in
theorem B_X7_sharesOf_b43 {x : CX} {cy : Nat → ClassId} {ad : Nat → Nat} {r : Int64} {σ : ST} (E : Ev x cy cX7_sharesOf RX7 5 1 21) (K : RetL x cX7_sharesOf r (wT ad cy σ)) (rec5 : (Int32 × Int64 × Int32) → Option Int64) (hrec5 : ∀ a, rec5 a = some r → G x 0 0 5 [(0, .ref (ad 17)), (1, .int a.1), (2, .long a.2.1), (4, .int a.2.2)] [] (wT ad cy σ)) (σ9 : ST) (x1 : Int32) (x2 : Int64) (x4 : Int32) (h : D_X7_sharesOf_b43 rec5 σ x1 x2 x4 = some r) : G x 0 0 43 [(0, .ref (ad 17)), (1, .int x1), (2, .long x2), (4, .int x4)] [] (wT ad cy σ) := by
  unfold D_X7_sharesOf_b43 at h
  refine G.iinc (w := x4 + 1) (lv' := [(4, .int (x4 + 1)), (0, .ref (ad 17)), (1, .int x1), (2, .long x2)]) E dX7_sharesOf_43 3 rfl rfl (by decide) rfl ?_
  refine G.goto (tgt := 5) E dX7_sharesOf_46 (by decide) ?_
  refine G.sub (lv' := [(0, .ref (ad 17)), (1, .int x1), (2, .long x2), (4, .int (x4 + 1))]) [1, 2, 3, 0] rfl ?_
  exact hrec5 (x1, x2, (x4 + 1)) h
noncomputable def D_X7_sharesOf_L5_body (rec5 : (Int32 × Int64 × Int32) → Option Int64) (σ : ST) (x1 : Int32) (x2 : Int64) (x4 : Int32) : Option Int64 := if (gI σ 13) ≤ x4 then (some x2) else (if x4 < 0 ∨ 6 ≤ x4.toNatClampNeg then none else ((D_X8_has x1 (gA σ 13 x4.toNatClampNeg)).bind fun r1 => if r1 = 0 then (D_X7_sharesOf_b43 rec5 σ x1 x2 x4) else (if x4 < 0 ∨ 6 ≤ x4.toNatClampNeg then none else (if 6 ≤ x4.toNatClampNeg then none else (if (gI σ 13) < 0 ∨ 7 ≤ (gI σ 13).toNatClampNeg then none else (D_X7_sharesOf_b43 rec5 σ x1 (x2 + (gB σ x4.toNatClampNeg (gI σ 13).toNatClampNeg)) x4))))))
set_option maxRecDepth 100000 in
set_option maxHeartbeats 4000000 in
theorem B_X7_sharesOf_L5_body {x : CX} {cy : Nat → ClassId} {ad : Nat → Nat} {r : Int64} {σ : ST} (E : Ev x cy cX7_sharesOf RX7 5 1 21) (K : RetL x cX7_sharesOf r (wT ad cy σ)) (rec5 : (Int32 × Int64 × Int32) → Option Int64) (hrec5 : ∀ a, rec5 a = some r → G x 0 0 5 [(0, .ref (ad 17)), (1, .int a.1), (2, .long a.2.1), (4, .int a.2.2)] [] (wT ad cy σ)) (σ9 : ST) (x1 : Int32) (x2 : Int64) (x4 : Int32) (h : D_X7_sharesOf_L5_body rec5 σ x1 x2 x4 = some r) : G x 0 0 5 [(0, .ref (ad 17)), (1, .int x1), (2, .long x2), (4, .int x4)] [] (wT ad cy σ) := by
  unfold D_X7_sharesOf_L5_body at h
  refine G.iload E dX7_sharesOf_5 3 rfl ?_
  refine G.aload_n E dX7_sharesOf_7 rfl 0 rfl ?_
  refine G.get E inX7 17 rfl rfl 2 (by decide) (f169 E.fx) rfl dX7_sharesOf_8 ?_
  refine G.icmp_ge (tgt := 49) E dX7_sharesOf_11 (by decide) (fun q => ?_) (fun q => ?_)
  · have h := ite_t h q
    refine G.lload_n E dX7_sharesOf_49 rfl 2 rfl ?_
    obtain rfl := Option.some.inj h
    exact K _ _ dX7_sharesOf_50
  · have h := ite_f h q
    refine G.iload_n E dX7_sharesOf_14 rfl 1 rfl ?_
    refine G.aload_n E dX7_sharesOf_15 rfl 0 rfl ?_
    refine G.get E inX7 17 rfl rfl 0 (by decide) (f167 E.fx) rfl dX7_sharesOf_16 ?_
    refine G.iload E dX7_sharesOf_19 3 rfl ?_
    obtain ⟨hg, h⟩ := ite_n h
    refine G.iald E 18 0 rfl rfl hg dX7_sharesOf_21 ?_
    obtain ⟨r1, h2, h⟩ := bind_s h
    refine G.retI E (runSN (st := []) (As := [.int x1, .int (gA σ 13 x4.toNatClampNeg)]) E (C_X8_has h2) ck_X8_has (f479 E.fx) (f480 E.fx) (by decide) (by decide) rfl (Nat.le_of_ble_eq_true rfl) dX7_sharesOf_22 ⟨Nat.zero_le _, Nat.zero_le _⟩) ?_
    refine G.if_eq (tgt := 43) E dX7_sharesOf_25 (by decide) (fun q => ?_) (fun q => ?_)
    · have h := ite_t h q
      refine G.sub (lv' := [(0, .ref (ad 17)), (1, .int x1), (2, .long x2), (4, .int x4)]) [0, 1, 2, 3] rfl ?_
      exact B_X7_sharesOf_b43 E K rec5 hrec5 σ x1 x2 x4 h
    · have h := ite_f h q
      refine G.lload_n E dX7_sharesOf_28 rfl 2 rfl ?_
      refine G.aload_n E dX7_sharesOf_29 rfl 0 rfl ?_
      refine G.get E inX7 17 rfl rfl 1 (by decide) (f168 E.fx) rfl dX7_sharesOf_30 ?_
      refine G.iload E dX7_sharesOf_33 3 rfl ?_
      obtain ⟨hg, h⟩ := ite_n h
      refine G.aldA (b := ad (20 + x4.toNatClampNeg)) E 19 6 rfl rfl hg (if_pos (Nat.not_le.mp fun q => hg (Or.inr q))) dX7_sharesOf_35 ?_
      refine G.aload_n E dX7_sharesOf_36 rfl 0 rfl ?_
      refine G.get E inX7 17 rfl rfl 2 (by decide) (f169 E.fx) rfl dX7_sharesOf_37 ?_
      obtain ⟨hk, h⟩ := ite_n h
      obtain ⟨hg, h⟩ := ite_n h
      refine G.lald E (20 + x4.toNatClampNeg) 3 (wT_row ad cy σ (Nat.not_le.mp hk)) rfl hg dX7_sharesOf_40 ?_
      refine G.ladd E dX7_sharesOf_41 ?_
      refine G.lstore_n (lv' := [(2, .long (x2 + (gB σ x4.toNatClampNeg (gI σ 13).toNatClampNeg))), (0, .ref (ad 17)), (1, .int x1), (4, .int x4)]) E dX7_sharesOf_42 rfl (by decide) rfl ?_
      refine G.sub (lv' := [(0, .ref (ad 17)), (1, .int x1), (2, .long (x2 + (gB σ x4.toNatClampNeg (gI σ 13).toNatClampNeg))), (4, .int x4)]) [1, 2, 0, 3] rfl ?_
      exact B_X7_sharesOf_b43 E K rec5 hrec5 σ x1 (x2 + (gB σ x4.toNatClampNeg (gI σ 13).toNatClampNeg)) x4 h
noncomputable def D_X7_sharesOf_L5  (σ : ST) (x1 : Int32) (x2 : Int64) (x4 : Int32) : Option Int64 := itr (fun (rec5 : (Int32 × Int64 × Int32) → Option Int64) (a : (Int32 × Int64 × Int32)) => D_X7_sharesOf_L5_body rec5 σ a.1 a.2.1 a.2.2) 200 (x1, x2, x4)
set_option maxRecDepth 100000 in
set_option maxHeartbeats 4000000 in
theorem B_X7_sharesOf_L5 {x : CX} {cy : Nat → ClassId} {ad : Nat → Nat} {r : Int64} {σ : ST} (E : Ev x cy cX7_sharesOf RX7 5 1 21) (K : RetL x cX7_sharesOf r (wT ad cy σ))  (σ9 : ST) (x1 : Int32) (x2 : Int64) (x4 : Int32) (h : D_X7_sharesOf_L5 σ x1 x2 x4 = some r) : G x 0 0 5 [(0, .ref (ad 17)), (1, .int x1), (2, .long x2), (4, .int x4)] [] (wT ad cy σ) :=
  itr_ind (P := fun a => G x 0 0 5 [(0, .ref (ad 17)), (1, .int a.1), (2, .long a.2.1), (4, .int a.2.2)] [] (wT ad cy σ)) (fun rec5 hrec5 a h => B_X7_sharesOf_L5_body E K rec5 hrec5 σ a.1 a.2.1 a.2.2 h) 200 (x1, x2, x4) h
noncomputable def D_X7_sharesOf (σ : ST) (p1 : Int32) : Option Int64 := D_X7_sharesOf_L5 σ p1 (0 : Int64) (0 : Int32)
set_option maxRecDepth 100000 in
set_option maxHeartbeats 4000000 in
theorem B_X7_sharesOf {x : CX} {cy : Nat → ClassId} {ad : Nat → Nat} {r : Int64} {σ : ST} (E : Ev x cy cX7_sharesOf RX7 5 1 21) (K : RetL x cX7_sharesOf r (wT ad cy σ)) (p1 : Int32) (h : D_X7_sharesOf σ p1 = some r) : G x 0 0 0 [(0, .ref (ad 17)), (1, .int p1)] [] (wT ad cy σ) := by
  unfold D_X7_sharesOf at h
  refine G.lconst (v := 0) E dX7_sharesOf_0 (by decide) ?_
  refine G.lstore_n (lv' := [(2, .long (0 : Int64)), (0, .ref (ad 17)), (1, .int p1)]) E dX7_sharesOf_1 rfl (by decide) rfl ?_
  refine G.iconst (v := 0) E dX7_sharesOf_2 (by decide) ?_
  refine G.istore (lv' := [(4, .int (0 : Int32)), (2, .long (0 : Int64)), (0, .ref (ad 17)), (1, .int p1)]) E dX7_sharesOf_3 (by decide) rfl ?_
  refine G.sub (lv' := [(0, .ref (ad 17)), (1, .int p1), (2, .long (0 : Int64)), (4, .int (0 : Int32))]) [2, 3, 1, 0] rfl ?_
  exact B_X7_sharesOf_L5 E K σ p1 (0 : Int64) (0 : Int32) h
set_option maxRecDepth 100000 in
set_option maxHeartbeats 4000000 in
theorem C_X7_sharesOf {l : Launch} {D : va_G} {cy : Nat → ClassId} {ad : Nat → Nat} {σ : ST} {p1 : Int32} {r : Int64} (h : D_X7_sharesOf σ p1 = some r) : ML l yX7_sharesOf cX7_sharesOf 5 (some .long) 1 21 D cy (wT ad cy σ) [.ref (ad 17), .int p1] r (wT ad cy σ) :=
  ML.mk (lv := [(0, .ref (ad 17)), (1, .int p1)]) (by decide) (Nat.le_of_ble_eq_true rfl) rfl (fun x _ _ E K => B_X7_sharesOf E K p1 h)

noncomputable def D_X7_waitFor (σ : ST) (p1 : Int32) (p2 : Int32) : Option (Int32 × ST) := (D_X7_run σ p1 p2).bind fun r1 => (D_X7_sharesOf r1.2 p1).bind fun r3 => if (lg_cmp r3 (0 : Int64)) = 0 then (some ((0 : Int32), r1.2)) else (if r3 = 0 then none else (some ((((1000 : Int64) * r1.1) / r3).toInt32, r1.2)))
set_option maxRecDepth 100000 in
set_option maxHeartbeats 4000000 in
theorem B_X7_waitFor {x : CX} {cy : Nat → ClassId} {ad : Nat → Nat} {r : (Int32 × ST)} (E : Ev x cy cX7_waitFor RX7 7 3 77) (K : RetI x cX7_waitFor .int r.1 (wT ad cy r.2)) (σ : ST) (p1 : Int32) (p2 : Int32) (h : D_X7_waitFor σ p1 p2 = some r) : G x 0 0 0 [(0, .ref (ad 17)), (1, .int p1), (2, .int p2)] [] (wT ad cy σ) := by
  unfold D_X7_waitFor at h
  refine G.aload_n E dX7_waitFor_0 rfl 0 rfl ?_
  refine G.iload_n E dX7_waitFor_1 rfl 1 rfl ?_
  refine G.iload_n E dX7_waitFor_2 rfl 2 rfl ?_
  obtain ⟨r1, h2, h⟩ := bind_s h
  refine G.retL E (runV (st := []) (As := [.int p1, .int p2]) E (C_X7_run h2) ck_X7_run (f471 E.fx) (f473 E.fx) (f7 E.fx) 17 7 rfl rfl rfl (by decide) (by decide) rfl (Nat.le_of_ble_eq_true rfl) dX7_waitFor_3 ⟨Nat.zero_le _, Nat.zero_le _⟩) ?_
  refine G.lstore_n (lv' := [(3, .long r1.1), (0, .ref (ad 17)), (1, .int p1), (2, .int p2)]) E dX7_waitFor_6 rfl (by decide) rfl ?_
  refine G.aload_n E dX7_waitFor_7 rfl 1 rfl ?_
  refine G.iload_n E dX7_waitFor_8 rfl 2 rfl ?_
  obtain ⟨r3, h4, h⟩ := bind_s h
  refine G.retL E (runV (st := []) (As := [.int p1]) E (C_X7_sharesOf h4) ck_X7_sharesOf (f493 E.fx) (f495 E.fx) (f11 E.fx) 17 7 rfl rfl rfl (by decide) (by decide) rfl (Nat.le_of_ble_eq_true rfl) dX7_waitFor_9 ⟨Nat.zero_le _, Nat.zero_le _⟩) ?_
  refine G.lstore (lv' := [(5, .long r3), (3, .long r1.1), (0, .ref (ad 17)), (1, .int p1), (2, .int p2)]) E dX7_waitFor_12 (by decide) rfl ?_
  refine G.lload E dX7_waitFor_14 0 rfl ?_
  refine G.lconst (v := 0) E dX7_waitFor_16 (by decide) ?_
  refine G.lcmp E dX7_waitFor_17 ?_
  refine G.if_ne (tgt := 25) E dX7_waitFor_18 (by decide) (fun q => ?_) (fun q => ?_)
  · have h := ite_f h q
    refine G.ldc2 E (f497 E.fx) dX7_waitFor_25 ?_
    refine G.lload_n E dX7_waitFor_28 rfl 1 rfl ?_
    refine G.lmul E dX7_waitFor_29 ?_
    refine G.lload E dX7_waitFor_30 0 rfl ?_
    obtain ⟨hg, h⟩ := ite_n h
    refine G.ldiv E dX7_waitFor_32 hg ?_
    refine G.l2i E dX7_waitFor_33 ?_
    obtain rfl := Option.some.inj h
    exact K rfl _ _ dX7_waitFor_34
  · have h := ite_t h q
    refine G.iconst (v := 0) E dX7_waitFor_21 (by decide) ?_
    refine G.goto (tgt := 34) E dX7_waitFor_22 (by decide) ?_
    obtain rfl := Option.some.inj h
    exact K rfl _ _ dX7_waitFor_34
set_option maxRecDepth 100000 in
set_option maxHeartbeats 4000000 in
theorem C_X7_waitFor {l : Launch} {D : va_G} {cy : Nat → ClassId} {ad : Nat → Nat} {σ : ST} {p1 : Int32} {p2 : Int32} {r : (Int32 × ST)} (h : D_X7_waitFor σ p1 p2 = some r) : MI l yX7_waitFor cX7_waitFor 7 (some .int) 3 77 D cy (wT ad cy σ) [.ref (ad 17), .int p1, .int p2] r.1 (wT ad cy r.2) :=
  MI.mk (lv := [(0, .ref (ad 17)), (1, .int p1), (2, .int p2)]) (by decide) (Nat.le_of_ble_eq_true rfl) rfl (fun x _ _ E K => B_X7_waitFor E K σ p1 p2 h)

noncomputable def D_J6_bitCount_0f7a4_b41  (x0 : Int32) : Option Int32 := some ((x0 + ((x0.toUInt32 >>> ((16 : Int32).toUInt32 &&& Int32.toUInt32 31)).toInt32)) &&& (63 : Int32))
set_option maxRecDepth 100000 in
set_option maxHeartbeats 4000000 in
theorem B_J6_bitCount_0f7a4_b41 {x : CX} {cy : Nat → ClassId} {ws : va_W} {r : Int32} (E : Ev x cy cJ6_bitCount_0f7a4 RJ6 1 0 0) (K : RetI x cJ6_bitCount_0f7a4 .int r ws)  (x0 : Int32) (h : D_J6_bitCount_0f7a4_b41 x0 = some r) : G x 0 0 41 [(0, .int x0)] [] ws := by
  unfold D_J6_bitCount_0f7a4_b41 at h
  refine G.iload_n E dJ6_bitCount_0f7a4_41 rfl 0 rfl ?_
  refine G.iload_n E dJ6_bitCount_0f7a4_42 rfl 0 rfl ?_
  refine G.bipush (v := 16) E dJ6_bitCount_0f7a4_43 (by decide) ?_
  refine G.iushr E dJ6_bitCount_0f7a4_45 rfl ?_
  refine G.iadd E dJ6_bitCount_0f7a4_46 ?_
  refine G.istore_n (lv' := [(0, .int (x0 + ((x0.toUInt32 >>> ((16 : Int32).toUInt32 &&& Int32.toUInt32 31)).toInt32)))]) E dJ6_bitCount_0f7a4_47 rfl (by decide) rfl ?_
  refine G.iload_n E dJ6_bitCount_0f7a4_48 rfl 0 rfl ?_
  refine G.bipush (v := 63) E dJ6_bitCount_0f7a4_49 (by decide) ?_
  refine G.iand E dJ6_bitCount_0f7a4_51 ?_
  obtain rfl := Option.some.inj h
  exact K rfl _ _ dJ6_bitCount_0f7a4_52
noncomputable def D_J6_bitCount_0f7a4_b24  (x0 : Int32) : Option Int32 := D_J6_bitCount_0f7a4_b41 (((x0 + ((x0.toUInt32 >>> ((4 : Int32).toUInt32 &&& Int32.toUInt32 31)).toInt32)) &&& (252645135 : Int32)) + ((((x0 + ((x0.toUInt32 >>> ((4 : Int32).toUInt32 &&& Int32.toUInt32 31)).toInt32)) &&& (252645135 : Int32)).toUInt32 >>> ((8 : Int32).toUInt32 &&& Int32.toUInt32 31)).toInt32))
set_option maxRecDepth 100000 in
set_option maxHeartbeats 4000000 in
theorem B_J6_bitCount_0f7a4_b24 {x : CX} {cy : Nat → ClassId} {ws : va_W} {r : Int32} (E : Ev x cy cJ6_bitCount_0f7a4 RJ6 1 0 0) (K : RetI x cJ6_bitCount_0f7a4 .int r ws)  (x0 : Int32) (h : D_J6_bitCount_0f7a4_b24 x0 = some r) : G x 0 0 24 [(0, .int x0)] [] ws := by
  unfold D_J6_bitCount_0f7a4_b24 at h
  refine G.iload_n E dJ6_bitCount_0f7a4_24 rfl 0 rfl ?_
  refine G.iload_n E dJ6_bitCount_0f7a4_25 rfl 0 rfl ?_
  refine G.iconst (v := 4) E dJ6_bitCount_0f7a4_26 (by decide) ?_
  refine G.iushr E dJ6_bitCount_0f7a4_27 rfl ?_
  refine G.iadd E dJ6_bitCount_0f7a4_28 ?_
  refine G.ldcw E (f503 E.fx) dJ6_bitCount_0f7a4_29 ?_
  refine G.iand E dJ6_bitCount_0f7a4_32 ?_
  refine G.istore_n (lv' := [(0, .int ((x0 + ((x0.toUInt32 >>> ((4 : Int32).toUInt32 &&& Int32.toUInt32 31)).toInt32)) &&& (252645135 : Int32)))]) E dJ6_bitCount_0f7a4_33 rfl (by decide) rfl ?_
  refine G.iload_n E dJ6_bitCount_0f7a4_34 rfl 0 rfl ?_
  refine G.iload_n E dJ6_bitCount_0f7a4_35 rfl 0 rfl ?_
  refine G.bipush (v := 8) E dJ6_bitCount_0f7a4_36 (by decide) ?_
  refine G.iushr E dJ6_bitCount_0f7a4_38 rfl ?_
  refine G.iadd E dJ6_bitCount_0f7a4_39 ?_
  refine G.istore_n (lv' := [(0, .int (((x0 + ((x0.toUInt32 >>> ((4 : Int32).toUInt32 &&& Int32.toUInt32 31)).toInt32)) &&& (252645135 : Int32)) + ((((x0 + ((x0.toUInt32 >>> ((4 : Int32).toUInt32 &&& Int32.toUInt32 31)).toInt32)) &&& (252645135 : Int32)).toUInt32 >>> ((8 : Int32).toUInt32 &&& Int32.toUInt32 31)).toInt32)))]) E dJ6_bitCount_0f7a4_40 rfl (by decide) rfl ?_
  refine G.sub (lv' := [(0, .int (((x0 + ((x0.toUInt32 >>> ((4 : Int32).toUInt32 &&& Int32.toUInt32 31)).toInt32)) &&& (252645135 : Int32)) + ((((x0 + ((x0.toUInt32 >>> ((4 : Int32).toUInt32 &&& Int32.toUInt32 31)).toInt32)) &&& (252645135 : Int32)).toUInt32 >>> ((8 : Int32).toUInt32 &&& Int32.toUInt32 31)).toInt32)))]) [0] rfl ?_
  exact B_J6_bitCount_0f7a4_b41 E K (((x0 + ((x0.toUInt32 >>> ((4 : Int32).toUInt32 &&& Int32.toUInt32 31)).toInt32)) &&& (252645135 : Int32)) + ((((x0 + ((x0.toUInt32 >>> ((4 : Int32).toUInt32 &&& Int32.toUInt32 31)).toInt32)) &&& (252645135 : Int32)).toUInt32 >>> ((8 : Int32).toUInt32 &&& Int32.toUInt32 31)).toInt32)) h
noncomputable def D_J6_bitCount_0f7a4 (p0 : Int32) : Option Int32 := D_J6_bitCount_0f7a4_b24 (((p0 - (((p0.toUInt32 >>> ((1 : Int32).toUInt32 &&& Int32.toUInt32 31)).toInt32) &&& (1431655765 : Int32))) &&& (858993459 : Int32)) + ((((p0 - (((p0.toUInt32 >>> ((1 : Int32).toUInt32 &&& Int32.toUInt32 31)).toInt32) &&& (1431655765 : Int32))).toUInt32 >>> ((2 : Int32).toUInt32 &&& Int32.toUInt32 31)).toInt32) &&& (858993459 : Int32)))
set_option maxRecDepth 100000 in
set_option maxHeartbeats 4000000 in
theorem B_J6_bitCount_0f7a4 {x : CX} {cy : Nat → ClassId} {ws : va_W} {r : Int32} (E : Ev x cy cJ6_bitCount_0f7a4 RJ6 1 0 0) (K : RetI x cJ6_bitCount_0f7a4 .int r ws) (p0 : Int32) (h : D_J6_bitCount_0f7a4 p0 = some r) : G x 0 0 0 [(0, .int p0)] [] ws := by
  unfold D_J6_bitCount_0f7a4 at h
  refine G.iload_n E dJ6_bitCount_0f7a4_0 rfl 0 rfl ?_
  refine G.iload_n E dJ6_bitCount_0f7a4_1 rfl 0 rfl ?_
  refine G.iconst (v := 1) E dJ6_bitCount_0f7a4_2 (by decide) ?_
  refine G.iushr E dJ6_bitCount_0f7a4_3 rfl ?_
  refine G.ldcw E (f501 E.fx) dJ6_bitCount_0f7a4_4 ?_
  refine G.iand E dJ6_bitCount_0f7a4_7 ?_
  refine G.isub E dJ6_bitCount_0f7a4_8 ?_
  refine G.istore_n (lv' := [(0, .int (p0 - (((p0.toUInt32 >>> ((1 : Int32).toUInt32 &&& Int32.toUInt32 31)).toInt32) &&& (1431655765 : Int32))))]) E dJ6_bitCount_0f7a4_9 rfl (by decide) rfl ?_
  refine G.iload_n E dJ6_bitCount_0f7a4_10 rfl 0 rfl ?_
  refine G.ldcw E (f502 E.fx) dJ6_bitCount_0f7a4_11 ?_
  refine G.iand E dJ6_bitCount_0f7a4_14 ?_
  refine G.iload_n E dJ6_bitCount_0f7a4_15 rfl 0 rfl ?_
  refine G.iconst (v := 2) E dJ6_bitCount_0f7a4_16 (by decide) ?_
  refine G.iushr E dJ6_bitCount_0f7a4_17 rfl ?_
  refine G.ldcw E (f502 E.fx) dJ6_bitCount_0f7a4_18 ?_
  refine G.iand E dJ6_bitCount_0f7a4_21 ?_
  refine G.iadd E dJ6_bitCount_0f7a4_22 ?_
  refine G.istore_n (lv' := [(0, .int (((p0 - (((p0.toUInt32 >>> ((1 : Int32).toUInt32 &&& Int32.toUInt32 31)).toInt32) &&& (1431655765 : Int32))) &&& (858993459 : Int32)) + ((((p0 - (((p0.toUInt32 >>> ((1 : Int32).toUInt32 &&& Int32.toUInt32 31)).toInt32) &&& (1431655765 : Int32))).toUInt32 >>> ((2 : Int32).toUInt32 &&& Int32.toUInt32 31)).toInt32) &&& (858993459 : Int32))))]) E dJ6_bitCount_0f7a4_23 rfl (by decide) rfl ?_
  refine G.sub (lv' := [(0, .int (((p0 - (((p0.toUInt32 >>> ((1 : Int32).toUInt32 &&& Int32.toUInt32 31)).toInt32) &&& (1431655765 : Int32))) &&& (858993459 : Int32)) + ((((p0 - (((p0.toUInt32 >>> ((1 : Int32).toUInt32 &&& Int32.toUInt32 31)).toInt32) &&& (1431655765 : Int32))).toUInt32 >>> ((2 : Int32).toUInt32 &&& Int32.toUInt32 31)).toInt32) &&& (858993459 : Int32))))]) [0] rfl ?_
  exact B_J6_bitCount_0f7a4_b24 E K (((p0 - (((p0.toUInt32 >>> ((1 : Int32).toUInt32 &&& Int32.toUInt32 31)).toInt32) &&& (1431655765 : Int32))) &&& (858993459 : Int32)) + ((((p0 - (((p0.toUInt32 >>> ((1 : Int32).toUInt32 &&& Int32.toUInt32 31)).toInt32) &&& (1431655765 : Int32))).toUInt32 >>> ((2 : Int32).toUInt32 &&& Int32.toUInt32 31)).toInt32) &&& (858993459 : Int32))) h
set_option maxRecDepth 100000 in
set_option maxHeartbeats 4000000 in
theorem C_J6_bitCount_0f7a4 {l : Launch} {D : va_G} {cy : Nat → ClassId} {ws : va_W} {p0 : Int32} {r : Int32} (h : D_J6_bitCount_0f7a4 p0 = some r) : MI l yJ6_bitCount_0f7a4 cJ6_bitCount_0f7a4 1 (some .int) 0 0 D cy ws [.int p0] r ws :=
  MI.mk (lv := [(0, .int p0)]) (by decide) (Nat.le_of_ble_eq_true rfl) rfl (fun x _ _ E K => B_J6_bitCount_0f7a4 E K p0 h)

noncomputable def D_X8_betsThatHit_b40 (rec5 : (Nat × Int32 × Int32 × Int32) → Option Int32) (σ : ST) (x1 : Nat) (x2 : Int32) (x3 : Int32) (x4 : Int32) : Option Int32 := rec5 (x1, x2, x3, (x4 + 1))
set_option maxRecDepth 100000 in
set_option maxHeartbeats 4000000 in
theorem B_X8_betsThatHit_b40 {x : CX} {cy : Nat → ClassId} {ad : Nat → Nat} {r : Int32} {σ : ST} (E : Ev x cy cX8_betsThatHit RX8 5 4 120) (K : RetI x cX8_betsThatHit .int r (wT ad cy σ)) (rec5 : (Nat × Int32 × Int32 × Int32) → Option Int32) (hrec5 : ∀ a, rec5 a = some r → G x 0 0 5 [(0, .ref (ad 0)), (1, .ref (ad (27 + a.1))), (2, .int a.2.1), (3, .int a.2.2.1), (4, .int a.2.2.2)] [] (wT ad cy σ)) (σ9 : ST) (x1 : Nat) (x2 : Int32) (x3 : Int32) (x4 : Int32) (h : D_X8_betsThatHit_b40 rec5 σ x1 x2 x3 x4 = some r) : G x 0 0 40 [(0, .ref (ad 0)), (1, .ref (ad (27 + x1))), (2, .int x2), (3, .int x3), (4, .int x4)] [] (wT ad cy σ) := by
  unfold D_X8_betsThatHit_b40 at h
  refine G.iinc (w := x4 + 1) (lv' := [(4, .int (x4 + 1)), (0, .ref (ad 0)), (1, .ref (ad (27 + x1))), (2, .int x2), (3, .int x3)]) E dX8_betsThatHit_40 4 rfl rfl (by decide) rfl ?_
  refine G.goto (tgt := 5) E dX8_betsThatHit_43 (by decide) ?_
  refine G.sub (lv' := [(0, .ref (ad 0)), (1, .ref (ad (27 + x1))), (2, .int x2), (3, .int x3), (4, .int (x4 + 1))]) [1, 2, 3, 4, 0] rfl ?_
  exact hrec5 (x1, x2, x3, (x4 + 1)) h
noncomputable def D_X8_betsThatHit_L5_body (rec5 : (Nat × Int32 × Int32 × Int32) → Option Int32) (σ : ST) (x1 : Nat) (x2 : Int32) (x3 : Int32) (x4 : Int32) : Option Int32 := if ((1 : Int32) <<< ((gI σ 2) &&& 31)) ≤ x4 then (some x3) else ((D_rowsHitWith σ x1 x4 (gI σ 2)).bind fun r1 => (D_X8_has r1 x2).bind fun r3 => if r3 = 0 then (D_X8_betsThatHit_b40 rec5 σ x1 x2 x3 x4) else (D_X8_betsThatHit_b40 rec5 σ x1 x2 (x3 ||| ((1 : Int32) <<< (x4 &&& 31))) x4))
set_option maxRecDepth 100000 in
set_option maxHeartbeats 4000000 in
theorem B_X8_betsThatHit_L5_body {x : CX} {cy : Nat → ClassId} {ad : Nat → Nat} {r : Int32} {σ : ST} (E : Ev x cy cX8_betsThatHit RX8 5 4 120) (K : RetI x cX8_betsThatHit .int r (wT ad cy σ)) (rec5 : (Nat × Int32 × Int32 × Int32) → Option Int32) (hrec5 : ∀ a, rec5 a = some r → G x 0 0 5 [(0, .ref (ad 0)), (1, .ref (ad (27 + a.1))), (2, .int a.2.1), (3, .int a.2.2.1), (4, .int a.2.2.2)] [] (wT ad cy σ)) (σ9 : ST) (x1 : Nat) (x2 : Int32) (x3 : Int32) (x4 : Int32) (h : D_X8_betsThatHit_L5_body rec5 σ x1 x2 x3 x4 = some r) : G x 0 0 5 [(0, .ref (ad 0)), (1, .ref (ad (27 + x1))), (2, .int x2), (3, .int x3), (4, .int x4)] [] (wT ad cy σ) := by
  unfold D_X8_betsThatHit_L5_body at h
  refine G.iload E dX8_betsThatHit_5 4 rfl ?_
  refine G.iconst (v := 1) E dX8_betsThatHit_7 (by decide) ?_
  refine G.aload_n E dX8_betsThatHit_8 rfl 0 rfl ?_
  refine G.get E inX8 0 rfl rfl 10 (by decide) (f224 E.fx) rfl dX8_betsThatHit_9 ?_
  refine G.ishl E dX8_betsThatHit_12 ?_
  refine G.icmp_ge (tgt := 46) E dX8_betsThatHit_13 (by decide) (fun q => ?_) (fun q => ?_)
  · have h := ite_t h q
    refine G.iload_n E dX8_betsThatHit_46 rfl 3 rfl ?_
    obtain rfl := Option.some.inj h
    exact K rfl _ _ dX8_betsThatHit_47
  · have h := ite_f h q
    refine G.aload_n E dX8_betsThatHit_16 rfl 1 rfl ?_
    refine G.iload E dX8_betsThatHit_17 4 rfl ?_
    refine G.aload_n E dX8_betsThatHit_19 rfl 0 rfl ?_
    refine G.get E inX8 0 rfl rfl 10 (by decide) (f224 E.fx) rfl dX8_betsThatHit_20 ?_
    obtain ⟨r1, h2, h⟩ := bind_s h
    refine G.retI E (run_rowsHitWith (st := []) E h2 rfl (Nat.le_of_ble_eq_true rfl) dX8_betsThatHit_23 (by decide) (by decide)) ?_
    refine G.iload_n E dX8_betsThatHit_26 rfl 2 rfl ?_
    obtain ⟨r3, h4, h⟩ := bind_s h
    refine G.retI E (runS (st := []) (As := [.int r1, .int x2]) E (C_X8_has h4) ck_X8_has (f512 E.fx) (f480 E.fx) (by decide) (by decide) rfl (Nat.le_of_ble_eq_true rfl) dX8_betsThatHit_27 ⟨Nat.zero_le _, Nat.zero_le _⟩) ?_
    refine G.if_eq (tgt := 40) E dX8_betsThatHit_30 (by decide) (fun q => ?_) (fun q => ?_)
    · have h := ite_t h q
      refine G.sub (lv' := [(0, .ref (ad 0)), (1, .ref (ad (27 + x1))), (2, .int x2), (3, .int x3), (4, .int x4)]) [0, 1, 2, 3, 4] rfl ?_
      exact B_X8_betsThatHit_b40 E K rec5 hrec5 σ x1 x2 x3 x4 h
    · have h := ite_f h q
      refine G.iload_n E dX8_betsThatHit_33 rfl 3 rfl ?_
      refine G.iconst (v := 1) E dX8_betsThatHit_34 (by decide) ?_
      refine G.iload E dX8_betsThatHit_35 4 rfl ?_
      refine G.ishl E dX8_betsThatHit_37 ?_
      refine G.ior E dX8_betsThatHit_38 ?_
      refine G.istore_n (lv' := [(3, .int (x3 ||| ((1 : Int32) <<< (x4 &&& 31)))), (0, .ref (ad 0)), (1, .ref (ad (27 + x1))), (2, .int x2), (4, .int x4)]) E dX8_betsThatHit_39 rfl (by decide) rfl ?_
      refine G.sub (lv' := [(0, .ref (ad 0)), (1, .ref (ad (27 + x1))), (2, .int x2), (3, .int (x3 ||| ((1 : Int32) <<< (x4 &&& 31)))), (4, .int x4)]) [1, 2, 3, 0, 4] rfl ?_
      exact B_X8_betsThatHit_b40 E K rec5 hrec5 σ x1 x2 (x3 ||| ((1 : Int32) <<< (x4 &&& 31))) x4 h
noncomputable def D_X8_betsThatHit_L5  (σ : ST) (x1 : Nat) (x2 : Int32) (x3 : Int32) (x4 : Int32) : Option Int32 := itr (fun (rec5 : (Nat × Int32 × Int32 × Int32) → Option Int32) (a : (Nat × Int32 × Int32 × Int32)) => D_X8_betsThatHit_L5_body rec5 σ a.1 a.2.1 a.2.2.1 a.2.2.2) 200 (x1, x2, x3, x4)
set_option maxRecDepth 100000 in
set_option maxHeartbeats 4000000 in
theorem B_X8_betsThatHit_L5 {x : CX} {cy : Nat → ClassId} {ad : Nat → Nat} {r : Int32} {σ : ST} (E : Ev x cy cX8_betsThatHit RX8 5 4 120) (K : RetI x cX8_betsThatHit .int r (wT ad cy σ))  (σ9 : ST) (x1 : Nat) (x2 : Int32) (x3 : Int32) (x4 : Int32) (h : D_X8_betsThatHit_L5 σ x1 x2 x3 x4 = some r) : G x 0 0 5 [(0, .ref (ad 0)), (1, .ref (ad (27 + x1))), (2, .int x2), (3, .int x3), (4, .int x4)] [] (wT ad cy σ) :=
  itr_ind (P := fun a => G x 0 0 5 [(0, .ref (ad 0)), (1, .ref (ad (27 + a.1))), (2, .int a.2.1), (3, .int a.2.2.1), (4, .int a.2.2.2)] [] (wT ad cy σ)) (fun rec5 hrec5 a h => B_X8_betsThatHit_L5_body E K rec5 hrec5 σ a.1 a.2.1 a.2.2.1 a.2.2.2 h) 200 (x1, x2, x3, x4) h
noncomputable def D_X8_betsThatHit (σ : ST) (p1 : Nat) (p2 : Int32) : Option Int32 := D_X8_betsThatHit_L5 σ p1 p2 (0 : Int32) (0 : Int32)
set_option maxRecDepth 100000 in
set_option maxHeartbeats 4000000 in
theorem B_X8_betsThatHit {x : CX} {cy : Nat → ClassId} {ad : Nat → Nat} {r : Int32} {σ : ST} (E : Ev x cy cX8_betsThatHit RX8 5 4 120) (K : RetI x cX8_betsThatHit .int r (wT ad cy σ)) (p1 : Nat) (p2 : Int32) (h : D_X8_betsThatHit σ p1 p2 = some r) : G x 0 0 0 [(0, .ref (ad 0)), (1, .ref (ad (27 + p1))), (2, .int p2)] [] (wT ad cy σ) := by
  unfold D_X8_betsThatHit at h
  refine G.iconst (v := 0) E dX8_betsThatHit_0 (by decide) ?_
  refine G.istore_n (lv' := [(3, .int (0 : Int32)), (0, .ref (ad 0)), (1, .ref (ad (27 + p1))), (2, .int p2)]) E dX8_betsThatHit_1 rfl (by decide) rfl ?_
  refine G.iconst (v := 0) E dX8_betsThatHit_2 (by decide) ?_
  refine G.istore (lv' := [(4, .int (0 : Int32)), (3, .int (0 : Int32)), (0, .ref (ad 0)), (1, .ref (ad (27 + p1))), (2, .int p2)]) E dX8_betsThatHit_3 (by decide) rfl ?_
  refine G.sub (lv' := [(0, .ref (ad 0)), (1, .ref (ad (27 + p1))), (2, .int p2), (3, .int (0 : Int32)), (4, .int (0 : Int32))]) [2, 3, 4, 1, 0] rfl ?_
  exact B_X8_betsThatHit_L5 E K σ p1 p2 (0 : Int32) (0 : Int32) h
set_option maxRecDepth 100000 in
set_option maxHeartbeats 4000000 in
theorem C_X8_betsThatHit {l : Launch} {D : va_G} {cy : Nat → ClassId} {ad : Nat → Nat} {σ : ST} {p1 : Nat} {p2 : Int32} {r : Int32} (h : D_X8_betsThatHit σ p1 p2 = some r) : MI l yX8_betsThatHit cX8_betsThatHit 5 (some .int) 4 120 D cy (wT ad cy σ) [.ref (ad 0), .ref (ad (27 + p1)), .int p2] r (wT ad cy σ) :=
  MI.mk (lv := [(0, .ref (ad 0)), (1, .ref (ad (27 + p1))), (2, .int p2)]) (by decide) (Nat.le_of_ble_eq_true rfl) rfl (fun x _ _ E K => B_X8_betsThatHit E K p1 p2 h)

noncomputable def D_X8_rowsLeft_b103 (rec28 : (Int32 × Nat × Int32 × Int32) → Option Int32) (σ : ST) (x1 : Int32) (x2 : Nat) (x3 : Int32) (x4 : Int32) : Option Int32 := rec28 (x1, x2, x3, (x4 + 1))
set_option maxRecDepth 100000 in
set_option maxHeartbeats 4000000 in
theorem B_X8_rowsLeft_b103 {x : CX} {cy : Nat → ClassId} {ad : Nat → Nat} {r : Int32} {σ : ST} (E : Ev x cy cX8_rowsLeft RX8 6 5 144) (K : RetI x cX8_rowsLeft .int r (wT ad cy σ)) (rec28 : (Int32 × Nat × Int32 × Int32) → Option Int32) (hrec28 : ∀ a, rec28 a = some r → G x 0 0 28 [(0, .ref (ad 0)), (1, .int a.1), (2, .ref (ad (27 + a.2.1))), (3, .int a.2.2.1), (4, .int a.2.2.2)] [] (wT ad cy σ)) (σ9 : ST) (x1 : Int32) (x2 : Nat) (x3 : Int32) (x4 : Int32) (h : D_X8_rowsLeft_b103 rec28 σ x1 x2 x3 x4 = some r) : G x 0 0 103 [(0, .ref (ad 0)), (1, .int x1), (2, .ref (ad (27 + x2))), (3, .int x3), (4, .int x4)] [] (wT ad cy σ) := by
  unfold D_X8_rowsLeft_b103 at h
  refine G.iinc (w := x4 + 1) (lv' := [(4, .int (x4 + 1)), (0, .ref (ad 0)), (1, .int x1), (2, .ref (ad (27 + x2))), (3, .int x3)]) E dX8_rowsLeft_103 4 rfl rfl (by decide) rfl ?_
  refine G.goto (tgt := 28) E dX8_rowsLeft_106 (by decide) ?_
  refine G.sub (lv' := [(0, .ref (ad 0)), (1, .int x1), (2, .ref (ad (27 + x2))), (3, .int x3), (4, .int (x4 + 1))]) [1, 2, 3, 4, 0] rfl ?_
  exact hrec28 (x1, x2, x3, (x4 + 1)) h
noncomputable def D_X8_rowsLeft_b101 (rec28 : (Int32 × Nat × Int32 × Int32) → Option Int32) (σ : ST) (x1 : Int32) (x2 : Nat) (x4 : Int32) (s0 : Int32) (s1 : Int32) : Option Int32 := D_X8_rowsLeft_b103 rec28 σ x1 x2 (s1 &&& s0) x4
set_option maxRecDepth 100000 in
set_option maxHeartbeats 4000000 in
theorem B_X8_rowsLeft_b101 {x : CX} {cy : Nat → ClassId} {ad : Nat → Nat} {r : Int32} {σ : ST} (E : Ev x cy cX8_rowsLeft RX8 6 5 144) (K : RetI x cX8_rowsLeft .int r (wT ad cy σ)) (rec28 : (Int32 × Nat × Int32 × Int32) → Option Int32) (hrec28 : ∀ a, rec28 a = some r → G x 0 0 28 [(0, .ref (ad 0)), (1, .int a.1), (2, .ref (ad (27 + a.2.1))), (3, .int a.2.2.1), (4, .int a.2.2.2)] [] (wT ad cy σ)) (σ9 : ST) (x1 : Int32) (x2 : Nat) (x4 : Int32) (s0 : Int32) (s1 : Int32) (h : D_X8_rowsLeft_b101 rec28 σ x1 x2 x4 s0 s1 = some r) : G x 0 0 101 [(0, .ref (ad 0)), (1, .int x1), (2, .ref (ad (27 + x2))), (4, .int x4)] [.int s0, .int s1] (wT ad cy σ) := by
  unfold D_X8_rowsLeft_b101 at h
  refine G.iand E dX8_rowsLeft_101 ?_
  refine G.istore_n (lv' := [(3, .int (s1 &&& s0)), (0, .ref (ad 0)), (1, .int x1), (2, .ref (ad (27 + x2))), (4, .int x4)]) E dX8_rowsLeft_102 rfl (by decide) rfl ?_
  refine G.sub (lv' := [(0, .ref (ad 0)), (1, .int x1), (2, .ref (ad (27 + x2))), (3, .int (s1 &&& s0)), (4, .int x4)]) [1, 2, 3, 0, 4] rfl ?_
  exact B_X8_rowsLeft_b103 E K rec28 hrec28 σ x1 x2 (s1 &&& s0) x4 h
noncomputable def D_X8_rowsLeft_L28_body (rec28 : (Int32 × Nat × Int32 × Int32) → Option Int32) (σ : ST) (x1 : Int32) (x2 : Nat) (x3 : Int32) (x4 : Int32) : Option Int32 := if (gI σ 5) ≤ x4 then (some x3) else (if (6 : Int32) ≤ x4 then (some x3) else (if x4 < 0 ∨ 6 ≤ x4.toNatClampNeg then none else (if (gA σ 4 x4.toNatClampNeg) = x1 then (if x4 < 0 ∨ 6 ≤ x4.toNatClampNeg then none else ((D_X8_betsThatHit σ x2 (gA σ 5 x4.toNatClampNeg)).bind fun r3 => if x4 < 0 ∨ 6 ≤ x4.toNatClampNeg then none else (if (gA σ 6 x4.toNatClampNeg) = 0 then (D_X8_rowsLeft_b101 rec28 σ x1 x2 x4 (r3 ^^^ (-1 : Int32)) x3) else (D_X8_rowsLeft_b101 rec28 σ x1 x2 x4 r3 x3)))) else (D_X8_rowsLeft_b103 rec28 σ x1 x2 x3 x4))))
set_option maxRecDepth 100000 in
set_option maxHeartbeats 4000000 in
theorem B_X8_rowsLeft_L28_body {x : CX} {cy : Nat → ClassId} {ad : Nat → Nat} {r : Int32} {σ : ST} (E : Ev x cy cX8_rowsLeft RX8 6 5 144) (K : RetI x cX8_rowsLeft .int r (wT ad cy σ)) (rec28 : (Int32 × Nat × Int32 × Int32) → Option Int32) (hrec28 : ∀ a, rec28 a = some r → G x 0 0 28 [(0, .ref (ad 0)), (1, .int a.1), (2, .ref (ad (27 + a.2.1))), (3, .int a.2.2.1), (4, .int a.2.2.2)] [] (wT ad cy σ)) (σ9 : ST) (x1 : Int32) (x2 : Nat) (x3 : Int32) (x4 : Int32) (h : D_X8_rowsLeft_L28_body rec28 σ x1 x2 x3 x4 = some r) : G x 0 0 28 [(0, .ref (ad 0)), (1, .int x1), (2, .ref (ad (27 + x2))), (3, .int x3), (4, .int x4)] [] (wT ad cy σ) := by
  unfold D_X8_rowsLeft_L28_body at h
  refine G.iload E dX8_rowsLeft_28 4 rfl ?_
  refine G.aload_n E dX8_rowsLeft_30 rfl 0 rfl ?_
  refine G.get E inX8 0 rfl rfl 1 (by decide) (f215 E.fx) rfl dX8_rowsLeft_31 ?_
  refine G.getN E inX1 3 rfl rfl 6 (by decide) (f129 E.fx) rfl dX8_rowsLeft_34 ?_
  refine G.icmp_ge (tgt := 109) E dX8_rowsLeft_37 (by decide) (fun q => ?_) (fun q => ?_)
  · have h := ite_t h q
    refine G.iload_n E dX8_rowsLeft_109 rfl 3 rfl ?_
    obtain rfl := Option.some.inj h
    exact K rfl _ _ dX8_rowsLeft_110
  · have h := ite_f h q
    refine G.iload E dX8_rowsLeft_40 4 rfl ?_
    refine G.bipush (v := 6) E dX8_rowsLeft_42 (by decide) ?_
    refine G.icmp_ge (tgt := 109) E dX8_rowsLeft_44 (by decide) (fun q => ?_) (fun q => ?_)
    · have h := ite_t h q
      refine G.iload_n E dX8_rowsLeft_109 rfl 3 rfl ?_
      obtain rfl := Option.some.inj h
      exact K rfl _ _ dX8_rowsLeft_110
    · have h := ite_f h q
      refine G.aload_n E dX8_rowsLeft_47 rfl 0 rfl ?_
      refine G.get E inX8 0 rfl rfl 1 (by decide) (f215 E.fx) rfl dX8_rowsLeft_48 ?_
      refine G.getN E inX1 3 rfl rfl 3 (by decide) (f123 E.fx) rfl dX8_rowsLeft_51 ?_
      refine G.iload E dX8_rowsLeft_54 4 rfl ?_
      obtain ⟨hg, h⟩ := ite_n h
      refine G.iald E 7 0 rfl rfl hg dX8_rowsLeft_56 ?_
      refine G.iload_n E dX8_rowsLeft_57 rfl 1 rfl ?_
      refine G.icmp_ne (tgt := 103) E dX8_rowsLeft_58 (by decide) (fun q => ?_) (fun q => ?_)
      · have h := ite_f h q
        refine G.sub (lv' := [(0, .ref (ad 0)), (1, .int x1), (2, .ref (ad (27 + x2))), (3, .int x3), (4, .int x4)]) [0, 1, 2, 3, 4] rfl ?_
        exact B_X8_rowsLeft_b103 E K rec28 hrec28 σ x1 x2 x3 x4 h
      · have h := ite_t h q
        refine G.aload_n E dX8_rowsLeft_61 rfl 0 rfl ?_
        refine G.aload_n E dX8_rowsLeft_62 rfl 2 rfl ?_
        refine G.aload_n E dX8_rowsLeft_63 rfl 0 rfl ?_
        refine G.get E inX8 0 rfl rfl 1 (by decide) (f215 E.fx) rfl dX8_rowsLeft_64 ?_
        refine G.getN E inX1 3 rfl rfl 4 (by decide) (f125 E.fx) rfl dX8_rowsLeft_67 ?_
        refine G.iload E dX8_rowsLeft_70 4 rfl ?_
        obtain ⟨hg, h⟩ := ite_n h
        refine G.iald E 8 0 rfl rfl hg dX8_rowsLeft_72 ?_
        obtain ⟨r3, h4, h⟩ := bind_s h
        refine G.retI E (runV (st := []) (As := [.ref (ad (27 + x2)), .int (gA σ 5 x4.toNatClampNeg)]) E (C_X8_betsThatHit h4) ck_X8_betsThatHit (f508 E.fx) (f510 E.fx) (f13 E.fx) 0 8 rfl rfl rfl (by decide) (by decide) rfl (Nat.le_of_ble_eq_true rfl) dX8_rowsLeft_73 ⟨Nat.zero_le _, Nat.zero_le _⟩) ?_
        refine G.istore (lv' := [(5, .int r3), (0, .ref (ad 0)), (1, .int x1), (2, .ref (ad (27 + x2))), (3, .int x3), (4, .int x4)]) E dX8_rowsLeft_76 (by decide) rfl ?_
        refine G.iload_n E dX8_rowsLeft_78 rfl 4 rfl ?_
        refine G.aload_n E dX8_rowsLeft_79 rfl 1 rfl ?_
        refine G.get E inX8 0 rfl rfl 1 (by decide) (f215 E.fx) rfl dX8_rowsLeft_80 ?_
        refine G.getN E inX1 3 rfl rfl 5 (by decide) (f127 E.fx) rfl dX8_rowsLeft_83 ?_
        refine G.iload E dX8_rowsLeft_86 5 rfl ?_
        obtain ⟨hg, h⟩ := ite_n h
        refine G.zald E 9 2 rfl rfl hg dX8_rowsLeft_88 ?_
        refine G.if_eq (tgt := 97) E dX8_rowsLeft_89 (by decide) (fun q => ?_) (fun q => ?_)
        · have h := ite_t h q
          refine G.iload E dX8_rowsLeft_97 0 rfl ?_
          refine G.iconst (v := -1) E dX8_rowsLeft_99 (by decide) ?_
          refine G.ixor E dX8_rowsLeft_100 ?_
          refine G.sub (lv' := [(0, .ref (ad 0)), (1, .int x1), (2, .ref (ad (27 + x2))), (4, .int x4)]) [1, 2, 3, 5] rfl ?_
          exact B_X8_rowsLeft_b101 E K rec28 hrec28 σ x1 x2 x4 (r3 ^^^ (-1 : Int32)) x3 h
        · have h := ite_f h q
          refine G.iload E dX8_rowsLeft_92 0 rfl ?_
          refine G.goto (tgt := 101) E dX8_rowsLeft_94 (by decide) ?_
          refine G.sub (lv' := [(0, .ref (ad 0)), (1, .int x1), (2, .ref (ad (27 + x2))), (4, .int x4)]) [1, 2, 3, 5] rfl ?_
          exact B_X8_rowsLeft_b101 E K rec28 hrec28 σ x1 x2 x4 r3 x3 h
noncomputable def D_X8_rowsLeft_L28  (σ : ST) (x1 : Int32) (x2 : Nat) (x3 : Int32) (x4 : Int32) : Option Int32 := itr (fun (rec28 : (Int32 × Nat × Int32 × Int32) → Option Int32) (a : (Int32 × Nat × Int32 × Int32)) => D_X8_rowsLeft_L28_body rec28 σ a.1 a.2.1 a.2.2.1 a.2.2.2) 200 (x1, x2, x3, x4)
set_option maxRecDepth 100000 in
set_option maxHeartbeats 4000000 in
theorem B_X8_rowsLeft_L28 {x : CX} {cy : Nat → ClassId} {ad : Nat → Nat} {r : Int32} {σ : ST} (E : Ev x cy cX8_rowsLeft RX8 6 5 144) (K : RetI x cX8_rowsLeft .int r (wT ad cy σ))  (σ9 : ST) (x1 : Int32) (x2 : Nat) (x3 : Int32) (x4 : Int32) (h : D_X8_rowsLeft_L28 σ x1 x2 x3 x4 = some r) : G x 0 0 28 [(0, .ref (ad 0)), (1, .int x1), (2, .ref (ad (27 + x2))), (3, .int x3), (4, .int x4)] [] (wT ad cy σ) :=
  itr_ind (P := fun a => G x 0 0 28 [(0, .ref (ad 0)), (1, .int a.1), (2, .ref (ad (27 + a.2.1))), (3, .int a.2.2.1), (4, .int a.2.2.2)] [] (wT ad cy σ)) (fun rec28 hrec28 a h => B_X8_rowsLeft_L28_body E K rec28 hrec28 σ a.1 a.2.1 a.2.2.1 a.2.2.2 h) 200 (x1, x2, x3, x4) h
noncomputable def D_X8_rowsLeft (σ : ST) (p1 : Int32) : Option Int32 := if p1 < 0 ∨ 4 ≤ p1.toNatClampNeg then none else ((D_X8_kindAt σ (gA σ 1 p1.toNatClampNeg)).bind fun r1 => D_X8_rowsLeft_L28 σ p1 r1 (((1 : Int32) <<< (((1 : Int32) <<< ((gI σ 2) &&& 31)) &&& 31)) - (1 : Int32)) (0 : Int32))
set_option maxRecDepth 100000 in
set_option maxHeartbeats 4000000 in
theorem B_X8_rowsLeft {x : CX} {cy : Nat → ClassId} {ad : Nat → Nat} {r : Int32} {σ : ST} (E : Ev x cy cX8_rowsLeft RX8 6 5 144) (K : RetI x cX8_rowsLeft .int r (wT ad cy σ)) (p1 : Int32) (h : D_X8_rowsLeft σ p1 = some r) : G x 0 0 0 [(0, .ref (ad 0)), (1, .int p1)] [] (wT ad cy σ) := by
  unfold D_X8_rowsLeft at h
  refine G.aload_n E dX8_rowsLeft_0 rfl 0 rfl ?_
  refine G.aload_n E dX8_rowsLeft_1 rfl 0 rfl ?_
  refine G.get E inX8 0 rfl rfl 1 (by decide) (f215 E.fx) rfl dX8_rowsLeft_2 ?_
  refine G.getN E inX1 3 rfl rfl 0 (by decide) (f117 E.fx) rfl dX8_rowsLeft_5 ?_
  refine G.iload_n E dX8_rowsLeft_8 rfl 1 rfl ?_
  obtain ⟨hg, h⟩ := ite_n h
  refine G.iald E 4 0 rfl rfl hg dX8_rowsLeft_9 ?_
  obtain ⟨r1, h2, h⟩ := bind_s h
  refine G.retR E (runV (st := []) (As := [.int (gA σ 1 p1.toNatClampNeg)]) E (C_X8_kindAt h2) ck_X8_kindAt (f433 E.fx) (f435 E.fx) (f5 E.fx) 0 8 rfl rfl rfl (by decide) (by decide) rfl (Nat.le_of_ble_eq_true rfl) dX8_rowsLeft_10 ⟨Nat.zero_le _, Nat.zero_le _⟩) ?_
  refine G.astore_n (lv' := [(2, .ref (ad (27 + r1))), (0, .ref (ad 0)), (1, .int p1)]) E dX8_rowsLeft_13 rfl (by decide) rfl ?_
  refine G.iconst (v := 1) E dX8_rowsLeft_14 (by decide) ?_
  refine G.iconst (v := 1) E dX8_rowsLeft_15 (by decide) ?_
  refine G.aload_n E dX8_rowsLeft_16 rfl 1 rfl ?_
  refine G.get E inX8 0 rfl rfl 10 (by decide) (f224 E.fx) rfl dX8_rowsLeft_17 ?_
  refine G.ishl E dX8_rowsLeft_20 ?_
  refine G.ishl E dX8_rowsLeft_21 ?_
  refine G.iconst (v := 1) E dX8_rowsLeft_22 (by decide) ?_
  refine G.isub E dX8_rowsLeft_23 ?_
  refine G.istore_n (lv' := [(3, .int (((1 : Int32) <<< (((1 : Int32) <<< ((gI σ 2) &&& 31)) &&& 31)) - (1 : Int32))), (2, .ref (ad (27 + r1))), (0, .ref (ad 0)), (1, .int p1)]) E dX8_rowsLeft_24 rfl (by decide) rfl ?_
  refine G.iconst (v := 0) E dX8_rowsLeft_25 (by decide) ?_
  refine G.istore (lv' := [(4, .int (0 : Int32)), (3, .int (((1 : Int32) <<< (((1 : Int32) <<< ((gI σ 2) &&& 31)) &&& 31)) - (1 : Int32))), (2, .ref (ad (27 + r1))), (0, .ref (ad 0)), (1, .int p1)]) E dX8_rowsLeft_26 (by decide) rfl ?_
  refine G.sub (lv' := [(0, .ref (ad 0)), (1, .int p1), (2, .ref (ad (27 + r1))), (3, .int (((1 : Int32) <<< (((1 : Int32) <<< ((gI σ 2) &&& 31)) &&& 31)) - (1 : Int32))), (4, .int (0 : Int32))]) [3, 4, 2, 1, 0] rfl ?_
  exact B_X8_rowsLeft_L28 E K σ p1 r1 (((1 : Int32) <<< (((1 : Int32) <<< ((gI σ 2) &&& 31)) &&& 31)) - (1 : Int32)) (0 : Int32) h
set_option maxRecDepth 100000 in
set_option maxHeartbeats 4000000 in
theorem C_X8_rowsLeft {l : Launch} {D : va_G} {cy : Nat → ClassId} {ad : Nat → Nat} {σ : ST} {p1 : Int32} {r : Int32} (h : D_X8_rowsLeft σ p1 = some r) : MI l yX8_rowsLeft cX8_rowsLeft 6 (some .int) 5 144 D cy (wT ad cy σ) [.ref (ad 0), .int p1] r (wT ad cy σ) :=
  MI.mk (lv := [(0, .ref (ad 0)), (1, .int p1)]) (by decide) (Nat.le_of_ble_eq_true rfl) rfl (fun x _ _ E K => B_X8_rowsLeft E K p1 h)

noncomputable def D_X8_nextTry_b96 (rec44 : (Int32 × Nat × Int32 × Int32 × Int32 × Int32) → Option Int32) (σ : ST) (x2 : Int32) (x3 : Nat) (x4 : Int32) (x5 : Int32) (x6 : Int32) (x7 : Int32) : Option Int32 := rec44 (x2, x3, x4, x5, x6, (x7 + 1))
set_option maxRecDepth 100000 in
set_option maxHeartbeats 4000000 in
theorem B_X8_nextTry_b96 {x : CX} {cy : Nat → ClassId} {ad : Nat → Nat} {r : Int32} {σ : ST} (E : Ev x cy cX8_nextTry RX8 10 6 169) (K : RetI x cX8_nextTry .int r (wT ad cy σ)) (rec44 : (Int32 × Nat × Int32 × Int32 × Int32 × Int32) → Option Int32) (hrec44 : ∀ a, rec44 a = some r → G x 0 0 44 [(0, .ref (ad 0)), (2, .int a.1), (3, .ref (ad (27 + a.2.1))), (4, .int a.2.2.1), (5, .int a.2.2.2.1), (6, .int a.2.2.2.2.1), (7, .int a.2.2.2.2.2)] [] (wT ad cy σ)) (σ9 : ST) (x2 : Int32) (x3 : Nat) (x4 : Int32) (x5 : Int32) (x6 : Int32) (x7 : Int32) (h : D_X8_nextTry_b96 rec44 σ x2 x3 x4 x5 x6 x7 = some r) : G x 0 0 96 [(0, .ref (ad 0)), (2, .int x2), (3, .ref (ad (27 + x3))), (4, .int x4), (5, .int x5), (6, .int x6), (7, .int x7)] [] (wT ad cy σ) := by
  unfold D_X8_nextTry_b96 at h
  refine G.iinc (w := x7 + 1) (lv' := [(7, .int (x7 + 1)), (0, .ref (ad 0)), (2, .int x2), (3, .ref (ad (27 + x3))), (4, .int x4), (5, .int x5), (6, .int x6)]) E dX8_nextTry_96 6 rfl rfl (by decide) rfl ?_
  refine G.goto (tgt := 44) E dX8_nextTry_99 (by decide) ?_
  refine G.sub (lv' := [(0, .ref (ad 0)), (2, .int x2), (3, .ref (ad (27 + x3))), (4, .int x4), (5, .int x5), (6, .int x6), (7, .int (x7 + 1))]) [1, 2, 3, 4, 5, 6, 0] rfl ?_
  exact hrec44 (x2, x3, x4, x5, x6, (x7 + 1)) h
noncomputable def D_X8_nextTry_L44_body (rec44 : (Int32 × Nat × Int32 × Int32 × Int32 × Int32) → Option Int32) (σ : ST) (x2 : Int32) (x3 : Nat) (x4 : Int32) (x5 : Int32) (x6 : Int32) (x7 : Int32) : Option Int32 := if ((1 : Int32) <<< ((gI σ 2) &&& 31)) ≤ x7 then (some x5) else ((D_X8_betsThatHit σ x3 x7).bind fun r7 => (D_J6_bitCount_0f7a4 (x2 &&& r7)).bind fun r9 => if x6 ≤ (if r9 < (x4 - r9) then (x4 - r9) else r9) then (D_X8_nextTry_b96 rec44 σ x2 x3 x4 x5 x6 x7) else (D_X8_nextTry_b96 rec44 σ x2 x3 x4 x7 (if r9 < (x4 - r9) then (x4 - r9) else r9) x7))
set_option maxRecDepth 100000 in
set_option maxHeartbeats 4000000 in
theorem B_X8_nextTry_L44_body {x : CX} {cy : Nat → ClassId} {ad : Nat → Nat} {r : Int32} {σ : ST} (E : Ev x cy cX8_nextTry RX8 10 6 169) (K : RetI x cX8_nextTry .int r (wT ad cy σ)) (rec44 : (Int32 × Nat × Int32 × Int32 × Int32 × Int32) → Option Int32) (hrec44 : ∀ a, rec44 a = some r → G x 0 0 44 [(0, .ref (ad 0)), (2, .int a.1), (3, .ref (ad (27 + a.2.1))), (4, .int a.2.2.1), (5, .int a.2.2.2.1), (6, .int a.2.2.2.2.1), (7, .int a.2.2.2.2.2)] [] (wT ad cy σ)) (σ9 : ST) (x2 : Int32) (x3 : Nat) (x4 : Int32) (x5 : Int32) (x6 : Int32) (x7 : Int32) (h : D_X8_nextTry_L44_body rec44 σ x2 x3 x4 x5 x6 x7 = some r) : G x 0 0 44 [(0, .ref (ad 0)), (2, .int x2), (3, .ref (ad (27 + x3))), (4, .int x4), (5, .int x5), (6, .int x6), (7, .int x7)] [] (wT ad cy σ) := by
  unfold D_X8_nextTry_L44_body at h
  refine G.iload E dX8_nextTry_44 6 rfl ?_
  refine G.iconst (v := 1) E dX8_nextTry_46 (by decide) ?_
  refine G.aload_n E dX8_nextTry_47 rfl 0 rfl ?_
  refine G.get E inX8 0 rfl rfl 10 (by decide) (f224 E.fx) rfl dX8_nextTry_48 ?_
  refine G.ishl E dX8_nextTry_51 ?_
  refine G.icmp_ge (tgt := 102) E dX8_nextTry_52 (by decide) (fun q => ?_) (fun q => ?_)
  · have h := ite_t h q
    refine G.iload E dX8_nextTry_102 4 rfl ?_
    obtain rfl := Option.some.inj h
    exact K rfl _ _ dX8_nextTry_104
  · have h := ite_f h q
    refine G.iload_n E dX8_nextTry_55 rfl 1 rfl ?_
    refine G.aload_n E dX8_nextTry_56 rfl 0 rfl ?_
    refine G.aload_n E dX8_nextTry_57 rfl 2 rfl ?_
    refine G.iload E dX8_nextTry_58 6 rfl ?_
    obtain ⟨r7, h8, h⟩ := bind_s h
    refine G.retI E (runV (st := [.int x2]) (As := [.ref (ad (27 + x3)), .int x7]) E (C_X8_betsThatHit h8) ck_X8_betsThatHit (f508 E.fx) (f510 E.fx) (f13 E.fx) 0 8 rfl rfl rfl (by decide) (by decide) rfl (Nat.le_of_ble_eq_true rfl) dX8_nextTry_60 ⟨Nat.zero_le _, Nat.zero_le _⟩) ?_
    refine G.iand E dX8_nextTry_63 ?_
    obtain ⟨r9, h10, h⟩ := bind_s h
    refine G.retI E (runS (st := []) (As := [.int (x2 &&& r7)]) E (C_J6_bitCount_0f7a4 h10) ck_J6_bitCount_0f7a4 (f498 E.fx) (f499 E.fx) (by decide) (by decide) rfl (Nat.le_of_ble_eq_true rfl) dX8_nextTry_64 ⟨Nat.zero_le _, Nat.zero_le _⟩) ?_
    refine G.istore (lv' := [(8, .int r9), (0, .ref (ad 0)), (2, .int x2), (3, .ref (ad (27 + x3))), (4, .int x4), (5, .int x5), (6, .int x6), (7, .int x7)]) E dX8_nextTry_67 (by decide) rfl ?_
    refine G.iload E dX8_nextTry_69 0 rfl ?_
    refine G.iload E dX8_nextTry_71 4 rfl ?_
    refine G.iload E dX8_nextTry_73 0 rfl ?_
    refine G.isub E dX8_nextTry_75 ?_
    refine G.mmax E (f517 E.fx) (f329 E.fx) (f81 E.fx) (f330 E.fx) (by decide) (by decide) ⟨rfl, rfl⟩ (Nat.le_of_ble_eq_true rfl) dX8_nextTry_76 ?_
    refine G.istore (lv' := [(9, .int (if r9 < (x4 - r9) then (x4 - r9) else r9)), (8, .int r9), (0, .ref (ad 0)), (2, .int x2), (3, .ref (ad (27 + x3))), (4, .int x4), (5, .int x5), (6, .int x6), (7, .int x7)]) E dX8_nextTry_79 (by decide) rfl ?_
    refine G.iload E dX8_nextTry_81 0 rfl ?_
    refine G.iload E dX8_nextTry_83 7 rfl ?_
    refine G.icmp_ge (tgt := 96) E dX8_nextTry_85 (by decide) (fun q => ?_) (fun q => ?_)
    · have h := ite_t h q
      refine G.sub (lv' := [(0, .ref (ad 0)), (2, .int x2), (3, .ref (ad (27 + x3))), (4, .int x4), (5, .int x5), (6, .int x6), (7, .int x7)]) [2, 3, 4, 5, 6, 7, 8] rfl ?_
      exact B_X8_nextTry_b96 E K rec44 hrec44 σ x2 x3 x4 x5 x6 x7 h
    · have h := ite_f h q
      refine G.iload E dX8_nextTry_88 0 rfl ?_
      refine G.istore (lv' := [(6, .int (if r9 < (x4 - r9) then (x4 - r9) else r9)), (9, .int (if r9 < (x4 - r9) then (x4 - r9) else r9)), (8, .int r9), (0, .ref (ad 0)), (2, .int x2), (3, .ref (ad (27 + x3))), (4, .int x4), (5, .int x5), (7, .int x7)]) E dX8_nextTry_90 (by decide) rfl ?_
      refine G.iload E dX8_nextTry_92 8 rfl ?_
      refine G.istore (lv' := [(5, .int x7), (6, .int (if r9 < (x4 - r9) then (x4 - r9) else r9)), (9, .int (if r9 < (x4 - r9) then (x4 - r9) else r9)), (8, .int r9), (0, .ref (ad 0)), (2, .int x2), (3, .ref (ad (27 + x3))), (4, .int x4), (7, .int x7)]) E dX8_nextTry_94 (by decide) rfl ?_
      refine G.sub (lv' := [(0, .ref (ad 0)), (2, .int x2), (3, .ref (ad (27 + x3))), (4, .int x4), (5, .int x7), (6, .int (if r9 < (x4 - r9) then (x4 - r9) else r9)), (7, .int x7)]) [4, 5, 6, 7, 0, 1, 8] rfl ?_
      exact B_X8_nextTry_b96 E K rec44 hrec44 σ x2 x3 x4 x7 (if r9 < (x4 - r9) then (x4 - r9) else r9) x7 h
noncomputable def D_X8_nextTry_L44  (σ : ST) (x2 : Int32) (x3 : Nat) (x4 : Int32) (x5 : Int32) (x6 : Int32) (x7 : Int32) : Option Int32 := itr (fun (rec44 : (Int32 × Nat × Int32 × Int32 × Int32 × Int32) → Option Int32) (a : (Int32 × Nat × Int32 × Int32 × Int32 × Int32)) => D_X8_nextTry_L44_body rec44 σ a.1 a.2.1 a.2.2.1 a.2.2.2.1 a.2.2.2.2.1 a.2.2.2.2.2) 200 (x2, x3, x4, x5, x6, x7)
set_option maxRecDepth 100000 in
set_option maxHeartbeats 4000000 in
theorem B_X8_nextTry_L44 {x : CX} {cy : Nat → ClassId} {ad : Nat → Nat} {r : Int32} {σ : ST} (E : Ev x cy cX8_nextTry RX8 10 6 169) (K : RetI x cX8_nextTry .int r (wT ad cy σ))  (σ9 : ST) (x2 : Int32) (x3 : Nat) (x4 : Int32) (x5 : Int32) (x6 : Int32) (x7 : Int32) (h : D_X8_nextTry_L44 σ x2 x3 x4 x5 x6 x7 = some r) : G x 0 0 44 [(0, .ref (ad 0)), (2, .int x2), (3, .ref (ad (27 + x3))), (4, .int x4), (5, .int x5), (6, .int x6), (7, .int x7)] [] (wT ad cy σ) :=
  itr_ind (P := fun a => G x 0 0 44 [(0, .ref (ad 0)), (2, .int a.1), (3, .ref (ad (27 + a.2.1))), (4, .int a.2.2.1), (5, .int a.2.2.2.1), (6, .int a.2.2.2.2.1), (7, .int a.2.2.2.2.2)] [] (wT ad cy σ)) (fun rec44 hrec44 a h => B_X8_nextTry_L44_body E K rec44 hrec44 σ a.1 a.2.1 a.2.2.1 a.2.2.2.1 a.2.2.2.2.1 a.2.2.2.2.2 h) 200 (x2, x3, x4, x5, x6, x7) h
noncomputable def D_X8_nextTry (σ : ST) (p1 : Int32) : Option Int32 := (D_X8_rowsLeft σ p1).bind fun r1 => if r1 = 0 then (some (-1 : Int32)) else (if p1 < 0 ∨ 4 ≤ p1.toNatClampNeg then none else ((D_X8_kindAt σ (gA σ 1 p1.toNatClampNeg)).bind fun r3 => (D_J6_bitCount_0f7a4 r1).bind fun r5 => D_X8_nextTry_L44 σ r1 r3 r5 (0 : Int32) (r5 + (1 : Int32)) (0 : Int32)))
set_option maxRecDepth 100000 in
set_option maxHeartbeats 4000000 in
theorem B_X8_nextTry {x : CX} {cy : Nat → ClassId} {ad : Nat → Nat} {r : Int32} {σ : ST} (E : Ev x cy cX8_nextTry RX8 10 6 169) (K : RetI x cX8_nextTry .int r (wT ad cy σ)) (p1 : Int32) (h : D_X8_nextTry σ p1 = some r) : G x 0 0 0 [(0, .ref (ad 0)), (1, .int p1)] [] (wT ad cy σ) := by
  unfold D_X8_nextTry at h
  refine G.aload_n E dX8_nextTry_0 rfl 0 rfl ?_
  refine G.iload_n E dX8_nextTry_1 rfl 1 rfl ?_
  obtain ⟨r1, h2, h⟩ := bind_s h
  refine G.retI E (runV (st := []) (As := [.int p1]) E (C_X8_rowsLeft h2) ck_X8_rowsLeft (f504 E.fx) (f506 E.fx) (f12 E.fx) 0 8 rfl rfl rfl (by decide) (by decide) rfl (Nat.le_of_ble_eq_true rfl) dX8_nextTry_2 ⟨Nat.zero_le _, Nat.zero_le _⟩) ?_
  refine G.istore_n (lv' := [(2, .int r1), (0, .ref (ad 0)), (1, .int p1)]) E dX8_nextTry_5 rfl (by decide) rfl ?_
  refine G.iload_n E dX8_nextTry_6 rfl 0 rfl ?_
  refine G.if_ne (tgt := 12) E dX8_nextTry_7 (by decide) (fun q => ?_) (fun q => ?_)
  · have h := ite_f h q
    refine G.aload_n E dX8_nextTry_12 rfl 1 rfl ?_
    refine G.aload_n E dX8_nextTry_13 rfl 1 rfl ?_
    refine G.get E inX8 0 rfl rfl 1 (by decide) (f215 E.fx) rfl dX8_nextTry_14 ?_
    refine G.getN E inX1 3 rfl rfl 0 (by decide) (f117 E.fx) rfl dX8_nextTry_17 ?_
    refine G.iload_n E dX8_nextTry_20 rfl 2 rfl ?_
    obtain ⟨hg, h⟩ := ite_n h
    refine G.iald E 4 0 rfl rfl hg dX8_nextTry_21 ?_
    obtain ⟨r3, h4, h⟩ := bind_s h
    refine G.retR E (runV (st := []) (As := [.int (gA σ 1 p1.toNatClampNeg)]) E (C_X8_kindAt h4) ck_X8_kindAt (f433 E.fx) (f435 E.fx) (f5 E.fx) 0 8 rfl rfl rfl (by decide) (by decide) rfl (Nat.le_of_ble_eq_true rfl) dX8_nextTry_22 ⟨Nat.zero_le _, Nat.zero_le _⟩) ?_
    refine G.astore_n (lv' := [(3, .ref (ad (27 + r3))), (2, .int r1), (0, .ref (ad 0)), (1, .int p1)]) E dX8_nextTry_25 rfl (by decide) rfl ?_
    refine G.iload_n E dX8_nextTry_26 rfl 1 rfl ?_
    obtain ⟨r5, h6, h⟩ := bind_s h
    refine G.retI E (runS (st := []) (As := [.int r1]) E (C_J6_bitCount_0f7a4 h6) ck_J6_bitCount_0f7a4 (f498 E.fx) (f499 E.fx) (by decide) (by decide) rfl (Nat.le_of_ble_eq_true rfl) dX8_nextTry_27 ⟨Nat.zero_le _, Nat.zero_le _⟩) ?_
    refine G.istore (lv' := [(4, .int r5), (3, .ref (ad (27 + r3))), (2, .int r1), (0, .ref (ad 0)), (1, .int p1)]) E dX8_nextTry_30 (by decide) rfl ?_
    refine G.iconst (v := 0) E dX8_nextTry_32 (by decide) ?_
    refine G.istore (lv' := [(5, .int (0 : Int32)), (4, .int r5), (3, .ref (ad (27 + r3))), (2, .int r1), (0, .ref (ad 0)), (1, .int p1)]) E dX8_nextTry_33 (by decide) rfl ?_
    refine G.iload E dX8_nextTry_35 1 rfl ?_
    refine G.iconst (v := 1) E dX8_nextTry_37 (by decide) ?_
    refine G.iadd E dX8_nextTry_38 ?_
    refine G.istore (lv' := [(6, .int (r5 + (1 : Int32))), (5, .int (0 : Int32)), (4, .int r5), (3, .ref (ad (27 + r3))), (2, .int r1), (0, .ref (ad 0)), (1, .int p1)]) E dX8_nextTry_39 (by decide) rfl ?_
    refine G.iconst (v := 0) E dX8_nextTry_41 (by decide) ?_
    refine G.istore (lv' := [(7, .int (0 : Int32)), (6, .int (r5 + (1 : Int32))), (5, .int (0 : Int32)), (4, .int r5), (3, .ref (ad (27 + r3))), (2, .int r1), (0, .ref (ad 0)), (1, .int p1)]) E dX8_nextTry_42 (by decide) rfl ?_
    refine G.sub (lv' := [(0, .ref (ad 0)), (2, .int r1), (3, .ref (ad (27 + r3))), (4, .int r5), (5, .int (0 : Int32)), (6, .int (r5 + (1 : Int32))), (7, .int (0 : Int32))]) [6, 5, 4, 3, 2, 1, 0] rfl ?_
    exact B_X8_nextTry_L44 E K σ r1 r3 r5 (0 : Int32) (r5 + (1 : Int32)) (0 : Int32) h
  · have h := ite_t h q
    refine G.iconst (v := -1) E dX8_nextTry_10 (by decide) ?_
    obtain rfl := Option.some.inj h
    exact K rfl _ _ dX8_nextTry_11
set_option maxRecDepth 100000 in
set_option maxHeartbeats 4000000 in
theorem C_X8_nextTry {l : Launch} {D : va_G} {cy : Nat → ClassId} {ad : Nat → Nat} {σ : ST} {p1 : Int32} {r : Int32} (h : D_X8_nextTry σ p1 = some r) : MI l yX8_nextTry cX8_nextTry 10 (some .int) 6 169 D cy (wT ad cy σ) [.ref (ad 0), .int p1] r (wT ad cy σ) :=
  MI.mk (lv := [(0, .ref (ad 0)), (1, .int p1)]) (by decide) (Nat.le_of_ble_eq_true rfl) rfl (fun x _ _ E K => B_X8_nextTry E K p1 h)
