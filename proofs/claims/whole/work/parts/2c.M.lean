noncomputable def D_X9_eliminate_b108 (rec9 : (ST × Int32 × Int64 × Int32 × Int32) → Option ST) (σ : ST) (x1 : Int32) (x2 : Int64) (x4 : Int32) (x5 : Int32) : Option ST := rec9 (σ, x1, x2, x4, (x5 + 1))
set_option maxRecDepth 100000 in
set_option maxHeartbeats 4000000 in
theorem B_X9_eliminate_b108 {x : CX} {cy : Nat → ClassId} {ad : Nat → Nat} {r : ST} (E : Ev x cy cX9_eliminate RX9 9 1 20) (K : RetV x cX9_eliminate (wM ad cy r)) (rec9 : (ST × Int32 × Int64 × Int32 × Int32) → Option ST) (hrec9 : ∀ a, rec9 a = some r → G x 0 0 9 [(0, .ref (ad 0)), (1, .int a.2.1), (2, .long a.2.2.1), (4, .int a.2.2.2.1), (5, .int a.2.2.2.2)] [] (wM ad cy a.1)) (σ : ST) (x1 : Int32) (x2 : Int64) (x4 : Int32) (x5 : Int32) (h : D_X9_eliminate_b108 rec9 σ x1 x2 x4 x5 = some r) : G x 0 0 108 [(0, .ref (ad 0)), (1, .int x1), (2, .long x2), (4, .int x4), (5, .int x5)] [] (wM ad cy σ) := by
  unfold D_X9_eliminate_b108 at h
  refine G.iinc (w := x5 + 1) (lv' := [(5, .int (x5 + 1)), (0, .ref (ad 0)), (1, .int x1), (2, .long x2), (4, .int x4)]) E dX9_eliminate_108 4 rfl rfl (by decide) rfl ?_
  refine G.goto (tgt := 9) E dX9_eliminate_111 (by decide) ?_
  refine G.sub (lv' := [(0, .ref (ad 0)), (1, .int x1), (2, .long x2), (4, .int x4), (5, .int (x5 + 1))]) [1, 2, 3, 4, 0] rfl ?_
  exact hrec9 (σ, x1, x2, x4, (x5 + 1)) h
noncomputable def D_X9_eliminate_L33_body (rec9 : (ST × Int32 × Int64 × Int32 × Int32) → Option ST) (rec33 : (ST × Int32 × Int64 × Int32 × Int32 × Int64 × Int32) → Option ST) (σ : ST) (x1 : Int32) (x2 : Int64) (x4 : Int32) (x5 : Int32) (x6 : Int64) (x8 : Int32) : Option ST := if x4 < x8 then (D_X9_eliminate_b108 rec9 σ x1 x2 x4 x5) else (if x5 = x1 then (D_X9_eliminate_b108 rec9 σ x1 x2 x4 x5) else (if (((9 : Int32) * x1) + x1) < 0 ∨ 72 ≤ (((9 : Int32) * x1) + x1).toNatClampNeg then none else (if (((9 : Int32) * x5) + x8) < 0 ∨ 72 ≤ (((9 : Int32) * x5) + x8).toNatClampNeg then none else (if (((9 : Int32) * x1) + x8) < 0 ∨ 72 ≤ (((9 : Int32) * x1) + x8).toNatClampNeg then none else (if x2 = 0 then none else (if (((9 : Int32) * x5) + x8) < 0 ∨ 72 ≤ (((9 : Int32) * x5) + x8).toNatClampNeg then none else (rec33 ((pB σ 0 (((9 : Int32) * x5) + x8).toNatClampNeg ((((gB σ 0 (((9 : Int32) * x1) + x1).toNatClampNeg) * (gB σ 0 (((9 : Int32) * x5) + x8).toNatClampNeg)) - (x6 * (gB σ 0 (((9 : Int32) * x1) + x8).toNatClampNeg))) / x2)), x1, x2, x4, x5, x6, (x8 + 1)))))))))
set_option maxRecDepth 100000 in
set_option maxHeartbeats 4000000 in
theorem B_X9_eliminate_L33_body {x : CX} {cy : Nat → ClassId} {ad : Nat → Nat} {r : ST} (E : Ev x cy cX9_eliminate RX9 9 1 20) (K : RetV x cX9_eliminate (wM ad cy r)) (rec9 : (ST × Int32 × Int64 × Int32 × Int32) → Option ST) (hrec9 : ∀ a, rec9 a = some r → G x 0 0 9 [(0, .ref (ad 0)), (1, .int a.2.1), (2, .long a.2.2.1), (4, .int a.2.2.2.1), (5, .int a.2.2.2.2)] [] (wM ad cy a.1)) (rec33 : (ST × Int32 × Int64 × Int32 × Int32 × Int64 × Int32) → Option ST) (hrec33 : ∀ a, rec33 a = some r → G x 0 0 33 [(0, .ref (ad 0)), (1, .int a.2.1), (2, .long a.2.2.1), (4, .int a.2.2.2.1), (5, .int a.2.2.2.2.1), (6, .long a.2.2.2.2.2.1), (8, .int a.2.2.2.2.2.2)] [] (wM ad cy a.1)) (σ : ST) (x1 : Int32) (x2 : Int64) (x4 : Int32) (x5 : Int32) (x6 : Int64) (x8 : Int32) (h : D_X9_eliminate_L33_body rec9 rec33 σ x1 x2 x4 x5 x6 x8 = some r) : G x 0 0 33 [(0, .ref (ad 0)), (1, .int x1), (2, .long x2), (4, .int x4), (5, .int x5), (6, .long x6), (8, .int x8)] [] (wM ad cy σ) := by
  unfold D_X9_eliminate_L33_body at h
  refine G.iload E dX9_eliminate_33 6 rfl ?_
  refine G.iload E dX9_eliminate_35 3 rfl ?_
  refine G.icmp_gt (tgt := 108) E dX9_eliminate_37 (by decide) (fun q => ?_) (fun q => ?_)
  · have h := ite_t h q
    refine G.sub (lv' := [(0, .ref (ad 0)), (1, .int x1), (2, .long x2), (4, .int x4), (5, .int x5)]) [0, 1, 2, 3, 4] rfl ?_
    exact B_X9_eliminate_b108 E K rec9 hrec9 σ x1 x2 x4 x5 h
  · have h := ite_f h q
    refine G.iload E dX9_eliminate_40 4 rfl ?_
    refine G.iload_n E dX9_eliminate_42 rfl 1 rfl ?_
    refine G.icmp_eq (tgt := 108) E dX9_eliminate_43 (by decide) (fun q => ?_) (fun q => ?_)
    · have h := ite_t h q
      refine G.sub (lv' := [(0, .ref (ad 0)), (1, .int x1), (2, .long x2), (4, .int x4), (5, .int x5)]) [0, 1, 2, 3, 4] rfl ?_
      exact B_X9_eliminate_b108 E K rec9 hrec9 σ x1 x2 x4 x5 h
    · have h := ite_f h q
      refine G.aload_n E dX9_eliminate_46 rfl 0 rfl ?_
      refine G.get E inX9 0 rfl rfl 18 (by decide) (f716 E.fx) rfl dX9_eliminate_47 ?_
      refine G.bipush (v := 9) E dX9_eliminate_50 (by decide) ?_
      refine G.iload E dX9_eliminate_52 4 rfl ?_
      refine G.imul E dX9_eliminate_54 ?_
      refine G.iload E dX9_eliminate_55 6 rfl ?_
      refine G.iadd E dX9_eliminate_57 ?_
      refine G.aload_n E dX9_eliminate_58 rfl 0 rfl ?_
      refine G.get E inX9 0 rfl rfl 18 (by decide) (f716 E.fx) rfl dX9_eliminate_59 ?_
      refine G.bipush (v := 9) E dX9_eliminate_62 (by decide) ?_
      refine G.iload_n E dX9_eliminate_64 rfl 1 rfl ?_
      refine G.imul E dX9_eliminate_65 ?_
      refine G.iload_n E dX9_eliminate_66 rfl 1 rfl ?_
      refine G.iadd E dX9_eliminate_67 ?_
      obtain ⟨hg, h⟩ := ite_n h
      refine G.lald E 18 3 rfl rfl hg dX9_eliminate_68 ?_
      refine G.aload_n E dX9_eliminate_69 rfl 0 rfl ?_
      refine G.get E inX9 0 rfl rfl 18 (by decide) (f716 E.fx) rfl dX9_eliminate_70 ?_
      refine G.bipush (v := 9) E dX9_eliminate_73 (by decide) ?_
      refine G.iload E dX9_eliminate_75 4 rfl ?_
      refine G.imul E dX9_eliminate_77 ?_
      refine G.iload E dX9_eliminate_78 6 rfl ?_
      refine G.iadd E dX9_eliminate_80 ?_
      obtain ⟨hg, h⟩ := ite_n h
      refine G.lald E 18 3 rfl rfl hg dX9_eliminate_81 ?_
      refine G.lmul E dX9_eliminate_82 ?_
      refine G.lload E dX9_eliminate_83 5 rfl ?_
      refine G.aload_n E dX9_eliminate_85 rfl 0 rfl ?_
      refine G.get E inX9 0 rfl rfl 18 (by decide) (f716 E.fx) rfl dX9_eliminate_86 ?_
      refine G.bipush (v := 9) E dX9_eliminate_89 (by decide) ?_
      refine G.iload_n E dX9_eliminate_91 rfl 1 rfl ?_
      refine G.imul E dX9_eliminate_92 ?_
      refine G.iload E dX9_eliminate_93 6 rfl ?_
      refine G.iadd E dX9_eliminate_95 ?_
      obtain ⟨hg, h⟩ := ite_n h
      refine G.lald E 18 3 rfl rfl hg dX9_eliminate_96 ?_
      refine G.lmul E dX9_eliminate_97 ?_
      refine G.lsub E dX9_eliminate_98 ?_
      refine G.lload_n E dX9_eliminate_99 rfl 2 rfl ?_
      obtain ⟨hg, h⟩ := ite_n h
      refine G.ldiv E dX9_eliminate_100 hg ?_
      obtain ⟨hg, h⟩ := ite_n h
      refine G.last (ws' := (wM ad cy (pB σ 0 (((9 : Int32) * x5) + x8).toNatClampNeg ((((gB σ 0 (((9 : Int32) * x1) + x1).toNatClampNeg) * (gB σ 0 (((9 : Int32) * x5) + x8).toNatClampNeg)) - (x6 * (gB σ 0 (((9 : Int32) * x1) + x8).toNatClampNeg))) / x2)))) E 18 3 rfl rfl hg dX9_eliminate_101 (wM_aJ0 ad cy _ _ _) ?_
      refine G.iinc (w := x8 + 1) (lv' := [(8, .int (x8 + 1)), (0, .ref (ad 0)), (1, .int x1), (2, .long x2), (4, .int x4), (5, .int x5), (6, .long x6)]) E dX9_eliminate_102 6 rfl rfl (by decide) rfl ?_
      refine G.goto (tgt := 33) E dX9_eliminate_105 (by decide) ?_
      refine G.sub (lv' := [(0, .ref (ad 0)), (1, .int x1), (2, .long x2), (4, .int x4), (5, .int x5), (6, .long x6), (8, .int (x8 + 1))]) [1, 2, 3, 4, 5, 6, 0] rfl ?_
      exact hrec33 ((pB σ 0 (((9 : Int32) * x5) + x8).toNatClampNeg ((((gB σ 0 (((9 : Int32) * x1) + x1).toNatClampNeg) * (gB σ 0 (((9 : Int32) * x5) + x8).toNatClampNeg)) - (x6 * (gB σ 0 (((9 : Int32) * x1) + x8).toNatClampNeg))) / x2)), x1, x2, x4, x5, x6, (x8 + 1)) h
noncomputable def D_X9_eliminate_L33 (rec9 : (ST × Int32 × Int64 × Int32 × Int32) → Option ST) (σ : ST) (x1 : Int32) (x2 : Int64) (x4 : Int32) (x5 : Int32) (x6 : Int64) (x8 : Int32) : Option ST := itr (fun (rec33 : (ST × Int32 × Int64 × Int32 × Int32 × Int64 × Int32) → Option ST) (a : (ST × Int32 × Int64 × Int32 × Int32 × Int64 × Int32)) => D_X9_eliminate_L33_body rec9 rec33 a.1 a.2.1 a.2.2.1 a.2.2.2.1 a.2.2.2.2.1 a.2.2.2.2.2.1 a.2.2.2.2.2.2) 200 (σ, x1, x2, x4, x5, x6, x8)
set_option maxRecDepth 100000 in
set_option maxHeartbeats 4000000 in
theorem B_X9_eliminate_L33 {x : CX} {cy : Nat → ClassId} {ad : Nat → Nat} {r : ST} (E : Ev x cy cX9_eliminate RX9 9 1 20) (K : RetV x cX9_eliminate (wM ad cy r)) (rec9 : (ST × Int32 × Int64 × Int32 × Int32) → Option ST) (hrec9 : ∀ a, rec9 a = some r → G x 0 0 9 [(0, .ref (ad 0)), (1, .int a.2.1), (2, .long a.2.2.1), (4, .int a.2.2.2.1), (5, .int a.2.2.2.2)] [] (wM ad cy a.1)) (σ : ST) (x1 : Int32) (x2 : Int64) (x4 : Int32) (x5 : Int32) (x6 : Int64) (x8 : Int32) (h : D_X9_eliminate_L33 rec9 σ x1 x2 x4 x5 x6 x8 = some r) : G x 0 0 33 [(0, .ref (ad 0)), (1, .int x1), (2, .long x2), (4, .int x4), (5, .int x5), (6, .long x6), (8, .int x8)] [] (wM ad cy σ) :=
  itr_ind (P := fun a => G x 0 0 33 [(0, .ref (ad 0)), (1, .int a.2.1), (2, .long a.2.2.1), (4, .int a.2.2.2.1), (5, .int a.2.2.2.2.1), (6, .long a.2.2.2.2.2.1), (8, .int a.2.2.2.2.2.2)] [] (wM ad cy a.1)) (fun rec33 hrec33 a h => B_X9_eliminate_L33_body E K rec9 hrec9 rec33 hrec33 a.1 a.2.1 a.2.2.1 a.2.2.2.1 a.2.2.2.2.1 a.2.2.2.2.2.1 a.2.2.2.2.2.2 h) 200 (σ, x1, x2, x4, x5, x6, x8) h
noncomputable def D_X9_eliminate_L9_body (rec9 : (ST × Int32 × Int64 × Int32 × Int32) → Option ST) (σ : ST) (x1 : Int32) (x2 : Int64) (x4 : Int32) (x5 : Int32) : Option ST := if x4 ≤ x5 then (some σ) else (if (((9 : Int32) * x5) + x1) < 0 ∨ 72 ≤ (((9 : Int32) * x5) + x1).toNatClampNeg then none else (D_X9_eliminate_L33 rec9 σ x1 x2 x4 x5 (gB σ 0 (((9 : Int32) * x5) + x1).toNatClampNeg) (0 : Int32)))
set_option maxRecDepth 100000 in
set_option maxHeartbeats 4000000 in
theorem B_X9_eliminate_L9_body {x : CX} {cy : Nat → ClassId} {ad : Nat → Nat} {r : ST} (E : Ev x cy cX9_eliminate RX9 9 1 20) (K : RetV x cX9_eliminate (wM ad cy r)) (rec9 : (ST × Int32 × Int64 × Int32 × Int32) → Option ST) (hrec9 : ∀ a, rec9 a = some r → G x 0 0 9 [(0, .ref (ad 0)), (1, .int a.2.1), (2, .long a.2.2.1), (4, .int a.2.2.2.1), (5, .int a.2.2.2.2)] [] (wM ad cy a.1)) (σ : ST) (x1 : Int32) (x2 : Int64) (x4 : Int32) (x5 : Int32) (h : D_X9_eliminate_L9_body rec9 σ x1 x2 x4 x5 = some r) : G x 0 0 9 [(0, .ref (ad 0)), (1, .int x1), (2, .long x2), (4, .int x4), (5, .int x5)] [] (wM ad cy σ) := by
  unfold D_X9_eliminate_L9_body at h
  refine G.iload E dX9_eliminate_9 4 rfl ?_
  refine G.iload E dX9_eliminate_11 3 rfl ?_
  refine G.icmp_ge (tgt := 114) E dX9_eliminate_13 (by decide) (fun q => ?_) (fun q => ?_)
  · have h := ite_t h q
    obtain rfl := Option.some.inj h
    exact K _ _ dX9_eliminate_114
  · have h := ite_f h q
    refine G.aload_n E dX9_eliminate_16 rfl 0 rfl ?_
    refine G.get E inX9 0 rfl rfl 18 (by decide) (f716 E.fx) rfl dX9_eliminate_17 ?_
    refine G.bipush (v := 9) E dX9_eliminate_20 (by decide) ?_
    refine G.iload E dX9_eliminate_22 4 rfl ?_
    refine G.imul E dX9_eliminate_24 ?_
    refine G.iload_n E dX9_eliminate_25 rfl 1 rfl ?_
    refine G.iadd E dX9_eliminate_26 ?_
    obtain ⟨hg, h⟩ := ite_n h
    refine G.lald E 18 3 rfl rfl hg dX9_eliminate_27 ?_
    refine G.lstore (lv' := [(6, .long (gB σ 0 (((9 : Int32) * x5) + x1).toNatClampNeg)), (0, .ref (ad 0)), (1, .int x1), (2, .long x2), (4, .int x4), (5, .int x5)]) E dX9_eliminate_28 (by decide) rfl ?_
    refine G.iconst (v := 0) E dX9_eliminate_30 (by decide) ?_
    refine G.istore (lv' := [(8, .int (0 : Int32)), (6, .long (gB σ 0 (((9 : Int32) * x5) + x1).toNatClampNeg)), (0, .ref (ad 0)), (1, .int x1), (2, .long x2), (4, .int x4), (5, .int x5)]) E dX9_eliminate_31 (by decide) rfl ?_
    refine G.sub (lv' := [(0, .ref (ad 0)), (1, .int x1), (2, .long x2), (4, .int x4), (5, .int x5), (6, .long (gB σ 0 (((9 : Int32) * x5) + x1).toNatClampNeg)), (8, .int (0 : Int32))]) [2, 3, 4, 5, 6, 1, 0] rfl ?_
    exact B_X9_eliminate_L33 E K rec9 hrec9 σ x1 x2 x4 x5 (gB σ 0 (((9 : Int32) * x5) + x1).toNatClampNeg) (0 : Int32) h
noncomputable def D_X9_eliminate_L9  (σ : ST) (x1 : Int32) (x2 : Int64) (x4 : Int32) (x5 : Int32) : Option ST := itr (fun (rec9 : (ST × Int32 × Int64 × Int32 × Int32) → Option ST) (a : (ST × Int32 × Int64 × Int32 × Int32)) => D_X9_eliminate_L9_body rec9 a.1 a.2.1 a.2.2.1 a.2.2.2.1 a.2.2.2.2) 200 (σ, x1, x2, x4, x5)
set_option maxRecDepth 100000 in
set_option maxHeartbeats 4000000 in
theorem B_X9_eliminate_L9 {x : CX} {cy : Nat → ClassId} {ad : Nat → Nat} {r : ST} (E : Ev x cy cX9_eliminate RX9 9 1 20) (K : RetV x cX9_eliminate (wM ad cy r))  (σ : ST) (x1 : Int32) (x2 : Int64) (x4 : Int32) (x5 : Int32) (h : D_X9_eliminate_L9 σ x1 x2 x4 x5 = some r) : G x 0 0 9 [(0, .ref (ad 0)), (1, .int x1), (2, .long x2), (4, .int x4), (5, .int x5)] [] (wM ad cy σ) :=
  itr_ind (P := fun a => G x 0 0 9 [(0, .ref (ad 0)), (1, .int a.2.1), (2, .long a.2.2.1), (4, .int a.2.2.2.1), (5, .int a.2.2.2.2)] [] (wM ad cy a.1)) (fun rec9 hrec9 a h => B_X9_eliminate_L9_body E K rec9 hrec9 a.1 a.2.1 a.2.2.1 a.2.2.2.1 a.2.2.2.2 h) 200 (σ, x1, x2, x4, x5) h
noncomputable def D_X9_eliminate (σ : ST) (p1 : Int32) (p2 : Int64) : Option ST := (D_X9_unknowns σ).bind fun r1 => D_X9_eliminate_L9 σ p1 p2 r1 (0 : Int32)
set_option maxRecDepth 100000 in
set_option maxHeartbeats 4000000 in
theorem B_X9_eliminate {x : CX} {cy : Nat → ClassId} {ad : Nat → Nat} {r : ST} (E : Ev x cy cX9_eliminate RX9 9 1 20) (K : RetV x cX9_eliminate (wM ad cy r)) (σ : ST) (p1 : Int32) (p2 : Int64) (h : D_X9_eliminate σ p1 p2 = some r) : G x 0 0 0 [(0, .ref (ad 0)), (1, .int p1), (2, .long p2)] [] (wM ad cy σ) := by
  unfold D_X9_eliminate at h
  refine G.aload_n E dX9_eliminate_0 rfl 0 rfl ?_
  obtain ⟨r1, h2, h⟩ := bind_s h
  refine G.retI E (runV (st := []) (As := []) E (C_X9_unknowns h2) ck_X9_unknowns (f880 E.fx) (f882 E.fx) (f37 E.fx) 0 9 rfl rfl rfl (by decide) (by decide) rfl (Nat.le_of_ble_eq_true rfl) dX9_eliminate_1 ⟨Nat.zero_le _, Nat.zero_le _⟩) ?_
  refine G.istore (lv' := [(4, .int r1), (0, .ref (ad 0)), (1, .int p1), (2, .long p2)]) E dX9_eliminate_4 (by decide) rfl ?_
  refine G.iconst (v := 0) E dX9_eliminate_6 (by decide) ?_
  refine G.istore (lv' := [(5, .int (0 : Int32)), (4, .int r1), (0, .ref (ad 0)), (1, .int p1), (2, .long p2)]) E dX9_eliminate_7 (by decide) rfl ?_
  refine G.sub (lv' := [(0, .ref (ad 0)), (1, .int p1), (2, .long p2), (4, .int r1), (5, .int (0 : Int32))]) [2, 3, 4, 1, 0] rfl ?_
  exact B_X9_eliminate_L9 E K σ p1 p2 r1 (0 : Int32) h
set_option maxRecDepth 100000 in
set_option maxHeartbeats 4000000 in
theorem C_X9_eliminate {l : Launch} {D : va_G} {cy : Nat → ClassId} {ad : Nat → Nat} {σ : ST} {p1 : Int32} {p2 : Int64} {r : ST} (h : D_X9_eliminate σ p1 p2 = some r) : MV l yX9_eliminate cX9_eliminate 9 none 1 20 D cy (wM ad cy σ) [.ref (ad 0), .int p1, .long p2]  (wM ad cy r) :=
  MV.mk (lv := [(0, .ref (ad 0)), (1, .int p1), (2, .long p2)]) (by decide) (Nat.le_of_ble_eq_true rfl) rfl (fun x _ _ E K => B_X9_eliminate E K σ p1 p2 h)

noncomputable def D_X9_solve_L20_body (rec10 : (ST × Int32 × Int64 × Int32) → Option ST) (rec20 : (ST × Int32 × Int64 × Int32 × Int32) → Option ST) (σ : ST) (x1 : Int32) (x2 : Int64) (x4 : Int32) (x5 : Int32) : Option ST := if (((9 : Int32) * x5) + x4) < 0 ∨ 72 ≤ (((9 : Int32) * x5) + x4).toNatClampNeg then none else (if (lg_cmp (gB σ 0 (((9 : Int32) * x5) + x4).toNatClampNeg) (0 : Int64)) = 0 then (rec20 (σ, x1, x2, x4, (x5 + 1))) else ((D_X9_exchange σ x4 x5).bind fun r3 => (D_X9_eliminate r3 x4 x2).bind fun r5 => if (((9 : Int32) * x4) + x4) < 0 ∨ 72 ≤ (((9 : Int32) * x4) + x4).toNatClampNeg then none else (rec10 (r5, x1, (gB r5 0 (((9 : Int32) * x4) + x4).toNatClampNeg), (x4 + 1)))))
set_option maxRecDepth 100000 in
set_option maxHeartbeats 4000000 in
theorem B_X9_solve_L20_body {x : CX} {cy : Nat → ClassId} {ad : Nat → Nat} {r : ST} (E : Ev x cy cX9_solve RX9 6 2 48) (K : RetV x cX9_solve (wM ad cy r)) (rec10 : (ST × Int32 × Int64 × Int32) → Option ST) (hrec10 : ∀ a, rec10 a = some r → G x 0 0 10 [(0, .ref (ad 0)), (1, .int a.2.1), (2, .long a.2.2.1), (4, .int a.2.2.2)] [] (wM ad cy a.1)) (rec20 : (ST × Int32 × Int64 × Int32 × Int32) → Option ST) (hrec20 : ∀ a, rec20 a = some r → G x 0 0 20 [(0, .ref (ad 0)), (1, .int a.2.1), (2, .long a.2.2.1), (4, .int a.2.2.2.1), (5, .int a.2.2.2.2)] [] (wM ad cy a.1)) (σ : ST) (x1 : Int32) (x2 : Int64) (x4 : Int32) (x5 : Int32) (h : D_X9_solve_L20_body rec10 rec20 σ x1 x2 x4 x5 = some r) : G x 0 0 20 [(0, .ref (ad 0)), (1, .int x1), (2, .long x2), (4, .int x4), (5, .int x5)] [] (wM ad cy σ) := by
  unfold D_X9_solve_L20_body at h
  refine G.aload_n E dX9_solve_20 rfl 0 rfl ?_
  refine G.get E inX9 0 rfl rfl 18 (by decide) (f716 E.fx) rfl dX9_solve_21 ?_
  refine G.bipush (v := 9) E dX9_solve_24 (by decide) ?_
  refine G.iload E dX9_solve_26 4 rfl ?_
  refine G.imul E dX9_solve_28 ?_
  refine G.iload E dX9_solve_29 3 rfl ?_
  refine G.iadd E dX9_solve_31 ?_
  obtain ⟨hg, h⟩ := ite_n h
  refine G.lald E 18 3 rfl rfl hg dX9_solve_32 ?_
  refine G.lconst (v := 0) E dX9_solve_33 (by decide) ?_
  refine G.lcmp E dX9_solve_34 ?_
  refine G.if_ne (tgt := 44) E dX9_solve_35 (by decide) (fun q => ?_) (fun q => ?_)
  · have h := ite_f h q
    refine G.aload_n E dX9_solve_44 rfl 0 rfl ?_
    refine G.iload E dX9_solve_45 3 rfl ?_
    refine G.iload E dX9_solve_47 4 rfl ?_
    obtain ⟨r3, h4, h⟩ := bind_s h
    refine G.retV E (runV (st := []) (As := [.int x4, .int x5]) E (C_X9_exchange h4) ck_X9_exchange (f896 E.fx) (f898 E.fx) (f40 E.fx) 0 9 rfl rfl rfl (by decide) (by decide) rfl (Nat.le_of_ble_eq_true rfl) dX9_solve_49 ⟨Nat.zero_le _, Nat.zero_le _⟩) ?_
    refine G.aload_n E dX9_solve_52 rfl 0 rfl ?_
    refine G.iload E dX9_solve_53 3 rfl ?_
    refine G.lload_n E dX9_solve_55 rfl 2 rfl ?_
    obtain ⟨r5, h6, h⟩ := bind_s h
    refine G.retV E (runV (st := []) (As := [.int x4, .long x2]) E (C_X9_eliminate h6) ck_X9_eliminate (f900 E.fx) (f902 E.fx) (f41 E.fx) 0 9 rfl rfl rfl (by decide) (by decide) rfl (Nat.le_of_ble_eq_true rfl) dX9_solve_56 ⟨Nat.zero_le _, Nat.zero_le _⟩) ?_
    refine G.aload_n E dX9_solve_59 rfl 0 rfl ?_
    refine G.get E inX9 0 rfl rfl 18 (by decide) (f716 E.fx) rfl dX9_solve_60 ?_
    refine G.bipush (v := 9) E dX9_solve_63 (by decide) ?_
    refine G.iload E dX9_solve_65 3 rfl ?_
    refine G.imul E dX9_solve_67 ?_
    refine G.iload E dX9_solve_68 3 rfl ?_
    refine G.iadd E dX9_solve_70 ?_
    obtain ⟨hg, h⟩ := ite_n h
    refine G.lald E 18 3 rfl rfl hg dX9_solve_71 ?_
    refine G.lstore_n (lv' := [(2, .long (gB r5 0 (((9 : Int32) * x4) + x4).toNatClampNeg)), (0, .ref (ad 0)), (1, .int x1), (4, .int x4), (5, .int x5)]) E dX9_solve_72 rfl (by decide) rfl ?_
    refine G.iinc (w := x4 + 1) (lv' := [(4, .int (x4 + 1)), (2, .long (gB r5 0 (((9 : Int32) * x4) + x4).toNatClampNeg)), (0, .ref (ad 0)), (1, .int x1), (5, .int x5)]) E dX9_solve_73 3 rfl rfl (by decide) rfl ?_
    refine G.goto (tgt := 10) E dX9_solve_76 (by decide) ?_
    refine G.sub (lv' := [(0, .ref (ad 0)), (1, .int x1), (2, .long (gB r5 0 (((9 : Int32) * x4) + x4).toNatClampNeg)), (4, .int (x4 + 1))]) [2, 3, 1, 0] rfl ?_
    exact hrec10 (r5, x1, (gB r5 0 (((9 : Int32) * x4) + x4).toNatClampNeg), (x4 + 1)) h
  · have h := ite_t h q
    refine G.iinc (w := x5 + 1) (lv' := [(5, .int (x5 + 1)), (0, .ref (ad 0)), (1, .int x1), (2, .long x2), (4, .int x4)]) E dX9_solve_38 4 rfl rfl (by decide) rfl ?_
    refine G.goto (tgt := 20) E dX9_solve_41 (by decide) ?_
    refine G.sub (lv' := [(0, .ref (ad 0)), (1, .int x1), (2, .long x2), (4, .int x4), (5, .int (x5 + 1))]) [1, 2, 3, 4, 0] rfl ?_
    exact hrec20 (σ, x1, x2, x4, (x5 + 1)) h
noncomputable def D_X9_solve_L20 (rec10 : (ST × Int32 × Int64 × Int32) → Option ST) (σ : ST) (x1 : Int32) (x2 : Int64) (x4 : Int32) (x5 : Int32) : Option ST := itr (fun (rec20 : (ST × Int32 × Int64 × Int32 × Int32) → Option ST) (a : (ST × Int32 × Int64 × Int32 × Int32)) => D_X9_solve_L20_body rec10 rec20 a.1 a.2.1 a.2.2.1 a.2.2.2.1 a.2.2.2.2) 200 (σ, x1, x2, x4, x5)
set_option maxRecDepth 100000 in
set_option maxHeartbeats 4000000 in
theorem B_X9_solve_L20 {x : CX} {cy : Nat → ClassId} {ad : Nat → Nat} {r : ST} (E : Ev x cy cX9_solve RX9 6 2 48) (K : RetV x cX9_solve (wM ad cy r)) (rec10 : (ST × Int32 × Int64 × Int32) → Option ST) (hrec10 : ∀ a, rec10 a = some r → G x 0 0 10 [(0, .ref (ad 0)), (1, .int a.2.1), (2, .long a.2.2.1), (4, .int a.2.2.2)] [] (wM ad cy a.1)) (σ : ST) (x1 : Int32) (x2 : Int64) (x4 : Int32) (x5 : Int32) (h : D_X9_solve_L20 rec10 σ x1 x2 x4 x5 = some r) : G x 0 0 20 [(0, .ref (ad 0)), (1, .int x1), (2, .long x2), (4, .int x4), (5, .int x5)] [] (wM ad cy σ) :=
  itr_ind (P := fun a => G x 0 0 20 [(0, .ref (ad 0)), (1, .int a.2.1), (2, .long a.2.2.1), (4, .int a.2.2.2.1), (5, .int a.2.2.2.2)] [] (wM ad cy a.1)) (fun rec20 hrec20 a h => B_X9_solve_L20_body E K rec10 hrec10 rec20 hrec20 a.1 a.2.1 a.2.2.1 a.2.2.2.1 a.2.2.2.2 h) 200 (σ, x1, x2, x4, x5) h
noncomputable def D_X9_solve_L10_body (rec10 : (ST × Int32 × Int64 × Int32) → Option ST) (σ : ST) (x1 : Int32) (x2 : Int64) (x4 : Int32) : Option ST := if x1 ≤ x4 then (some σ) else (D_X9_solve_L20 rec10 σ x1 x2 x4 x4)
set_option maxRecDepth 100000 in
set_option maxHeartbeats 4000000 in
theorem B_X9_solve_L10_body {x : CX} {cy : Nat → ClassId} {ad : Nat → Nat} {r : ST} (E : Ev x cy cX9_solve RX9 6 2 48) (K : RetV x cX9_solve (wM ad cy r)) (rec10 : (ST × Int32 × Int64 × Int32) → Option ST) (hrec10 : ∀ a, rec10 a = some r → G x 0 0 10 [(0, .ref (ad 0)), (1, .int a.2.1), (2, .long a.2.2.1), (4, .int a.2.2.2)] [] (wM ad cy a.1)) (σ : ST) (x1 : Int32) (x2 : Int64) (x4 : Int32) (h : D_X9_solve_L10_body rec10 σ x1 x2 x4 = some r) : G x 0 0 10 [(0, .ref (ad 0)), (1, .int x1), (2, .long x2), (4, .int x4)] [] (wM ad cy σ) := by
  unfold D_X9_solve_L10_body at h
  refine G.iload E dX9_solve_10 3 rfl ?_
  refine G.iload_n E dX9_solve_12 rfl 1 rfl ?_
  refine G.icmp_ge (tgt := 79) E dX9_solve_13 (by decide) (fun q => ?_) (fun q => ?_)
  · have h := ite_t h q
    obtain rfl := Option.some.inj h
    exact K _ _ dX9_solve_79
  · have h := ite_f h q
    refine G.iload E dX9_solve_16 3 rfl ?_
    refine G.istore (lv' := [(5, .int x4), (0, .ref (ad 0)), (1, .int x1), (2, .long x2), (4, .int x4)]) E dX9_solve_18 (by decide) rfl ?_
    refine G.sub (lv' := [(0, .ref (ad 0)), (1, .int x1), (2, .long x2), (4, .int x4), (5, .int x4)]) [1, 2, 3, 4, 0] rfl ?_
    exact B_X9_solve_L20 E K rec10 hrec10 σ x1 x2 x4 x4 h
noncomputable def D_X9_solve_L10  (σ : ST) (x1 : Int32) (x2 : Int64) (x4 : Int32) : Option ST := itr (fun (rec10 : (ST × Int32 × Int64 × Int32) → Option ST) (a : (ST × Int32 × Int64 × Int32)) => D_X9_solve_L10_body rec10 a.1 a.2.1 a.2.2.1 a.2.2.2) 200 (σ, x1, x2, x4)
set_option maxRecDepth 100000 in
set_option maxHeartbeats 4000000 in
theorem B_X9_solve_L10 {x : CX} {cy : Nat → ClassId} {ad : Nat → Nat} {r : ST} (E : Ev x cy cX9_solve RX9 6 2 48) (K : RetV x cX9_solve (wM ad cy r))  (σ : ST) (x1 : Int32) (x2 : Int64) (x4 : Int32) (h : D_X9_solve_L10 σ x1 x2 x4 = some r) : G x 0 0 10 [(0, .ref (ad 0)), (1, .int x1), (2, .long x2), (4, .int x4)] [] (wM ad cy σ) :=
  itr_ind (P := fun a => G x 0 0 10 [(0, .ref (ad 0)), (1, .int a.2.1), (2, .long a.2.2.1), (4, .int a.2.2.2)] [] (wM ad cy a.1)) (fun rec10 hrec10 a h => B_X9_solve_L10_body E K rec10 hrec10 a.1 a.2.1 a.2.2.1 a.2.2.2 h) 200 (σ, x1, x2, x4) h
noncomputable def D_X9_solve (σ : ST)  : Option ST := (D_X9_unknowns σ).bind fun r1 => D_X9_solve_L10 σ r1 (1 : Int64) (0 : Int32)
set_option maxRecDepth 100000 in
set_option maxHeartbeats 4000000 in
theorem B_X9_solve {x : CX} {cy : Nat → ClassId} {ad : Nat → Nat} {r : ST} (E : Ev x cy cX9_solve RX9 6 2 48) (K : RetV x cX9_solve (wM ad cy r)) (σ : ST)  (h : D_X9_solve σ = some r) : G x 0 0 0 [(0, .ref (ad 0))] [] (wM ad cy σ) := by
  unfold D_X9_solve at h
  refine G.aload_n E dX9_solve_0 rfl 0 rfl ?_
  obtain ⟨r1, h2, h⟩ := bind_s h
  refine G.retI E (runV (st := []) (As := []) E (C_X9_unknowns h2) ck_X9_unknowns (f880 E.fx) (f882 E.fx) (f37 E.fx) 0 9 rfl rfl rfl (by decide) (by decide) rfl (Nat.le_of_ble_eq_true rfl) dX9_solve_1 ⟨Nat.zero_le _, Nat.zero_le _⟩) ?_
  refine G.istore_n (lv' := [(1, .int r1), (0, .ref (ad 0))]) E dX9_solve_4 rfl (by decide) rfl ?_
  refine G.lconst (v := 1) E dX9_solve_5 (by decide) ?_
  refine G.lstore_n (lv' := [(2, .long (1 : Int64)), (1, .int r1), (0, .ref (ad 0))]) E dX9_solve_6 rfl (by decide) rfl ?_
  refine G.iconst (v := 0) E dX9_solve_7 (by decide) ?_
  refine G.istore (lv' := [(4, .int (0 : Int32)), (2, .long (1 : Int64)), (1, .int r1), (0, .ref (ad 0))]) E dX9_solve_8 (by decide) rfl ?_
  refine G.sub (lv' := [(0, .ref (ad 0)), (1, .int r1), (2, .long (1 : Int64)), (4, .int (0 : Int32))]) [3, 2, 1, 0] rfl ?_
  exact B_X9_solve_L10 E K σ r1 (1 : Int64) (0 : Int32) h
set_option maxRecDepth 100000 in
set_option maxHeartbeats 4000000 in
theorem C_X9_solve {l : Launch} {D : va_G} {cy : Nat → ClassId} {ad : Nat → Nat} {σ : ST}  {r : ST} (h : D_X9_solve σ = some r) : MV l yX9_solve cX9_solve 6 none 2 48 D cy (wM ad cy σ) [.ref (ad 0)]  (wM ad cy r) :=
  MV.mk (lv := [(0, .ref (ad 0))]) (by decide) (Nat.le_of_ble_eq_true rfl) rfl (fun x _ _ E K => B_X9_solve E K σ h)

noncomputable def D_X9_middle_b68  (σ : ST) (x1 : Int64) (x4 : Int64) (x6 : Int64) : Option Int64 := if x6 = 0 then none else (some ((x1 * x4) / x6))
set_option maxRecDepth 100000 in
set_option maxHeartbeats 4000000 in
theorem B_X9_middle_b68 {x : CX} {cy : Nat → ClassId} {ad : Nat → Nat} {r : Int64} {σ : ST} (E : Ev x cy cX9_middle RX9 8 1 20) (K : RetL x cX9_middle r (wM ad cy σ))  (σ9 : ST) (x1 : Int64) (x4 : Int64) (x6 : Int64) (h : D_X9_middle_b68 σ x1 x4 x6 = some r) : G x 0 0 68 [(1, .long x1), (4, .long x4), (6, .long x6)] [] (wM ad cy σ) := by
  unfold D_X9_middle_b68 at h
  refine G.lload_n E dX9_middle_68 rfl 0 rfl ?_
  refine G.lload E dX9_middle_69 1 rfl ?_
  refine G.lmul E dX9_middle_71 ?_
  refine G.lload E dX9_middle_72 2 rfl ?_
  obtain ⟨hg, h⟩ := ite_n h
  refine G.ldiv E dX9_middle_74 hg ?_
  obtain rfl := Option.some.inj h
  exact K _ _ dX9_middle_75
noncomputable def D_X9_middle_L11_body (rec11 : (Int64 × Int32 × Int64 × Int32) → Option Int64) (σ : ST) (x1 : Int64) (x3 : Int32) (x4 : Int64) (x6 : Int32) : Option Int64 := if x3 ≤ x6 then (if (0 : Int32) < 0 ∨ 72 ≤ (0 : Int32).toNatClampNeg then none else (if 0 ≤ (lg_cmp ((gB σ 0 (0 : Int32).toNatClampNeg) * x3.toInt64) (0 : Int64)) then (D_X9_middle_b68 σ x1 x4 ((gB σ 0 (0 : Int32).toNatClampNeg) * x3.toInt64)) else (D_X9_middle_b68 σ x1 (-x4) (-((gB σ 0 (0 : Int32).toNatClampNeg) * x3.toInt64))))) else (if (((9 : Int32) * x6) + x3) < 0 ∨ 72 ≤ (((9 : Int32) * x6) + x3).toNatClampNeg then none else (rec11 (x1, x3, (x4 + (gB σ 0 (((9 : Int32) * x6) + x3).toNatClampNeg)), (x6 + 1))))
set_option maxRecDepth 100000 in
set_option maxHeartbeats 4000000 in
theorem B_X9_middle_L11_body {x : CX} {cy : Nat → ClassId} {ad : Nat → Nat} {r : Int64} {σ : ST} (E : Ev x cy cX9_middle RX9 8 1 20) (K : RetL x cX9_middle r (wM ad cy σ)) (rec11 : (Int64 × Int32 × Int64 × Int32) → Option Int64) (hrec11 : ∀ a, rec11 a = some r → G x 0 0 11 [(0, .ref (ad 0)), (1, .long a.1), (3, .int a.2.1), (4, .long a.2.2.1), (6, .int a.2.2.2)] [] (wM ad cy σ)) (σ9 : ST) (x1 : Int64) (x3 : Int32) (x4 : Int64) (x6 : Int32) (h : D_X9_middle_L11_body rec11 σ x1 x3 x4 x6 = some r) : G x 0 0 11 [(0, .ref (ad 0)), (1, .long x1), (3, .int x3), (4, .long x4), (6, .int x6)] [] (wM ad cy σ) := by
  unfold D_X9_middle_L11_body at h
  refine G.iload E dX9_middle_11 4 rfl ?_
  refine G.iload_n E dX9_middle_13 rfl 2 rfl ?_
  refine G.icmp_ge (tgt := 40) E dX9_middle_14 (by decide) (fun q => ?_) (fun q => ?_)
  · have h := ite_t h q
    refine G.aload_n E dX9_middle_40 rfl 0 rfl ?_
    refine G.get E inX9 0 rfl rfl 18 (by decide) (f716 E.fx) rfl dX9_middle_41 ?_
    refine G.iconst (v := 0) E dX9_middle_44 (by decide) ?_
    obtain ⟨hg, h⟩ := ite_n h
    refine G.lald E 18 3 rfl rfl hg dX9_middle_45 ?_
    refine G.iload_n E dX9_middle_46 rfl 2 rfl ?_
    refine G.i2l E dX9_middle_47 ?_
    refine G.lmul E dX9_middle_48 ?_
    refine G.lstore (lv' := [(6, .long ((gB σ 0 (0 : Int32).toNatClampNeg) * x3.toInt64)), (0, .ref (ad 0)), (1, .long x1), (3, .int x3), (4, .long x4)]) E dX9_middle_49 (by decide) rfl ?_
    refine G.lload E dX9_middle_51 0 rfl ?_
    refine G.lconst (v := 0) E dX9_middle_53 (by decide) ?_
    refine G.lcmp E dX9_middle_54 ?_
    refine G.if_ge (tgt := 68) E dX9_middle_55 (by decide) (fun q => ?_) (fun q => ?_)
    · have h := ite_t h q
      refine G.sub (lv' := [(1, .long x1), (4, .long x4), (6, .long ((gB σ 0 (0 : Int32).toNatClampNeg) * x3.toInt64))]) [2, 4, 0] rfl ?_
      exact B_X9_middle_b68 E K σ x1 x4 ((gB σ 0 (0 : Int32).toNatClampNeg) * x3.toInt64) h
    · have h := ite_f h q
      refine G.lload E dX9_middle_58 4 rfl ?_
      refine G.lneg E dX9_middle_60 ?_
      refine G.lstore (lv' := [(4, .long (-x4)), (6, .long ((gB σ 0 (0 : Int32).toNatClampNeg) * x3.toInt64)), (0, .ref (ad 0)), (1, .long x1), (3, .int x3)]) E dX9_middle_61 (by decide) rfl ?_
      refine G.lload E dX9_middle_63 1 rfl ?_
      refine G.lneg E dX9_middle_65 ?_
      refine G.lstore (lv' := [(6, .long (-((gB σ 0 (0 : Int32).toNatClampNeg) * x3.toInt64))), (4, .long (-x4)), (0, .ref (ad 0)), (1, .long x1), (3, .int x3)]) E dX9_middle_66 (by decide) rfl ?_
      refine G.sub (lv' := [(1, .long x1), (4, .long (-x4)), (6, .long (-((gB σ 0 (0 : Int32).toNatClampNeg) * x3.toInt64)))]) [3, 1, 0] rfl ?_
      exact B_X9_middle_b68 E K σ x1 (-x4) (-((gB σ 0 (0 : Int32).toNatClampNeg) * x3.toInt64)) h
  · have h := ite_f h q
    refine G.lload E dX9_middle_17 3 rfl ?_
    refine G.aload_n E dX9_middle_19 rfl 0 rfl ?_
    refine G.get E inX9 0 rfl rfl 18 (by decide) (f716 E.fx) rfl dX9_middle_20 ?_
    refine G.bipush (v := 9) E dX9_middle_23 (by decide) ?_
    refine G.iload E dX9_middle_25 4 rfl ?_
    refine G.imul E dX9_middle_27 ?_
    refine G.iload_n E dX9_middle_28 rfl 2 rfl ?_
    refine G.iadd E dX9_middle_29 ?_
    obtain ⟨hg, h⟩ := ite_n h
    refine G.lald E 18 3 rfl rfl hg dX9_middle_30 ?_
    refine G.ladd E dX9_middle_31 ?_
    refine G.lstore (lv' := [(4, .long (x4 + (gB σ 0 (((9 : Int32) * x6) + x3).toNatClampNeg))), (0, .ref (ad 0)), (1, .long x1), (3, .int x3), (6, .int x6)]) E dX9_middle_32 (by decide) rfl ?_
    refine G.iinc (w := x6 + 1) (lv' := [(6, .int (x6 + 1)), (4, .long (x4 + (gB σ 0 (((9 : Int32) * x6) + x3).toNatClampNeg))), (0, .ref (ad 0)), (1, .long x1), (3, .int x3)]) E dX9_middle_34 4 rfl rfl (by decide) rfl ?_
    refine G.goto (tgt := 11) E dX9_middle_37 (by decide) ?_
    refine G.sub (lv' := [(0, .ref (ad 0)), (1, .long x1), (3, .int x3), (4, .long (x4 + (gB σ 0 (((9 : Int32) * x6) + x3).toNatClampNeg))), (6, .int (x6 + 1))]) [2, 3, 4, 1, 0] rfl ?_
    exact hrec11 (x1, x3, (x4 + (gB σ 0 (((9 : Int32) * x6) + x3).toNatClampNeg)), (x6 + 1)) h
noncomputable def D_X9_middle_L11  (σ : ST) (x1 : Int64) (x3 : Int32) (x4 : Int64) (x6 : Int32) : Option Int64 := itr (fun (rec11 : (Int64 × Int32 × Int64 × Int32) → Option Int64) (a : (Int64 × Int32 × Int64 × Int32)) => D_X9_middle_L11_body rec11 σ a.1 a.2.1 a.2.2.1 a.2.2.2) 200 (x1, x3, x4, x6)
set_option maxRecDepth 100000 in
set_option maxHeartbeats 4000000 in
theorem B_X9_middle_L11 {x : CX} {cy : Nat → ClassId} {ad : Nat → Nat} {r : Int64} {σ : ST} (E : Ev x cy cX9_middle RX9 8 1 20) (K : RetL x cX9_middle r (wM ad cy σ))  (σ9 : ST) (x1 : Int64) (x3 : Int32) (x4 : Int64) (x6 : Int32) (h : D_X9_middle_L11 σ x1 x3 x4 x6 = some r) : G x 0 0 11 [(0, .ref (ad 0)), (1, .long x1), (3, .int x3), (4, .long x4), (6, .int x6)] [] (wM ad cy σ) :=
  itr_ind (P := fun a => G x 0 0 11 [(0, .ref (ad 0)), (1, .long a.1), (3, .int a.2.1), (4, .long a.2.2.1), (6, .int a.2.2.2)] [] (wM ad cy σ)) (fun rec11 hrec11 a h => B_X9_middle_L11_body E K rec11 hrec11 σ a.1 a.2.1 a.2.2.1 a.2.2.2 h) 200 (x1, x3, x4, x6) h
noncomputable def D_X9_middle (σ : ST) (p1 : Int64) : Option Int64 := (D_X9_unknowns σ).bind fun r1 => D_X9_middle_L11 σ p1 r1 (0 : Int64) (0 : Int32)
set_option maxRecDepth 100000 in
set_option maxHeartbeats 4000000 in
theorem B_X9_middle {x : CX} {cy : Nat → ClassId} {ad : Nat → Nat} {r : Int64} {σ : ST} (E : Ev x cy cX9_middle RX9 8 1 20) (K : RetL x cX9_middle r (wM ad cy σ)) (p1 : Int64) (h : D_X9_middle σ p1 = some r) : G x 0 0 0 [(0, .ref (ad 0)), (1, .long p1)] [] (wM ad cy σ) := by
  unfold D_X9_middle at h
  refine G.aload_n E dX9_middle_0 rfl 0 rfl ?_
  obtain ⟨r1, h2, h⟩ := bind_s h
  refine G.retI E (runV (st := []) (As := []) E (C_X9_unknowns h2) ck_X9_unknowns (f880 E.fx) (f882 E.fx) (f37 E.fx) 0 9 rfl rfl rfl (by decide) (by decide) rfl (Nat.le_of_ble_eq_true rfl) dX9_middle_1 ⟨Nat.zero_le _, Nat.zero_le _⟩) ?_
  refine G.istore_n (lv' := [(3, .int r1), (0, .ref (ad 0)), (1, .long p1)]) E dX9_middle_4 rfl (by decide) rfl ?_
  refine G.lconst (v := 0) E dX9_middle_5 (by decide) ?_
  refine G.lstore (lv' := [(4, .long (0 : Int64)), (3, .int r1), (0, .ref (ad 0)), (1, .long p1)]) E dX9_middle_6 (by decide) rfl ?_
  refine G.iconst (v := 0) E dX9_middle_8 (by decide) ?_
  refine G.istore (lv' := [(6, .int (0 : Int32)), (4, .long (0 : Int64)), (3, .int r1), (0, .ref (ad 0)), (1, .long p1)]) E dX9_middle_9 (by decide) rfl ?_
  refine G.sub (lv' := [(0, .ref (ad 0)), (1, .long p1), (3, .int r1), (4, .long (0 : Int64)), (6, .int (0 : Int32))]) [3, 4, 2, 1, 0] rfl ?_
  exact B_X9_middle_L11 E K σ p1 r1 (0 : Int64) (0 : Int32) h
set_option maxRecDepth 100000 in
set_option maxHeartbeats 4000000 in
theorem C_X9_middle {l : Launch} {D : va_G} {cy : Nat → ClassId} {ad : Nat → Nat} {σ : ST} {p1 : Int64} {r : Int64} (h : D_X9_middle σ p1 = some r) : ML l yX9_middle cX9_middle 8 (some .long) 1 20 D cy (wM ad cy σ) [.ref (ad 0), .long p1] r (wM ad cy σ) :=
  ML.mk (lv := [(0, .ref (ad 0)), (1, .long p1)]) (by decide) (Nat.le_of_ble_eq_true rfl) rfl (fun x _ _ E K => B_X9_middle E K p1 h)

noncomputable def D_X9_waitOf_b93 (rec11 : (ST × Int32 × Int32 × Int32) → Option (Int32 × ST)) (rec50 : (ST × Int32 × Int32 × Int32 × Int32) → Option (Int32 × ST)) (σ : ST) (x1 : Int32) (x2 : Int32) (x3 : Int32) (x4 : Int32) (s0 : Int64) (s1 : Int64) (s2 : Int32) : Option (Int32 × ST) := if s2 < 0 ∨ 72 ≤ s2.toNatClampNeg then none else (rec50 ((pB σ 0 s2.toNatClampNeg (s1 - s0)), x1, x2, x3, (x4 + 1)))
set_option maxRecDepth 100000 in
set_option maxHeartbeats 4000000 in
theorem B_X9_waitOf_b93 {x : CX} {cy : Nat → ClassId} {ad : Nat → Nat} {r : (Int32 × ST)} (E : Ev x cy cX9_waitOf RX9 6 3 73) (K : RetI x cX9_waitOf .int r.1 (wM ad cy r.2)) (rec11 : (ST × Int32 × Int32 × Int32) → Option (Int32 × ST)) (hrec11 : ∀ a, rec11 a = some r → G x 0 0 11 [(0, .ref (ad 0)), (1, .int a.2.1), (2, .int a.2.2.1), (3, .int a.2.2.2)] [] (wM ad cy a.1)) (rec50 : (ST × Int32 × Int32 × Int32 × Int32) → Option (Int32 × ST)) (hrec50 : ∀ a, rec50 a = some r → G x 0 0 50 [(0, .ref (ad 0)), (1, .int a.2.1), (2, .int a.2.2.1), (3, .int a.2.2.2.1), (4, .int a.2.2.2.2)] [] (wM ad cy a.1)) (σ : ST) (x1 : Int32) (x2 : Int32) (x3 : Int32) (x4 : Int32) (s0 : Int64) (s1 : Int64) (s2 : Int32) (h : D_X9_waitOf_b93 rec11 rec50 σ x1 x2 x3 x4 s0 s1 s2 = some r) : G x 0 0 93 [(0, .ref (ad 0)), (1, .int x1), (2, .int x2), (3, .int x3), (4, .int x4)] [.long s0, .long s1, .int s2, .ref (ad 18)] (wM ad cy σ) := by
  unfold D_X9_waitOf_b93 at h
  refine G.lsub E dX9_waitOf_93 ?_
  obtain ⟨hg, h⟩ := ite_n h
  refine G.last (ws' := (wM ad cy (pB σ 0 s2.toNatClampNeg (s1 - s0)))) E 18 3 rfl rfl hg dX9_waitOf_94 (wM_aJ0 ad cy _ _ _) ?_
  refine G.iinc (w := x4 + 1) (lv' := [(4, .int (x4 + 1)), (0, .ref (ad 0)), (1, .int x1), (2, .int x2), (3, .int x3)]) E dX9_waitOf_95 4 rfl rfl (by decide) rfl ?_
  refine G.goto (tgt := 50) E dX9_waitOf_98 (by decide) ?_
  refine G.sub (lv' := [(0, .ref (ad 0)), (1, .int x1), (2, .int x2), (3, .int x3), (4, .int (x4 + 1))]) [1, 2, 3, 4, 0] rfl ?_
  exact hrec50 ((pB σ 0 s2.toNatClampNeg (s1 - s0)), x1, x2, x3, (x4 + 1)) h
noncomputable def D_X9_waitOf_L50_body (rec11 : (ST × Int32 × Int32 × Int32) → Option (Int32 × ST)) (rec50 : (ST × Int32 × Int32 × Int32 × Int32) → Option (Int32 × ST)) (σ : ST) (x1 : Int32) (x2 : Int32) (x3 : Int32) (x4 : Int32) : Option (Int32 × ST) := if (2 : Int32) ≤ x4 then (rec11 (σ, x1, x2, (x3 + 1))) else (if x2 = 0 then none else (if (((9 : Int32) * x3) + ((((2 : Int32) * x3) + x4) - (((2 : Int32) * x3) + x4) / x2 * x2)) < 0 ∨ 72 ≤ (((9 : Int32) * x3) + ((((2 : Int32) * x3) + x4) - (((2 : Int32) * x3) + x4) / x2 * x2)).toNatClampNeg then none else ((D_X9_isIn x1 (((2 : Int32) * x3) + x4)).bind fun r9 => if r9 = 0 then (D_X9_waitOf_b93 rec11 rec50 σ x1 x2 x3 x4 (1 : Int64) (gB σ 0 (((9 : Int32) * x3) + ((((2 : Int32) * x3) + x4) - (((2 : Int32) * x3) + x4) / x2 * x2)).toNatClampNeg) (((9 : Int32) * x3) + ((((2 : Int32) * x3) + x4) - (((2 : Int32) * x3) + x4) / x2 * x2))) else (D_X9_waitOf_b93 rec11 rec50 σ x1 x2 x3 x4 (0 : Int64) (gB σ 0 (((9 : Int32) * x3) + ((((2 : Int32) * x3) + x4) - (((2 : Int32) * x3) + x4) / x2 * x2)).toNatClampNeg) (((9 : Int32) * x3) + ((((2 : Int32) * x3) + x4) - (((2 : Int32) * x3) + x4) / x2 * x2))))))
set_option maxRecDepth 100000 in
set_option maxHeartbeats 4000000 in
theorem B_X9_waitOf_L50_body {x : CX} {cy : Nat → ClassId} {ad : Nat → Nat} {r : (Int32 × ST)} (E : Ev x cy cX9_waitOf RX9 6 3 73) (K : RetI x cX9_waitOf .int r.1 (wM ad cy r.2)) (rec11 : (ST × Int32 × Int32 × Int32) → Option (Int32 × ST)) (hrec11 : ∀ a, rec11 a = some r → G x 0 0 11 [(0, .ref (ad 0)), (1, .int a.2.1), (2, .int a.2.2.1), (3, .int a.2.2.2)] [] (wM ad cy a.1)) (rec50 : (ST × Int32 × Int32 × Int32 × Int32) → Option (Int32 × ST)) (hrec50 : ∀ a, rec50 a = some r → G x 0 0 50 [(0, .ref (ad 0)), (1, .int a.2.1), (2, .int a.2.2.1), (3, .int a.2.2.2.1), (4, .int a.2.2.2.2)] [] (wM ad cy a.1)) (σ : ST) (x1 : Int32) (x2 : Int32) (x3 : Int32) (x4 : Int32) (h : D_X9_waitOf_L50_body rec11 rec50 σ x1 x2 x3 x4 = some r) : G x 0 0 50 [(0, .ref (ad 0)), (1, .int x1), (2, .int x2), (3, .int x3), (4, .int x4)] [] (wM ad cy σ) := by
  unfold D_X9_waitOf_L50_body at h
  refine G.iload E dX9_waitOf_50 4 rfl ?_
  refine G.iconst (v := 2) E dX9_waitOf_52 (by decide) ?_
  refine G.icmp_ge (tgt := 101) E dX9_waitOf_53 (by decide) (fun q => ?_) (fun q => ?_)
  · have h := ite_t h q
    refine G.iinc (w := x3 + 1) (lv' := [(3, .int (x3 + 1)), (0, .ref (ad 0)), (1, .int x1), (2, .int x2), (4, .int x4)]) E dX9_waitOf_101 3 rfl rfl (by decide) rfl ?_
    refine G.goto (tgt := 11) E dX9_waitOf_104 (by decide) ?_
    refine G.sub (lv' := [(0, .ref (ad 0)), (1, .int x1), (2, .int x2), (3, .int (x3 + 1))]) [1, 2, 3, 0] rfl ?_
    exact hrec11 (σ, x1, x2, (x3 + 1)) h
  · have h := ite_f h q
    refine G.iconst (v := 2) E dX9_waitOf_56 (by decide) ?_
    refine G.iload_n E dX9_waitOf_57 rfl 3 rfl ?_
    refine G.imul E dX9_waitOf_58 ?_
    refine G.iload E dX9_waitOf_59 4 rfl ?_
    refine G.iadd E dX9_waitOf_61 ?_
    refine G.istore (lv' := [(5, .int (((2 : Int32) * x3) + x4)), (0, .ref (ad 0)), (1, .int x1), (2, .int x2), (3, .int x3), (4, .int x4)]) E dX9_waitOf_62 (by decide) rfl ?_
    refine G.aload_n E dX9_waitOf_64 rfl 1 rfl ?_
    refine G.get E inX9 0 rfl rfl 18 (by decide) (f716 E.fx) rfl dX9_waitOf_65 ?_
    refine G.bipush (v := 9) E dX9_waitOf_68 (by decide) ?_
    refine G.iload_n E dX9_waitOf_70 rfl 4 rfl ?_
    refine G.imul E dX9_waitOf_71 ?_
    refine G.iload E dX9_waitOf_72 0 rfl ?_
    refine G.iload_n E dX9_waitOf_74 rfl 3 rfl ?_
    obtain ⟨hg, h⟩ := ite_n h
    refine G.irem E dX9_waitOf_75 hg ?_
    refine G.iadd E dX9_waitOf_76 ?_
    refine G.dup2 E dX9_waitOf_77 rfl rfl ?_
    obtain ⟨hg, h⟩ := ite_n h
    refine G.lald E 18 3 rfl rfl hg dX9_waitOf_78 ?_
    refine G.iload_n E dX9_waitOf_79 rfl 2 rfl ?_
    refine G.iload E dX9_waitOf_80 0 rfl ?_
    obtain ⟨r9, h10, h⟩ := bind_s h
    refine G.retI E (runS (st := [.long (gB σ 0 (((9 : Int32) * x3) + ((((2 : Int32) * x3) + x4) - (((2 : Int32) * x3) + x4) / x2 * x2)).toNatClampNeg), .int (((9 : Int32) * x3) + ((((2 : Int32) * x3) + x4) - (((2 : Int32) * x3) + x4) / x2 * x2)), .ref (ad 18)]) (As := [.int x1, .int (((2 : Int32) * x3) + x4)]) E (C_X9_isIn h10) ck_X9_isIn (f889 E.fx) (f890 E.fx) (by decide) (by decide) rfl (Nat.le_of_ble_eq_true rfl) dX9_waitOf_82 ⟨Nat.zero_le _, Nat.zero_le _⟩) ?_
    refine G.if_eq (tgt := 92) E dX9_waitOf_85 (by decide) (fun q => ?_) (fun q => ?_)
    · have h := ite_t h q
      refine G.lconst (v := 1) E dX9_waitOf_92 (by decide) ?_
      refine G.sub (lv' := [(0, .ref (ad 0)), (1, .int x1), (2, .int x2), (3, .int x3), (4, .int x4)]) [1, 2, 3, 4, 5] rfl ?_
      exact B_X9_waitOf_b93 E K rec11 hrec11 rec50 hrec50 σ x1 x2 x3 x4 (1 : Int64) (gB σ 0 (((9 : Int32) * x3) + ((((2 : Int32) * x3) + x4) - (((2 : Int32) * x3) + x4) / x2 * x2)).toNatClampNeg) (((9 : Int32) * x3) + ((((2 : Int32) * x3) + x4) - (((2 : Int32) * x3) + x4) / x2 * x2)) h
    · have h := ite_f h q
      refine G.lconst (v := 0) E dX9_waitOf_88 (by decide) ?_
      refine G.goto (tgt := 93) E dX9_waitOf_89 (by decide) ?_
      refine G.sub (lv' := [(0, .ref (ad 0)), (1, .int x1), (2, .int x2), (3, .int x3), (4, .int x4)]) [1, 2, 3, 4, 5] rfl ?_
      exact B_X9_waitOf_b93 E K rec11 hrec11 rec50 hrec50 σ x1 x2 x3 x4 (0 : Int64) (gB σ 0 (((9 : Int32) * x3) + ((((2 : Int32) * x3) + x4) - (((2 : Int32) * x3) + x4) / x2 * x2)).toNatClampNeg) (((9 : Int32) * x3) + ((((2 : Int32) * x3) + x4) - (((2 : Int32) * x3) + x4) / x2 * x2)) h
noncomputable def D_X9_waitOf_L50 (rec11 : (ST × Int32 × Int32 × Int32) → Option (Int32 × ST)) (σ : ST) (x1 : Int32) (x2 : Int32) (x3 : Int32) (x4 : Int32) : Option (Int32 × ST) := itr (fun (rec50 : (ST × Int32 × Int32 × Int32 × Int32) → Option (Int32 × ST)) (a : (ST × Int32 × Int32 × Int32 × Int32)) => D_X9_waitOf_L50_body rec11 rec50 a.1 a.2.1 a.2.2.1 a.2.2.2.1 a.2.2.2.2) 200 (σ, x1, x2, x3, x4)
set_option maxRecDepth 100000 in
set_option maxHeartbeats 4000000 in
theorem B_X9_waitOf_L50 {x : CX} {cy : Nat → ClassId} {ad : Nat → Nat} {r : (Int32 × ST)} (E : Ev x cy cX9_waitOf RX9 6 3 73) (K : RetI x cX9_waitOf .int r.1 (wM ad cy r.2)) (rec11 : (ST × Int32 × Int32 × Int32) → Option (Int32 × ST)) (hrec11 : ∀ a, rec11 a = some r → G x 0 0 11 [(0, .ref (ad 0)), (1, .int a.2.1), (2, .int a.2.2.1), (3, .int a.2.2.2)] [] (wM ad cy a.1)) (σ : ST) (x1 : Int32) (x2 : Int32) (x3 : Int32) (x4 : Int32) (h : D_X9_waitOf_L50 rec11 σ x1 x2 x3 x4 = some r) : G x 0 0 50 [(0, .ref (ad 0)), (1, .int x1), (2, .int x2), (3, .int x3), (4, .int x4)] [] (wM ad cy σ) :=
  itr_ind (P := fun a => G x 0 0 50 [(0, .ref (ad 0)), (1, .int a.2.1), (2, .int a.2.2.1), (3, .int a.2.2.2.1), (4, .int a.2.2.2.2)] [] (wM ad cy a.1)) (fun rec50 hrec50 a h => B_X9_waitOf_L50_body E K rec11 hrec11 rec50 hrec50 a.1 a.2.1 a.2.2.1 a.2.2.2.1 a.2.2.2.2 h) 200 (σ, x1, x2, x3, x4) h
noncomputable def D_X9_waitOf_L11_body (rec11 : (ST × Int32 × Int32 × Int32) → Option (Int32 × ST)) (σ : ST) (x1 : Int32) (x2 : Int32) (x3 : Int32) : Option (Int32 × ST) := if x2 ≤ x3 then ((D_X9_solve σ).bind fun r5 => (D_X9_middle r5 (1000 : Int64)).bind fun r7 => some (((1000 : Int32) * ((gI r5 2) - (1 : Int32))) + r7.toInt32, r5)) else (if (((9 : Int32) * x3) + x3) < 0 ∨ 72 ≤ (((9 : Int32) * x3) + x3).toNatClampNeg then none else (if (((9 : Int32) * x3) + x3) < 0 ∨ 72 ≤ (((9 : Int32) * x3) + x3).toNatClampNeg then none else (if (((9 : Int32) * x3) + x2) < 0 ∨ 72 ≤ (((9 : Int32) * x3) + x2).toNatClampNeg then none else (D_X9_waitOf_L50 rec11 (pB (pB σ 0 (((9 : Int32) * x3) + x3).toNatClampNeg ((gB σ 0 (((9 : Int32) * x3) + x3).toNatClampNeg) + (2 : Int64))) 0 (((9 : Int32) * x3) + x2).toNatClampNeg (2 : Int64)) x1 x2 x3 (0 : Int32)))))
set_option maxRecDepth 100000 in
set_option maxHeartbeats 4000000 in
theorem B_X9_waitOf_L11_body {x : CX} {cy : Nat → ClassId} {ad : Nat → Nat} {r : (Int32 × ST)} (E : Ev x cy cX9_waitOf RX9 6 3 73) (K : RetI x cX9_waitOf .int r.1 (wM ad cy r.2)) (rec11 : (ST × Int32 × Int32 × Int32) → Option (Int32 × ST)) (hrec11 : ∀ a, rec11 a = some r → G x 0 0 11 [(0, .ref (ad 0)), (1, .int a.2.1), (2, .int a.2.2.1), (3, .int a.2.2.2)] [] (wM ad cy a.1)) (σ : ST) (x1 : Int32) (x2 : Int32) (x3 : Int32) (h : D_X9_waitOf_L11_body rec11 σ x1 x2 x3 = some r) : G x 0 0 11 [(0, .ref (ad 0)), (1, .int x1), (2, .int x2), (3, .int x3)] [] (wM ad cy σ) := by
  unfold D_X9_waitOf_L11_body at h
  refine G.iload_n E dX9_waitOf_11 rfl 3 rfl ?_
  refine G.iload_n E dX9_waitOf_12 rfl 2 rfl ?_
  refine G.icmp_ge (tgt := 107) E dX9_waitOf_13 (by decide) (fun q => ?_) (fun q => ?_)
  · have h := ite_t h q
    refine G.aload_n E dX9_waitOf_107 rfl 0 rfl ?_
    obtain ⟨r5, h6, h⟩ := bind_s h
    refine G.retV E (runV (st := []) (As := []) E (C_X9_solve h6) ck_X9_solve (f892 E.fx) (f894 E.fx) (f39 E.fx) 0 9 rfl rfl rfl (by decide) (by decide) rfl (Nat.le_of_ble_eq_true rfl) dX9_waitOf_108 ⟨Nat.zero_le _, Nat.zero_le _⟩) ?_
    refine G.sipush (v := 1000) E dX9_waitOf_111 (by decide) ?_
    refine G.aload_n E dX9_waitOf_114 rfl 0 rfl ?_
    refine G.get E inX9 0 rfl rfl 2 (by decide) (f700 E.fx) rfl dX9_waitOf_115 ?_
    refine G.iconst (v := 1) E dX9_waitOf_118 (by decide) ?_
    refine G.isub E dX9_waitOf_119 ?_
    refine G.imul E dX9_waitOf_120 ?_
    refine G.aload_n E dX9_waitOf_121 rfl 0 rfl ?_
    refine G.ldc2 E (f904 E.fx) dX9_waitOf_122 ?_
    obtain ⟨r7, h8, h⟩ := bind_s h
    refine G.retL E (runV (st := [.int ((1000 : Int32) * ((gI r5 2) - (1 : Int32)))]) (As := [.long (1000 : Int64)]) E (C_X9_middle h8) ck_X9_middle (f905 E.fx) (f907 E.fx) (f42 E.fx) 0 9 rfl rfl rfl (by decide) (by decide) rfl (Nat.le_of_ble_eq_true rfl) dX9_waitOf_125 ⟨Nat.zero_le _, Nat.zero_le _⟩) ?_
    refine G.l2i E dX9_waitOf_128 ?_
    refine G.iadd E dX9_waitOf_129 ?_
    obtain rfl := Option.some.inj h
    exact K rfl _ _ dX9_waitOf_130
  · have h := ite_f h q
    refine G.aload_n E dX9_waitOf_16 rfl 0 rfl ?_
    refine G.get E inX9 0 rfl rfl 18 (by decide) (f716 E.fx) rfl dX9_waitOf_17 ?_
    refine G.bipush (v := 9) E dX9_waitOf_20 (by decide) ?_
    refine G.iload_n E dX9_waitOf_22 rfl 3 rfl ?_
    refine G.imul E dX9_waitOf_23 ?_
    refine G.iload_n E dX9_waitOf_24 rfl 3 rfl ?_
    refine G.iadd E dX9_waitOf_25 ?_
    refine G.dup2 E dX9_waitOf_26 rfl rfl ?_
    obtain ⟨hg, h⟩ := ite_n h
    refine G.lald E 18 3 rfl rfl hg dX9_waitOf_27 ?_
    refine G.ldc2 E (f888 E.fx) dX9_waitOf_28 ?_
    refine G.ladd E dX9_waitOf_31 ?_
    obtain ⟨hg, h⟩ := ite_n h
    refine G.last (ws' := (wM ad cy (pB σ 0 (((9 : Int32) * x3) + x3).toNatClampNeg ((gB σ 0 (((9 : Int32) * x3) + x3).toNatClampNeg) + (2 : Int64))))) E 18 3 rfl rfl hg dX9_waitOf_32 (wM_aJ0 ad cy _ _ _) ?_
    refine G.aload_n E dX9_waitOf_33 rfl 0 rfl ?_
    refine G.get E inX9 0 rfl rfl 18 (by decide) (f716 E.fx) rfl dX9_waitOf_34 ?_
    refine G.bipush (v := 9) E dX9_waitOf_37 (by decide) ?_
    refine G.iload_n E dX9_waitOf_39 rfl 3 rfl ?_
    refine G.imul E dX9_waitOf_40 ?_
    refine G.iload_n E dX9_waitOf_41 rfl 2 rfl ?_
    refine G.iadd E dX9_waitOf_42 ?_
    refine G.ldc2 E (f888 E.fx) dX9_waitOf_43 ?_
    obtain ⟨hg, h⟩ := ite_n h
    refine G.last (ws' := (wM ad cy (pB (pB σ 0 (((9 : Int32) * x3) + x3).toNatClampNeg ((gB σ 0 (((9 : Int32) * x3) + x3).toNatClampNeg) + (2 : Int64))) 0 (((9 : Int32) * x3) + x2).toNatClampNeg (2 : Int64)))) E 18 3 rfl rfl hg dX9_waitOf_46 (wM_aJ0 ad cy _ _ _) ?_
    refine G.iconst (v := 0) E dX9_waitOf_47 (by decide) ?_
    refine G.istore (lv' := [(4, .int (0 : Int32)), (0, .ref (ad 0)), (1, .int x1), (2, .int x2), (3, .int x3)]) E dX9_waitOf_48 (by decide) rfl ?_
    refine G.sub (lv' := [(0, .ref (ad 0)), (1, .int x1), (2, .int x2), (3, .int x3), (4, .int (0 : Int32))]) [1, 2, 3, 4, 0] rfl ?_
    exact B_X9_waitOf_L50 E K rec11 hrec11 (pB (pB σ 0 (((9 : Int32) * x3) + x3).toNatClampNeg ((gB σ 0 (((9 : Int32) * x3) + x3).toNatClampNeg) + (2 : Int64))) 0 (((9 : Int32) * x3) + x2).toNatClampNeg (2 : Int64)) x1 x2 x3 (0 : Int32) h
noncomputable def D_X9_waitOf_L11  (σ : ST) (x1 : Int32) (x2 : Int32) (x3 : Int32) : Option (Int32 × ST) := itr (fun (rec11 : (ST × Int32 × Int32 × Int32) → Option (Int32 × ST)) (a : (ST × Int32 × Int32 × Int32)) => D_X9_waitOf_L11_body rec11 a.1 a.2.1 a.2.2.1 a.2.2.2) 200 (σ, x1, x2, x3)
set_option maxRecDepth 100000 in
set_option maxHeartbeats 4000000 in
theorem B_X9_waitOf_L11 {x : CX} {cy : Nat → ClassId} {ad : Nat → Nat} {r : (Int32 × ST)} (E : Ev x cy cX9_waitOf RX9 6 3 73) (K : RetI x cX9_waitOf .int r.1 (wM ad cy r.2))  (σ : ST) (x1 : Int32) (x2 : Int32) (x3 : Int32) (h : D_X9_waitOf_L11 σ x1 x2 x3 = some r) : G x 0 0 11 [(0, .ref (ad 0)), (1, .int x1), (2, .int x2), (3, .int x3)] [] (wM ad cy σ) :=
  itr_ind (P := fun a => G x 0 0 11 [(0, .ref (ad 0)), (1, .int a.2.1), (2, .int a.2.2.1), (3, .int a.2.2.2)] [] (wM ad cy a.1)) (fun rec11 hrec11 a h => B_X9_waitOf_L11_body E K rec11 hrec11 a.1 a.2.1 a.2.2.1 a.2.2.2 h) 200 (σ, x1, x2, x3) h
noncomputable def D_X9_waitOf (σ : ST) (p1 : Int32) : Option (Int32 × ST) := (D_X9_unknowns σ).bind fun r1 => (D_X9_clear σ).bind fun r3 => D_X9_waitOf_L11 r3 p1 r1 (0 : Int32)
set_option maxRecDepth 100000 in
set_option maxHeartbeats 4000000 in
theorem B_X9_waitOf {x : CX} {cy : Nat → ClassId} {ad : Nat → Nat} {r : (Int32 × ST)} (E : Ev x cy cX9_waitOf RX9 6 3 73) (K : RetI x cX9_waitOf .int r.1 (wM ad cy r.2)) (σ : ST) (p1 : Int32) (h : D_X9_waitOf σ p1 = some r) : G x 0 0 0 [(0, .ref (ad 0)), (1, .int p1)] [] (wM ad cy σ) := by
  unfold D_X9_waitOf at h
  refine G.aload_n E dX9_waitOf_0 rfl 0 rfl ?_
  obtain ⟨r1, h2, h⟩ := bind_s h
  refine G.retI E (runV (st := []) (As := []) E (C_X9_unknowns h2) ck_X9_unknowns (f880 E.fx) (f882 E.fx) (f37 E.fx) 0 9 rfl rfl rfl (by decide) (by decide) rfl (Nat.le_of_ble_eq_true rfl) dX9_waitOf_1 ⟨Nat.zero_le _, Nat.zero_le _⟩) ?_
  refine G.istore_n (lv' := [(2, .int r1), (0, .ref (ad 0)), (1, .int p1)]) E dX9_waitOf_4 rfl (by decide) rfl ?_
  refine G.aload_n E dX9_waitOf_5 rfl 1 rfl ?_
  obtain ⟨r3, h4, h⟩ := bind_s h
  refine G.retV E (runV (st := []) (As := []) E (C_X9_clear h4) ck_X9_clear (f884 E.fx) (f886 E.fx) (f38 E.fx) 0 9 rfl rfl rfl (by decide) (by decide) rfl (Nat.le_of_ble_eq_true rfl) dX9_waitOf_6 ⟨Nat.zero_le _, Nat.zero_le _⟩) ?_
  refine G.iconst (v := 0) E dX9_waitOf_9 (by decide) ?_
  refine G.istore_n (lv' := [(3, .int (0 : Int32)), (2, .int r1), (0, .ref (ad 0)), (1, .int p1)]) E dX9_waitOf_10 rfl (by decide) rfl ?_
  refine G.sub (lv' := [(0, .ref (ad 0)), (1, .int p1), (2, .int r1), (3, .int (0 : Int32))]) [2, 3, 1, 0] rfl ?_
  exact B_X9_waitOf_L11 E K r3 p1 r1 (0 : Int32) h
set_option maxRecDepth 100000 in
set_option maxHeartbeats 4000000 in
theorem C_X9_waitOf {l : Launch} {D : va_G} {cy : Nat → ClassId} {ad : Nat → Nat} {σ : ST} {p1 : Int32} {r : (Int32 × ST)} (h : D_X9_waitOf σ p1 = some r) : MI l yX9_waitOf cX9_waitOf 6 (some .int) 3 73 D cy (wM ad cy σ) [.ref (ad 0), .int p1] r.1 (wM ad cy r.2) :=
  MI.mk (lv := [(0, .ref (ad 0)), (1, .int p1)]) (by decide) (Nat.le_of_ble_eq_true rfl) rfl (fun x _ _ E K => B_X9_waitOf E K σ p1 h)

noncomputable def D_X9_playerNow (σ : ST) (p1 : Int32) (p2 : Int32) : Option (Int32 × ST) := if p2.toInt < 0 ∨ 5 < p2.toInt then ((D_X9_tryFor σ p1).bind fun r1 => some (r1, σ)) else (if p2 = 0 then (if p1 < 0 ∨ 4 ≤ p1.toNatClampNeg then none else (some (gA σ 0 p1.toNatClampNeg, σ))) else (if p2 = 1 then (if p1 < 0 ∨ 4 ≤ p1.toNatClampNeg then none else (some (gA σ 1 p1.toNatClampNeg, σ))) else (if p2 = 2 then (if p1 < 0 ∨ 4 ≤ p1.toNatClampNeg then none else (some (gA σ 2 p1.toNatClampNeg, σ))) else (if p2 = 3 then ((D_X9_hitsOf σ p1).bind fun r3 => (D_X9_waitOf σ r3).bind fun r5 => some (r5.1, r5.2)) else (if p2 = 4 then ((D_X9_hitsOf σ p1).bind fun r7 => (D_X9_size r7).bind fun r9 => some (r9, σ)) else (if p2 = 5 then ((D_X9_rowsOf σ p1).bind fun r11 => some (r11, σ)) else (none)))))))
set_option maxRecDepth 100000 in
set_option maxHeartbeats 4000000 in
theorem B_X9_playerNow {x : CX} {cy : Nat → ClassId} {ad : Nat → Nat} {r : (Int32 × ST)} (E : Ev x cy cX9_playerNow RX9 3 4 101) (K : RetI x cX9_playerNow .int r.1 (wM ad cy r.2)) (σ : ST) (p1 : Int32) (p2 : Int32) (h : D_X9_playerNow σ p1 p2 = some r) : G x 0 0 0 [(0, .ref (ad 0)), (1, .int p1), (2, .int p2)] [] (wM ad cy σ) := by
  unfold D_X9_playerNow at h
  refine G.iload_n E dX9_playerNow_0 rfl 2 rfl ?_
  by_cases q : p2.toInt < 0 ∨ 5 < p2.toInt
  · have h := ite_t h q
    refine G.tableOut (tgt := 86) E dX9_playerNow_1 q (by decide) ?_
    refine G.aload_n E dX9_playerNow_86 rfl 0 rfl ?_
    refine G.iload_n E dX9_playerNow_87 rfl 1 rfl ?_
    obtain ⟨r1, h2, h⟩ := bind_s h
    refine G.retI E (runV (st := []) (As := [.int p1]) E (C_X9_tryFor h2) ck_X9_tryFor (f916 E.fx) (f918 E.fx) (f44 E.fx) 0 9 rfl rfl rfl (by decide) (by decide) rfl (Nat.le_of_ble_eq_true rfl) dX9_playerNow_88 ⟨Nat.zero_le _, Nat.zero_le _⟩) ?_
    obtain rfl := Option.some.inj h
    exact K rfl _ _ dX9_playerNow_91
  have h := ite_f h q
  by_cases q0 : p2 = 0
  · have h := ite_t h q0
    refine G.tableAt (n := 0) (off := 39) (tgt := 40) E q0 dX9_playerNow_1 (by decide) (by decide) (by decide) (by decide) ?_
    refine G.aload_n E dX9_playerNow_40 rfl 0 rfl ?_
    refine G.get E inX9 0 rfl rfl 3 (by decide) (f701 E.fx) rfl dX9_playerNow_41 ?_
    refine G.iload_n E dX9_playerNow_44 rfl 1 rfl ?_
    obtain ⟨hg, h⟩ := ite_n h
    refine G.iald E 1 0 rfl rfl hg dX9_playerNow_45 ?_
    obtain rfl := Option.some.inj h
    exact K rfl _ _ dX9_playerNow_46
  have h := ite_f h q0
  by_cases q1 : p2 = 1
  · have h := ite_t h q1
    refine G.tableAt (n := 1) (off := 46) (tgt := 47) E q1 dX9_playerNow_1 (by decide) (by decide) (by decide) (by decide) ?_
    refine G.aload_n E dX9_playerNow_47 rfl 0 rfl ?_
    refine G.get E inX9 0 rfl rfl 4 (by decide) (f702 E.fx) rfl dX9_playerNow_48 ?_
    refine G.iload_n E dX9_playerNow_51 rfl 1 rfl ?_
    obtain ⟨hg, h⟩ := ite_n h
    refine G.iald E 2 0 rfl rfl hg dX9_playerNow_52 ?_
    obtain rfl := Option.some.inj h
    exact K rfl _ _ dX9_playerNow_53
  have h := ite_f h q1
  by_cases q2 : p2 = 2
  · have h := ite_t h q2
    refine G.tableAt (n := 2) (off := 53) (tgt := 54) E q2 dX9_playerNow_1 (by decide) (by decide) (by decide) (by decide) ?_
    refine G.aload_n E dX9_playerNow_54 rfl 0 rfl ?_
    refine G.get E inX9 0 rfl rfl 5 (by decide) (f703 E.fx) rfl dX9_playerNow_55 ?_
    refine G.iload_n E dX9_playerNow_58 rfl 1 rfl ?_
    obtain ⟨hg, h⟩ := ite_n h
    refine G.iald E 3 0 rfl rfl hg dX9_playerNow_59 ?_
    obtain rfl := Option.some.inj h
    exact K rfl _ _ dX9_playerNow_60
  have h := ite_f h q2
  by_cases q3 : p2 = 3
  · have h := ite_t h q3
    refine G.tableAt (n := 3) (off := 60) (tgt := 61) E q3 dX9_playerNow_1 (by decide) (by decide) (by decide) (by decide) ?_
    refine G.aload_n E dX9_playerNow_61 rfl 0 rfl ?_
    refine G.aload_n E dX9_playerNow_62 rfl 0 rfl ?_
    refine G.iload_n E dX9_playerNow_63 rfl 1 rfl ?_
    obtain ⟨r3, h4, h⟩ := bind_s h
    refine G.retI E (runV (st := [.ref (ad 0)]) (As := [.int p1]) E (C_X9_hitsOf h4) ck_X9_hitsOf (f860 E.fx) (f862 E.fx) (f32 E.fx) 0 9 rfl rfl rfl (by decide) (by decide) rfl (Nat.le_of_ble_eq_true rfl) dX9_playerNow_64 ⟨Nat.zero_le _, Nat.zero_le _⟩) ?_
    obtain ⟨r5, h6, h⟩ := bind_s h
    refine G.retI E (runV (st := []) (As := [.int r3]) E (C_X9_waitOf h6) ck_X9_waitOf (f876 E.fx) (f878 E.fx) (f36 E.fx) 0 9 rfl rfl rfl (by decide) (by decide) rfl (Nat.le_of_ble_eq_true rfl) dX9_playerNow_67 ⟨Nat.zero_le _, Nat.zero_le _⟩) ?_
    obtain rfl := Option.some.inj h
    exact K rfl _ _ dX9_playerNow_70
  have h := ite_f h q3
  by_cases q4 : p2 = 4
  · have h := ite_t h q4
    refine G.tableAt (n := 4) (off := 70) (tgt := 71) E q4 dX9_playerNow_1 (by decide) (by decide) (by decide) (by decide) ?_
    refine G.aload_n E dX9_playerNow_71 rfl 0 rfl ?_
    refine G.iload_n E dX9_playerNow_72 rfl 1 rfl ?_
    obtain ⟨r7, h8, h⟩ := bind_s h
    refine G.retI E (runV (st := []) (As := [.int p1]) E (C_X9_hitsOf h8) ck_X9_hitsOf (f860 E.fx) (f862 E.fx) (f32 E.fx) 0 9 rfl rfl rfl (by decide) (by decide) rfl (Nat.le_of_ble_eq_true rfl) dX9_playerNow_73 ⟨Nat.zero_le _, Nat.zero_le _⟩) ?_
    obtain ⟨r9, h10, h⟩ := bind_s h
    refine G.retI E (runS (st := []) (As := [.int r7]) E (C_X9_size h10) ck_X9_size (f909 E.fx) (f910 E.fx) (by decide) (by decide) rfl (Nat.le_of_ble_eq_true rfl) dX9_playerNow_76 ⟨Nat.zero_le _, Nat.zero_le _⟩) ?_
    obtain rfl := Option.some.inj h
    exact K rfl _ _ dX9_playerNow_79
  have h := ite_f h q4
  by_cases q5 : p2 = 5
  · have h := ite_t h q5
    refine G.tableAt (n := 5) (off := 79) (tgt := 80) E q5 dX9_playerNow_1 (by decide) (by decide) (by decide) (by decide) ?_
    refine G.aload_n E dX9_playerNow_80 rfl 0 rfl ?_
    refine G.iload_n E dX9_playerNow_81 rfl 1 rfl ?_
    obtain ⟨r11, h12, h⟩ := bind_s h
    refine G.retI E (runV (st := []) (As := [.int p1]) E (C_X9_rowsOf h12) ck_X9_rowsOf (f912 E.fx) (f914 E.fx) (f43 E.fx) 0 9 rfl rfl rfl (by decide) (by decide) rfl (Nat.le_of_ble_eq_true rfl) dX9_playerNow_82 ⟨Nat.zero_le _, Nat.zero_le _⟩) ?_
    obtain rfl := Option.some.inj h
    exact K rfl _ _ dX9_playerNow_85
  have h := ite_f h q5
  cases h
set_option maxRecDepth 100000 in
set_option maxHeartbeats 4000000 in
theorem C_X9_playerNow {l : Launch} {D : va_G} {cy : Nat → ClassId} {ad : Nat → Nat} {σ : ST} {p1 : Int32} {p2 : Int32} {r : (Int32 × ST)} (h : D_X9_playerNow σ p1 p2 = some r) : MI l yX9_playerNow cX9_playerNow 3 (some .int) 4 101 D cy (wM ad cy σ) [.ref (ad 0), .int p1, .int p2] r.1 (wM ad cy r.2) :=
  MI.mk (lv := [(0, .ref (ad 0)), (1, .int p1), (2, .int p2)]) (by decide) (Nat.le_of_ble_eq_true rfl) rfl (fun x _ _ E K => B_X9_playerNow E K σ p1 p2 h)

noncomputable def D_X9_player (σ : ST) (p1 : Int32) (p2 : Int32) : Option (Int32 × ST) := (D_X9_isPlayer σ p1).bind fun r1 => if r1 = 0 then (some ((-101 : Int32), σ)) else ((D_X9_within p2 (0 : Int32) (6 : Int32)).bind fun r3 => if r3 = 0 then (some ((-102 : Int32), σ)) else ((D_X9_playerNow σ p1 p2).bind fun r5 => some (r5.1, r5.2)))
set_option maxRecDepth 100000 in
set_option maxHeartbeats 4000000 in
theorem B_X9_player {x : CX} {cy : Nat → ClassId} {ad : Nat → Nat} {r : (Int32 × ST)} (E : Ev x cy cX9_player RX9 3 5 123) (K : RetI x cX9_player .int r.1 (wM ad cy r.2)) (σ : ST) (p1 : Int32) (p2 : Int32) (h : D_X9_player σ p1 p2 = some r) : G x 0 0 0 [(0, .ref (ad 0)), (1, .int p1), (2, .int p2)] [] (wM ad cy σ) := by
  unfold D_X9_player at h
  refine G.aload_n E dX9_player_0 rfl 0 rfl ?_
  refine G.iload_n E dX9_player_1 rfl 1 rfl ?_
  obtain ⟨r1, h2, h⟩ := bind_s h
  refine G.retI E (runV (st := []) (As := [.int p1]) E (C_X9_isPlayer h2) ck_X9_isPlayer (f852 E.fx) (f854 E.fx) (f30 E.fx) 0 9 rfl rfl rfl (by decide) (by decide) rfl (Nat.le_of_ble_eq_true rfl) dX9_player_2 ⟨Nat.zero_le _, Nat.zero_le _⟩) ?_
  refine G.if_ne (tgt := 13) E dX9_player_5 (by decide) (fun q => ?_) (fun q => ?_)
  · have h := ite_f h q
    refine G.iload_n E dX9_player_13 rfl 2 rfl ?_
    refine G.iconst (v := 0) E dX9_player_14 (by decide) ?_
    refine G.bipush (v := 6) E dX9_player_15 (by decide) ?_
    obtain ⟨r3, h4, h⟩ := bind_s h
    refine G.retI E (runS (st := []) (As := [.int p2, .int (0 : Int32), .int (6 : Int32)]) E (C_X9_within h4) ck_X9_within (f814 E.fx) (f815 E.fx) (by decide) (by decide) rfl (Nat.le_of_ble_eq_true rfl) dX9_player_17 ⟨Nat.zero_le _, Nat.zero_le _⟩) ?_
    refine G.if_eq (tgt := 32) E dX9_player_20 (by decide) (fun q => ?_) (fun q => ?_)
    · have h := ite_t h q
      refine G.bipush (v := -102) E dX9_player_32 (by decide) ?_
      obtain rfl := Option.some.inj h
      exact K rfl _ _ dX9_player_34
    · have h := ite_f h q
      refine G.aload_n E dX9_player_23 rfl 0 rfl ?_
      refine G.iload_n E dX9_player_24 rfl 1 rfl ?_
      refine G.iload_n E dX9_player_25 rfl 2 rfl ?_
      obtain ⟨r5, h6, h⟩ := bind_s h
      refine G.retI E (runV (st := []) (As := [.int p1, .int p2]) E (C_X9_playerNow h6) ck_X9_playerNow (f856 E.fx) (f858 E.fx) (f31 E.fx) 0 9 rfl rfl rfl (by decide) (by decide) rfl (Nat.le_of_ble_eq_true rfl) dX9_player_26 ⟨Nat.zero_le _, Nat.zero_le _⟩) ?_
      refine G.goto (tgt := 34) E dX9_player_29 (by decide) ?_
      obtain rfl := Option.some.inj h
      exact K rfl _ _ dX9_player_34
  · have h := ite_t h q
    refine G.bipush (v := -101) E dX9_player_8 (by decide) ?_
    refine G.goto (tgt := 34) E dX9_player_10 (by decide) ?_
    obtain rfl := Option.some.inj h
    exact K rfl _ _ dX9_player_34
set_option maxRecDepth 100000 in
set_option maxHeartbeats 4000000 in
theorem C_X9_player {l : Launch} {D : va_G} {cy : Nat → ClassId} {ad : Nat → Nat} {σ : ST} {p1 : Int32} {p2 : Int32} {r : (Int32 × ST)} (h : D_X9_player σ p1 p2 = some r) : MI l yX9_player cX9_player 3 (some .int) 5 123 D cy (wM ad cy σ) [.ref (ad 0), .int p1, .int p2] r.1 (wM ad cy r.2) :=
  MI.mk (lv := [(0, .ref (ad 0)), (1, .int p1), (2, .int p2)]) (by decide) (Nat.le_of_ble_eq_true rfl) rfl (fun x _ _ E K => B_X9_player E K σ p1 p2 h)

noncomputable def D_X9_as (σ : ST) (p1 : Int32) (p2 : Int32) : Option Int32 := (D_X9_isPlayer σ p1).bind fun r1 => if r1 = 0 then (some (-101 : Int32)) else ((D_X9_within p2 (0 : Int32) (4 : Int32)).bind fun r3 => if r3 = 0 then (some (-102 : Int32)) else (if p1 < 0 ∨ 4 ≤ p1.toNatClampNeg then none else (if p2 = 0 then (some p1) else (if (gA σ 0 p1.toNatClampNeg) = p2 then (some p1) else (if p2 = (3 : Int32) then (if (gA σ 0 p1.toNatClampNeg) = (4 : Int32) then (some p1) else (some (-1 : Int32))) else (some (-1 : Int32)))))))
set_option maxRecDepth 100000 in
set_option maxHeartbeats 4000000 in
theorem B_X9_as {x : CX} {cy : Nat → ClassId} {ad : Nat → Nat} {r : Int32} {σ : ST} (E : Ev x cy cX9_as RX9 4 2 43) (K : RetI x cX9_as .int r (wM ad cy σ)) (p1 : Int32) (p2 : Int32) (h : D_X9_as σ p1 p2 = some r) : G x 0 0 0 [(0, .ref (ad 0)), (1, .int p1), (2, .int p2)] [] (wM ad cy σ) := by
  unfold D_X9_as at h
  refine G.aload_n E dX9_as_0 rfl 0 rfl ?_
  refine G.iload_n E dX9_as_1 rfl 1 rfl ?_
  obtain ⟨r1, h2, h⟩ := bind_s h
  refine G.retI E (runV (st := []) (As := [.int p1]) E (C_X9_isPlayer h2) ck_X9_isPlayer (f852 E.fx) (f854 E.fx) (f30 E.fx) 0 9 rfl rfl rfl (by decide) (by decide) rfl (Nat.le_of_ble_eq_true rfl) dX9_as_2 ⟨Nat.zero_le _, Nat.zero_le _⟩) ?_
  refine G.if_ne (tgt := 11) E dX9_as_5 (by decide) (fun q => ?_) (fun q => ?_)
  · have h := ite_f h q
    refine G.iload_n E dX9_as_11 rfl 2 rfl ?_
    refine G.iconst (v := 0) E dX9_as_12 (by decide) ?_
    refine G.iconst (v := 4) E dX9_as_13 (by decide) ?_
    obtain ⟨r3, h4, h⟩ := bind_s h
    refine G.retI E (runS (st := []) (As := [.int p2, .int (0 : Int32), .int (4 : Int32)]) E (C_X9_within h4) ck_X9_within (f814 E.fx) (f815 E.fx) (by decide) (by decide) rfl (Nat.le_of_ble_eq_true rfl) dX9_as_14 ⟨Nat.zero_le _, Nat.zero_le _⟩) ?_
    refine G.if_ne (tgt := 23) E dX9_as_17 (by decide) (fun q => ?_) (fun q => ?_)
    · have h := ite_f h q
      refine G.aload_n E dX9_as_23 rfl 0 rfl ?_
      refine G.get E inX9 0 rfl rfl 3 (by decide) (f701 E.fx) rfl dX9_as_24 ?_
      refine G.iload_n E dX9_as_27 rfl 1 rfl ?_
      obtain ⟨hg, h⟩ := ite_n h
      refine G.iald E 1 0 rfl rfl hg dX9_as_28 ?_
      refine G.istore_n (lv' := [(3, .int (gA σ 0 p1.toNatClampNeg)), (0, .ref (ad 0)), (1, .int p1), (2, .int p2)]) E dX9_as_29 rfl (by decide) rfl ?_
      refine G.iload_n E dX9_as_30 rfl 3 rfl ?_
      refine G.if_eq (tgt := 49) E dX9_as_31 (by decide) (fun q => ?_) (fun q => ?_)
      · have h := ite_t h q
        refine G.iload_n E dX9_as_49 rfl 2 rfl ?_
        refine G.goto (tgt := 54) E dX9_as_50 (by decide) ?_
        obtain rfl := Option.some.inj h
        exact K rfl _ _ dX9_as_54
      · have h := ite_f h q
        refine G.iload_n E dX9_as_34 rfl 0 rfl ?_
        refine G.iload_n E dX9_as_35 rfl 3 rfl ?_
        refine G.icmp_eq (tgt := 49) E dX9_as_36 (by decide) (fun q => ?_) (fun q => ?_)
        · have h := ite_t h q
          refine G.iload_n E dX9_as_49 rfl 2 rfl ?_
          refine G.goto (tgt := 54) E dX9_as_50 (by decide) ?_
          obtain rfl := Option.some.inj h
          exact K rfl _ _ dX9_as_54
        · have h := ite_f h q
          refine G.iload_n E dX9_as_39 rfl 3 rfl ?_
          refine G.iconst (v := 3) E dX9_as_40 (by decide) ?_
          refine G.icmp_ne (tgt := 53) E dX9_as_41 (by decide) (fun q => ?_) (fun q => ?_)
          · have h := ite_f h q
            refine G.iconst (v := -1) E dX9_as_53 (by decide) ?_
            obtain rfl := Option.some.inj h
            exact K rfl _ _ dX9_as_54
          · have h := ite_t h q
            refine G.iload_n E dX9_as_44 rfl 0 rfl ?_
            refine G.iconst (v := 4) E dX9_as_45 (by decide) ?_
            refine G.icmp_ne (tgt := 53) E dX9_as_46 (by decide) (fun q => ?_) (fun q => ?_)
            · have h := ite_f h q
              refine G.iconst (v := -1) E dX9_as_53 (by decide) ?_
              obtain rfl := Option.some.inj h
              exact K rfl _ _ dX9_as_54
            · have h := ite_t h q
              refine G.iload_n E dX9_as_49 rfl 2 rfl ?_
              refine G.goto (tgt := 54) E dX9_as_50 (by decide) ?_
              obtain rfl := Option.some.inj h
              exact K rfl _ _ dX9_as_54
    · have h := ite_t h q
      refine G.bipush (v := -102) E dX9_as_20 (by decide) ?_
      obtain rfl := Option.some.inj h
      exact K rfl _ _ dX9_as_22
  · have h := ite_t h q
    refine G.bipush (v := -101) E dX9_as_8 (by decide) ?_
    obtain rfl := Option.some.inj h
    exact K rfl _ _ dX9_as_10
set_option maxRecDepth 100000 in
set_option maxHeartbeats 4000000 in
theorem C_X9_as {l : Launch} {D : va_G} {cy : Nat → ClassId} {ad : Nat → Nat} {σ : ST} {p1 : Int32} {p2 : Int32} {r : Int32} (h : D_X9_as σ p1 p2 = some r) : MI l yX9_as cX9_as 4 (some .int) 2 43 D cy (wM ad cy σ) [.ref (ad 0), .int p1, .int p2] r (wM ad cy σ) :=
  MI.mk (lv := [(0, .ref (ad 0)), (1, .int p1), (2, .int p2)]) (by decide) (Nat.le_of_ble_eq_true rfl) rfl (fun x _ _ E K => B_X9_as E K p1 p2 h)

noncomputable def D_X9_isRow (σ : ST) (p1 : Int32) : Option Int32 := if (gI σ 1) ≤ 0 then (some (0 : Int32)) else ((D_X9_rows σ).bind fun r1 => (D_X9_within p1 (0 : Int32) (r1 - (1 : Int32))).bind fun r3 => if r3 = 0 then (some (0 : Int32)) else (some (1 : Int32)))
set_option maxRecDepth 100000 in
set_option maxHeartbeats 4000000 in
theorem B_X9_isRow {x : CX} {cy : Nat → ClassId} {ad : Nat → Nat} {r : Int32} {σ : ST} (E : Ev x cy cX9_isRow RX9 2 1 22) (K : RetI x cX9_isRow .boolean r (wM ad cy σ)) (p1 : Int32) (h : D_X9_isRow σ p1 = some r) : G x 0 0 0 [(0, .ref (ad 0)), (1, .int p1)] [] (wM ad cy σ) := by
  unfold D_X9_isRow at h
  refine G.aload_n E dX9_isRow_0 rfl 0 rfl ?_
  refine G.get E inX9 0 rfl rfl 1 (by decide) (f699 E.fx) rfl dX9_isRow_1 ?_
  refine G.if_le (tgt := 25) E dX9_isRow_4 (by decide) (fun q => ?_) (fun q => ?_)
  · have h := ite_t h q
    refine G.iconst (v := 0) E dX9_isRow_25 (by decide) ?_
    obtain rfl := Option.some.inj h
    exact K rfl _ _ dX9_isRow_26
  · have h := ite_f h q
    refine G.iload_n E dX9_isRow_7 rfl 1 rfl ?_
    refine G.iconst (v := 0) E dX9_isRow_8 (by decide) ?_
    refine G.aload_n E dX9_isRow_9 rfl 0 rfl ?_
    obtain ⟨r1, h2, h⟩ := bind_s h
    refine G.retI E (runV (st := [.int (0 : Int32), .int p1]) (As := []) E (C_X9_rows h2) ck_X9_rows (f868 E.fx) (f870 E.fx) (f34 E.fx) 0 9 rfl rfl rfl (by decide) (by decide) rfl (Nat.le_of_ble_eq_true rfl) dX9_isRow_10 ⟨Nat.zero_le _, Nat.zero_le _⟩) ?_
    refine G.iconst (v := 1) E dX9_isRow_13 (by decide) ?_
    refine G.isub E dX9_isRow_14 ?_
    obtain ⟨r3, h4, h⟩ := bind_s h
    refine G.retI E (runS (st := []) (As := [.int p1, .int (0 : Int32), .int (r1 - (1 : Int32))]) E (C_X9_within h4) ck_X9_within (f814 E.fx) (f815 E.fx) (by decide) (by decide) rfl (Nat.le_of_ble_eq_true rfl) dX9_isRow_15 ⟨Nat.zero_le _, Nat.zero_le _⟩) ?_
    refine G.if_eq (tgt := 25) E dX9_isRow_18 (by decide) (fun q => ?_) (fun q => ?_)
    · have h := ite_t h q
      refine G.iconst (v := 0) E dX9_isRow_25 (by decide) ?_
      obtain rfl := Option.some.inj h
      exact K rfl _ _ dX9_isRow_26
    · have h := ite_f h q
      refine G.iconst (v := 1) E dX9_isRow_21 (by decide) ?_
      refine G.goto (tgt := 26) E dX9_isRow_22 (by decide) ?_
      obtain rfl := Option.some.inj h
      exact K rfl _ _ dX9_isRow_26
set_option maxRecDepth 100000 in
set_option maxHeartbeats 4000000 in
theorem C_X9_isRow {l : Launch} {D : va_G} {cy : Nat → ClassId} {ad : Nat → Nat} {σ : ST} {p1 : Int32} {r : Int32} (h : D_X9_isRow σ p1 = some r) : MI l yX9_isRow cX9_isRow 2 (some .boolean) 1 22 D cy (wM ad cy σ) [.ref (ad 0), .int p1] r (wM ad cy σ) :=
  MI.mk (lv := [(0, .ref (ad 0)), (1, .int p1)]) (by decide) (Nat.le_of_ble_eq_true rfl) rfl (fun x _ _ E K => B_X9_isRow E K p1 h)
