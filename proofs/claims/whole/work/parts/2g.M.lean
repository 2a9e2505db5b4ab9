noncomputable def D_X9_oddsNow_L125_body (rec42 : (ST × Int32 × Int32 × Int32 × Int32 × Int32) → Option (Int32 × ST)) (rec125 : (ST × Int32 × Int32 × Int32 × Int32 × Int32 × Int32) → Option (Int32 × ST)) (σ : ST) (x1 : Int32) (x2 : Int32) (x3 : Int32) (x4 : Int32) (x5 : Int32) (x6 : Int32) : Option (Int32 × ST) := if (16 : Int32) ≤ x6 then (rec42 (σ, x1, x2, x3, x4, (x5 + (-1)))) else (if x6 < 0 ∨ 16 ≤ x6.toNatClampNeg then none else (if x6 < 0 ∨ 16 ≤ x6.toNatClampNeg then none else (rec125 ((pA σ 8 x6.toNatClampNeg (gA σ 9 x6.toNatClampNeg)), x1, x2, x3, x4, x5, (x6 + 1)))))
set_option maxRecDepth 100000 in
set_option maxHeartbeats 4000000 in
theorem B_X9_oddsNow_L125_body {x : CX} {cy : Nat → ClassId} {ad : Nat → Nat} {r : (Int32 × ST)} (E : Ev x cy cX9_oddsNow RX9 7 5 119) (K : RetI x cX9_oddsNow .int r.1 (wM ad cy r.2)) (rec42 : (ST × Int32 × Int32 × Int32 × Int32 × Int32) → Option (Int32 × ST)) (hrec42 : ∀ a, rec42 a = some r → G x 0 0 42 [(0, .ref (ad 0)), (1, .int a.2.1), (2, .int a.2.2.1), (3, .int a.2.2.2.1), (4, .int a.2.2.2.2.1), (5, .int a.2.2.2.2.2)] [] (wM ad cy a.1)) (rec125 : (ST × Int32 × Int32 × Int32 × Int32 × Int32 × Int32) → Option (Int32 × ST)) (hrec125 : ∀ a, rec125 a = some r → G x 0 0 125 [(0, .ref (ad 0)), (1, .int a.2.1), (2, .int a.2.2.1), (3, .int a.2.2.2.1), (4, .int a.2.2.2.2.1), (5, .int a.2.2.2.2.2.1), (6, .int a.2.2.2.2.2.2)] [] (wM ad cy a.1)) (σ : ST) (x1 : Int32) (x2 : Int32) (x3 : Int32) (x4 : Int32) (x5 : Int32) (x6 : Int32) (h : D_X9_oddsNow_L125_body rec42 rec125 σ x1 x2 x3 x4 x5 x6 = some r) : G x 0 0 125 [(0, .ref (ad 0)), (1, .int x1), (2, .int x2), (3, .int x3), (4, .int x4), (5, .int x5), (6, .int x6)] [] (wM ad cy σ) := by
  unfold D_X9_oddsNow_L125_body at h
  refine G.iload E dX9_oddsNow_125 6 rfl ?_
  refine G.bipush (v := 16) E dX9_oddsNow_127 (by decide) ?_
  refine G.icmp_ge (tgt := 152) E dX9_oddsNow_129 (by decide) (fun q => ?_) (fun q => ?_)
  · have h := ite_t h q
    refine G.iinc (w := x5 + (-1)) (lv' := [(5, .int (x5 + (-1))), (0, .ref (ad 0)), (1, .int x1), (2, .int x2), (3, .int x3), (4, .int x4), (6, .int x6)]) E dX9_oddsNow_152 5 rfl rfl (by decide) rfl ?_
    refine G.goto (tgt := 42) E dX9_oddsNow_155 (by decide) ?_
    refine G.sub (lv' := [(0, .ref (ad 0)), (1, .int x1), (2, .int x2), (3, .int x3), (4, .int x4), (5, .int (x5 + (-1)))]) [1, 2, 3, 4, 5, 0] rfl ?_
    exact hrec42 (σ, x1, x2, x3, x4, (x5 + (-1))) h
  · have h := ite_f h q
    refine G.aload_n E dX9_oddsNow_132 rfl 0 rfl ?_
    refine G.get E inX9 0 rfl rfl 20 (by decide) (f718 E.fx) rfl dX9_oddsNow_133 ?_
    refine G.iload E dX9_oddsNow_136 6 rfl ?_
    refine G.aload_n E dX9_oddsNow_138 rfl 0 rfl ?_
    refine G.get E inX9 0 rfl rfl 21 (by decide) (f719 E.fx) rfl dX9_oddsNow_139 ?_
    refine G.iload E dX9_oddsNow_142 6 rfl ?_
    obtain ⟨hg, h⟩ := ite_n h
    refine G.iald E 10 0 rfl rfl hg dX9_oddsNow_144 ?_
    obtain ⟨hg, h⟩ := ite_n h
    refine G.iast (ws' := (wM ad cy (pA σ 8 x6.toNatClampNeg (gA σ 9 x6.toNatClampNeg)))) E 9 0 rfl rfl hg dX9_oddsNow_145 (wM_aI8 ad cy _ _ _) ?_
    refine G.iinc (w := x6 + 1) (lv' := [(6, .int (x6 + 1)), (0, .ref (ad 0)), (1, .int x1), (2, .int x2), (3, .int x3), (4, .int x4), (5, .int x5)]) E dX9_oddsNow_146 6 rfl rfl (by decide) rfl ?_
    refine G.goto (tgt := 125) E dX9_oddsNow_149 (by decide) ?_
    refine G.sub (lv' := [(0, .ref (ad 0)), (1, .int x1), (2, .int x2), (3, .int x3), (4, .int x4), (5, .int x5), (6, .int (x6 + 1))]) [1, 2, 3, 4, 5, 6, 0] rfl ?_
    exact hrec125 ((pA σ 8 x6.toNatClampNeg (gA σ 9 x6.toNatClampNeg)), x1, x2, x3, x4, x5, (x6 + 1)) h
noncomputable def D_X9_oddsNow_L125 (rec42 : (ST × Int32 × Int32 × Int32 × Int32 × Int32) → Option (Int32 × ST)) (σ : ST) (x1 : Int32) (x2 : Int32) (x3 : Int32) (x4 : Int32) (x5 : Int32) (x6 : Int32) : Option (Int32 × ST) := itr (fun (rec125 : (ST × Int32 × Int32 × Int32 × Int32 × Int32 × Int32) → Option (Int32 × ST)) (a : (ST × Int32 × Int32 × Int32 × Int32 × Int32 × Int32)) => D_X9_oddsNow_L125_body rec42 rec125 a.1 a.2.1 a.2.2.1 a.2.2.2.1 a.2.2.2.2.1 a.2.2.2.2.2.1 a.2.2.2.2.2.2) 200 (σ, x1, x2, x3, x4, x5, x6)
set_option maxRecDepth 100000 in
set_option maxHeartbeats 4000000 in
theorem B_X9_oddsNow_L125 {x : CX} {cy : Nat → ClassId} {ad : Nat → Nat} {r : (Int32 × ST)} (E : Ev x cy cX9_oddsNow RX9 7 5 119) (K : RetI x cX9_oddsNow .int r.1 (wM ad cy r.2)) (rec42 : (ST × Int32 × Int32 × Int32 × Int32 × Int32) → Option (Int32 × ST)) (hrec42 : ∀ a, rec42 a = some r → G x 0 0 42 [(0, .ref (ad 0)), (1, .int a.2.1), (2, .int a.2.2.1), (3, .int a.2.2.2.1), (4, .int a.2.2.2.2.1), (5, .int a.2.2.2.2.2)] [] (wM ad cy a.1)) (σ : ST) (x1 : Int32) (x2 : Int32) (x3 : Int32) (x4 : Int32) (x5 : Int32) (x6 : Int32) (h : D_X9_oddsNow_L125 rec42 σ x1 x2 x3 x4 x5 x6 = some r) : G x 0 0 125 [(0, .ref (ad 0)), (1, .int x1), (2, .int x2), (3, .int x3), (4, .int x4), (5, .int x5), (6, .int x6)] [] (wM ad cy σ) :=
  itr_ind (P := fun a => G x 0 0 125 [(0, .ref (ad 0)), (1, .int a.2.1), (2, .int a.2.2.1), (3, .int a.2.2.2.1), (4, .int a.2.2.2.2.1), (5, .int a.2.2.2.2.2.1), (6, .int a.2.2.2.2.2.2)] [] (wM ad cy a.1)) (fun rec125 hrec125 a h => B_X9_oddsNow_L125_body E K rec42 hrec42 rec125 hrec125 a.1 a.2.1 a.2.2.1 a.2.2.2.1 a.2.2.2.2.1 a.2.2.2.2.2.1 a.2.2.2.2.2.2 h) 200 (σ, x1, x2, x3, x4, x5, x6) h
noncomputable def D_X9_oddsNow_b113 (rec42 : (ST × Int32 × Int32 × Int32 × Int32 × Int32) → Option (Int32 × ST)) (rec74 : (ST × Int32 × Int32 × Int32 × Int32 × Int32 × Int32) → Option (Int32 × ST)) (σ : ST) (x1 : Int32) (x2 : Int32) (x3 : Int32) (x5 : Int32) (x6 : Int32) (s0 : Int32) (s1 : Int32) : Option (Int32 × ST) := rec74 (σ, x1, x2, x3, (s1 + s0), x5, (x6 + 1))
set_option maxRecDepth 100000 in
set_option maxHeartbeats 4000000 in
theorem B_X9_oddsNow_b113 {x : CX} {cy : Nat → ClassId} {ad : Nat → Nat} {r : (Int32 × ST)} (E : Ev x cy cX9_oddsNow RX9 7 5 119) (K : RetI x cX9_oddsNow .int r.1 (wM ad cy r.2)) (rec42 : (ST × Int32 × Int32 × Int32 × Int32 × Int32) → Option (Int32 × ST)) (hrec42 : ∀ a, rec42 a = some r → G x 0 0 42 [(0, .ref (ad 0)), (1, .int a.2.1), (2, .int a.2.2.1), (3, .int a.2.2.2.1), (4, .int a.2.2.2.2.1), (5, .int a.2.2.2.2.2)] [] (wM ad cy a.1)) (rec74 : (ST × Int32 × Int32 × Int32 × Int32 × Int32 × Int32) → Option (Int32 × ST)) (hrec74 : ∀ a, rec74 a = some r → G x 0 0 74 [(0, .ref (ad 0)), (1, .int a.2.1), (2, .int a.2.2.1), (3, .int a.2.2.2.1), (4, .int a.2.2.2.2.1), (5, .int a.2.2.2.2.2.1), (6, .int a.2.2.2.2.2.2)] [] (wM ad cy a.1)) (σ : ST) (x1 : Int32) (x2 : Int32) (x3 : Int32) (x5 : Int32) (x6 : Int32) (s0 : Int32) (s1 : Int32) (h : D_X9_oddsNow_b113 rec42 rec74 σ x1 x2 x3 x5 x6 s0 s1 = some r) : G x 0 0 113 [(0, .ref (ad 0)), (1, .int x1), (2, .int x2), (3, .int x3), (5, .int x5), (6, .int x6)] [.int s0, .int s1] (wM ad cy σ) := by
  unfold D_X9_oddsNow_b113 at h
  refine G.iadd E dX9_oddsNow_113 ?_
  refine G.istore (lv' := [(4, .int (s1 + s0)), (0, .ref (ad 0)), (1, .int x1), (2, .int x2), (3, .int x3), (5, .int x5), (6, .int x6)]) E dX9_oddsNow_114 (by decide) rfl ?_
  refine G.iinc (w := x6 + 1) (lv' := [(6, .int (x6 + 1)), (4, .int (s1 + s0)), (0, .ref (ad 0)), (1, .int x1), (2, .int x2), (3, .int x3), (5, .int x5)]) E dX9_oddsNow_116 6 rfl rfl (by decide) rfl ?_
  refine G.goto (tgt := 74) E dX9_oddsNow_119 (by decide) ?_
  refine G.sub (lv' := [(0, .ref (ad 0)), (1, .int x1), (2, .int x2), (3, .int x3), (4, .int (s1 + s0)), (5, .int x5), (6, .int (x6 + 1))]) [2, 3, 4, 5, 1, 6, 0] rfl ?_
  exact hrec74 (σ, x1, x2, x3, (s1 + s0), x5, (x6 + 1)) h
noncomputable def D_X9_oddsNow_L74_body (rec42 : (ST × Int32 × Int32 × Int32 × Int32 × Int32) → Option (Int32 × ST)) (rec74 : (ST × Int32 × Int32 × Int32 × Int32 × Int32 × Int32) → Option (Int32 × ST)) (σ : ST) (x1 : Int32) (x2 : Int32) (x3 : Int32) (x4 : Int32) (x5 : Int32) (x6 : Int32) : Option (Int32 × ST) := (D_X9_rows σ).bind fun r5 => if r5 ≤ x6 then (D_X9_oddsNow_L125 rec42 σ x1 x2 x3 x4 x5 (0 : Int32)) else (if x6 < 0 ∨ 16 ≤ x6.toNatClampNeg then none else (if (gA σ 8 x6.toNatClampNeg) ≤ 0 then (D_X9_oddsNow_b113 rec42 rec74 σ x1 x2 x3 x5 x6 (0 : Int32) x4) else ((D_X9_hitsOf σ x1).bind fun r7 => (D_X9_tossWays σ x6 r7).bind fun r9 => D_X9_oddsNow_b113 rec42 rec74 r9.2 x1 x2 x3 x5 x6 (r9.1 <<< (x5 &&& 31)) x4)))
set_option maxRecDepth 100000 in
set_option maxHeartbeats 4000000 in
theorem B_X9_oddsNow_L74_body {x : CX} {cy : Nat → ClassId} {ad : Nat → Nat} {r : (Int32 × ST)} (E : Ev x cy cX9_oddsNow RX9 7 5 119) (K : RetI x cX9_oddsNow .int r.1 (wM ad cy r.2)) (rec42 : (ST × Int32 × Int32 × Int32 × Int32 × Int32) → Option (Int32 × ST)) (hrec42 : ∀ a, rec42 a = some r → G x 0 0 42 [(0, .ref (ad 0)), (1, .int a.2.1), (2, .int a.2.2.1), (3, .int a.2.2.2.1), (4, .int a.2.2.2.2.1), (5, .int a.2.2.2.2.2)] [] (wM ad cy a.1)) (rec74 : (ST × Int32 × Int32 × Int32 × Int32 × Int32 × Int32) → Option (Int32 × ST)) (hrec74 : ∀ a, rec74 a = some r → G x 0 0 74 [(0, .ref (ad 0)), (1, .int a.2.1), (2, .int a.2.2.1), (3, .int a.2.2.2.1), (4, .int a.2.2.2.2.1), (5, .int a.2.2.2.2.2.1), (6, .int a.2.2.2.2.2.2)] [] (wM ad cy a.1)) (σ : ST) (x1 : Int32) (x2 : Int32) (x3 : Int32) (x4 : Int32) (x5 : Int32) (x6 : Int32) (h : D_X9_oddsNow_L74_body rec42 rec74 σ x1 x2 x3 x4 x5 x6 = some r) : G x 0 0 74 [(0, .ref (ad 0)), (1, .int x1), (2, .int x2), (3, .int x3), (4, .int x4), (5, .int x5), (6, .int x6)] [] (wM ad cy σ) := by
  unfold D_X9_oddsNow_L74_body at h
  refine G.iload E dX9_oddsNow_74 6 rfl ?_
  refine G.aload_n E dX9_oddsNow_76 rfl 0 rfl ?_
  obtain ⟨r5, h6, h⟩ := bind_s h
  refine G.retI E (runV (st := [.int x6]) (As := []) E (C_X9_rows h6) ck_X9_rows (f868 E.fx) (f870 E.fx) (f34 E.fx) 0 9 rfl rfl rfl (by decide) (by decide) rfl (Nat.le_of_ble_eq_true rfl) dX9_oddsNow_77 ⟨Nat.zero_le _, Nat.zero_le _⟩) ?_
  refine G.icmp_ge (tgt := 122) E dX9_oddsNow_80 (by decide) (fun q => ?_) (fun q => ?_)
  · have h := ite_t h q
    refine G.iconst (v := 0) E dX9_oddsNow_122 (by decide) ?_
    refine G.istore (lv' := [(6, .int (0 : Int32)), (0, .ref (ad 0)), (1, .int x1), (2, .int x2), (3, .int x3), (4, .int x4), (5, .int x5)]) E dX9_oddsNow_123 (by decide) rfl ?_
    refine G.sub (lv' := [(0, .ref (ad 0)), (1, .int x1), (2, .int x2), (3, .int x3), (4, .int x4), (5, .int x5), (6, .int (0 : Int32))]) [1, 2, 3, 4, 5, 6, 0] rfl ?_
    exact B_X9_oddsNow_L125 E K rec42 hrec42 σ x1 x2 x3 x4 x5 (0 : Int32) h
  · have h := ite_f h q
    refine G.iload E dX9_oddsNow_83 4 rfl ?_
    refine G.aload_n E dX9_oddsNow_85 rfl 0 rfl ?_
    refine G.get E inX9 0 rfl rfl 20 (by decide) (f718 E.fx) rfl dX9_oddsNow_86 ?_
    refine G.iload E dX9_oddsNow_89 6 rfl ?_
    obtain ⟨hg, h⟩ := ite_n h
    refine G.iald E 9 0 rfl rfl hg dX9_oddsNow_91 ?_
    refine G.if_le (tgt := 112) E dX9_oddsNow_92 (by decide) (fun q => ?_) (fun q => ?_)
    · have h := ite_t h q
      refine G.iconst (v := 0) E dX9_oddsNow_112 (by decide) ?_
      refine G.sub (lv' := [(0, .ref (ad 0)), (1, .int x1), (2, .int x2), (3, .int x3), (5, .int x5), (6, .int x6)]) [0, 1, 2, 3, 5, 6] rfl ?_
      exact B_X9_oddsNow_b113 E K rec42 hrec42 rec74 hrec74 σ x1 x2 x3 x5 x6 (0 : Int32) x4 h
    · have h := ite_f h q
      refine G.aload_n E dX9_oddsNow_95 rfl 0 rfl ?_
      refine G.iload E dX9_oddsNow_96 6 rfl ?_
      refine G.aload_n E dX9_oddsNow_98 rfl 0 rfl ?_
      refine G.iload_n E dX9_oddsNow_99 rfl 1 rfl ?_
      obtain ⟨r7, h8, h⟩ := bind_s h
      refine G.retI E (runV (st := [.int x6, .ref (ad 0), .int x4]) (As := [.int x1]) E (C_X9_hitsOf h8) ck_X9_hitsOf (f860 E.fx) (f862 E.fx) (f32 E.fx) 0 9 rfl rfl rfl (by decide) (by decide) rfl (Nat.le_of_ble_eq_true rfl) dX9_oddsNow_100 ⟨Nat.zero_le _, Nat.zero_le _⟩) ?_
      obtain ⟨r9, h10, h⟩ := bind_s h
      refine G.retI E (runV (st := [.int x4]) (As := [.int x6, .int r7]) E (C_X9_tossWays h10) ck_X9_tossWays (f1018 E.fx) (f1020 E.fx) (f58 E.fx) 0 9 rfl rfl rfl (by decide) (by decide) rfl (Nat.le_of_ble_eq_true rfl) dX9_oddsNow_103 ⟨Nat.zero_le _, Nat.zero_le _⟩) ?_
      refine G.iload E dX9_oddsNow_106 5 rfl ?_
      refine G.ishl E dX9_oddsNow_108 ?_
      refine G.goto (tgt := 113) E dX9_oddsNow_109 (by decide) ?_
      refine G.sub (lv' := [(0, .ref (ad 0)), (1, .int x1), (2, .int x2), (3, .int x3), (5, .int x5), (6, .int x6)]) [0, 1, 2, 3, 5, 6] rfl ?_
      exact B_X9_oddsNow_b113 E K rec42 hrec42 rec74 hrec74 r9.2 x1 x2 x3 x5 x6 (r9.1 <<< (x5 &&& 31)) x4 h
noncomputable def D_X9_oddsNow_L74 (rec42 : (ST × Int32 × Int32 × Int32 × Int32 × Int32) → Option (Int32 × ST)) (σ : ST) (x1 : Int32) (x2 : Int32) (x3 : Int32) (x4 : Int32) (x5 : Int32) (x6 : Int32) : Option (Int32 × ST) := itr (fun (rec74 : (ST × Int32 × Int32 × Int32 × Int32 × Int32 × Int32) → Option (Int32 × ST)) (a : (ST × Int32 × Int32 × Int32 × Int32 × Int32 × Int32)) => D_X9_oddsNow_L74_body rec42 rec74 a.1 a.2.1 a.2.2.1 a.2.2.2.1 a.2.2.2.2.1 a.2.2.2.2.2.1 a.2.2.2.2.2.2) 200 (σ, x1, x2, x3, x4, x5, x6)
set_option maxRecDepth 100000 in
set_option maxHeartbeats 4000000 in
theorem B_X9_oddsNow_L74 {x : CX} {cy : Nat → ClassId} {ad : Nat → Nat} {r : (Int32 × ST)} (E : Ev x cy cX9_oddsNow RX9 7 5 119) (K : RetI x cX9_oddsNow .int r.1 (wM ad cy r.2)) (rec42 : (ST × Int32 × Int32 × Int32 × Int32 × Int32) → Option (Int32 × ST)) (hrec42 : ∀ a, rec42 a = some r → G x 0 0 42 [(0, .ref (ad 0)), (1, .int a.2.1), (2, .int a.2.2.1), (3, .int a.2.2.2.1), (4, .int a.2.2.2.2.1), (5, .int a.2.2.2.2.2)] [] (wM ad cy a.1)) (σ : ST) (x1 : Int32) (x2 : Int32) (x3 : Int32) (x4 : Int32) (x5 : Int32) (x6 : Int32) (h : D_X9_oddsNow_L74 rec42 σ x1 x2 x3 x4 x5 x6 = some r) : G x 0 0 74 [(0, .ref (ad 0)), (1, .int x1), (2, .int x2), (3, .int x3), (4, .int x4), (5, .int x5), (6, .int x6)] [] (wM ad cy σ) :=
  itr_ind (P := fun a => G x 0 0 74 [(0, .ref (ad 0)), (1, .int a.2.1), (2, .int a.2.2.1), (3, .int a.2.2.2.1), (4, .int a.2.2.2.2.1), (5, .int a.2.2.2.2.2.1), (6, .int a.2.2.2.2.2.2)] [] (wM ad cy a.1)) (fun rec74 hrec74 a h => B_X9_oddsNow_L74_body E K rec42 hrec42 rec74 hrec74 a.1 a.2.1 a.2.2.1 a.2.2.2.1 a.2.2.2.2.1 a.2.2.2.2.2.1 a.2.2.2.2.2.2 h) 200 (σ, x1, x2, x3, x4, x5, x6) h
noncomputable def D_X9_oddsNow_L50_body (rec42 : (ST × Int32 × Int32 × Int32 × Int32 × Int32) → Option (Int32 × ST)) (rec50 : (ST × Int32 × Int32 × Int32 × Int32 × Int32 × Int32) → Option (Int32 × ST)) (σ : ST) (x1 : Int32) (x2 : Int32) (x3 : Int32) (x4 : Int32) (x5 : Int32) (x6 : Int32) : Option (Int32 × ST) := if (16 : Int32) ≤ x6 then (D_X9_oddsNow_L74 rec42 σ x1 x2 x3 x4 x5 (1 : Int32)) else (if x6 < 0 ∨ 16 ≤ x6.toNatClampNeg then none else (rec50 ((pA σ 9 x6.toNatClampNeg (0 : Int32)), x1, x2, x3, x4, x5, (x6 + 1))))
set_option maxRecDepth 100000 in
set_option maxHeartbeats 4000000 in
theorem B_X9_oddsNow_L50_body {x : CX} {cy : Nat → ClassId} {ad : Nat → Nat} {r : (Int32 × ST)} (E : Ev x cy cX9_oddsNow RX9 7 5 119) (K : RetI x cX9_oddsNow .int r.1 (wM ad cy r.2)) (rec42 : (ST × Int32 × Int32 × Int32 × Int32 × Int32) → Option (Int32 × ST)) (hrec42 : ∀ a, rec42 a = some r → G x 0 0 42 [(0, .ref (ad 0)), (1, .int a.2.1), (2, .int a.2.2.1), (3, .int a.2.2.2.1), (4, .int a.2.2.2.2.1), (5, .int a.2.2.2.2.2)] [] (wM ad cy a.1)) (rec50 : (ST × Int32 × Int32 × Int32 × Int32 × Int32 × Int32) → Option (Int32 × ST)) (hrec50 : ∀ a, rec50 a = some r → G x 0 0 50 [(0, .ref (ad 0)), (1, .int a.2.1), (2, .int a.2.2.1), (3, .int a.2.2.2.1), (4, .int a.2.2.2.2.1), (5, .int a.2.2.2.2.2.1), (6, .int a.2.2.2.2.2.2)] [] (wM ad cy a.1)) (σ : ST) (x1 : Int32) (x2 : Int32) (x3 : Int32) (x4 : Int32) (x5 : Int32) (x6 : Int32) (h : D_X9_oddsNow_L50_body rec42 rec50 σ x1 x2 x3 x4 x5 x6 = some r) : G x 0 0 50 [(0, .ref (ad 0)), (1, .int x1), (2, .int x2), (3, .int x3), (4, .int x4), (5, .int x5), (6, .int x6)] [] (wM ad cy σ) := by
  unfold D_X9_oddsNow_L50_body at h
  refine G.iload E dX9_oddsNow_50 6 rfl ?_
  refine G.bipush (v := 16) E dX9_oddsNow_52 (by decide) ?_
  refine G.icmp_ge (tgt := 71) E dX9_oddsNow_54 (by decide) (fun q => ?_) (fun q => ?_)
  · have h := ite_t h q
    refine G.iconst (v := 1) E dX9_oddsNow_71 (by decide) ?_
    refine G.istore (lv' := [(6, .int (1 : Int32)), (0, .ref (ad 0)), (1, .int x1), (2, .int x2), (3, .int x3), (4, .int x4), (5, .int x5)]) E dX9_oddsNow_72 (by decide) rfl ?_
    refine G.sub (lv' := [(0, .ref (ad 0)), (1, .int x1), (2, .int x2), (3, .int x3), (4, .int x4), (5, .int x5), (6, .int (1 : Int32))]) [1, 2, 3, 4, 5, 6, 0] rfl ?_
    exact B_X9_oddsNow_L74 E K rec42 hrec42 σ x1 x2 x3 x4 x5 (1 : Int32) h
  · have h := ite_f h q
    refine G.aload_n E dX9_oddsNow_57 rfl 0 rfl ?_
    refine G.get E inX9 0 rfl rfl 21 (by decide) (f719 E.fx) rfl dX9_oddsNow_58 ?_
    refine G.iload E dX9_oddsNow_61 6 rfl ?_
    refine G.iconst (v := 0) E dX9_oddsNow_63 (by decide) ?_
    obtain ⟨hg, h⟩ := ite_n h
    refine G.iast (ws' := (wM ad cy (pA σ 9 x6.toNatClampNeg (0 : Int32)))) E 10 0 rfl rfl hg dX9_oddsNow_64 (wM_aI9 ad cy _ _ _) ?_
    refine G.iinc (w := x6 + 1) (lv' := [(6, .int (x6 + 1)), (0, .ref (ad 0)), (1, .int x1), (2, .int x2), (3, .int x3), (4, .int x4), (5, .int x5)]) E dX9_oddsNow_65 6 rfl rfl (by decide) rfl ?_
    refine G.goto (tgt := 50) E dX9_oddsNow_68 (by decide) ?_
    refine G.sub (lv' := [(0, .ref (ad 0)), (1, .int x1), (2, .int x2), (3, .int x3), (4, .int x4), (5, .int x5), (6, .int (x6 + 1))]) [1, 2, 3, 4, 5, 6, 0] rfl ?_
    exact hrec50 ((pA σ 9 x6.toNatClampNeg (0 : Int32)), x1, x2, x3, x4, x5, (x6 + 1)) h
noncomputable def D_X9_oddsNow_L50 (rec42 : (ST × Int32 × Int32 × Int32 × Int32 × Int32) → Option (Int32 × ST)) (σ : ST) (x1 : Int32) (x2 : Int32) (x3 : Int32) (x4 : Int32) (x5 : Int32) (x6 : Int32) : Option (Int32 × ST) := itr (fun (rec50 : (ST × Int32 × Int32 × Int32 × Int32 × Int32 × Int32) → Option (Int32 × ST)) (a : (ST × Int32 × Int32 × Int32 × Int32 × Int32 × Int32)) => D_X9_oddsNow_L50_body rec42 rec50 a.1 a.2.1 a.2.2.1 a.2.2.2.1 a.2.2.2.2.1 a.2.2.2.2.2.1 a.2.2.2.2.2.2) 200 (σ, x1, x2, x3, x4, x5, x6)
set_option maxRecDepth 100000 in
set_option maxHeartbeats 4000000 in
theorem B_X9_oddsNow_L50 {x : CX} {cy : Nat → ClassId} {ad : Nat → Nat} {r : (Int32 × ST)} (E : Ev x cy cX9_oddsNow RX9 7 5 119) (K : RetI x cX9_oddsNow .int r.1 (wM ad cy r.2)) (rec42 : (ST × Int32 × Int32 × Int32 × Int32 × Int32) → Option (Int32 × ST)) (hrec42 : ∀ a, rec42 a = some r → G x 0 0 42 [(0, .ref (ad 0)), (1, .int a.2.1), (2, .int a.2.2.1), (3, .int a.2.2.2.1), (4, .int a.2.2.2.2.1), (5, .int a.2.2.2.2.2)] [] (wM ad cy a.1)) (σ : ST) (x1 : Int32) (x2 : Int32) (x3 : Int32) (x4 : Int32) (x5 : Int32) (x6 : Int32) (h : D_X9_oddsNow_L50 rec42 σ x1 x2 x3 x4 x5 x6 = some r) : G x 0 0 50 [(0, .ref (ad 0)), (1, .int x1), (2, .int x2), (3, .int x3), (4, .int x4), (5, .int x5), (6, .int x6)] [] (wM ad cy σ) :=
  itr_ind (P := fun a => G x 0 0 50 [(0, .ref (ad 0)), (1, .int a.2.1), (2, .int a.2.2.1), (3, .int a.2.2.2.1), (4, .int a.2.2.2.2.1), (5, .int a.2.2.2.2.2.1), (6, .int a.2.2.2.2.2.2)] [] (wM ad cy a.1)) (fun rec50 hrec50 a h => B_X9_oddsNow_L50_body E K rec42 hrec42 rec50 hrec50 a.1 a.2.1 a.2.2.1 a.2.2.2.1 a.2.2.2.2.1 a.2.2.2.2.2.1 a.2.2.2.2.2.2 h) 200 (σ, x1, x2, x3, x4, x5, x6) h
noncomputable def D_X9_oddsNow_L42_body (rec42 : (ST × Int32 × Int32 × Int32 × Int32 × Int32) → Option (Int32 × ST)) (σ : ST) (x1 : Int32) (x2 : Int32) (x3 : Int32) (x4 : Int32) (x5 : Int32) : Option (Int32 × ST) := if x5 < 0 then ((D_X9_divisor x4 ((1 : Int32) <<< (x2 &&& 31))).bind fun r3 => if x3 = 0 then (if r3 = 0 then none else (some (x4 / r3, σ))) else (if r3 = 0 then none else (some (((1 : Int32) <<< (x2 &&& 31)) / r3, σ)))) else (D_X9_oddsNow_L50 rec42 σ x1 x2 x3 x4 x5 (0 : Int32))
set_option maxRecDepth 100000 in
set_option maxHeartbeats 4000000 in
theorem B_X9_oddsNow_L42_body {x : CX} {cy : Nat → ClassId} {ad : Nat → Nat} {r : (Int32 × ST)} (E : Ev x cy cX9_oddsNow RX9 7 5 119) (K : RetI x cX9_oddsNow .int r.1 (wM ad cy r.2)) (rec42 : (ST × Int32 × Int32 × Int32 × Int32 × Int32) → Option (Int32 × ST)) (hrec42 : ∀ a, rec42 a = some r → G x 0 0 42 [(0, .ref (ad 0)), (1, .int a.2.1), (2, .int a.2.2.1), (3, .int a.2.2.2.1), (4, .int a.2.2.2.2.1), (5, .int a.2.2.2.2.2)] [] (wM ad cy a.1)) (σ : ST) (x1 : Int32) (x2 : Int32) (x3 : Int32) (x4 : Int32) (x5 : Int32) (h : D_X9_oddsNow_L42_body rec42 σ x1 x2 x3 x4 x5 = some r) : G x 0 0 42 [(0, .ref (ad 0)), (1, .int x1), (2, .int x2), (3, .int x3), (4, .int x4), (5, .int x5)] [] (wM ad cy σ) := by
  unfold D_X9_oddsNow_L42_body at h
  refine G.iload E dX9_oddsNow_42 5 rfl ?_
  refine G.if_lt (tgt := 158) E dX9_oddsNow_44 (by decide) (fun q => ?_) (fun q => ?_)
  · have h := ite_t h q
    refine G.iconst (v := 1) E dX9_oddsNow_158 (by decide) ?_
    refine G.iload_n E dX9_oddsNow_159 rfl 2 rfl ?_
    refine G.ishl E dX9_oddsNow_160 ?_
    refine G.istore (lv' := [(5, .int ((1 : Int32) <<< (x2 &&& 31))), (0, .ref (ad 0)), (1, .int x1), (2, .int x2), (3, .int x3), (4, .int x4)]) E dX9_oddsNow_161 (by decide) rfl ?_
    refine G.iload E dX9_oddsNow_163 5 rfl ?_
    refine G.iload E dX9_oddsNow_165 0 rfl ?_
    obtain ⟨r3, h4, h⟩ := bind_s h
    refine G.retI E (runS (st := []) (As := [.int x4, .int ((1 : Int32) <<< (x2 &&& 31))]) E (C_X9_divisor h4) ck_X9_divisor (f1026 E.fx) (f1027 E.fx) (by decide) (by decide) rfl (Nat.le_of_ble_eq_true rfl) dX9_oddsNow_167 ⟨Nat.zero_le _, Nat.zero_le _⟩) ?_
    refine G.istore (lv' := [(6, .int r3), (5, .int ((1 : Int32) <<< (x2 &&& 31))), (0, .ref (ad 0)), (1, .int x1), (2, .int x2), (3, .int x3), (4, .int x4)]) E dX9_oddsNow_170 (by decide) rfl ?_
    refine G.iload_n E dX9_oddsNow_172 rfl 5 rfl ?_
    refine G.if_ne (tgt := 184) E dX9_oddsNow_173 (by decide) (fun q => ?_) (fun q => ?_)
    · have h := ite_f h q
      refine G.iload E dX9_oddsNow_184 1 rfl ?_
      refine G.iload E dX9_oddsNow_186 0 rfl ?_
      obtain ⟨hg, h⟩ := ite_n h
      refine G.idiv E dX9_oddsNow_188 hg ?_
      obtain rfl := Option.some.inj h
      exact K rfl _ _ dX9_oddsNow_189
    · have h := ite_t h q
      refine G.iload E dX9_oddsNow_176 6 rfl ?_
      refine G.iload E dX9_oddsNow_178 0 rfl ?_
      obtain ⟨hg, h⟩ := ite_n h
      refine G.idiv E dX9_oddsNow_180 hg ?_
      refine G.goto (tgt := 189) E dX9_oddsNow_181 (by decide) ?_
      obtain rfl := Option.some.inj h
      exact K rfl _ _ dX9_oddsNow_189
  · have h := ite_f h q
    refine G.iconst (v := 0) E dX9_oddsNow_47 (by decide) ?_
    refine G.istore (lv' := [(6, .int (0 : Int32)), (0, .ref (ad 0)), (1, .int x1), (2, .int x2), (3, .int x3), (4, .int x4), (5, .int x5)]) E dX9_oddsNow_48 (by decide) rfl ?_
    refine G.sub (lv' := [(0, .ref (ad 0)), (1, .int x1), (2, .int x2), (3, .int x3), (4, .int x4), (5, .int x5), (6, .int (0 : Int32))]) [1, 2, 3, 4, 5, 6, 0] rfl ?_
    exact B_X9_oddsNow_L50 E K rec42 hrec42 σ x1 x2 x3 x4 x5 (0 : Int32) h
noncomputable def D_X9_oddsNow_L42  (σ : ST) (x1 : Int32) (x2 : Int32) (x3 : Int32) (x4 : Int32) (x5 : Int32) : Option (Int32 × ST) := itr (fun (rec42 : (ST × Int32 × Int32 × Int32 × Int32 × Int32) → Option (Int32 × ST)) (a : (ST × Int32 × Int32 × Int32 × Int32 × Int32)) => D_X9_oddsNow_L42_body rec42 a.1 a.2.1 a.2.2.1 a.2.2.2.1 a.2.2.2.2.1 a.2.2.2.2.2) 200 (σ, x1, x2, x3, x4, x5)
set_option maxRecDepth 100000 in
set_option maxHeartbeats 4000000 in
theorem B_X9_oddsNow_L42 {x : CX} {cy : Nat → ClassId} {ad : Nat → Nat} {r : (Int32 × ST)} (E : Ev x cy cX9_oddsNow RX9 7 5 119) (K : RetI x cX9_oddsNow .int r.1 (wM ad cy r.2))  (σ : ST) (x1 : Int32) (x2 : Int32) (x3 : Int32) (x4 : Int32) (x5 : Int32) (h : D_X9_oddsNow_L42 σ x1 x2 x3 x4 x5 = some r) : G x 0 0 42 [(0, .ref (ad 0)), (1, .int x1), (2, .int x2), (3, .int x3), (4, .int x4), (5, .int x5)] [] (wM ad cy σ) :=
  itr_ind (P := fun a => G x 0 0 42 [(0, .ref (ad 0)), (1, .int a.2.1), (2, .int a.2.2.1), (3, .int a.2.2.2.1), (4, .int a.2.2.2.2.1), (5, .int a.2.2.2.2.2)] [] (wM ad cy a.1)) (fun rec42 hrec42 a h => B_X9_oddsNow_L42_body E K rec42 hrec42 a.1 a.2.1 a.2.2.1 a.2.2.2.1 a.2.2.2.2.1 a.2.2.2.2.2 h) 200 (σ, x1, x2, x3, x4, x5) h
noncomputable def D_X9_oddsNow_L3_body (rec3 : (ST × Int32 × Int32 × Int32 × Int32) → Option (Int32 × ST)) (σ : ST) (x1 : Int32) (x2 : Int32) (x3 : Int32) (x4 : Int32) : Option (Int32 × ST) := if (16 : Int32) ≤ x4 then ((D_X9_stateNow σ).bind fun r1 => if r1 < 0 ∨ 16 ≤ r1.toNatClampNeg then none else (D_X9_oddsNow_L42 (pA σ 8 r1.toNatClampNeg (1 : Int32)) x1 x2 x3 (0 : Int32) (x2 - (1 : Int32)))) else (if x4 < 0 ∨ 16 ≤ x4.toNatClampNeg then none else (rec3 ((pA σ 8 x4.toNatClampNeg (0 : Int32)), x1, x2, x3, (x4 + 1))))
set_option maxRecDepth 100000 in
set_option maxHeartbeats 4000000 in
theorem B_X9_oddsNow_L3_body {x : CX} {cy : Nat → ClassId} {ad : Nat → Nat} {r : (Int32 × ST)} (E : Ev x cy cX9_oddsNow RX9 7 5 119) (K : RetI x cX9_oddsNow .int r.1 (wM ad cy r.2)) (rec3 : (ST × Int32 × Int32 × Int32 × Int32) → Option (Int32 × ST)) (hrec3 : ∀ a, rec3 a = some r → G x 0 0 3 [(0, .ref (ad 0)), (1, .int a.2.1), (2, .int a.2.2.1), (3, .int a.2.2.2.1), (4, .int a.2.2.2.2)] [] (wM ad cy a.1)) (σ : ST) (x1 : Int32) (x2 : Int32) (x3 : Int32) (x4 : Int32) (h : D_X9_oddsNow_L3_body rec3 σ x1 x2 x3 x4 = some r) : G x 0 0 3 [(0, .ref (ad 0)), (1, .int x1), (2, .int x2), (3, .int x3), (4, .int x4)] [] (wM ad cy σ) := by
  unfold D_X9_oddsNow_L3_body at h
  refine G.iload E dX9_oddsNow_3 4 rfl ?_
  refine G.bipush (v := 16) E dX9_oddsNow_5 (by decide) ?_
  refine G.icmp_ge (tgt := 24) E dX9_oddsNow_7 (by decide) (fun q => ?_) (fun q => ?_)
  · have h := ite_t h q
    refine G.aload_n E dX9_oddsNow_24 rfl 0 rfl ?_
    refine G.get E inX9 0 rfl rfl 20 (by decide) (f718 E.fx) rfl dX9_oddsNow_25 ?_
    refine G.aload_n E dX9_oddsNow_28 rfl 0 rfl ?_
    obtain ⟨r1, h2, h⟩ := bind_s h
    refine G.retI E (runV (st := [.ref (ad 9)]) (As := []) E (C_X9_stateNow h2) ck_X9_stateNow (f1014 E.fx) (f1016 E.fx) (f57 E.fx) 0 9 rfl rfl rfl (by decide) (by decide) rfl (Nat.le_of_ble_eq_true rfl) dX9_oddsNow_29 ⟨Nat.zero_le _, Nat.zero_le _⟩) ?_
    refine G.iconst (v := 1) E dX9_oddsNow_32 (by decide) ?_
    obtain ⟨hg, h⟩ := ite_n h
    refine G.iast (ws' := (wM ad cy (pA σ 8 r1.toNatClampNeg (1 : Int32)))) E 9 0 rfl rfl hg dX9_oddsNow_33 (wM_aI8 ad cy _ _ _) ?_
    refine G.iconst (v := 0) E dX9_oddsNow_34 (by decide) ?_
    refine G.istore (lv' := [(4, .int (0 : Int32)), (0, .ref (ad 0)), (1, .int x1), (2, .int x2), (3, .int x3)]) E dX9_oddsNow_35 (by decide) rfl ?_
    refine G.iload_n E dX9_oddsNow_37 rfl 3 rfl ?_
    refine G.iconst (v := 1) E dX9_oddsNow_38 (by decide) ?_
    refine G.isub E dX9_oddsNow_39 ?_
    refine G.istore (lv' := [(5, .int (x2 - (1 : Int32))), (4, .int (0 : Int32)), (0, .ref (ad 0)), (1, .int x1), (2, .int x2), (3, .int x3)]) E dX9_oddsNow_40 (by decide) rfl ?_
    refine G.sub (lv' := [(0, .ref (ad 0)), (1, .int x1), (2, .int x2), (3, .int x3), (4, .int (0 : Int32)), (5, .int (x2 - (1 : Int32)))]) [2, 3, 4, 5, 1, 0] rfl ?_
    exact B_X9_oddsNow_L42 E K (pA σ 8 r1.toNatClampNeg (1 : Int32)) x1 x2 x3 (0 : Int32) (x2 - (1 : Int32)) h
  · have h := ite_f h q
    refine G.aload_n E dX9_oddsNow_10 rfl 0 rfl ?_
    refine G.get E inX9 0 rfl rfl 20 (by decide) (f718 E.fx) rfl dX9_oddsNow_11 ?_
    refine G.iload E dX9_oddsNow_14 4 rfl ?_
    refine G.iconst (v := 0) E dX9_oddsNow_16 (by decide) ?_
    obtain ⟨hg, h⟩ := ite_n h
    refine G.iast (ws' := (wM ad cy (pA σ 8 x4.toNatClampNeg (0 : Int32)))) E 9 0 rfl rfl hg dX9_oddsNow_17 (wM_aI8 ad cy _ _ _) ?_
    refine G.iinc (w := x4 + 1) (lv' := [(4, .int (x4 + 1)), (0, .ref (ad 0)), (1, .int x1), (2, .int x2), (3, .int x3)]) E dX9_oddsNow_18 4 rfl rfl (by decide) rfl ?_
    refine G.goto (tgt := 3) E dX9_oddsNow_21 (by decide) ?_
    refine G.sub (lv' := [(0, .ref (ad 0)), (1, .int x1), (2, .int x2), (3, .int x3), (4, .int (x4 + 1))]) [1, 2, 3, 4, 0] rfl ?_
    exact hrec3 ((pA σ 8 x4.toNatClampNeg (0 : Int32)), x1, x2, x3, (x4 + 1)) h
noncomputable def D_X9_oddsNow_L3  (σ : ST) (x1 : Int32) (x2 : Int32) (x3 : Int32) (x4 : Int32) : Option (Int32 × ST) := itr (fun (rec3 : (ST × Int32 × Int32 × Int32 × Int32) → Option (Int32 × ST)) (a : (ST × Int32 × Int32 × Int32 × Int32)) => D_X9_oddsNow_L3_body rec3 a.1 a.2.1 a.2.2.1 a.2.2.2.1 a.2.2.2.2) 200 (σ, x1, x2, x3, x4)
set_option maxRecDepth 100000 in
set_option maxHeartbeats 4000000 in
theorem B_X9_oddsNow_L3 {x : CX} {cy : Nat → ClassId} {ad : Nat → Nat} {r : (Int32 × ST)} (E : Ev x cy cX9_oddsNow RX9 7 5 119) (K : RetI x cX9_oddsNow .int r.1 (wM ad cy r.2))  (σ : ST) (x1 : Int32) (x2 : Int32) (x3 : Int32) (x4 : Int32) (h : D_X9_oddsNow_L3 σ x1 x2 x3 x4 = some r) : G x 0 0 3 [(0, .ref (ad 0)), (1, .int x1), (2, .int x2), (3, .int x3), (4, .int x4)] [] (wM ad cy σ) :=
  itr_ind (P := fun a => G x 0 0 3 [(0, .ref (ad 0)), (1, .int a.2.1), (2, .int a.2.2.1), (3, .int a.2.2.2.1), (4, .int a.2.2.2.2)] [] (wM ad cy a.1)) (fun rec3 hrec3 a h => B_X9_oddsNow_L3_body E K rec3 hrec3 a.1 a.2.1 a.2.2.1 a.2.2.2.1 a.2.2.2.2 h) 200 (σ, x1, x2, x3, x4) h
noncomputable def D_X9_oddsNow (σ : ST) (p1 : Int32) (p2 : Int32) (p3 : Int32) : Option (Int32 × ST) := D_X9_oddsNow_L3 σ p1 p2 p3 (0 : Int32)
set_option maxRecDepth 100000 in
set_option maxHeartbeats 4000000 in
theorem B_X9_oddsNow {x : CX} {cy : Nat → ClassId} {ad : Nat → Nat} {r : (Int32 × ST)} (E : Ev x cy cX9_oddsNow RX9 7 5 119) (K : RetI x cX9_oddsNow .int r.1 (wM ad cy r.2)) (σ : ST) (p1 : Int32) (p2 : Int32) (p3 : Int32) (h : D_X9_oddsNow σ p1 p2 p3 = some r) : G x 0 0 0 [(0, .ref (ad 0)), (1, .int p1), (2, .int p2), (3, .int p3)] [] (wM ad cy σ) := by
  unfold D_X9_oddsNow at h
  refine G.iconst (v := 0) E dX9_oddsNow_0 (by decide) ?_
  refine G.istore (lv' := [(4, .int (0 : Int32)), (0, .ref (ad 0)), (1, .int p1), (2, .int p2), (3, .int p3)]) E dX9_oddsNow_1 (by decide) rfl ?_
  refine G.sub (lv' := [(0, .ref (ad 0)), (1, .int p1), (2, .int p2), (3, .int p3), (4, .int (0 : Int32))]) [1, 2, 3, 4, 0] rfl ?_
  exact B_X9_oddsNow_L3 E K σ p1 p2 p3 (0 : Int32) h
set_option maxRecDepth 100000 in
set_option maxHeartbeats 4000000 in
theorem C_X9_oddsNow {l : Launch} {D : va_G} {cy : Nat → ClassId} {ad : Nat → Nat} {σ : ST} {p1 : Int32} {p2 : Int32} {p3 : Int32} {r : (Int32 × ST)} (h : D_X9_oddsNow σ p1 p2 p3 = some r) : MI l yX9_oddsNow cX9_oddsNow 7 (some .int) 5 119 D cy (wM ad cy σ) [.ref (ad 0), .int p1, .int p2, .int p3] r.1 (wM ad cy r.2) :=
  MI.mk (lv := [(0, .ref (ad 0)), (1, .int p1), (2, .int p2), (3, .int p3)]) (by decide) (Nat.le_of_ble_eq_true rfl) rfl (fun x _ _ E K => B_X9_oddsNow E K σ p1 p2 p3 h)

noncomputable def D_X9_odds (σ : ST) (p1 : Int32) (p2 : Int32) (p3 : Int32) : Option (Int32 × ST) := (D_X9_isPlayer σ p1).bind fun r1 => if r1 = 0 then (some ((-101 : Int32), σ)) else ((D_X9_within p2 (1 : Int32) (20 : Int32)).bind fun r3 => if r3 = 0 then (some ((-102 : Int32), σ)) else ((D_X9_within p3 (0 : Int32) (1 : Int32)).bind fun r5 => if r5 = 0 then (some ((-102 : Int32), σ)) else ((D_X9_oddsNow σ p1 p2 p3).bind fun r7 => some (r7.1, r7.2))))
set_option maxRecDepth 100000 in
set_option maxHeartbeats 4000000 in
theorem B_X9_odds {x : CX} {cy : Nat → ClassId} {ad : Nat → Nat} {r : (Int32 × ST)} (E : Ev x cy cX9_odds RX9 4 6 145) (K : RetI x cX9_odds .int r.1 (wM ad cy r.2)) (σ : ST) (p1 : Int32) (p2 : Int32) (p3 : Int32) (h : D_X9_odds σ p1 p2 p3 = some r) : G x 0 0 0 [(0, .ref (ad 0)), (1, .int p1), (2, .int p2), (3, .int p3)] [] (wM ad cy σ) := by
  unfold D_X9_odds at h
  refine G.aload_n E dX9_odds_0 rfl 0 rfl ?_
  refine G.iload_n E dX9_odds_1 rfl 1 rfl ?_
  obtain ⟨r1, h2, h⟩ := bind_s h
  refine G.retI E (runV (st := []) (As := [.int p1]) E (C_X9_isPlayer h2) ck_X9_isPlayer (f852 E.fx) (f854 E.fx) (f30 E.fx) 0 9 rfl rfl rfl (by decide) (by decide) rfl (Nat.le_of_ble_eq_true rfl) dX9_odds_2 ⟨Nat.zero_le _, Nat.zero_le _⟩) ?_
  refine G.if_ne (tgt := 11) E dX9_odds_5 (by decide) (fun q => ?_) (fun q => ?_)
  · have h := ite_f h q
    refine G.iload_n E dX9_odds_11 rfl 2 rfl ?_
    refine G.iconst (v := 1) E dX9_odds_12 (by decide) ?_
    refine G.bipush (v := 20) E dX9_odds_13 (by decide) ?_
    obtain ⟨r3, h4, h⟩ := bind_s h
    refine G.retI E (runS (st := []) (As := [.int p2, .int (1 : Int32), .int (20 : Int32)]) E (C_X9_within h4) ck_X9_within (f814 E.fx) (f815 E.fx) (by decide) (by decide) rfl (Nat.le_of_ble_eq_true rfl) dX9_odds_15 ⟨Nat.zero_le _, Nat.zero_le _⟩) ?_
    refine G.if_eq (tgt := 40) E dX9_odds_18 (by decide) (fun q => ?_) (fun q => ?_)
    · have h := ite_t h q
      refine G.bipush (v := -102) E dX9_odds_40 (by decide) ?_
      obtain rfl := Option.some.inj h
      exact K rfl _ _ dX9_odds_42
    · have h := ite_f h q
      refine G.iload_n E dX9_odds_21 rfl 3 rfl ?_
      refine G.iconst (v := 0) E dX9_odds_22 (by decide) ?_
      refine G.iconst (v := 1) E dX9_odds_23 (by decide) ?_
      obtain ⟨r5, h6, h⟩ := bind_s h
      refine G.retI E (runS (st := []) (As := [.int p3, .int (0 : Int32), .int (1 : Int32)]) E (C_X9_within h6) ck_X9_within (f814 E.fx) (f815 E.fx) (by decide) (by decide) rfl (Nat.le_of_ble_eq_true rfl) dX9_odds_24 ⟨Nat.zero_le _, Nat.zero_le _⟩) ?_
      refine G.if_eq (tgt := 40) E dX9_odds_27 (by decide) (fun q => ?_) (fun q => ?_)
      · have h := ite_t h q
        refine G.bipush (v := -102) E dX9_odds_40 (by decide) ?_
        obtain rfl := Option.some.inj h
        exact K rfl _ _ dX9_odds_42
      · have h := ite_f h q
        refine G.aload_n E dX9_odds_30 rfl 0 rfl ?_
        refine G.iload_n E dX9_odds_31 rfl 1 rfl ?_
        refine G.iload_n E dX9_odds_32 rfl 2 rfl ?_
        refine G.iload_n E dX9_odds_33 rfl 3 rfl ?_
        obtain ⟨r7, h8, h⟩ := bind_s h
        refine G.retI E (runV (st := []) (As := [.int p1, .int p2, .int p3]) E (C_X9_oddsNow h8) ck_X9_oddsNow (f1010 E.fx) (f1012 E.fx) (f56 E.fx) 0 9 rfl rfl rfl (by decide) (by decide) rfl (Nat.le_of_ble_eq_true rfl) dX9_odds_34 ⟨Nat.zero_le _, Nat.zero_le _⟩) ?_
        refine G.goto (tgt := 42) E dX9_odds_37 (by decide) ?_
        obtain rfl := Option.some.inj h
        exact K rfl _ _ dX9_odds_42
  · have h := ite_t h q
    refine G.bipush (v := -101) E dX9_odds_8 (by decide) ?_
    obtain rfl := Option.some.inj h
    exact K rfl _ _ dX9_odds_10
set_option maxRecDepth 100000 in
set_option maxHeartbeats 4000000 in
theorem C_X9_odds {l : Launch} {D : va_G} {cy : Nat → ClassId} {ad : Nat → Nat} {σ : ST} {p1 : Int32} {p2 : Int32} {p3 : Int32} {r : (Int32 × ST)} (h : D_X9_odds σ p1 p2 p3 = some r) : MI l yX9_odds cX9_odds 4 (some .int) 6 145 D cy (wM ad cy σ) [.ref (ad 0), .int p1, .int p2, .int p3] r.1 (wM ad cy r.2) :=
  MI.mk (lv := [(0, .ref (ad 0)), (1, .int p1), (2, .int p2), (3, .int p3)]) (by decide) (Nat.le_of_ble_eq_true rfl) rfl (fun x _ _ E K => B_X9_odds E K σ p1 p2 p3 h)

noncomputable def D_X9_see_b71  (σ : ST) (s0 : Int32) (s1 : Int32) : Option (Int32 × ST) := if s1 < 0 ∨ 6 ≤ s1.toNatClampNeg then none else (some (gI (pI (pA σ 5 s1.toNatClampNeg s0) 6 ((gI (pA σ 5 s1.toNatClampNeg s0) 6) + (1 : Int32))) 6, pI (pA σ 5 s1.toNatClampNeg s0) 6 ((gI (pA σ 5 s1.toNatClampNeg s0) 6) + (1 : Int32))))
set_option maxRecDepth 100000 in
set_option maxHeartbeats 4000000 in
theorem B_X9_see_b71 {x : CX} {cy : Nat → ClassId} {ad : Nat → Nat} {r : (Int32 × ST)} (E : Ev x cy cX9_see RX9 4 2 43) (K : RetI x cX9_see .int r.1 (wM ad cy r.2))  (σ : ST) (s0 : Int32) (s1 : Int32) (h : D_X9_see_b71 σ s0 s1 = some r) : G x 0 0 71 [(0, .ref (ad 0))] [.int s0, .int s1, .ref (ad 6)] (wM ad cy σ) := by
  unfold D_X9_see_b71 at h
  obtain ⟨hg, h⟩ := ite_n h
  refine G.iast (ws' := (wM ad cy (pA σ 5 s1.toNatClampNeg s0))) E 6 0 rfl rfl hg dX9_see_71 (wM_aI5 ad cy _ _ _) ?_
  refine G.aload_n E dX9_see_72 rfl 0 rfl ?_
  refine G.dup E dX9_see_73 rfl ?_
  refine G.get E inX9 0 rfl rfl 9 (by decide) (f707 E.fx) rfl dX9_see_74 ?_
  refine G.iconst (v := 1) E dX9_see_77 (by decide) ?_
  refine G.iadd E dX9_see_78 ?_
  refine G.put (ws' := (wM ad cy (pI (pA σ 5 s1.toNatClampNeg s0) 6 ((gI (pA σ 5 s1.toNatClampNeg s0) 6) + (1 : Int32))))) E inX9 tyX9 tyX9_ok nmX9 0 rfl rfl 9 (by decide) (f707 E.fx) rfl rfl rfl rfl (Nat.le_of_ble_eq_true rfl) dX9_see_79 (wM_fI6 ad cy _ _) ?_
  refine G.aload_n E dX9_see_82 rfl 0 rfl ?_
  refine G.get E inX9 0 rfl rfl 9 (by decide) (f707 E.fx) rfl dX9_see_83 ?_
  obtain rfl := Option.some.inj h
  exact K rfl _ _ dX9_see_86
noncomputable def D_X9_see (σ : ST) (p1 : Int32) (p2 : Int32) (p3 : Int32) : Option (Int32 × ST) := (D_X9_isPlayer σ p1).bind fun r1 => if r1 = 0 then (some ((-101 : Int32), σ)) else ((D_X9_isRow σ p2).bind fun r3 => if r3 = 0 then (some ((-102 : Int32), σ)) else (if (gI σ 6) = (6 : Int32) then (some ((-104 : Int32), σ)) else (if (gI σ 6) < 0 ∨ 6 ≤ (gI σ 6).toNatClampNeg then none else (if (gI (pA σ 3 (gI σ 6).toNatClampNeg p1) 6) < 0 ∨ 6 ≤ (gI (pA σ 3 (gI σ 6).toNatClampNeg p1) 6).toNatClampNeg then none else (if p3 = 0 then (D_X9_see_b71 (pA (pA σ 3 (gI σ 6).toNatClampNeg p1) 4 (gI (pA σ 3 (gI σ 6).toNatClampNeg p1) 6).toNatClampNeg p2) (0 : Int32) (gI (pA (pA σ 3 (gI σ 6).toNatClampNeg p1) 4 (gI (pA σ 3 (gI σ 6).toNatClampNeg p1) 6).toNatClampNeg p2) 6)) else (D_X9_see_b71 (pA (pA σ 3 (gI σ 6).toNatClampNeg p1) 4 (gI (pA σ 3 (gI σ 6).toNatClampNeg p1) 6).toNatClampNeg p2) (1 : Int32) (gI (pA (pA σ 3 (gI σ 6).toNatClampNeg p1) 4 (gI (pA σ 3 (gI σ 6).toNatClampNeg p1) 6).toNatClampNeg p2) 6)))))))
set_option maxRecDepth 100000 in
set_option maxHeartbeats 4000000 in
theorem B_X9_see {x : CX} {cy : Nat → ClassId} {ad : Nat → Nat} {r : (Int32 × ST)} (E : Ev x cy cX9_see RX9 4 2 43) (K : RetI x cX9_see .int r.1 (wM ad cy r.2)) (σ : ST) (p1 : Int32) (p2 : Int32) (p3 : Int32) (h : D_X9_see σ p1 p2 p3 = some r) : G x 0 0 0 [(0, .ref (ad 0)), (1, .int p1), (2, .int p2), (3, .int p3)] [] (wM ad cy σ) := by
  unfold D_X9_see at h
  refine G.aload_n E dX9_see_0 rfl 0 rfl ?_
  refine G.iload_n E dX9_see_1 rfl 1 rfl ?_
  obtain ⟨r1, h2, h⟩ := bind_s h
  refine G.retI E (runV (st := []) (As := [.int p1]) E (C_X9_isPlayer h2) ck_X9_isPlayer (f852 E.fx) (f854 E.fx) (f30 E.fx) 0 9 rfl rfl rfl (by decide) (by decide) rfl (Nat.le_of_ble_eq_true rfl) dX9_see_2 ⟨Nat.zero_le _, Nat.zero_le _⟩) ?_
  refine G.if_ne (tgt := 11) E dX9_see_5 (by decide) (fun q => ?_) (fun q => ?_)
  · have h := ite_f h q
    refine G.aload_n E dX9_see_11 rfl 0 rfl ?_
    refine G.iload_n E dX9_see_12 rfl 2 rfl ?_
    obtain ⟨r3, h4, h⟩ := bind_s h
    refine G.retI E (runV (st := []) (As := [.int p2]) E (C_X9_isRow h4) ck_X9_isRow (f929 E.fx) (f931 E.fx) (f45 E.fx) 0 9 rfl rfl rfl (by decide) (by decide) rfl (Nat.le_of_ble_eq_true rfl) dX9_see_13 ⟨Nat.zero_le _, Nat.zero_le _⟩) ?_
    refine G.if_ne (tgt := 22) E dX9_see_16 (by decide) (fun q => ?_) (fun q => ?_)
    · have h := ite_f h q
      refine G.aload_n E dX9_see_22 rfl 0 rfl ?_
      refine G.get E inX9 0 rfl rfl 9 (by decide) (f707 E.fx) rfl dX9_see_23 ?_
      refine G.bipush (v := 6) E dX9_see_26 (by decide) ?_
      refine G.icmp_ne (tgt := 34) E dX9_see_28 (by decide) (fun q => ?_) (fun q => ?_)
      · have h := ite_f h q
        refine G.aload_n E dX9_see_34 rfl 0 rfl ?_
        refine G.get E inX9 0 rfl rfl 10 (by decide) (f708 E.fx) rfl dX9_see_35 ?_
        refine G.aload_n E dX9_see_38 rfl 0 rfl ?_
        refine G.get E inX9 0 rfl rfl 9 (by decide) (f707 E.fx) rfl dX9_see_39 ?_
        refine G.iload_n E dX9_see_42 rfl 1 rfl ?_
        obtain ⟨hg, h⟩ := ite_n h
        refine G.iast (ws' := (wM ad cy (pA σ 3 (gI σ 6).toNatClampNeg p1))) E 4 0 rfl rfl hg dX9_see_43 (wM_aI3 ad cy _ _ _) ?_
        refine G.aload_n E dX9_see_44 rfl 0 rfl ?_
        refine G.get E inX9 0 rfl rfl 11 (by decide) (f709 E.fx) rfl dX9_see_45 ?_
        refine G.aload_n E dX9_see_48 rfl 0 rfl ?_
        refine G.get E inX9 0 rfl rfl 9 (by decide) (f707 E.fx) rfl dX9_see_49 ?_
        refine G.iload_n E dX9_see_52 rfl 2 rfl ?_
        obtain ⟨hg, h⟩ := ite_n h
        refine G.iast (ws' := (wM ad cy (pA (pA σ 3 (gI σ 6).toNatClampNeg p1) 4 (gI (pA σ 3 (gI σ 6).toNatClampNeg p1) 6).toNatClampNeg p2))) E 5 0 rfl rfl hg dX9_see_53 (wM_aI4 ad cy _ _ _) ?_
        refine G.aload_n E dX9_see_54 rfl 0 rfl ?_
        refine G.get E inX9 0 rfl rfl 12 (by decide) (f710 E.fx) rfl dX9_see_55 ?_
        refine G.aload_n E dX9_see_58 rfl 0 rfl ?_
        refine G.get E inX9 0 rfl rfl 9 (by decide) (f707 E.fx) rfl dX9_see_59 ?_
        refine G.iload_n E dX9_see_62 rfl 3 rfl ?_
        refine G.if_eq (tgt := 70) E dX9_see_63 (by decide) (fun q => ?_) (fun q => ?_)
        · have h := ite_t h q
          refine G.iconst (v := 0) E dX9_see_70 (by decide) ?_
          refine G.sub (lv' := [(0, .ref (ad 0))]) [0] rfl ?_
          exact B_X9_see_b71 E K (pA (pA σ 3 (gI σ 6).toNatClampNeg p1) 4 (gI (pA σ 3 (gI σ 6).toNatClampNeg p1) 6).toNatClampNeg p2) (0 : Int32) (gI (pA (pA σ 3 (gI σ 6).toNatClampNeg p1) 4 (gI (pA σ 3 (gI σ 6).toNatClampNeg p1) 6).toNatClampNeg p2) 6) h
        · have h := ite_f h q
          refine G.iconst (v := 1) E dX9_see_66 (by decide) ?_
          refine G.goto (tgt := 71) E dX9_see_67 (by decide) ?_
          refine G.sub (lv' := [(0, .ref (ad 0))]) [0] rfl ?_
          exact B_X9_see_b71 E K (pA (pA σ 3 (gI σ 6).toNatClampNeg p1) 4 (gI (pA σ 3 (gI σ 6).toNatClampNeg p1) 6).toNatClampNeg p2) (1 : Int32) (gI (pA (pA σ 3 (gI σ 6).toNatClampNeg p1) 4 (gI (pA σ 3 (gI σ 6).toNatClampNeg p1) 6).toNatClampNeg p2) 6) h
      · have h := ite_t h q
        refine G.bipush (v := -104) E dX9_see_31 (by decide) ?_
        obtain rfl := Option.some.inj h
        exact K rfl _ _ dX9_see_33
    · have h := ite_t h q
      refine G.bipush (v := -102) E dX9_see_19 (by decide) ?_
      obtain rfl := Option.some.inj h
      exact K rfl _ _ dX9_see_21
  · have h := ite_t h q
    refine G.bipush (v := -101) E dX9_see_8 (by decide) ?_
    obtain rfl := Option.some.inj h
    exact K rfl _ _ dX9_see_10
set_option maxRecDepth 100000 in
set_option maxHeartbeats 4000000 in
theorem C_X9_see {l : Launch} {D : va_G} {cy : Nat → ClassId} {ad : Nat → Nat} {σ : ST} {p1 : Int32} {p2 : Int32} {p3 : Int32} {r : (Int32 × ST)} (h : D_X9_see σ p1 p2 p3 = some r) : MI l yX9_see cX9_see 4 (some .int) 2 43 D cy (wM ad cy σ) [.ref (ad 0), .int p1, .int p2, .int p3] r.1 (wM ad cy r.2) :=
  MI.mk (lv := [(0, .ref (ad 0)), (1, .int p1), (2, .int p2), (3, .int p3)]) (by decide) (Nat.le_of_ble_eq_true rfl) rfl (fun x _ _ E K => B_X9_see E K σ p1 p2 p3 h)

noncomputable def D_X9_forget (σ : ST)  : Option (Int32 × ST) := some (gI σ 6, pI σ 6 (0 : Int32))
set_option maxRecDepth 100000 in
set_option maxHeartbeats 4000000 in
theorem B_X9_forget {x : CX} {cy : Nat → ClassId} {ad : Nat → Nat} {r : (Int32 × ST)} (E : Ev x cy cX9_forget RX9 2 0 0) (K : RetI x cX9_forget .int r.1 (wM ad cy r.2)) (σ : ST)  (h : D_X9_forget σ = some r) : G x 0 0 0 [(0, .ref (ad 0))] [] (wM ad cy σ) := by
  unfold D_X9_forget at h
  refine G.aload_n E dX9_forget_0 rfl 0 rfl ?_
  refine G.get E inX9 0 rfl rfl 9 (by decide) (f707 E.fx) rfl dX9_forget_1 ?_
  refine G.istore_n (lv' := [(1, .int (gI σ 6)), (0, .ref (ad 0))]) E dX9_forget_4 rfl (by decide) rfl ?_
  refine G.aload_n E dX9_forget_5 rfl 1 rfl ?_
  refine G.iconst (v := 0) E dX9_forget_6 (by decide) ?_
  refine G.put (ws' := (wM ad cy (pI σ 6 (0 : Int32)))) E inX9 tyX9 tyX9_ok nmX9 0 rfl rfl 9 (by decide) (f707 E.fx) rfl rfl rfl rfl (Nat.le_of_ble_eq_true rfl) dX9_forget_7 (wM_fI6 ad cy _ _) ?_
  refine G.iload_n E dX9_forget_10 rfl 0 rfl ?_
  obtain rfl := Option.some.inj h
  exact K rfl _ _ dX9_forget_11
set_option maxRecDepth 100000 in
set_option maxHeartbeats 4000000 in
theorem C_X9_forget {l : Launch} {D : va_G} {cy : Nat → ClassId} {ad : Nat → Nat} {σ : ST}  {r : (Int32 × ST)} (h : D_X9_forget σ = some r) : MI l yX9_forget cX9_forget 2 (some .int) 0 0 D cy (wM ad cy σ) [.ref (ad 0)] r.1 (wM ad cy r.2) :=
  MI.mk (lv := [(0, .ref (ad 0))]) (by decide) (Nat.le_of_ble_eq_true rfl) rfl (fun x _ _ E K => B_X9_forget E K σ h)

noncomputable def D_X9_mostWon_b32 (rec4 : (Int32 × Int32) → Option Int32) (σ : ST) (x2 : Int32) (s0 : Int32) : Option Int32 := rec4 (s0, (x2 + 1))
set_option maxRecDepth 100000 in
set_option maxHeartbeats 4000000 in
theorem B_X9_mostWon_b32 {x : CX} {cy : Nat → ClassId} {ad : Nat → Nat} {r : Int32} {σ : ST} (E : Ev x cy cX9_mostWon RX9 3 0 0) (K : RetI x cX9_mostWon .int r (wM ad cy σ)) (rec4 : (Int32 × Int32) → Option Int32) (hrec4 : ∀ a, rec4 a = some r → G x 0 0 4 [(0, .ref (ad 0)), (1, .int a.1), (2, .int a.2)] [] (wM ad cy σ)) (σ9 : ST) (x2 : Int32) (s0 : Int32) (h : D_X9_mostWon_b32 rec4 σ x2 s0 = some r) : G x 0 0 32 [(0, .ref (ad 0)), (2, .int x2)] [.int s0] (wM ad cy σ) := by
  unfold D_X9_mostWon_b32 at h
  refine G.istore_n (lv' := [(1, .int s0), (0, .ref (ad 0)), (2, .int x2)]) E dX9_mostWon_32 rfl (by decide) rfl ?_
  refine G.iinc (w := x2 + 1) (lv' := [(2, .int (x2 + 1)), (1, .int s0), (0, .ref (ad 0))]) E dX9_mostWon_33 2 rfl rfl (by decide) rfl ?_
  refine G.goto (tgt := 4) E dX9_mostWon_36 (by decide) ?_
  refine G.sub (lv' := [(0, .ref (ad 0)), (1, .int s0), (2, .int (x2 + 1))]) [2, 1, 0] rfl ?_
  exact hrec4 (s0, (x2 + 1)) h
noncomputable def D_X9_mostWon_L4_body (rec4 : (Int32 × Int32) → Option Int32) (σ : ST) (x1 : Int32) (x2 : Int32) : Option Int32 := if (gI σ 1) ≤ x2 then (some x1) else (if x2 < 0 ∨ 4 ≤ x2.toNatClampNeg then none else (if x1 < 0 ∨ 4 ≤ x1.toNatClampNeg then none else (if (gA σ 10 x2.toNatClampNeg) ≤ (gA σ 10 x1.toNatClampNeg) then (D_X9_mostWon_b32 rec4 σ x2 x1) else (D_X9_mostWon_b32 rec4 σ x2 x2))))
set_option maxRecDepth 100000 in
set_option maxHeartbeats 4000000 in
theorem B_X9_mostWon_L4_body {x : CX} {cy : Nat → ClassId} {ad : Nat → Nat} {r : Int32} {σ : ST} (E : Ev x cy cX9_mostWon RX9 3 0 0) (K : RetI x cX9_mostWon .int r (wM ad cy σ)) (rec4 : (Int32 × Int32) → Option Int32) (hrec4 : ∀ a, rec4 a = some r → G x 0 0 4 [(0, .ref (ad 0)), (1, .int a.1), (2, .int a.2)] [] (wM ad cy σ)) (σ9 : ST) (x1 : Int32) (x2 : Int32) (h : D_X9_mostWon_L4_body rec4 σ x1 x2 = some r) : G x 0 0 4 [(0, .ref (ad 0)), (1, .int x1), (2, .int x2)] [] (wM ad cy σ) := by
  unfold D_X9_mostWon_L4_body at h
  refine G.iload_n E dX9_mostWon_4 rfl 2 rfl ?_
  refine G.aload_n E dX9_mostWon_5 rfl 0 rfl ?_
  refine G.get E inX9 0 rfl rfl 1 (by decide) (f699 E.fx) rfl dX9_mostWon_6 ?_
  refine G.icmp_ge (tgt := 39) E dX9_mostWon_9 (by decide) (fun q => ?_) (fun q => ?_)
  · have h := ite_t h q
    refine G.iload_n E dX9_mostWon_39 rfl 1 rfl ?_
    obtain rfl := Option.some.inj h
    exact K rfl _ _ dX9_mostWon_40
  · have h := ite_f h q
    refine G.aload_n E dX9_mostWon_12 rfl 0 rfl ?_
    refine G.get E inX9 0 rfl rfl 23 (by decide) (f721 E.fx) rfl dX9_mostWon_13 ?_
    refine G.iload_n E dX9_mostWon_16 rfl 2 rfl ?_
    obtain ⟨hg, h⟩ := ite_n h
    refine G.iald E 11 0 rfl rfl hg dX9_mostWon_17 ?_
    refine G.aload_n E dX9_mostWon_18 rfl 0 rfl ?_
    refine G.get E inX9 0 rfl rfl 23 (by decide) (f721 E.fx) rfl dX9_mostWon_19 ?_
    refine G.iload_n E dX9_mostWon_22 rfl 1 rfl ?_
    obtain ⟨hg, h⟩ := ite_n h
    refine G.iald E 11 0 rfl rfl hg dX9_mostWon_23 ?_
    refine G.icmp_le (tgt := 31) E dX9_mostWon_24 (by decide) (fun q => ?_) (fun q => ?_)
    · have h := ite_t h q
      refine G.iload_n E dX9_mostWon_31 rfl 1 rfl ?_
      refine G.sub (lv' := [(0, .ref (ad 0)), (2, .int x2)]) [0, 2] rfl ?_
      exact B_X9_mostWon_b32 E K rec4 hrec4 σ x2 x1 h
    · have h := ite_f h q
      refine G.iload_n E dX9_mostWon_27 rfl 2 rfl ?_
      refine G.goto (tgt := 32) E dX9_mostWon_28 (by decide) ?_
      refine G.sub (lv' := [(0, .ref (ad 0)), (2, .int x2)]) [0, 2] rfl ?_
      exact B_X9_mostWon_b32 E K rec4 hrec4 σ x2 x2 h
noncomputable def D_X9_mostWon_L4  (σ : ST) (x1 : Int32) (x2 : Int32) : Option Int32 := itr (fun (rec4 : (Int32 × Int32) → Option Int32) (a : (Int32 × Int32)) => D_X9_mostWon_L4_body rec4 σ a.1 a.2) 200 (x1, x2)
set_option maxRecDepth 100000 in
set_option maxHeartbeats 4000000 in
theorem B_X9_mostWon_L4 {x : CX} {cy : Nat → ClassId} {ad : Nat → Nat} {r : Int32} {σ : ST} (E : Ev x cy cX9_mostWon RX9 3 0 0) (K : RetI x cX9_mostWon .int r (wM ad cy σ))  (σ9 : ST) (x1 : Int32) (x2 : Int32) (h : D_X9_mostWon_L4 σ x1 x2 = some r) : G x 0 0 4 [(0, .ref (ad 0)), (1, .int x1), (2, .int x2)] [] (wM ad cy σ) :=
  itr_ind (P := fun a => G x 0 0 4 [(0, .ref (ad 0)), (1, .int a.1), (2, .int a.2)] [] (wM ad cy σ)) (fun rec4 hrec4 a h => B_X9_mostWon_L4_body E K rec4 hrec4 σ a.1 a.2 h) 200 (x1, x2) h
noncomputable def D_X9_mostWon (σ : ST)  : Option Int32 := D_X9_mostWon_L4 σ (0 : Int32) (1 : Int32)
set_option maxRecDepth 100000 in
set_option maxHeartbeats 4000000 in
theorem B_X9_mostWon {x : CX} {cy : Nat → ClassId} {ad : Nat → Nat} {r : Int32} {σ : ST} (E : Ev x cy cX9_mostWon RX9 3 0 0) (K : RetI x cX9_mostWon .int r (wM ad cy σ))  (h : D_X9_mostWon σ = some r) : G x 0 0 0 [(0, .ref (ad 0))] [] (wM ad cy σ) := by
  unfold D_X9_mostWon at h
  refine G.iconst (v := 0) E dX9_mostWon_0 (by decide) ?_
  refine G.istore_n (lv' := [(1, .int (0 : Int32)), (0, .ref (ad 0))]) E dX9_mostWon_1 rfl (by decide) rfl ?_
  refine G.iconst (v := 1) E dX9_mostWon_2 (by decide) ?_
  refine G.istore_n (lv' := [(2, .int (1 : Int32)), (1, .int (0 : Int32)), (0, .ref (ad 0))]) E dX9_mostWon_3 rfl (by decide) rfl ?_
  refine G.sub (lv' := [(0, .ref (ad 0)), (1, .int (0 : Int32)), (2, .int (1 : Int32))]) [2, 1, 0] rfl ?_
  exact B_X9_mostWon_L4 E K σ (0 : Int32) (1 : Int32) h
set_option maxRecDepth 100000 in
set_option maxHeartbeats 4000000 in
theorem C_X9_mostWon {l : Launch} {D : va_G} {cy : Nat → ClassId} {ad : Nat → Nat} {σ : ST}  {r : Int32} (h : D_X9_mostWon σ = some r) : MI l yX9_mostWon cX9_mostWon 3 (some .int) 0 0 D cy (wM ad cy σ) [.ref (ad 0)] r (wM ad cy σ) :=
  MI.mk (lv := [(0, .ref (ad 0))]) (by decide) (Nat.le_of_ble_eq_true rfl) rfl (fun x _ _ E K => B_X9_mostWon E K  h)

noncomputable def D_X9_draw (σ : ST) (p1 : Int32) : Option (Int32 × ST) := if p1.toInt64 = 0 then none else (some ((((gJ (pJ σ 0 ((((1103515245 : Int64) * (gJ σ 0)) + (12345 : Int64)) &&& (2147483647 : Int64))) 0) / (65536 : Int64)) - ((gJ (pJ σ 0 ((((1103515245 : Int64) * (gJ σ 0)) + (12345 : Int64)) &&& (2147483647 : Int64))) 0) / (65536 : Int64)) / p1.toInt64 * p1.toInt64).toInt32, pJ σ 0 ((((1103515245 : Int64) * (gJ σ 0)) + (12345 : Int64)) &&& (2147483647 : Int64))))
set_option maxRecDepth 100000 in
set_option maxHeartbeats 4000000 in
theorem B_X9_draw {x : CX} {cy : Nat → ClassId} {ad : Nat → Nat} {r : (Int32 × ST)} (E : Ev x cy cX9_draw RX9 2 0 0) (K : RetI x cX9_draw .int r.1 (wM ad cy r.2)) (σ : ST) (p1 : Int32) (h : D_X9_draw σ p1 = some r) : G x 0 0 0 [(0, .ref (ad 0)), (1, .int p1)] [] (wM ad cy σ) := by
  unfold D_X9_draw at h
  refine G.aload_n E dX9_draw_0 rfl 0 rfl ?_
  refine G.ldc2 E (f1049 E.fx) dX9_draw_1 ?_
  refine G.aload_n E dX9_draw_4 rfl 0 rfl ?_
  refine G.get E inX9 0 rfl rfl 22 (by decide) (f720 E.fx) rfl dX9_draw_5 ?_
  refine G.lmul E dX9_draw_8 ?_
  refine G.ldc2 E (f1050 E.fx) dX9_draw_9 ?_
  refine G.ladd E dX9_draw_12 ?_
  refine G.ldc2 E (f1051 E.fx) dX9_draw_13 ?_
  refine G.land E dX9_draw_16 ?_
  refine G.put (ws' := (wM ad cy (pJ σ 0 ((((1103515245 : Int64) * (gJ σ 0)) + (12345 : Int64)) &&& (2147483647 : Int64))))) E inX9 tyX9 tyX9_ok nmX9 0 rfl rfl 22 (by decide) (f720 E.fx) rfl rfl rfl rfl (Nat.le_of_ble_eq_true rfl) dX9_draw_17 (wM_fJ0 ad cy _ _) ?_
  refine G.aload_n E dX9_draw_20 rfl 0 rfl ?_
  refine G.get E inX9 0 rfl rfl 22 (by decide) (f720 E.fx) rfl dX9_draw_21 ?_
  refine G.ldc2 E (f1052 E.fx) dX9_draw_24 ?_
  refine G.ldiv E dX9_draw_27 (by decide) ?_
  refine G.iload_n E dX9_draw_28 rfl 1 rfl ?_
  refine G.i2l E dX9_draw_29 ?_
  obtain ⟨hg, h⟩ := ite_n h
  refine G.lrem E dX9_draw_30 hg ?_
  refine G.l2i E dX9_draw_31 ?_
  obtain rfl := Option.some.inj h
  exact K rfl _ _ dX9_draw_32
set_option maxRecDepth 100000 in
set_option maxHeartbeats 4000000 in
theorem C_X9_draw {l : Launch} {D : va_G} {cy : Nat → ClassId} {ad : Nat → Nat} {σ : ST} {p1 : Int32} {r : (Int32 × ST)} (h : D_X9_draw σ p1 = some r) : MI l yX9_draw cX9_draw 2 (some .int) 0 0 D cy (wM ad cy σ) [.ref (ad 0), .int p1] r.1 (wM ad cy r.2) :=
  MI.mk (lv := [(0, .ref (ad 0)), (1, .int p1)]) (by decide) (Nat.le_of_ble_eq_true rfl) rfl (fun x _ _ E K => B_X9_draw E K σ p1 h)
