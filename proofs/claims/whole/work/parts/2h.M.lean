noncomputable def D_X9_gamesNow_b142 (rec47 : (ST × Int32 × Int32 × Int32 × Int32 × Int32 × Int32) → Option (Int32 × ST)) (σ : ST) (x1 : Int32) (x3 : Int32) (x5 : Int32) (x6 : Int32) (x7 : Int32) (s0 : Int32) : Option (Int32 × ST) := rec47 (σ, x1, x3, s0, x5, x6, (x7 + 1))
set_option maxRecDepth 100000 in
set_option maxHeartbeats 4000000 in
theorem B_X9_gamesNow_b142 {x : CX} {cy : Nat → ClassId} {ad : Nat → Nat} {r : (Int32 × ST)} (E : Ev x cy cX9_gamesNow RX9 10 4 93) (K : RetI x cX9_gamesNow .int r.1 (wM ad cy r.2)) (rec47 : (ST × Int32 × Int32 × Int32 × Int32 × Int32 × Int32) → Option (Int32 × ST)) (hrec47 : ∀ a, rec47 a = some r → G x 0 0 47 [(0, .ref (ad 0)), (1, .int a.2.1), (3, .int a.2.2.1), (4, .int a.2.2.2.1), (5, .int a.2.2.2.2.1), (6, .int a.2.2.2.2.2.1), (7, .int a.2.2.2.2.2.2)] [] (wM ad cy a.1)) (σ : ST) (x1 : Int32) (x3 : Int32) (x5 : Int32) (x6 : Int32) (x7 : Int32) (s0 : Int32) (h : D_X9_gamesNow_b142 rec47 σ x1 x3 x5 x6 x7 s0 = some r) : G x 0 0 142 [(0, .ref (ad 0)), (1, .int x1), (3, .int x3), (5, .int x5), (6, .int x6), (7, .int x7)] [.int s0] (wM ad cy σ) := by
  unfold D_X9_gamesNow_b142 at h
  refine G.istore (lv' := [(4, .int s0), (0, .ref (ad 0)), (1, .int x1), (3, .int x3), (5, .int x5), (6, .int x6), (7, .int x7)]) E dX9_gamesNow_142 (by decide) rfl ?_
  refine G.iinc (w := x7 + 1) (lv' := [(7, .int (x7 + 1)), (4, .int s0), (0, .ref (ad 0)), (1, .int x1), (3, .int x3), (5, .int x5), (6, .int x6)]) E dX9_gamesNow_144 6 rfl rfl (by decide) rfl ?_
  refine G.goto (tgt := 47) E dX9_gamesNow_147 (by decide) ?_
  refine G.sub (lv' := [(0, .ref (ad 0)), (1, .int x1), (3, .int x3), (4, .int s0), (5, .int x5), (6, .int x6), (7, .int (x7 + 1))]) [2, 3, 4, 1, 5, 6, 0] rfl ?_
  exact hrec47 (σ, x1, x3, s0, x5, x6, (x7 + 1)) h
noncomputable def D_X9_gamesNow_b128 (rec47 : (ST × Int32 × Int32 × Int32 × Int32 × Int32 × Int32) → Option (Int32 × ST)) (σ : ST) (x1 : Int32) (x3 : Int32) (x4 : Int32) (x5 : Int32) (x7 : Int32) (x8 : Int32) (s0 : Int32) (s1 : Int32) : Option (Int32 × ST) := if x8 = 0 then (D_X9_gamesNow_b142 rec47 σ x1 x3 x5 (s1 + s0) x7 x4) else (D_X9_gamesNow_b142 rec47 σ x1 x3 x5 (s1 + s0) x7 (0 : Int32))
set_option maxRecDepth 100000 in
set_option maxHeartbeats 4000000 in
theorem B_X9_gamesNow_b128 {x : CX} {cy : Nat → ClassId} {ad : Nat → Nat} {r : (Int32 × ST)} (E : Ev x cy cX9_gamesNow RX9 10 4 93) (K : RetI x cX9_gamesNow .int r.1 (wM ad cy r.2)) (rec47 : (ST × Int32 × Int32 × Int32 × Int32 × Int32 × Int32) → Option (Int32 × ST)) (hrec47 : ∀ a, rec47 a = some r → G x 0 0 47 [(0, .ref (ad 0)), (1, .int a.2.1), (3, .int a.2.2.1), (4, .int a.2.2.2.1), (5, .int a.2.2.2.2.1), (6, .int a.2.2.2.2.2.1), (7, .int a.2.2.2.2.2.2)] [] (wM ad cy a.1)) (σ : ST) (x1 : Int32) (x3 : Int32) (x4 : Int32) (x5 : Int32) (x7 : Int32) (x8 : Int32) (s0 : Int32) (s1 : Int32) (h : D_X9_gamesNow_b128 rec47 σ x1 x3 x4 x5 x7 x8 s0 s1 = some r) : G x 0 0 128 [(0, .ref (ad 0)), (1, .int x1), (3, .int x3), (4, .int x4), (5, .int x5), (7, .int x7), (8, .int x8)] [.int s0, .int s1] (wM ad cy σ) := by
  unfold D_X9_gamesNow_b128 at h
  refine G.iadd E dX9_gamesNow_128 ?_
  refine G.istore (lv' := [(6, .int (s1 + s0)), (0, .ref (ad 0)), (1, .int x1), (3, .int x3), (4, .int x4), (5, .int x5), (7, .int x7), (8, .int x8)]) E dX9_gamesNow_129 (by decide) rfl ?_
  refine G.iload E dX9_gamesNow_131 7 rfl ?_
  refine G.if_ne (tgt := 141) E dX9_gamesNow_133 (by decide) (fun q => ?_) (fun q => ?_)
  · have h := ite_f h q
    refine G.iconst (v := 0) E dX9_gamesNow_141 (by decide) ?_
    refine G.sub (lv' := [(0, .ref (ad 0)), (1, .int x1), (3, .int x3), (5, .int x5), (6, .int (s1 + s0)), (7, .int x7)]) [1, 2, 3, 5, 0, 6] rfl ?_
    exact B_X9_gamesNow_b142 E K rec47 hrec47 σ x1 x3 x5 (s1 + s0) x7 (0 : Int32) h
  · have h := ite_t h q
    refine G.iload E dX9_gamesNow_136 4 rfl ?_
    refine G.goto (tgt := 142) E dX9_gamesNow_138 (by decide) ?_
    refine G.sub (lv' := [(0, .ref (ad 0)), (1, .int x1), (3, .int x3), (5, .int x5), (6, .int (s1 + s0)), (7, .int x7)]) [1, 2, 3, 5, 0, 6] rfl ?_
    exact B_X9_gamesNow_b142 E K rec47 hrec47 σ x1 x3 x5 (s1 + s0) x7 x4 h
noncomputable def D_X9_gamesNow_L84_body (rec47 : (ST × Int32 × Int32 × Int32 × Int32 × Int32 × Int32) → Option (Int32 × ST)) (rec84 : (ST × Int32 × Int32 × Int32 × Int32 × Int32 × Int32 × Int32 × Int32) → Option (Int32 × ST)) (σ : ST) (x1 : Int32) (x3 : Int32) (x4 : Int32) (x5 : Int32) (x6 : Int32) (x7 : Int32) (x8 : Int32) (x9 : Int32) : Option (Int32 × ST) := if (gI σ 1) ≤ x9 then (if x8 = 0 then (D_X9_gamesNow_b128 rec47 σ x1 x3 x4 x5 x7 x8 (0 : Int32) x6) else (D_X9_gamesNow_b128 rec47 σ x1 x3 x4 x5 x7 x8 (1 : Int32) x6)) else (if x9 < 0 ∨ 4 ≤ x9.toNatClampNeg then none else (if x9 < 0 ∨ 4 ≤ x9.toNatClampNeg then none else (rec84 ((pA σ 10 x9.toNatClampNeg ((gA σ 10 x9.toNatClampNeg) + ((x8 >>> (x9 &&& 31)) &&& (1 : Int32)))), x1, x3, x4, x5, x6, x7, x8, (x9 + 1)))))
set_option maxRecDepth 100000 in
set_option maxHeartbeats 4000000 in
theorem B_X9_gamesNow_L84_body {x : CX} {cy : Nat → ClassId} {ad : Nat → Nat} {r : (Int32 × ST)} (E : Ev x cy cX9_gamesNow RX9 10 4 93) (K : RetI x cX9_gamesNow .int r.1 (wM ad cy r.2)) (rec47 : (ST × Int32 × Int32 × Int32 × Int32 × Int32 × Int32) → Option (Int32 × ST)) (hrec47 : ∀ a, rec47 a = some r → G x 0 0 47 [(0, .ref (ad 0)), (1, .int a.2.1), (3, .int a.2.2.1), (4, .int a.2.2.2.1), (5, .int a.2.2.2.2.1), (6, .int a.2.2.2.2.2.1), (7, .int a.2.2.2.2.2.2)] [] (wM ad cy a.1)) (rec84 : (ST × Int32 × Int32 × Int32 × Int32 × Int32 × Int32 × Int32 × Int32) → Option (Int32 × ST)) (hrec84 : ∀ a, rec84 a = some r → G x 0 0 84 [(0, .ref (ad 0)), (1, .int a.2.1), (3, .int a.2.2.1), (4, .int a.2.2.2.1), (5, .int a.2.2.2.2.1), (6, .int a.2.2.2.2.2.1), (7, .int a.2.2.2.2.2.2.1), (8, .int a.2.2.2.2.2.2.2.1), (9, .int a.2.2.2.2.2.2.2.2)] [] (wM ad cy a.1)) (σ : ST) (x1 : Int32) (x3 : Int32) (x4 : Int32) (x5 : Int32) (x6 : Int32) (x7 : Int32) (x8 : Int32) (x9 : Int32) (h : D_X9_gamesNow_L84_body rec47 rec84 σ x1 x3 x4 x5 x6 x7 x8 x9 = some r) : G x 0 0 84 [(0, .ref (ad 0)), (1, .int x1), (3, .int x3), (4, .int x4), (5, .int x5), (6, .int x6), (7, .int x7), (8, .int x8), (9, .int x9)] [] (wM ad cy σ) := by
  unfold D_X9_gamesNow_L84_body at h
  refine G.iload E dX9_gamesNow_84 8 rfl ?_
  refine G.aload_n E dX9_gamesNow_86 rfl 0 rfl ?_
  refine G.get E inX9 0 rfl rfl 1 (by decide) (f699 E.fx) rfl dX9_gamesNow_87 ?_
  refine G.icmp_ge (tgt := 116) E dX9_gamesNow_90 (by decide) (fun q => ?_) (fun q => ?_)
  · have h := ite_t h q
    refine G.iload E dX9_gamesNow_116 5 rfl ?_
    refine G.iload E dX9_gamesNow_118 7 rfl ?_
    refine G.if_ne (tgt := 127) E dX9_gamesNow_120 (by decide) (fun q => ?_) (fun q => ?_)
    · have h := ite_f h q
      refine G.iconst (v := 1) E dX9_gamesNow_127 (by decide) ?_
      refine G.sub (lv' := [(0, .ref (ad 0)), (1, .int x1), (3, .int x3), (4, .int x4), (5, .int x5), (7, .int x7), (8, .int x8)]) [0, 1, 2, 3, 4, 6, 7] rfl ?_
      exact B_X9_gamesNow_b128 E K rec47 hrec47 σ x1 x3 x4 x5 x7 x8 (1 : Int32) x6 h
    · have h := ite_t h q
      refine G.iconst (v := 0) E dX9_gamesNow_123 (by decide) ?_
      refine G.goto (tgt := 128) E dX9_gamesNow_124 (by decide) ?_
      refine G.sub (lv' := [(0, .ref (ad 0)), (1, .int x1), (3, .int x3), (4, .int x4), (5, .int x5), (7, .int x7), (8, .int x8)]) [0, 1, 2, 3, 4, 6, 7] rfl ?_
      exact B_X9_gamesNow_b128 E K rec47 hrec47 σ x1 x3 x4 x5 x7 x8 (0 : Int32) x6 h
  · have h := ite_f h q
    refine G.aload_n E dX9_gamesNow_93 rfl 0 rfl ?_
    refine G.get E inX9 0 rfl rfl 23 (by decide) (f721 E.fx) rfl dX9_gamesNow_94 ?_
    refine G.iload E dX9_gamesNow_97 8 rfl ?_
    refine G.dup2 E dX9_gamesNow_99 rfl rfl ?_
    obtain ⟨hg, h⟩ := ite_n h
    refine G.iald E 11 0 rfl rfl hg dX9_gamesNow_100 ?_
    refine G.iload E dX9_gamesNow_101 7 rfl ?_
    refine G.iload E dX9_gamesNow_103 8 rfl ?_
    refine G.ishr E dX9_gamesNow_105 ?_
    refine G.iconst (v := 1) E dX9_gamesNow_106 (by decide) ?_
    refine G.iand E dX9_gamesNow_107 ?_
    refine G.iadd E dX9_gamesNow_108 ?_
    obtain ⟨hg, h⟩ := ite_n h
    refine G.iast (ws' := (wM ad cy (pA σ 10 x9.toNatClampNeg ((gA σ 10 x9.toNatClampNeg) + ((x8 >>> (x9 &&& 31)) &&& (1 : Int32)))))) E 11 0 rfl rfl hg dX9_gamesNow_109 (wM_aI10 ad cy _ _ _) ?_
    refine G.iinc (w := x9 + 1) (lv' := [(9, .int (x9 + 1)), (0, .ref (ad 0)), (1, .int x1), (3, .int x3), (4, .int x4), (5, .int x5), (6, .int x6), (7, .int x7), (8, .int x8)]) E dX9_gamesNow_110 8 rfl rfl (by decide) rfl ?_
    refine G.goto (tgt := 84) E dX9_gamesNow_113 (by decide) ?_
    refine G.sub (lv' := [(0, .ref (ad 0)), (1, .int x1), (3, .int x3), (4, .int x4), (5, .int x5), (6, .int x6), (7, .int x7), (8, .int x8), (9, .int (x9 + 1))]) [1, 2, 3, 4, 5, 6, 7, 8, 0] rfl ?_
    exact hrec84 ((pA σ 10 x9.toNatClampNeg ((gA σ 10 x9.toNatClampNeg) + ((x8 >>> (x9 &&& 31)) &&& (1 : Int32)))), x1, x3, x4, x5, x6, x7, x8, (x9 + 1)) h
noncomputable def D_X9_gamesNow_L84 (rec47 : (ST × Int32 × Int32 × Int32 × Int32 × Int32 × Int32) → Option (Int32 × ST)) (σ : ST) (x1 : Int32) (x3 : Int32) (x4 : Int32) (x5 : Int32) (x6 : Int32) (x7 : Int32) (x8 : Int32) (x9 : Int32) : Option (Int32 × ST) := itr (fun (rec84 : (ST × Int32 × Int32 × Int32 × Int32 × Int32 × Int32 × Int32 × Int32) → Option (Int32 × ST)) (a : (ST × Int32 × Int32 × Int32 × Int32 × Int32 × Int32 × Int32 × Int32)) => D_X9_gamesNow_L84_body rec47 rec84 a.1 a.2.1 a.2.2.1 a.2.2.2.1 a.2.2.2.2.1 a.2.2.2.2.2.1 a.2.2.2.2.2.2.1 a.2.2.2.2.2.2.2.1 a.2.2.2.2.2.2.2.2) 200 (σ, x1, x3, x4, x5, x6, x7, x8, x9)
set_option maxRecDepth 100000 in
set_option maxHeartbeats 4000000 in
theorem B_X9_gamesNow_L84 {x : CX} {cy : Nat → ClassId} {ad : Nat → Nat} {r : (Int32 × ST)} (E : Ev x cy cX9_gamesNow RX9 10 4 93) (K : RetI x cX9_gamesNow .int r.1 (wM ad cy r.2)) (rec47 : (ST × Int32 × Int32 × Int32 × Int32 × Int32 × Int32) → Option (Int32 × ST)) (hrec47 : ∀ a, rec47 a = some r → G x 0 0 47 [(0, .ref (ad 0)), (1, .int a.2.1), (3, .int a.2.2.1), (4, .int a.2.2.2.1), (5, .int a.2.2.2.2.1), (6, .int a.2.2.2.2.2.1), (7, .int a.2.2.2.2.2.2)] [] (wM ad cy a.1)) (σ : ST) (x1 : Int32) (x3 : Int32) (x4 : Int32) (x5 : Int32) (x6 : Int32) (x7 : Int32) (x8 : Int32) (x9 : Int32) (h : D_X9_gamesNow_L84 rec47 σ x1 x3 x4 x5 x6 x7 x8 x9 = some r) : G x 0 0 84 [(0, .ref (ad 0)), (1, .int x1), (3, .int x3), (4, .int x4), (5, .int x5), (6, .int x6), (7, .int x7), (8, .int x8), (9, .int x9)] [] (wM ad cy σ) :=
  itr_ind (P := fun a => G x 0 0 84 [(0, .ref (ad 0)), (1, .int a.2.1), (3, .int a.2.2.1), (4, .int a.2.2.2.1), (5, .int a.2.2.2.2.1), (6, .int a.2.2.2.2.2.1), (7, .int a.2.2.2.2.2.2.1), (8, .int a.2.2.2.2.2.2.2.1), (9, .int a.2.2.2.2.2.2.2.2)] [] (wM ad cy a.1)) (fun rec84 hrec84 a h => B_X9_gamesNow_L84_body E K rec47 hrec47 rec84 hrec84 a.1 a.2.1 a.2.2.1 a.2.2.2.1 a.2.2.2.2.1 a.2.2.2.2.2.1 a.2.2.2.2.2.2.1 a.2.2.2.2.2.2.2.1 a.2.2.2.2.2.2.2.2 h) 200 (σ, x1, x3, x4, x5, x6, x7, x8, x9) h
noncomputable def D_X9_gamesNow_L47_body (rec47 : (ST × Int32 × Int32 × Int32 × Int32 × Int32 × Int32) → Option (Int32 × ST)) (σ : ST) (x1 : Int32) (x3 : Int32) (x4 : Int32) (x5 : Int32) (x6 : Int32) (x7 : Int32) : Option (Int32 × ST) := if x1 ≤ x7 then (if x3 = 0 then (some (x6, σ)) else (if x3 = (1 : Int32) then ((D_X9_mostWon σ).bind fun r1 => some (r1, σ)) else (some ((gJ σ 0).toInt32, σ)))) else ((D_X9_draw σ (2 : Int32)).bind fun r3 => (D_X9_whoHits r3.2 (x4 + 1) (((x5 <<< ((1 : Int32) &&& 31)) ||| r3.1) &&& (15 : Int32))).bind fun r5 => D_X9_gamesNow_L84 rec47 r3.2 x1 x3 (x4 + 1) (((x5 <<< ((1 : Int32) &&& 31)) ||| r3.1) &&& (15 : Int32)) x6 x7 r5 (0 : Int32))
set_option maxRecDepth 100000 in
set_option maxHeartbeats 4000000 in
theorem B_X9_gamesNow_L47_body {x : CX} {cy : Nat → ClassId} {ad : Nat → Nat} {r : (Int32 × ST)} (E : Ev x cy cX9_gamesNow RX9 10 4 93) (K : RetI x cX9_gamesNow .int r.1 (wM ad cy r.2)) (rec47 : (ST × Int32 × Int32 × Int32 × Int32 × Int32 × Int32) → Option (Int32 × ST)) (hrec47 : ∀ a, rec47 a = some r → G x 0 0 47 [(0, .ref (ad 0)), (1, .int a.2.1), (3, .int a.2.2.1), (4, .int a.2.2.2.1), (5, .int a.2.2.2.2.1), (6, .int a.2.2.2.2.2.1), (7, .int a.2.2.2.2.2.2)] [] (wM ad cy a.1)) (σ : ST) (x1 : Int32) (x3 : Int32) (x4 : Int32) (x5 : Int32) (x6 : Int32) (x7 : Int32) (h : D_X9_gamesNow_L47_body rec47 σ x1 x3 x4 x5 x6 x7 = some r) : G x 0 0 47 [(0, .ref (ad 0)), (1, .int x1), (3, .int x3), (4, .int x4), (5, .int x5), (6, .int x6), (7, .int x7)] [] (wM ad cy σ) := by
  unfold D_X9_gamesNow_L47_body at h
  refine G.iload E dX9_gamesNow_47 6 rfl ?_
  refine G.iload_n E dX9_gamesNow_49 rfl 1 rfl ?_
  refine G.icmp_ge (tgt := 150) E dX9_gamesNow_50 (by decide) (fun q => ?_) (fun q => ?_)
  · have h := ite_t h q
    refine G.iload_n E dX9_gamesNow_150 rfl 2 rfl ?_
    refine G.if_ne (tgt := 159) E dX9_gamesNow_151 (by decide) (fun q => ?_) (fun q => ?_)
    · have h := ite_f h q
      refine G.iload_n E dX9_gamesNow_159 rfl 2 rfl ?_
      refine G.iconst (v := 1) E dX9_gamesNow_160 (by decide) ?_
      refine G.icmp_ne (tgt := 171) E dX9_gamesNow_161 (by decide) (fun q => ?_) (fun q => ?_)
      · have h := ite_f h q
        refine G.aload_n E dX9_gamesNow_171 rfl 0 rfl ?_
        refine G.get E inX9 0 rfl rfl 22 (by decide) (f720 E.fx) rfl dX9_gamesNow_172 ?_
        refine G.l2i E dX9_gamesNow_175 ?_
        obtain rfl := Option.some.inj h
        exact K rfl _ _ dX9_gamesNow_176
      · have h := ite_t h q
        refine G.aload_n E dX9_gamesNow_164 rfl 0 rfl ?_
        obtain ⟨r1, h2, h⟩ := bind_s h
        refine G.retI E (runV (st := []) (As := []) E (C_X9_mostWon h2) ck_X9_mostWon (f1053 E.fx) (f1055 E.fx) (f62 E.fx) 0 9 rfl rfl rfl (by decide) (by decide) rfl (Nat.le_of_ble_eq_true rfl) dX9_gamesNow_165 ⟨Nat.zero_le _, Nat.zero_le _⟩) ?_
        refine G.goto (tgt := 176) E dX9_gamesNow_168 (by decide) ?_
        obtain rfl := Option.some.inj h
        exact K rfl _ _ dX9_gamesNow_176
    · have h := ite_t h q
      refine G.iload E dX9_gamesNow_154 5 rfl ?_
      refine G.goto (tgt := 176) E dX9_gamesNow_156 (by decide) ?_
      obtain rfl := Option.some.inj h
      exact K rfl _ _ dX9_gamesNow_176
  · have h := ite_f h q
    refine G.iload E dX9_gamesNow_53 4 rfl ?_
    refine G.iconst (v := 1) E dX9_gamesNow_55 (by decide) ?_
    refine G.ishl E dX9_gamesNow_56 ?_
    refine G.aload_n E dX9_gamesNow_57 rfl 0 rfl ?_
    refine G.iconst (v := 2) E dX9_gamesNow_58 (by decide) ?_
    obtain ⟨r3, h4, h⟩ := bind_s h
    refine G.retI E (runV (st := [.int (x5 <<< ((1 : Int32) &&& 31))]) (As := [.int (2 : Int32)]) E (C_X9_draw h4) ck_X9_draw (f1045 E.fx) (f1047 E.fx) (f61 E.fx) 0 9 rfl rfl rfl (by decide) (by decide) rfl (Nat.le_of_ble_eq_true rfl) dX9_gamesNow_59 ⟨Nat.zero_le _, Nat.zero_le _⟩) ?_
    refine G.ior E dX9_gamesNow_62 ?_
    refine G.bipush (v := 15) E dX9_gamesNow_63 (by decide) ?_
    refine G.iand E dX9_gamesNow_65 ?_
    refine G.istore (lv' := [(5, .int (((x5 <<< ((1 : Int32) &&& 31)) ||| r3.1) &&& (15 : Int32))), (0, .ref (ad 0)), (1, .int x1), (3, .int x3), (4, .int x4), (6, .int x6), (7, .int x7)]) E dX9_gamesNow_66 (by decide) rfl ?_
    refine G.iinc (w := x4 + 1) (lv' := [(4, .int (x4 + 1)), (5, .int (((x5 <<< ((1 : Int32) &&& 31)) ||| r3.1) &&& (15 : Int32))), (0, .ref (ad 0)), (1, .int x1), (3, .int x3), (6, .int x6), (7, .int x7)]) E dX9_gamesNow_68 4 rfl rfl (by decide) rfl ?_
    refine G.aload_n E dX9_gamesNow_71 rfl 2 rfl ?_
    refine G.iload E dX9_gamesNow_72 0 rfl ?_
    refine G.iload E dX9_gamesNow_74 1 rfl ?_
    obtain ⟨r5, h6, h⟩ := bind_s h
    refine G.retI E (runV (st := []) (As := [.int (x4 + 1), .int (((x5 <<< ((1 : Int32) &&& 31)) ||| r3.1) &&& (15 : Int32))]) E (C_X9_whoHits h6) ck_X9_whoHits (f937 E.fx) (f939 E.fx) (f46 E.fx) 0 9 rfl rfl rfl (by decide) (by decide) rfl (Nat.le_of_ble_eq_true rfl) dX9_gamesNow_76 ⟨Nat.zero_le _, Nat.zero_le _⟩) ?_
    refine G.istore (lv' := [(8, .int r5), (4, .int (x4 + 1)), (5, .int (((x5 <<< ((1 : Int32) &&& 31)) ||| r3.1) &&& (15 : Int32))), (0, .ref (ad 0)), (1, .int x1), (3, .int x3), (6, .int x6), (7, .int x7)]) E dX9_gamesNow_79 (by decide) rfl ?_
    refine G.iconst (v := 0) E dX9_gamesNow_81 (by decide) ?_
    refine G.istore (lv' := [(9, .int (0 : Int32)), (8, .int r5), (4, .int (x4 + 1)), (5, .int (((x5 <<< ((1 : Int32) &&& 31)) ||| r3.1) &&& (15 : Int32))), (0, .ref (ad 0)), (1, .int x1), (3, .int x3), (6, .int x6), (7, .int x7)]) E dX9_gamesNow_82 (by decide) rfl ?_
    refine G.sub (lv' := [(0, .ref (ad 0)), (1, .int x1), (3, .int x3), (4, .int (x4 + 1)), (5, .int (((x5 <<< ((1 : Int32) &&& 31)) ||| r3.1) &&& (15 : Int32))), (6, .int x6), (7, .int x7), (8, .int r5), (9, .int (0 : Int32))]) [4, 5, 6, 2, 3, 7, 8, 1, 0] rfl ?_
    exact B_X9_gamesNow_L84 E K rec47 hrec47 r3.2 x1 x3 (x4 + 1) (((x5 <<< ((1 : Int32) &&& 31)) ||| r3.1) &&& (15 : Int32)) x6 x7 r5 (0 : Int32) h
noncomputable def D_X9_gamesNow_L47  (σ : ST) (x1 : Int32) (x3 : Int32) (x4 : Int32) (x5 : Int32) (x6 : Int32) (x7 : Int32) : Option (Int32 × ST) := itr (fun (rec47 : (ST × Int32 × Int32 × Int32 × Int32 × Int32 × Int32) → Option (Int32 × ST)) (a : (ST × Int32 × Int32 × Int32 × Int32 × Int32 × Int32)) => D_X9_gamesNow_L47_body rec47 a.1 a.2.1 a.2.2.1 a.2.2.2.1 a.2.2.2.2.1 a.2.2.2.2.2.1 a.2.2.2.2.2.2) 200 (σ, x1, x3, x4, x5, x6, x7)
set_option maxRecDepth 100000 in
set_option maxHeartbeats 4000000 in
theorem B_X9_gamesNow_L47 {x : CX} {cy : Nat → ClassId} {ad : Nat → Nat} {r : (Int32 × ST)} (E : Ev x cy cX9_gamesNow RX9 10 4 93) (K : RetI x cX9_gamesNow .int r.1 (wM ad cy r.2))  (σ : ST) (x1 : Int32) (x3 : Int32) (x4 : Int32) (x5 : Int32) (x6 : Int32) (x7 : Int32) (h : D_X9_gamesNow_L47 σ x1 x3 x4 x5 x6 x7 = some r) : G x 0 0 47 [(0, .ref (ad 0)), (1, .int x1), (3, .int x3), (4, .int x4), (5, .int x5), (6, .int x6), (7, .int x7)] [] (wM ad cy σ) :=
  itr_ind (P := fun a => G x 0 0 47 [(0, .ref (ad 0)), (1, .int a.2.1), (3, .int a.2.2.1), (4, .int a.2.2.2.1), (5, .int a.2.2.2.2.1), (6, .int a.2.2.2.2.2.1), (7, .int a.2.2.2.2.2.2)] [] (wM ad cy a.1)) (fun rec47 hrec47 a h => B_X9_gamesNow_L47_body E K rec47 hrec47 a.1 a.2.1 a.2.2.1 a.2.2.2.1 a.2.2.2.2.1 a.2.2.2.2.2.1 a.2.2.2.2.2.2 h) 200 (σ, x1, x3, x4, x5, x6, x7) h
noncomputable def D_X9_gamesNow_L24_body (rec24 : (ST × Int32 × Int32 × Int32 × Int32 × Int32 × Int32) → Option (Int32 × ST)) (σ : ST) (x1 : Int32) (x3 : Int32) (x4 : Int32) (x5 : Int32) (x6 : Int32) (x7 : Int32) : Option (Int32 × ST) := if (4 : Int32) ≤ x7 then (D_X9_gamesNow_L47 σ x1 x3 x4 x5 x6 (0 : Int32)) else (if x7 < 0 ∨ 4 ≤ x7.toNatClampNeg then none else (rec24 ((pA σ 10 x7.toNatClampNeg (0 : Int32)), x1, x3, x4, x5, x6, (x7 + 1))))
set_option maxRecDepth 100000 in
set_option maxHeartbeats 4000000 in
theorem B_X9_gamesNow_L24_body {x : CX} {cy : Nat → ClassId} {ad : Nat → Nat} {r : (Int32 × ST)} (E : Ev x cy cX9_gamesNow RX9 10 4 93) (K : RetI x cX9_gamesNow .int r.1 (wM ad cy r.2)) (rec24 : (ST × Int32 × Int32 × Int32 × Int32 × Int32 × Int32) → Option (Int32 × ST)) (hrec24 : ∀ a, rec24 a = some r → G x 0 0 24 [(0, .ref (ad 0)), (1, .int a.2.1), (3, .int a.2.2.1), (4, .int a.2.2.2.1), (5, .int a.2.2.2.2.1), (6, .int a.2.2.2.2.2.1), (7, .int a.2.2.2.2.2.2)] [] (wM ad cy a.1)) (σ : ST) (x1 : Int32) (x3 : Int32) (x4 : Int32) (x5 : Int32) (x6 : Int32) (x7 : Int32) (h : D_X9_gamesNow_L24_body rec24 σ x1 x3 x4 x5 x6 x7 = some r) : G x 0 0 24 [(0, .ref (ad 0)), (1, .int x1), (3, .int x3), (4, .int x4), (5, .int x5), (6, .int x6), (7, .int x7)] [] (wM ad cy σ) := by
  unfold D_X9_gamesNow_L24_body at h
  refine G.iload E dX9_gamesNow_24 6 rfl ?_
  refine G.iconst (v := 4) E dX9_gamesNow_26 (by decide) ?_
  refine G.icmp_ge (tgt := 44) E dX9_gamesNow_27 (by decide) (fun q => ?_) (fun q => ?_)
  · have h := ite_t h q
    refine G.iconst (v := 0) E dX9_gamesNow_44 (by decide) ?_
    refine G.istore (lv' := [(7, .int (0 : Int32)), (0, .ref (ad 0)), (1, .int x1), (3, .int x3), (4, .int x4), (5, .int x5), (6, .int x6)]) E dX9_gamesNow_45 (by decide) rfl ?_
    refine G.sub (lv' := [(0, .ref (ad 0)), (1, .int x1), (3, .int x3), (4, .int x4), (5, .int x5), (6, .int x6), (7, .int (0 : Int32))]) [1, 2, 3, 4, 5, 6, 0] rfl ?_
    exact B_X9_gamesNow_L47 E K σ x1 x3 x4 x5 x6 (0 : Int32) h
  · have h := ite_f h q
    refine G.aload_n E dX9_gamesNow_30 rfl 0 rfl ?_
    refine G.get E inX9 0 rfl rfl 23 (by decide) (f721 E.fx) rfl dX9_gamesNow_31 ?_
    refine G.iload E dX9_gamesNow_34 6 rfl ?_
    refine G.iconst (v := 0) E dX9_gamesNow_36 (by decide) ?_
    obtain ⟨hg, h⟩ := ite_n h
    refine G.iast (ws' := (wM ad cy (pA σ 10 x7.toNatClampNeg (0 : Int32)))) E 11 0 rfl rfl hg dX9_gamesNow_37 (wM_aI10 ad cy _ _ _) ?_
    refine G.iinc (w := x7 + 1) (lv' := [(7, .int (x7 + 1)), (0, .ref (ad 0)), (1, .int x1), (3, .int x3), (4, .int x4), (5, .int x5), (6, .int x6)]) E dX9_gamesNow_38 6 rfl rfl (by decide) rfl ?_
    refine G.goto (tgt := 24) E dX9_gamesNow_41 (by decide) ?_
    refine G.sub (lv' := [(0, .ref (ad 0)), (1, .int x1), (3, .int x3), (4, .int x4), (5, .int x5), (6, .int x6), (7, .int (x7 + 1))]) [1, 2, 3, 4, 5, 6, 0] rfl ?_
    exact hrec24 ((pA σ 10 x7.toNatClampNeg (0 : Int32)), x1, x3, x4, x5, x6, (x7 + 1)) h
noncomputable def D_X9_gamesNow_L24  (σ : ST) (x1 : Int32) (x3 : Int32) (x4 : Int32) (x5 : Int32) (x6 : Int32) (x7 : Int32) : Option (Int32 × ST) := itr (fun (rec24 : (ST × Int32 × Int32 × Int32 × Int32 × Int32 × Int32) → Option (Int32 × ST)) (a : (ST × Int32 × Int32 × Int32 × Int32 × Int32 × Int32)) => D_X9_gamesNow_L24_body rec24 a.1 a.2.1 a.2.2.1 a.2.2.2.1 a.2.2.2.2.1 a.2.2.2.2.2.1 a.2.2.2.2.2.2) 200 (σ, x1, x3, x4, x5, x6, x7)
set_option maxRecDepth 100000 in
set_option maxHeartbeats 4000000 in
theorem B_X9_gamesNow_L24 {x : CX} {cy : Nat → ClassId} {ad : Nat → Nat} {r : (Int32 × ST)} (E : Ev x cy cX9_gamesNow RX9 10 4 93) (K : RetI x cX9_gamesNow .int r.1 (wM ad cy r.2))  (σ : ST) (x1 : Int32) (x3 : Int32) (x4 : Int32) (x5 : Int32) (x6 : Int32) (x7 : Int32) (h : D_X9_gamesNow_L24 σ x1 x3 x4 x5 x6 x7 = some r) : G x 0 0 24 [(0, .ref (ad 0)), (1, .int x1), (3, .int x3), (4, .int x4), (5, .int x5), (6, .int x6), (7, .int x7)] [] (wM ad cy σ) :=
  itr_ind (P := fun a => G x 0 0 24 [(0, .ref (ad 0)), (1, .int a.2.1), (3, .int a.2.2.1), (4, .int a.2.2.2.1), (5, .int a.2.2.2.2.1), (6, .int a.2.2.2.2.2.1), (7, .int a.2.2.2.2.2.2)] [] (wM ad cy a.1)) (fun rec24 hrec24 a h => B_X9_gamesNow_L24_body E K rec24 hrec24 a.1 a.2.1 a.2.2.1 a.2.2.2.1 a.2.2.2.2.1 a.2.2.2.2.2.1 a.2.2.2.2.2.2 h) 200 (σ, x1, x3, x4, x5, x6, x7) h
noncomputable def D_X9_gamesNow (σ : ST) (p1 : Int32) (p2 : Int32) (p3 : Int32) : Option (Int32 × ST) := D_X9_gamesNow_L24 (pJ σ 0 p2.toInt64) p1 p3 (gI (pJ σ 0 p2.toInt64) 3) (gI (pJ σ 0 p2.toInt64) 4) (0 : Int32) (0 : Int32)
set_option maxRecDepth 100000 in
set_option maxHeartbeats 4000000 in
theorem B_X9_gamesNow {x : CX} {cy : Nat → ClassId} {ad : Nat → Nat} {r : (Int32 × ST)} (E : Ev x cy cX9_gamesNow RX9 10 4 93) (K : RetI x cX9_gamesNow .int r.1 (wM ad cy r.2)) (σ : ST) (p1 : Int32) (p2 : Int32) (p3 : Int32) (h : D_X9_gamesNow σ p1 p2 p3 = some r) : G x 0 0 0 [(0, .ref (ad 0)), (1, .int p1), (2, .int p2), (3, .int p3)] [] (wM ad cy σ) := by
  unfold D_X9_gamesNow at h
  refine G.aload_n E dX9_gamesNow_0 rfl 0 rfl ?_
  refine G.iload_n E dX9_gamesNow_1 rfl 2 rfl ?_
  refine G.i2l E dX9_gamesNow_2 ?_
  refine G.put (ws' := (wM ad cy (pJ σ 0 p2.toInt64))) E inX9 tyX9 tyX9_ok nmX9 0 rfl rfl 22 (by decide) (f720 E.fx) rfl rfl rfl rfl (Nat.le_of_ble_eq_true rfl) dX9_gamesNow_3 (wM_fJ0 ad cy _ _) ?_
  refine G.aload_n E dX9_gamesNow_6 rfl 0 rfl ?_
  refine G.get E inX9 0 rfl rfl 6 (by decide) (f704 E.fx) rfl dX9_gamesNow_7 ?_
  refine G.istore (lv' := [(4, .int (gI (pJ σ 0 p2.toInt64) 3)), (0, .ref (ad 0)), (1, .int p1), (2, .int p2), (3, .int p3)]) E dX9_gamesNow_10 (by decide) rfl ?_
  refine G.aload_n E dX9_gamesNow_12 rfl 1 rfl ?_
  refine G.get E inX9 0 rfl rfl 7 (by decide) (f705 E.fx) rfl dX9_gamesNow_13 ?_
  refine G.istore (lv' := [(5, .int (gI (pJ σ 0 p2.toInt64) 4)), (4, .int (gI (pJ σ 0 p2.toInt64) 3)), (0, .ref (ad 0)), (1, .int p1), (2, .int p2), (3, .int p3)]) E dX9_gamesNow_16 (by decide) rfl ?_
  refine G.iconst (v := 0) E dX9_gamesNow_18 (by decide) ?_
  refine G.istore (lv' := [(6, .int (0 : Int32)), (5, .int (gI (pJ σ 0 p2.toInt64) 4)), (4, .int (gI (pJ σ 0 p2.toInt64) 3)), (0, .ref (ad 0)), (1, .int p1), (2, .int p2), (3, .int p3)]) E dX9_gamesNow_19 (by decide) rfl ?_
  refine G.iconst (v := 0) E dX9_gamesNow_21 (by decide) ?_
  refine G.istore (lv' := [(7, .int (0 : Int32)), (6, .int (0 : Int32)), (5, .int (gI (pJ σ 0 p2.toInt64) 4)), (4, .int (gI (pJ σ 0 p2.toInt64) 3)), (0, .ref (ad 0)), (1, .int p1), (2, .int p2), (3, .int p3)]) E dX9_gamesNow_22 (by decide) rfl ?_
  refine G.sub (lv' := [(0, .ref (ad 0)), (1, .int p1), (3, .int p3), (4, .int (gI (pJ σ 0 p2.toInt64) 3)), (5, .int (gI (pJ σ 0 p2.toInt64) 4)), (6, .int (0 : Int32)), (7, .int (0 : Int32))]) [4, 5, 7, 3, 2, 1, 0] rfl ?_
  exact B_X9_gamesNow_L24 E K (pJ σ 0 p2.toInt64) p1 p3 (gI (pJ σ 0 p2.toInt64) 3) (gI (pJ σ 0 p2.toInt64) 4) (0 : Int32) (0 : Int32) h
set_option maxRecDepth 100000 in
set_option maxHeartbeats 4000000 in
theorem C_X9_gamesNow {l : Launch} {D : va_G} {cy : Nat → ClassId} {ad : Nat → Nat} {σ : ST} {p1 : Int32} {p2 : Int32} {p3 : Int32} {r : (Int32 × ST)} (h : D_X9_gamesNow σ p1 p2 p3 = some r) : MI l yX9_gamesNow cX9_gamesNow 10 (some .int) 4 93 D cy (wM ad cy σ) [.ref (ad 0), .int p1, .int p2, .int p3] r.1 (wM ad cy r.2) :=
  MI.mk (lv := [(0, .ref (ad 0)), (1, .int p1), (2, .int p2), (3, .int p3)]) (by decide) (Nat.le_of_ble_eq_true rfl) rfl (fun x _ _ E K => B_X9_gamesNow E K σ p1 p2 p3 h)

noncomputable def D_X9_games (σ : ST) (p1 : Int32) (p2 : Int32) (p3 : Int32) : Option (Int32 × ST) := (D_X9_within p1 (1 : Int32) (99 : Int32)).bind fun r1 => if r1 = 0 then (some ((-102 : Int32), σ)) else (if p2 < 0 then (some ((-102 : Int32), σ)) else ((D_X9_within p3 (0 : Int32) (2 : Int32)).bind fun r3 => if r3 = 0 then (some ((-102 : Int32), σ)) else (if (gI σ 1) = 0 then (some ((-103 : Int32), σ)) else ((D_X9_gamesNow σ p1 p2 p3).bind fun r5 => some (r5.1, r5.2)))))
set_option maxRecDepth 100000 in
set_option maxHeartbeats 4000000 in
theorem B_X9_games {x : CX} {cy : Nat → ClassId} {ad : Nat → Nat} {r : (Int32 × ST)} (E : Ev x cy cX9_games RX9 4 5 122) (K : RetI x cX9_games .int r.1 (wM ad cy r.2)) (σ : ST) (p1 : Int32) (p2 : Int32) (p3 : Int32) (h : D_X9_games σ p1 p2 p3 = some r) : G x 0 0 0 [(0, .ref (ad 0)), (1, .int p1), (2, .int p2), (3, .int p3)] [] (wM ad cy σ) := by
  unfold D_X9_games at h
  refine G.iload_n E dX9_games_0 rfl 1 rfl ?_
  refine G.iconst (v := 1) E dX9_games_1 (by decide) ?_
  refine G.bipush (v := 99) E dX9_games_2 (by decide) ?_
  obtain ⟨r1, h2, h⟩ := bind_s h
  refine G.retI E (runS (st := []) (As := [.int p1, .int (1 : Int32), .int (99 : Int32)]) E (C_X9_within h2) ck_X9_within (f814 E.fx) (f815 E.fx) (by decide) (by decide) rfl (Nat.le_of_ble_eq_true rfl) dX9_games_4 ⟨Nat.zero_le _, Nat.zero_le _⟩) ?_
  refine G.if_eq (tgt := 23) E dX9_games_7 (by decide) (fun q => ?_) (fun q => ?_)
  · have h := ite_t h q
    refine G.bipush (v := -102) E dX9_games_23 (by decide) ?_
    obtain rfl := Option.some.inj h
    exact K rfl _ _ dX9_games_25
  · have h := ite_f h q
    refine G.iload_n E dX9_games_10 rfl 2 rfl ?_
    refine G.if_lt (tgt := 23) E dX9_games_11 (by decide) (fun q => ?_) (fun q => ?_)
    · have h := ite_t h q
      refine G.bipush (v := -102) E dX9_games_23 (by decide) ?_
      obtain rfl := Option.some.inj h
      exact K rfl _ _ dX9_games_25
    · have h := ite_f h q
      refine G.iload_n E dX9_games_14 rfl 3 rfl ?_
      refine G.iconst (v := 0) E dX9_games_15 (by decide) ?_
      refine G.iconst (v := 2) E dX9_games_16 (by decide) ?_
      obtain ⟨r3, h4, h⟩ := bind_s h
      refine G.retI E (runS (st := []) (As := [.int p3, .int (0 : Int32), .int (2 : Int32)]) E (C_X9_within h4) ck_X9_within (f814 E.fx) (f815 E.fx) (by decide) (by decide) rfl (Nat.le_of_ble_eq_true rfl) dX9_games_17 ⟨Nat.zero_le _, Nat.zero_le _⟩) ?_
      refine G.if_ne (tgt := 26) E dX9_games_20 (by decide) (fun q => ?_) (fun q => ?_)
      · have h := ite_f h q
        refine G.aload_n E dX9_games_26 rfl 0 rfl ?_
        refine G.get E inX9 0 rfl rfl 1 (by decide) (f699 E.fx) rfl dX9_games_27 ?_
        refine G.if_ne (tgt := 38) E dX9_games_30 (by decide) (fun q => ?_) (fun q => ?_)
        · have h := ite_f h q
          refine G.aload_n E dX9_games_38 rfl 0 rfl ?_
          refine G.iload_n E dX9_games_39 rfl 1 rfl ?_
          refine G.iload_n E dX9_games_40 rfl 2 rfl ?_
          refine G.iload_n E dX9_games_41 rfl 3 rfl ?_
          obtain ⟨r5, h6, h⟩ := bind_s h
          refine G.retI E (runV (st := []) (As := [.int p1, .int p2, .int p3]) E (C_X9_gamesNow h6) ck_X9_gamesNow (f1041 E.fx) (f1043 E.fx) (f60 E.fx) 0 9 rfl rfl rfl (by decide) (by decide) rfl (Nat.le_of_ble_eq_true rfl) dX9_games_42 ⟨Nat.zero_le _, Nat.zero_le _⟩) ?_
          obtain rfl := Option.some.inj h
          exact K rfl _ _ dX9_games_45
        · have h := ite_t h q
          refine G.bipush (v := -103) E dX9_games_33 (by decide) ?_
          refine G.goto (tgt := 45) E dX9_games_35 (by decide) ?_
          obtain rfl := Option.some.inj h
          exact K rfl _ _ dX9_games_45
      · have h := ite_t h q
        refine G.bipush (v := -102) E dX9_games_23 (by decide) ?_
        obtain rfl := Option.some.inj h
        exact K rfl _ _ dX9_games_25
set_option maxRecDepth 100000 in
set_option maxHeartbeats 4000000 in
theorem C_X9_games {l : Launch} {D : va_G} {cy : Nat → ClassId} {ad : Nat → Nat} {σ : ST} {p1 : Int32} {p2 : Int32} {p3 : Int32} {r : (Int32 × ST)} (h : D_X9_games σ p1 p2 p3 = some r) : MI l yX9_games cX9_games 4 (some .int) 5 122 D cy (wM ad cy σ) [.ref (ad 0), .int p1, .int p2, .int p3] r.1 (wM ad cy r.2) :=
  MI.mk (lv := [(0, .ref (ad 0)), (1, .int p1), (2, .int p2), (3, .int p3)]) (by decide) (Nat.le_of_ble_eq_true rfl) rfl (fun x _ _ E K => B_X9_games E K σ p1 p2 p3 h)

noncomputable def D_X9_image_b148 (rec106 : (ST × Int32) → Option (Int32 × ST)) (σ : ST) (x1 : Int32) : Option (Int32 × ST) := rec106 (σ, (x1 + 1))
set_option maxRecDepth 100000 in
set_option maxHeartbeats 4000000 in
theorem B_X9_image_b148 {x : CX} {cy : Nat → ClassId} {ad : Nat → Nat} {r : (Int32 × ST)} (E : Ev x cy cX9_image RX9 2 0 0) (K : RetI x cX9_image .int r.1 (wM ad cy r.2)) (rec106 : (ST × Int32) → Option (Int32 × ST)) (hrec106 : ∀ a, rec106 a = some r → G x 0 0 106 [(0, .ref (ad 0)), (1, .int a.2)] [] (wM ad cy a.1)) (σ : ST) (x1 : Int32) (h : D_X9_image_b148 rec106 σ x1 = some r) : G x 0 0 148 [(0, .ref (ad 0)), (1, .int x1)] [] (wM ad cy σ) := by
  unfold D_X9_image_b148 at h
  refine G.iinc (w := x1 + 1) (lv' := [(1, .int (x1 + 1)), (0, .ref (ad 0))]) E dX9_image_148 1 rfl rfl (by decide) rfl ?_
  refine G.goto (tgt := 106) E dX9_image_151 (by decide) ?_
  refine G.sub (lv' := [(0, .ref (ad 0)), (1, .int (x1 + 1))]) [1, 0] rfl ?_
  exact hrec106 (σ, (x1 + 1)) h
noncomputable def D_X9_image_L106_body (rec106 : (ST × Int32) → Option (Int32 × ST)) (σ : ST) (x1 : Int32) : Option (Int32 × ST) := if (6 : Int32) ≤ x1 then (some (gI σ 5, σ)) else (if x1 < 0 ∨ 6 ≤ x1.toNatClampNeg then none else (if x1 < 0 ∨ 6 ≤ x1.toNatClampNeg then none else (if x1 < 0 ∨ 6 ≤ x1.toNatClampNeg then none else (if x1 < 0 ∨ 6 ≤ x1.toNatClampNeg then none else (if x1 < 0 ∨ 6 ≤ x1.toNatClampNeg then none else (if x1 < 0 ∨ 6 ≤ x1.toNatClampNeg then none else (D_X9_image_b148 rec106 (pA (pA (pA σ 14 x1.toNatClampNeg (gA σ 3 x1.toNatClampNeg)) 15 x1.toNatClampNeg (gA (pA σ 14 x1.toNatClampNeg (gA σ 3 x1.toNatClampNeg)) 4 x1.toNatClampNeg)) 16 x1.toNatClampNeg (gA (pA (pA σ 14 x1.toNatClampNeg (gA σ 3 x1.toNatClampNeg)) 15 x1.toNatClampNeg (gA (pA σ 14 x1.toNatClampNeg (gA σ 3 x1.toNatClampNeg)) 4 x1.toNatClampNeg)) 5 x1.toNatClampNeg)) x1)))))))
set_option maxRecDepth 100000 in
set_option maxHeartbeats 4000000 in
theorem B_X9_image_L106_body {x : CX} {cy : Nat → ClassId} {ad : Nat → Nat} {r : (Int32 × ST)} (E : Ev x cy cX9_image RX9 2 0 0) (K : RetI x cX9_image .int r.1 (wM ad cy r.2)) (rec106 : (ST × Int32) → Option (Int32 × ST)) (hrec106 : ∀ a, rec106 a = some r → G x 0 0 106 [(0, .ref (ad 0)), (1, .int a.2)] [] (wM ad cy a.1)) (σ : ST) (x1 : Int32) (h : D_X9_image_L106_body rec106 σ x1 = some r) : G x 0 0 106 [(0, .ref (ad 0)), (1, .int x1)] [] (wM ad cy σ) := by
  unfold D_X9_image_L106_body at h
  refine G.iload_n E dX9_image_106 rfl 1 rfl ?_
  refine G.bipush (v := 6) E dX9_image_107 (by decide) ?_
  refine G.icmp_ge (tgt := 154) E dX9_image_109 (by decide) (fun q => ?_) (fun q => ?_)
  · have h := ite_t h q
    refine G.aload_n E dX9_image_154 rfl 0 rfl ?_
    refine G.get E inX9 0 rfl rfl 8 (by decide) (f706 E.fx) rfl dX9_image_155 ?_
    obtain rfl := Option.some.inj h
    exact K rfl _ _ dX9_image_158
  · have h := ite_f h q
    refine G.aload_n E dX9_image_112 rfl 0 rfl ?_
    refine G.get E inX9 0 rfl rfl 33 (by decide) (f731 E.fx) rfl dX9_image_113 ?_
    refine G.iload_n E dX9_image_116 rfl 1 rfl ?_
    refine G.aload_n E dX9_image_117 rfl 0 rfl ?_
    refine G.get E inX9 0 rfl rfl 10 (by decide) (f708 E.fx) rfl dX9_image_118 ?_
    refine G.iload_n E dX9_image_121 rfl 1 rfl ?_
    obtain ⟨hg, h⟩ := ite_n h
    refine G.iald E 4 0 rfl rfl hg dX9_image_122 ?_
    obtain ⟨hg, h⟩ := ite_n h
    refine G.iast (ws' := (wM ad cy (pA σ 14 x1.toNatClampNeg (gA σ 3 x1.toNatClampNeg)))) E 15 0 rfl rfl hg dX9_image_123 (wM_aI14 ad cy _ _ _) ?_
    refine G.aload_n E dX9_image_124 rfl 0 rfl ?_
    refine G.get E inX9 0 rfl rfl 34 (by decide) (f732 E.fx) rfl dX9_image_125 ?_
    refine G.iload_n E dX9_image_128 rfl 1 rfl ?_
    refine G.aload_n E dX9_image_129 rfl 0 rfl ?_
    refine G.get E inX9 0 rfl rfl 11 (by decide) (f709 E.fx) rfl dX9_image_130 ?_
    refine G.iload_n E dX9_image_133 rfl 1 rfl ?_
    obtain ⟨hg, h⟩ := ite_n h
    refine G.iald E 5 0 rfl rfl hg dX9_image_134 ?_
    obtain ⟨hg, h⟩ := ite_n h
    refine G.iast (ws' := (wM ad cy (pA (pA σ 14 x1.toNatClampNeg (gA σ 3 x1.toNatClampNeg)) 15 x1.toNatClampNeg (gA (pA σ 14 x1.toNatClampNeg (gA σ 3 x1.toNatClampNeg)) 4 x1.toNatClampNeg)))) E 16 0 rfl rfl hg dX9_image_135 (wM_aI15 ad cy _ _ _) ?_
    refine G.aload_n E dX9_image_136 rfl 0 rfl ?_
    refine G.get E inX9 0 rfl rfl 35 (by decide) (f733 E.fx) rfl dX9_image_137 ?_
    refine G.iload_n E dX9_image_140 rfl 1 rfl ?_
    refine G.aload_n E dX9_image_141 rfl 0 rfl ?_
    refine G.get E inX9 0 rfl rfl 12 (by decide) (f710 E.fx) rfl dX9_image_142 ?_
    refine G.iload_n E dX9_image_145 rfl 1 rfl ?_
    obtain ⟨hg, h⟩ := ite_n h
    refine G.iald E 6 0 rfl rfl hg dX9_image_146 ?_
    obtain ⟨hg, h⟩ := ite_n h
    refine G.iast (ws' := (wM ad cy (pA (pA (pA σ 14 x1.toNatClampNeg (gA σ 3 x1.toNatClampNeg)) 15 x1.toNatClampNeg (gA (pA σ 14 x1.toNatClampNeg (gA σ 3 x1.toNatClampNeg)) 4 x1.toNatClampNeg)) 16 x1.toNatClampNeg (gA (pA (pA σ 14 x1.toNatClampNeg (gA σ 3 x1.toNatClampNeg)) 15 x1.toNatClampNeg (gA (pA σ 14 x1.toNatClampNeg (gA σ 3 x1.toNatClampNeg)) 4 x1.toNatClampNeg)) 5 x1.toNatClampNeg)))) E 17 0 rfl rfl hg dX9_image_147 (wM_aI16 ad cy _ _ _) ?_
    refine G.sub (lv' := [(0, .ref (ad 0)), (1, .int x1)]) [0, 1] rfl ?_
    exact B_X9_image_b148 E K rec106 hrec106 (pA (pA (pA σ 14 x1.toNatClampNeg (gA σ 3 x1.toNatClampNeg)) 15 x1.toNatClampNeg (gA (pA σ 14 x1.toNatClampNeg (gA σ 3 x1.toNatClampNeg)) 4 x1.toNatClampNeg)) 16 x1.toNatClampNeg (gA (pA (pA σ 14 x1.toNatClampNeg (gA σ 3 x1.toNatClampNeg)) 15 x1.toNatClampNeg (gA (pA σ 14 x1.toNatClampNeg (gA σ 3 x1.toNatClampNeg)) 4 x1.toNatClampNeg)) 5 x1.toNatClampNeg)) x1 h
noncomputable def D_X9_image_L106  (σ : ST) (x1 : Int32) : Option (Int32 × ST) := itr (fun (rec106 : (ST × Int32) → Option (Int32 × ST)) (a : (ST × Int32)) => D_X9_image_L106_body rec106 a.1 a.2) 200 (σ, x1)
set_option maxRecDepth 100000 in
set_option maxHeartbeats 4000000 in
theorem B_X9_image_L106 {x : CX} {cy : Nat → ClassId} {ad : Nat → Nat} {r : (Int32 × ST)} (E : Ev x cy cX9_image RX9 2 0 0) (K : RetI x cX9_image .int r.1 (wM ad cy r.2))  (σ : ST) (x1 : Int32) (h : D_X9_image_L106 σ x1 = some r) : G x 0 0 106 [(0, .ref (ad 0)), (1, .int x1)] [] (wM ad cy σ) :=
  itr_ind (P := fun a => G x 0 0 106 [(0, .ref (ad 0)), (1, .int a.2)] [] (wM ad cy a.1)) (fun rec106 hrec106 a h => B_X9_image_L106_body E K rec106 hrec106 a.1 a.2 h) 200 (σ, x1) h
noncomputable def D_X9_image_b98 (rec57 : (ST × Int32) → Option (Int32 × ST)) (σ : ST) (x1 : Int32) : Option (Int32 × ST) := rec57 (σ, (x1 + 1))
set_option maxRecDepth 100000 in
set_option maxHeartbeats 4000000 in
theorem B_X9_image_b98 {x : CX} {cy : Nat → ClassId} {ad : Nat → Nat} {r : (Int32 × ST)} (E : Ev x cy cX9_image RX9 2 0 0) (K : RetI x cX9_image .int r.1 (wM ad cy r.2)) (rec57 : (ST × Int32) → Option (Int32 × ST)) (hrec57 : ∀ a, rec57 a = some r → G x 0 0 57 [(0, .ref (ad 0)), (1, .int a.2)] [] (wM ad cy a.1)) (σ : ST) (x1 : Int32) (h : D_X9_image_b98 rec57 σ x1 = some r) : G x 0 0 98 [(0, .ref (ad 0)), (1, .int x1)] [] (wM ad cy σ) := by
  unfold D_X9_image_b98 at h
  refine G.iinc (w := x1 + 1) (lv' := [(1, .int (x1 + 1)), (0, .ref (ad 0))]) E dX9_image_98 1 rfl rfl (by decide) rfl ?_
  refine G.goto (tgt := 57) E dX9_image_101 (by decide) ?_
  refine G.sub (lv' := [(0, .ref (ad 0)), (1, .int (x1 + 1))]) [1, 0] rfl ?_
  exact hrec57 (σ, (x1 + 1)) h
noncomputable def D_X9_image_L57_body (rec57 : (ST × Int32) → Option (Int32 × ST)) (σ : ST) (x1 : Int32) : Option (Int32 × ST) := if (4 : Int32) ≤ x1 then (D_X9_image_L106 σ (0 : Int32)) else (if x1 < 0 ∨ 4 ≤ x1.toNatClampNeg then none else (if x1 < 0 ∨ 4 ≤ x1.toNatClampNeg then none else (if x1 < 0 ∨ 4 ≤ x1.toNatClampNeg then none else (if x1 < 0 ∨ 4 ≤ x1.toNatClampNeg then none else (if x1 < 0 ∨ 4 ≤ x1.toNatClampNeg then none else (if x1 < 0 ∨ 4 ≤ x1.toNatClampNeg then none else (D_X9_image_b98 rec57 (pA (pA (pA σ 11 x1.toNatClampNeg (gA σ 0 x1.toNatClampNeg)) 12 x1.toNatClampNeg (gA (pA σ 11 x1.toNatClampNeg (gA σ 0 x1.toNatClampNeg)) 1 x1.toNatClampNeg)) 13 x1.toNatClampNeg (gA (pA (pA σ 11 x1.toNatClampNeg (gA σ 0 x1.toNatClampNeg)) 12 x1.toNatClampNeg (gA (pA σ 11 x1.toNatClampNeg (gA σ 0 x1.toNatClampNeg)) 1 x1.toNatClampNeg)) 2 x1.toNatClampNeg)) x1)))))))
set_option maxRecDepth 100000 in
set_option maxHeartbeats 4000000 in
theorem B_X9_image_L57_body {x : CX} {cy : Nat → ClassId} {ad : Nat → Nat} {r : (Int32 × ST)} (E : Ev x cy cX9_image RX9 2 0 0) (K : RetI x cX9_image .int r.1 (wM ad cy r.2)) (rec57 : (ST × Int32) → Option (Int32 × ST)) (hrec57 : ∀ a, rec57 a = some r → G x 0 0 57 [(0, .ref (ad 0)), (1, .int a.2)] [] (wM ad cy a.1)) (σ : ST) (x1 : Int32) (h : D_X9_image_L57_body rec57 σ x1 = some r) : G x 0 0 57 [(0, .ref (ad 0)), (1, .int x1)] [] (wM ad cy σ) := by
  unfold D_X9_image_L57_body at h
  refine G.iload_n E dX9_image_57 rfl 1 rfl ?_
  refine G.iconst (v := 4) E dX9_image_58 (by decide) ?_
  refine G.icmp_ge (tgt := 104) E dX9_image_59 (by decide) (fun q => ?_) (fun q => ?_)
  · have h := ite_t h q
    refine G.iconst (v := 0) E dX9_image_104 (by decide) ?_
    refine G.istore_n (lv' := [(1, .int (0 : Int32)), (0, .ref (ad 0))]) E dX9_image_105 rfl (by decide) rfl ?_
    refine G.sub (lv' := [(0, .ref (ad 0)), (1, .int (0 : Int32))]) [1, 0] rfl ?_
    exact B_X9_image_L106 E K σ (0 : Int32) h
  · have h := ite_f h q
    refine G.aload_n E dX9_image_62 rfl 0 rfl ?_
    refine G.get E inX9 0 rfl rfl 30 (by decide) (f728 E.fx) rfl dX9_image_63 ?_
    refine G.iload_n E dX9_image_66 rfl 1 rfl ?_
    refine G.aload_n E dX9_image_67 rfl 0 rfl ?_
    refine G.get E inX9 0 rfl rfl 3 (by decide) (f701 E.fx) rfl dX9_image_68 ?_
    refine G.iload_n E dX9_image_71 rfl 1 rfl ?_
    obtain ⟨hg, h⟩ := ite_n h
    refine G.iald E 1 0 rfl rfl hg dX9_image_72 ?_
    obtain ⟨hg, h⟩ := ite_n h
    refine G.iast (ws' := (wM ad cy (pA σ 11 x1.toNatClampNeg (gA σ 0 x1.toNatClampNeg)))) E 12 0 rfl rfl hg dX9_image_73 (wM_aI11 ad cy _ _ _) ?_
    refine G.aload_n E dX9_image_74 rfl 0 rfl ?_
    refine G.get E inX9 0 rfl rfl 31 (by decide) (f729 E.fx) rfl dX9_image_75 ?_
    refine G.iload_n E dX9_image_78 rfl 1 rfl ?_
    refine G.aload_n E dX9_image_79 rfl 0 rfl ?_
    refine G.get E inX9 0 rfl rfl 4 (by decide) (f702 E.fx) rfl dX9_image_80 ?_
    refine G.iload_n E dX9_image_83 rfl 1 rfl ?_
    obtain ⟨hg, h⟩ := ite_n h
    refine G.iald E 2 0 rfl rfl hg dX9_image_84 ?_
    obtain ⟨hg, h⟩ := ite_n h
    refine G.iast (ws' := (wM ad cy (pA (pA σ 11 x1.toNatClampNeg (gA σ 0 x1.toNatClampNeg)) 12 x1.toNatClampNeg (gA (pA σ 11 x1.toNatClampNeg (gA σ 0 x1.toNatClampNeg)) 1 x1.toNatClampNeg)))) E 13 0 rfl rfl hg dX9_image_85 (wM_aI12 ad cy _ _ _) ?_
    refine G.aload_n E dX9_image_86 rfl 0 rfl ?_
    refine G.get E inX9 0 rfl rfl 32 (by decide) (f730 E.fx) rfl dX9_image_87 ?_
    refine G.iload_n E dX9_image_90 rfl 1 rfl ?_
    refine G.aload_n E dX9_image_91 rfl 0 rfl ?_
    refine G.get E inX9 0 rfl rfl 5 (by decide) (f703 E.fx) rfl dX9_image_92 ?_
    refine G.iload_n E dX9_image_95 rfl 1 rfl ?_
    obtain ⟨hg, h⟩ := ite_n h
    refine G.iald E 3 0 rfl rfl hg dX9_image_96 ?_
    obtain ⟨hg, h⟩ := ite_n h
    refine G.iast (ws' := (wM ad cy (pA (pA (pA σ 11 x1.toNatClampNeg (gA σ 0 x1.toNatClampNeg)) 12 x1.toNatClampNeg (gA (pA σ 11 x1.toNatClampNeg (gA σ 0 x1.toNatClampNeg)) 1 x1.toNatClampNeg)) 13 x1.toNatClampNeg (gA (pA (pA σ 11 x1.toNatClampNeg (gA σ 0 x1.toNatClampNeg)) 12 x1.toNatClampNeg (gA (pA σ 11 x1.toNatClampNeg (gA σ 0 x1.toNatClampNeg)) 1 x1.toNatClampNeg)) 2 x1.toNatClampNeg)))) E 14 0 rfl rfl hg dX9_image_97 (wM_aI13 ad cy _ _ _) ?_
    refine G.sub (lv' := [(0, .ref (ad 0)), (1, .int x1)]) [0, 1] rfl ?_
    exact B_X9_image_b98 E K rec57 hrec57 (pA (pA (pA σ 11 x1.toNatClampNeg (gA σ 0 x1.toNatClampNeg)) 12 x1.toNatClampNeg (gA (pA σ 11 x1.toNatClampNeg (gA σ 0 x1.toNatClampNeg)) 1 x1.toNatClampNeg)) 13 x1.toNatClampNeg (gA (pA (pA σ 11 x1.toNatClampNeg (gA σ 0 x1.toNatClampNeg)) 12 x1.toNatClampNeg (gA (pA σ 11 x1.toNatClampNeg (gA σ 0 x1.toNatClampNeg)) 1 x1.toNatClampNeg)) 2 x1.toNatClampNeg)) x1 h
noncomputable def D_X9_image_L57  (σ : ST) (x1 : Int32) : Option (Int32 × ST) := itr (fun (rec57 : (ST × Int32) → Option (Int32 × ST)) (a : (ST × Int32)) => D_X9_image_L57_body rec57 a.1 a.2) 200 (σ, x1)
set_option maxRecDepth 100000 in
set_option maxHeartbeats 4000000 in
theorem B_X9_image_L57 {x : CX} {cy : Nat → ClassId} {ad : Nat → Nat} {r : (Int32 × ST)} (E : Ev x cy cX9_image RX9 2 0 0) (K : RetI x cX9_image .int r.1 (wM ad cy r.2))  (σ : ST) (x1 : Int32) (h : D_X9_image_L57 σ x1 = some r) : G x 0 0 57 [(0, .ref (ad 0)), (1, .int x1)] [] (wM ad cy σ) :=
  itr_ind (P := fun a => G x 0 0 57 [(0, .ref (ad 0)), (1, .int a.2)] [] (wM ad cy a.1)) (fun rec57 hrec57 a h => B_X9_image_L57_body E K rec57 hrec57 a.1 a.2 h) 200 (σ, x1) h
noncomputable def D_X9_image_b39  (σ : ST)  : Option (Int32 × ST) := D_X9_image_L57 (pI (pI σ 15 (gI σ 5)) 16 (gI (pI σ 15 (gI σ 5)) 6)) (0 : Int32)
set_option maxRecDepth 100000 in
set_option maxHeartbeats 4000000 in
theorem B_X9_image_b39 {x : CX} {cy : Nat → ClassId} {ad : Nat → Nat} {r : (Int32 × ST)} (E : Ev x cy cX9_image RX9 2 0 0) (K : RetI x cX9_image .int r.1 (wM ad cy r.2))  (σ : ST)  (h : D_X9_image_b39 σ = some r) : G x 0 0 39 [(0, .ref (ad 0))] [] (wM ad cy σ) := by
  unfold D_X9_image_b39 at h
  refine G.aload_n E dX9_image_39 rfl 0 rfl ?_
  refine G.aload_n E dX9_image_40 rfl 0 rfl ?_
  refine G.get E inX9 0 rfl rfl 8 (by decide) (f706 E.fx) rfl dX9_image_41 ?_
  refine G.put (ws' := (wM ad cy (pI σ 15 (gI σ 5)))) E inX9 tyX9 tyX9_ok nmX9 0 rfl rfl 28 (by decide) (f726 E.fx) rfl rfl rfl rfl (Nat.le_of_ble_eq_true rfl) dX9_image_44 (wM_fI15 ad cy _ _) ?_
  refine G.aload_n E dX9_image_47 rfl 0 rfl ?_
  refine G.aload_n E dX9_image_48 rfl 0 rfl ?_
  refine G.get E inX9 0 rfl rfl 9 (by decide) (f707 E.fx) rfl dX9_image_49 ?_
  refine G.put (ws' := (wM ad cy (pI (pI σ 15 (gI σ 5)) 16 (gI (pI σ 15 (gI σ 5)) 6)))) E inX9 tyX9 tyX9_ok nmX9 0 rfl rfl 29 (by decide) (f727 E.fx) rfl rfl rfl rfl (Nat.le_of_ble_eq_true rfl) dX9_image_52 (wM_fI16 ad cy _ _) ?_
  refine G.iconst (v := 0) E dX9_image_55 (by decide) ?_
  refine G.istore_n (lv' := [(1, .int (0 : Int32)), (0, .ref (ad 0))]) E dX9_image_56 rfl (by decide) rfl ?_
  refine G.sub (lv' := [(0, .ref (ad 0)), (1, .int (0 : Int32))]) [1, 0] rfl ?_
  exact B_X9_image_L57 E K (pI (pI σ 15 (gI σ 5)) 16 (gI (pI σ 15 (gI σ 5)) 6)) (0 : Int32) h
noncomputable def D_X9_image (σ : ST)  : Option (Int32 × ST) := if (gI σ 1) = 0 then (some ((-103 : Int32), σ)) else (D_X9_image_b39 (pI (pI (pI (pI σ 11 (1 : Int32)) 12 (gI (pI σ 11 (1 : Int32)) 0)) 13 (gI (pI (pI σ 11 (1 : Int32)) 12 (gI (pI σ 11 (1 : Int32)) 0)) 3)) 14 (gI (pI (pI (pI σ 11 (1 : Int32)) 12 (gI (pI σ 11 (1 : Int32)) 0)) 13 (gI (pI (pI σ 11 (1 : Int32)) 12 (gI (pI σ 11 (1 : Int32)) 0)) 3)) 4)))
set_option maxRecDepth 100000 in
set_option maxHeartbeats 4000000 in
theorem B_X9_image {x : CX} {cy : Nat → ClassId} {ad : Nat → Nat} {r : (Int32 × ST)} (E : Ev x cy cX9_image RX9 2 0 0) (K : RetI x cX9_image .int r.1 (wM ad cy r.2)) (σ : ST)  (h : D_X9_image σ = some r) : G x 0 0 0 [(0, .ref (ad 0))] [] (wM ad cy σ) := by
  unfold D_X9_image at h
  refine G.aload_n E dX9_image_0 rfl 0 rfl ?_
  refine G.get E inX9 0 rfl rfl 1 (by decide) (f699 E.fx) rfl dX9_image_1 ?_
  refine G.if_ne (tgt := 10) E dX9_image_4 (by decide) (fun q => ?_) (fun q => ?_)
  · have h := ite_f h q
    refine G.aload_n E dX9_image_10 rfl 0 rfl ?_
    refine G.iconst (v := 1) E dX9_image_11 (by decide) ?_
    refine G.put (ws' := (wM ad cy (pI σ 11 (1 : Int32)))) E inX9 tyX9 tyX9_ok nmX9 0 rfl rfl 24 (by decide) (f722 E.fx) rfl rfl rfl rfl (Nat.le_of_ble_eq_true rfl) dX9_image_12 (wM_fI11 ad cy _ _) ?_
    refine G.aload_n E dX9_image_15 rfl 0 rfl ?_
    refine G.aload_n E dX9_image_16 rfl 0 rfl ?_
    refine G.get E inX9 0 rfl rfl 0 (by decide) (f698 E.fx) rfl dX9_image_17 ?_
    refine G.put (ws' := (wM ad cy (pI (pI σ 11 (1 : Int32)) 12 (gI (pI σ 11 (1 : Int32)) 0)))) E inX9 tyX9 tyX9_ok nmX9 0 rfl rfl 25 (by decide) (f723 E.fx) rfl rfl rfl rfl (Nat.le_of_ble_eq_true rfl) dX9_image_20 (wM_fI12 ad cy _ _) ?_
    refine G.aload_n E dX9_image_23 rfl 0 rfl ?_
    refine G.aload_n E dX9_image_24 rfl 0 rfl ?_
    refine G.get E inX9 0 rfl rfl 6 (by decide) (f704 E.fx) rfl dX9_image_25 ?_
    refine G.put (ws' := (wM ad cy (pI (pI (pI σ 11 (1 : Int32)) 12 (gI (pI σ 11 (1 : Int32)) 0)) 13 (gI (pI (pI σ 11 (1 : Int32)) 12 (gI (pI σ 11 (1 : Int32)) 0)) 3)))) E inX9 tyX9 tyX9_ok nmX9 0 rfl rfl 26 (by decide) (f724 E.fx) rfl rfl rfl rfl (Nat.le_of_ble_eq_true rfl) dX9_image_28 (wM_fI13 ad cy _ _) ?_
    refine G.aload_n E dX9_image_31 rfl 0 rfl ?_
    refine G.aload_n E dX9_image_32 rfl 0 rfl ?_
    refine G.get E inX9 0 rfl rfl 7 (by decide) (f705 E.fx) rfl dX9_image_33 ?_
    refine G.put (ws' := (wM ad cy (pI (pI (pI (pI σ 11 (1 : Int32)) 12 (gI (pI σ 11 (1 : Int32)) 0)) 13 (gI (pI (pI σ 11 (1 : Int32)) 12 (gI (pI σ 11 (1 : Int32)) 0)) 3)) 14 (gI (pI (pI (pI σ 11 (1 : Int32)) 12 (gI (pI σ 11 (1 : Int32)) 0)) 13 (gI (pI (pI σ 11 (1 : Int32)) 12 (gI (pI σ 11 (1 : Int32)) 0)) 3)) 4)))) E inX9 tyX9 tyX9_ok nmX9 0 rfl rfl 27 (by decide) (f725 E.fx) rfl rfl rfl rfl (Nat.le_of_ble_eq_true rfl) dX9_image_36 (wM_fI14 ad cy _ _) ?_
    refine G.sub (lv' := [(0, .ref (ad 0))]) [0] rfl ?_
    exact B_X9_image_b39 E K (pI (pI (pI (pI σ 11 (1 : Int32)) 12 (gI (pI σ 11 (1 : Int32)) 0)) 13 (gI (pI (pI σ 11 (1 : Int32)) 12 (gI (pI σ 11 (1 : Int32)) 0)) 3)) 14 (gI (pI (pI (pI σ 11 (1 : Int32)) 12 (gI (pI σ 11 (1 : Int32)) 0)) 13 (gI (pI (pI σ 11 (1 : Int32)) 12 (gI (pI σ 11 (1 : Int32)) 0)) 3)) 4)) h
  · have h := ite_t h q
    refine G.bipush (v := -103) E dX9_image_7 (by decide) ?_
    obtain rfl := Option.some.inj h
    exact K rfl _ _ dX9_image_9
set_option maxRecDepth 100000 in
set_option maxHeartbeats 4000000 in
theorem C_X9_image {l : Launch} {D : va_G} {cy : Nat → ClassId} {ad : Nat → Nat} {σ : ST}  {r : (Int32 × ST)} (h : D_X9_image σ = some r) : MI l yX9_image cX9_image 2 (some .int) 0 0 D cy (wM ad cy σ) [.ref (ad 0)] r.1 (wM ad cy r.2) :=
  MI.mk (lv := [(0, .ref (ad 0))]) (by decide) (Nat.le_of_ble_eq_true rfl) rfl (fun x _ _ E K => B_X9_image E K σ h)

noncomputable def D_X9_restore_b146 (rec104 : (ST × Int32) → Option (Int32 × ST)) (σ : ST) (x1 : Int32) : Option (Int32 × ST) := rec104 (σ, (x1 + 1))
set_option maxRecDepth 100000 in
set_option maxHeartbeats 4000000 in
theorem B_X9_restore_b146 {x : CX} {cy : Nat → ClassId} {ad : Nat → Nat} {r : (Int32 × ST)} (E : Ev x cy cX9_restore RX9 2 0 0) (K : RetI x cX9_restore .int r.1 (wM ad cy r.2)) (rec104 : (ST × Int32) → Option (Int32 × ST)) (hrec104 : ∀ a, rec104 a = some r → G x 0 0 104 [(0, .ref (ad 0)), (1, .int a.2)] [] (wM ad cy a.1)) (σ : ST) (x1 : Int32) (h : D_X9_restore_b146 rec104 σ x1 = some r) : G x 0 0 146 [(0, .ref (ad 0)), (1, .int x1)] [] (wM ad cy σ) := by
  unfold D_X9_restore_b146 at h
  refine G.iinc (w := x1 + 1) (lv' := [(1, .int (x1 + 1)), (0, .ref (ad 0))]) E dX9_restore_146 1 rfl rfl (by decide) rfl ?_
  refine G.goto (tgt := 104) E dX9_restore_149 (by decide) ?_
  refine G.sub (lv' := [(0, .ref (ad 0)), (1, .int (x1 + 1))]) [1, 0] rfl ?_
  exact hrec104 (σ, (x1 + 1)) h
noncomputable def D_X9_restore_L104_body (rec104 : (ST × Int32) → Option (Int32 × ST)) (σ : ST) (x1 : Int32) : Option (Int32 × ST) := if (6 : Int32) ≤ x1 then (some (gI σ 5, σ)) else (if x1 < 0 ∨ 6 ≤ x1.toNatClampNeg then none else (if x1 < 0 ∨ 6 ≤ x1.toNatClampNeg then none else (if x1 < 0 ∨ 6 ≤ x1.toNatClampNeg then none else (if x1 < 0 ∨ 6 ≤ x1.toNatClampNeg then none else (if x1 < 0 ∨ 6 ≤ x1.toNatClampNeg then none else (if x1 < 0 ∨ 6 ≤ x1.toNatClampNeg then none else (D_X9_restore_b146 rec104 (pA (pA (pA σ 3 x1.toNatClampNeg (gA σ 14 x1.toNatClampNeg)) 4 x1.toNatClampNeg (gA (pA σ 3 x1.toNatClampNeg (gA σ 14 x1.toNatClampNeg)) 15 x1.toNatClampNeg)) 5 x1.toNatClampNeg (gA (pA (pA σ 3 x1.toNatClampNeg (gA σ 14 x1.toNatClampNeg)) 4 x1.toNatClampNeg (gA (pA σ 3 x1.toNatClampNeg (gA σ 14 x1.toNatClampNeg)) 15 x1.toNatClampNeg)) 16 x1.toNatClampNeg)) x1)))))))
set_option maxRecDepth 100000 in
set_option maxHeartbeats 4000000 in
theorem B_X9_restore_L104_body {x : CX} {cy : Nat → ClassId} {ad : Nat → Nat} {r : (Int32 × ST)} (E : Ev x cy cX9_restore RX9 2 0 0) (K : RetI x cX9_restore .int r.1 (wM ad cy r.2)) (rec104 : (ST × Int32) → Option (Int32 × ST)) (hrec104 : ∀ a, rec104 a = some r → G x 0 0 104 [(0, .ref (ad 0)), (1, .int a.2)] [] (wM ad cy a.1)) (σ : ST) (x1 : Int32) (h : D_X9_restore_L104_body rec104 σ x1 = some r) : G x 0 0 104 [(0, .ref (ad 0)), (1, .int x1)] [] (wM ad cy σ) := by
  unfold D_X9_restore_L104_body at h
  refine G.iload_n E dX9_restore_104 rfl 1 rfl ?_
  refine G.bipush (v := 6) E dX9_restore_105 (by decide) ?_
  refine G.icmp_ge (tgt := 152) E dX9_restore_107 (by decide) (fun q => ?_) (fun q => ?_)
  · have h := ite_t h q
    refine G.aload_n E dX9_restore_152 rfl 0 rfl ?_
    refine G.get E inX9 0 rfl rfl 8 (by decide) (f706 E.fx) rfl dX9_restore_153 ?_
    obtain rfl := Option.some.inj h
    exact K rfl _ _ dX9_restore_156
  · have h := ite_f h q
    refine G.aload_n E dX9_restore_110 rfl 0 rfl ?_
    refine G.get E inX9 0 rfl rfl 10 (by decide) (f708 E.fx) rfl dX9_restore_111 ?_
    refine G.iload_n E dX9_restore_114 rfl 1 rfl ?_
    refine G.aload_n E dX9_restore_115 rfl 0 rfl ?_
    refine G.get E inX9 0 rfl rfl 33 (by decide) (f731 E.fx) rfl dX9_restore_116 ?_
    refine G.iload_n E dX9_restore_119 rfl 1 rfl ?_
    obtain ⟨hg, h⟩ := ite_n h
    refine G.iald E 15 0 rfl rfl hg dX9_restore_120 ?_
    obtain ⟨hg, h⟩ := ite_n h
    refine G.iast (ws' := (wM ad cy (pA σ 3 x1.toNatClampNeg (gA σ 14 x1.toNatClampNeg)))) E 4 0 rfl rfl hg dX9_restore_121 (wM_aI3 ad cy _ _ _) ?_
    refine G.aload_n E dX9_restore_122 rfl 0 rfl ?_
    refine G.get E inX9 0 rfl rfl 11 (by decide) (f709 E.fx) rfl dX9_restore_123 ?_
    refine G.iload_n E dX9_restore_126 rfl 1 rfl ?_
    refine G.aload_n E dX9_restore_127 rfl 0 rfl ?_
    refine G.get E inX9 0 rfl rfl 34 (by decide) (f732 E.fx) rfl dX9_restore_128 ?_
    refine G.iload_n E dX9_restore_131 rfl 1 rfl ?_
    obtain ⟨hg, h⟩ := ite_n h
    refine G.iald E 16 0 rfl rfl hg dX9_restore_132 ?_
    obtain ⟨hg, h⟩ := ite_n h
    refine G.iast (ws' := (wM ad cy (pA (pA σ 3 x1.toNatClampNeg (gA σ 14 x1.toNatClampNeg)) 4 x1.toNatClampNeg (gA (pA σ 3 x1.toNatClampNeg (gA σ 14 x1.toNatClampNeg)) 15 x1.toNatClampNeg)))) E 5 0 rfl rfl hg dX9_restore_133 (wM_aI4 ad cy _ _ _) ?_
    refine G.aload_n E dX9_restore_134 rfl 0 rfl ?_
    refine G.get E inX9 0 rfl rfl 12 (by decide) (f710 E.fx) rfl dX9_restore_135 ?_
    refine G.iload_n E dX9_restore_138 rfl 1 rfl ?_
    refine G.aload_n E dX9_restore_139 rfl 0 rfl ?_
    refine G.get E inX9 0 rfl rfl 35 (by decide) (f733 E.fx) rfl dX9_restore_140 ?_
    refine G.iload_n E dX9_restore_143 rfl 1 rfl ?_
    obtain ⟨hg, h⟩ := ite_n h
    refine G.iald E 17 0 rfl rfl hg dX9_restore_144 ?_
    obtain ⟨hg, h⟩ := ite_n h
    refine G.iast (ws' := (wM ad cy (pA (pA (pA σ 3 x1.toNatClampNeg (gA σ 14 x1.toNatClampNeg)) 4 x1.toNatClampNeg (gA (pA σ 3 x1.toNatClampNeg (gA σ 14 x1.toNatClampNeg)) 15 x1.toNatClampNeg)) 5 x1.toNatClampNeg (gA (pA (pA σ 3 x1.toNatClampNeg (gA σ 14 x1.toNatClampNeg)) 4 x1.toNatClampNeg (gA (pA σ 3 x1.toNatClampNeg (gA σ 14 x1.toNatClampNeg)) 15 x1.toNatClampNeg)) 16 x1.toNatClampNeg)))) E 6 0 rfl rfl hg dX9_restore_145 (wM_aI5 ad cy _ _ _) ?_
    refine G.sub (lv' := [(0, .ref (ad 0)), (1, .int x1)]) [0, 1] rfl ?_
    exact B_X9_restore_b146 E K rec104 hrec104 (pA (pA (pA σ 3 x1.toNatClampNeg (gA σ 14 x1.toNatClampNeg)) 4 x1.toNatClampNeg (gA (pA σ 3 x1.toNatClampNeg (gA σ 14 x1.toNatClampNeg)) 15 x1.toNatClampNeg)) 5 x1.toNatClampNeg (gA (pA (pA σ 3 x1.toNatClampNeg (gA σ 14 x1.toNatClampNeg)) 4 x1.toNatClampNeg (gA (pA σ 3 x1.toNatClampNeg (gA σ 14 x1.toNatClampNeg)) 15 x1.toNatClampNeg)) 16 x1.toNatClampNeg)) x1 h
noncomputable def D_X9_restore_L104  (σ : ST) (x1 : Int32) : Option (Int32 × ST) := itr (fun (rec104 : (ST × Int32) → Option (Int32 × ST)) (a : (ST × Int32)) => D_X9_restore_L104_body rec104 a.1 a.2) 200 (σ, x1)
set_option maxRecDepth 100000 in
set_option maxHeartbeats 4000000 in
theorem B_X9_restore_L104 {x : CX} {cy : Nat → ClassId} {ad : Nat → Nat} {r : (Int32 × ST)} (E : Ev x cy cX9_restore RX9 2 0 0) (K : RetI x cX9_restore .int r.1 (wM ad cy r.2))  (σ : ST) (x1 : Int32) (h : D_X9_restore_L104 σ x1 = some r) : G x 0 0 104 [(0, .ref (ad 0)), (1, .int x1)] [] (wM ad cy σ) :=
  itr_ind (P := fun a => G x 0 0 104 [(0, .ref (ad 0)), (1, .int a.2)] [] (wM ad cy a.1)) (fun rec104 hrec104 a h => B_X9_restore_L104_body E K rec104 hrec104 a.1 a.2 h) 200 (σ, x1) h
noncomputable def D_X9_restore_b96 (rec55 : (ST × Int32) → Option (Int32 × ST)) (σ : ST) (x1 : Int32) : Option (Int32 × ST) := rec55 (σ, (x1 + 1))
set_option maxRecDepth 100000 in
set_option maxHeartbeats 4000000 in
theorem B_X9_restore_b96 {x : CX} {cy : Nat → ClassId} {ad : Nat → Nat} {r : (Int32 × ST)} (E : Ev x cy cX9_restore RX9 2 0 0) (K : RetI x cX9_restore .int r.1 (wM ad cy r.2)) (rec55 : (ST × Int32) → Option (Int32 × ST)) (hrec55 : ∀ a, rec55 a = some r → G x 0 0 55 [(0, .ref (ad 0)), (1, .int a.2)] [] (wM ad cy a.1)) (σ : ST) (x1 : Int32) (h : D_X9_restore_b96 rec55 σ x1 = some r) : G x 0 0 96 [(0, .ref (ad 0)), (1, .int x1)] [] (wM ad cy σ) := by
  unfold D_X9_restore_b96 at h
  refine G.iinc (w := x1 + 1) (lv' := [(1, .int (x1 + 1)), (0, .ref (ad 0))]) E dX9_restore_96 1 rfl rfl (by decide) rfl ?_
  refine G.goto (tgt := 55) E dX9_restore_99 (by decide) ?_
  refine G.sub (lv' := [(0, .ref (ad 0)), (1, .int (x1 + 1))]) [1, 0] rfl ?_
  exact hrec55 (σ, (x1 + 1)) h
noncomputable def D_X9_restore_L55_body (rec55 : (ST × Int32) → Option (Int32 × ST)) (σ : ST) (x1 : Int32) : Option (Int32 × ST) := if (4 : Int32) ≤ x1 then (D_X9_restore_L104 σ (0 : Int32)) else (if x1 < 0 ∨ 4 ≤ x1.toNatClampNeg then none else (if x1 < 0 ∨ 4 ≤ x1.toNatClampNeg then none else (if x1 < 0 ∨ 4 ≤ x1.toNatClampNeg then none else (if x1 < 0 ∨ 4 ≤ x1.toNatClampNeg then none else (if x1 < 0 ∨ 4 ≤ x1.toNatClampNeg then none else (if x1 < 0 ∨ 4 ≤ x1.toNatClampNeg then none else (D_X9_restore_b96 rec55 (pA (pA (pA σ 0 x1.toNatClampNeg (gA σ 11 x1.toNatClampNeg)) 1 x1.toNatClampNeg (gA (pA σ 0 x1.toNatClampNeg (gA σ 11 x1.toNatClampNeg)) 12 x1.toNatClampNeg)) 2 x1.toNatClampNeg (gA (pA (pA σ 0 x1.toNatClampNeg (gA σ 11 x1.toNatClampNeg)) 1 x1.toNatClampNeg (gA (pA σ 0 x1.toNatClampNeg (gA σ 11 x1.toNatClampNeg)) 12 x1.toNatClampNeg)) 13 x1.toNatClampNeg)) x1)))))))
set_option maxRecDepth 100000 in
set_option maxHeartbeats 4000000 in
theorem B_X9_restore_L55_body {x : CX} {cy : Nat → ClassId} {ad : Nat → Nat} {r : (Int32 × ST)} (E : Ev x cy cX9_restore RX9 2 0 0) (K : RetI x cX9_restore .int r.1 (wM ad cy r.2)) (rec55 : (ST × Int32) → Option (Int32 × ST)) (hrec55 : ∀ a, rec55 a = some r → G x 0 0 55 [(0, .ref (ad 0)), (1, .int a.2)] [] (wM ad cy a.1)) (σ : ST) (x1 : Int32) (h : D_X9_restore_L55_body rec55 σ x1 = some r) : G x 0 0 55 [(0, .ref (ad 0)), (1, .int x1)] [] (wM ad cy σ) := by
  unfold D_X9_restore_L55_body at h
  refine G.iload_n E dX9_restore_55 rfl 1 rfl ?_
  refine G.iconst (v := 4) E dX9_restore_56 (by decide) ?_
  refine G.icmp_ge (tgt := 102) E dX9_restore_57 (by decide) (fun q => ?_) (fun q => ?_)
  · have h := ite_t h q
    refine G.iconst (v := 0) E dX9_restore_102 (by decide) ?_
    refine G.istore_n (lv' := [(1, .int (0 : Int32)), (0, .ref (ad 0))]) E dX9_restore_103 rfl (by decide) rfl ?_
    refine G.sub (lv' := [(0, .ref (ad 0)), (1, .int (0 : Int32))]) [1, 0] rfl ?_
    exact B_X9_restore_L104 E K σ (0 : Int32) h
  · have h := ite_f h q
    refine G.aload_n E dX9_restore_60 rfl 0 rfl ?_
    refine G.get E inX9 0 rfl rfl 3 (by decide) (f701 E.fx) rfl dX9_restore_61 ?_
    refine G.iload_n E dX9_restore_64 rfl 1 rfl ?_
    refine G.aload_n E dX9_restore_65 rfl 0 rfl ?_
    refine G.get E inX9 0 rfl rfl 30 (by decide) (f728 E.fx) rfl dX9_restore_66 ?_
    refine G.iload_n E dX9_restore_69 rfl 1 rfl ?_
    obtain ⟨hg, h⟩ := ite_n h
    refine G.iald E 12 0 rfl rfl hg dX9_restore_70 ?_
    obtain ⟨hg, h⟩ := ite_n h
    refine G.iast (ws' := (wM ad cy (pA σ 0 x1.toNatClampNeg (gA σ 11 x1.toNatClampNeg)))) E 1 0 rfl rfl hg dX9_restore_71 (wM_aI0 ad cy _ _ _) ?_
    refine G.aload_n E dX9_restore_72 rfl 0 rfl ?_
    refine G.get E inX9 0 rfl rfl 4 (by decide) (f702 E.fx) rfl dX9_restore_73 ?_
    refine G.iload_n E dX9_restore_76 rfl 1 rfl ?_
    refine G.aload_n E dX9_restore_77 rfl 0 rfl ?_
    refine G.get E inX9 0 rfl rfl 31 (by decide) (f729 E.fx) rfl dX9_restore_78 ?_
    refine G.iload_n E dX9_restore_81 rfl 1 rfl ?_
    obtain ⟨hg, h⟩ := ite_n h
    refine G.iald E 13 0 rfl rfl hg dX9_restore_82 ?_
    obtain ⟨hg, h⟩ := ite_n h
    refine G.iast (ws' := (wM ad cy (pA (pA σ 0 x1.toNatClampNeg (gA σ 11 x1.toNatClampNeg)) 1 x1.toNatClampNeg (gA (pA σ 0 x1.toNatClampNeg (gA σ 11 x1.toNatClampNeg)) 12 x1.toNatClampNeg)))) E 2 0 rfl rfl hg dX9_restore_83 (wM_aI1 ad cy _ _ _) ?_
    refine G.aload_n E dX9_restore_84 rfl 0 rfl ?_
    refine G.get E inX9 0 rfl rfl 5 (by decide) (f703 E.fx) rfl dX9_restore_85 ?_
    refine G.iload_n E dX9_restore_88 rfl 1 rfl ?_
    refine G.aload_n E dX9_restore_89 rfl 0 rfl ?_
    refine G.get E inX9 0 rfl rfl 32 (by decide) (f730 E.fx) rfl dX9_restore_90 ?_
    refine G.iload_n E dX9_restore_93 rfl 1 rfl ?_
    obtain ⟨hg, h⟩ := ite_n h
    refine G.iald E 14 0 rfl rfl hg dX9_restore_94 ?_
    obtain ⟨hg, h⟩ := ite_n h
    refine G.iast (ws' := (wM ad cy (pA (pA (pA σ 0 x1.toNatClampNeg (gA σ 11 x1.toNatClampNeg)) 1 x1.toNatClampNeg (gA (pA σ 0 x1.toNatClampNeg (gA σ 11 x1.toNatClampNeg)) 12 x1.toNatClampNeg)) 2 x1.toNatClampNeg (gA (pA (pA σ 0 x1.toNatClampNeg (gA σ 11 x1.toNatClampNeg)) 1 x1.toNatClampNeg (gA (pA σ 0 x1.toNatClampNeg (gA σ 11 x1.toNatClampNeg)) 12 x1.toNatClampNeg)) 13 x1.toNatClampNeg)))) E 3 0 rfl rfl hg dX9_restore_95 (wM_aI2 ad cy _ _ _) ?_
    refine G.sub (lv' := [(0, .ref (ad 0)), (1, .int x1)]) [0, 1] rfl ?_
    exact B_X9_restore_b96 E K rec55 hrec55 (pA (pA (pA σ 0 x1.toNatClampNeg (gA σ 11 x1.toNatClampNeg)) 1 x1.toNatClampNeg (gA (pA σ 0 x1.toNatClampNeg (gA σ 11 x1.toNatClampNeg)) 12 x1.toNatClampNeg)) 2 x1.toNatClampNeg (gA (pA (pA σ 0 x1.toNatClampNeg (gA σ 11 x1.toNatClampNeg)) 1 x1.toNatClampNeg (gA (pA σ 0 x1.toNatClampNeg (gA σ 11 x1.toNatClampNeg)) 12 x1.toNatClampNeg)) 13 x1.toNatClampNeg)) x1 h
noncomputable def D_X9_restore_L55  (σ : ST) (x1 : Int32) : Option (Int32 × ST) := itr (fun (rec55 : (ST × Int32) → Option (Int32 × ST)) (a : (ST × Int32)) => D_X9_restore_L55_body rec55 a.1 a.2) 200 (σ, x1)
set_option maxRecDepth 100000 in
set_option maxHeartbeats 4000000 in
theorem B_X9_restore_L55 {x : CX} {cy : Nat → ClassId} {ad : Nat → Nat} {r : (Int32 × ST)} (E : Ev x cy cX9_restore RX9 2 0 0) (K : RetI x cX9_restore .int r.1 (wM ad cy r.2))  (σ : ST) (x1 : Int32) (h : D_X9_restore_L55 σ x1 = some r) : G x 0 0 55 [(0, .ref (ad 0)), (1, .int x1)] [] (wM ad cy σ) :=
  itr_ind (P := fun a => G x 0 0 55 [(0, .ref (ad 0)), (1, .int a.2)] [] (wM ad cy a.1)) (fun rec55 hrec55 a h => B_X9_restore_L55_body E K rec55 hrec55 a.1 a.2 h) 200 (σ, x1) h
noncomputable def D_X9_restore_b53  (σ : ST)  : Option (Int32 × ST) := D_X9_restore_L55 σ (0 : Int32)
set_option maxRecDepth 100000 in
set_option maxHeartbeats 4000000 in
theorem B_X9_restore_b53 {x : CX} {cy : Nat → ClassId} {ad : Nat → Nat} {r : (Int32 × ST)} (E : Ev x cy cX9_restore RX9 2 0 0) (K : RetI x cX9_restore .int r.1 (wM ad cy r.2))  (σ : ST)  (h : D_X9_restore_b53 σ = some r) : G x 0 0 53 [(0, .ref (ad 0))] [] (wM ad cy σ) := by
  unfold D_X9_restore_b53 at h
  refine G.iconst (v := 0) E dX9_restore_53 (by decide) ?_
  refine G.istore_n (lv' := [(1, .int (0 : Int32)), (0, .ref (ad 0))]) E dX9_restore_54 rfl (by decide) rfl ?_
  refine G.sub (lv' := [(0, .ref (ad 0)), (1, .int (0 : Int32))]) [1, 0] rfl ?_
  exact B_X9_restore_L55 E K σ (0 : Int32) h
noncomputable def D_X9_restore (σ : ST)  : Option (Int32 × ST) := if (gI σ 11) = 0 then (some ((-103 : Int32), σ)) else (if (gI σ 12) = (gI σ 0) then (D_X9_restore_b53 (pI (pI (pI (pI σ 3 (gI σ 13)) 4 (gI (pI σ 3 (gI σ 13)) 14)) 5 (gI (pI (pI σ 3 (gI σ 13)) 4 (gI (pI σ 3 (gI σ 13)) 14)) 15)) 6 (gI (pI (pI (pI σ 3 (gI σ 13)) 4 (gI (pI σ 3 (gI σ 13)) 14)) 5 (gI (pI (pI σ 3 (gI σ 13)) 4 (gI (pI σ 3 (gI σ 13)) 14)) 15)) 16))) else (some ((-103 : Int32), σ)))
set_option maxRecDepth 100000 in
set_option maxHeartbeats 4000000 in
theorem B_X9_restore {x : CX} {cy : Nat → ClassId} {ad : Nat → Nat} {r : (Int32 × ST)} (E : Ev x cy cX9_restore RX9 2 0 0) (K : RetI x cX9_restore .int r.1 (wM ad cy r.2)) (σ : ST)  (h : D_X9_restore σ = some r) : G x 0 0 0 [(0, .ref (ad 0))] [] (wM ad cy σ) := by
  unfold D_X9_restore at h
  refine G.aload_n E dX9_restore_0 rfl 0 rfl ?_
  refine G.get E inX9 0 rfl rfl 24 (by decide) (f722 E.fx) rfl dX9_restore_1 ?_
  refine G.if_eq (tgt := 18) E dX9_restore_4 (by decide) (fun q => ?_) (fun q => ?_)
  · have h := ite_t h q
    refine G.bipush (v := -103) E dX9_restore_18 (by decide) ?_
    obtain rfl := Option.some.inj h
    exact K rfl _ _ dX9_restore_20
  · have h := ite_f h q
    refine G.aload_n E dX9_restore_7 rfl 0 rfl ?_
    refine G.get E inX9 0 rfl rfl 25 (by decide) (f723 E.fx) rfl dX9_restore_8 ?_
    refine G.aload_n E dX9_restore_11 rfl 0 rfl ?_
    refine G.get E inX9 0 rfl rfl 0 (by decide) (f698 E.fx) rfl dX9_restore_12 ?_
    refine G.icmp_eq (tgt := 21) E dX9_restore_15 (by decide) (fun q => ?_) (fun q => ?_)
    · have h := ite_t h q
      refine G.aload_n E dX9_restore_21 rfl 0 rfl ?_
      refine G.aload_n E dX9_restore_22 rfl 0 rfl ?_
      refine G.get E inX9 0 rfl rfl 26 (by decide) (f724 E.fx) rfl dX9_restore_23 ?_
      refine G.put (ws' := (wM ad cy (pI σ 3 (gI σ 13)))) E inX9 tyX9 tyX9_ok nmX9 0 rfl rfl 6 (by decide) (f704 E.fx) rfl rfl rfl rfl (Nat.le_of_ble_eq_true rfl) dX9_restore_26 (wM_fI3 ad cy _ _) ?_
      refine G.aload_n E dX9_restore_29 rfl 0 rfl ?_
      refine G.aload_n E dX9_restore_30 rfl 0 rfl ?_
      refine G.get E inX9 0 rfl rfl 27 (by decide) (f725 E.fx) rfl dX9_restore_31 ?_
      refine G.put (ws' := (wM ad cy (pI (pI σ 3 (gI σ 13)) 4 (gI (pI σ 3 (gI σ 13)) 14)))) E inX9 tyX9 tyX9_ok nmX9 0 rfl rfl 7 (by decide) (f705 E.fx) rfl rfl rfl rfl (Nat.le_of_ble_eq_true rfl) dX9_restore_34 (wM_fI4 ad cy _ _) ?_
      refine G.aload_n E dX9_restore_37 rfl 0 rfl ?_
      refine G.aload_n E dX9_restore_38 rfl 0 rfl ?_
      refine G.get E inX9 0 rfl rfl 28 (by decide) (f726 E.fx) rfl dX9_restore_39 ?_
      refine G.put (ws' := (wM ad cy (pI (pI (pI σ 3 (gI σ 13)) 4 (gI (pI σ 3 (gI σ 13)) 14)) 5 (gI (pI (pI σ 3 (gI σ 13)) 4 (gI (pI σ 3 (gI σ 13)) 14)) 15)))) E inX9 tyX9 tyX9_ok nmX9 0 rfl rfl 8 (by decide) (f706 E.fx) rfl rfl rfl rfl (Nat.le_of_ble_eq_true rfl) dX9_restore_42 (wM_fI5 ad cy _ _) ?_
      refine G.aload_n E dX9_restore_45 rfl 0 rfl ?_
      refine G.aload_n E dX9_restore_46 rfl 0 rfl ?_
      refine G.get E inX9 0 rfl rfl 29 (by decide) (f727 E.fx) rfl dX9_restore_47 ?_
      refine G.put (ws' := (wM ad cy (pI (pI (pI (pI σ 3 (gI σ 13)) 4 (gI (pI σ 3 (gI σ 13)) 14)) 5 (gI (pI (pI σ 3 (gI σ 13)) 4 (gI (pI σ 3 (gI σ 13)) 14)) 15)) 6 (gI (pI (pI (pI σ 3 (gI σ 13)) 4 (gI (pI σ 3 (gI σ 13)) 14)) 5 (gI (pI (pI σ 3 (gI σ 13)) 4 (gI (pI σ 3 (gI σ 13)) 14)) 15)) 16)))) E inX9 tyX9 tyX9_ok nmX9 0 rfl rfl 9 (by decide) (f707 E.fx) rfl rfl rfl rfl (Nat.le_of_ble_eq_true rfl) dX9_restore_50 (wM_fI6 ad cy _ _) ?_
      refine G.sub (lv' := [(0, .ref (ad 0))]) [0] rfl ?_
      exact B_X9_restore_b53 E K (pI (pI (pI (pI σ 3 (gI σ 13)) 4 (gI (pI σ 3 (gI σ 13)) 14)) 5 (gI (pI (pI σ 3 (gI σ 13)) 4 (gI (pI σ 3 (gI σ 13)) 14)) 15)) 6 (gI (pI (pI (pI σ 3 (gI σ 13)) 4 (gI (pI σ 3 (gI σ 13)) 14)) 5 (gI (pI (pI σ 3 (gI σ 13)) 4 (gI (pI σ 3 (gI σ 13)) 14)) 15)) 16)) h
    · have h := ite_f h q
      refine G.bipush (v := -103) E dX9_restore_18 (by decide) ?_
      obtain rfl := Option.some.inj h
      exact K rfl _ _ dX9_restore_20
set_option maxRecDepth 100000 in
set_option maxHeartbeats 4000000 in
theorem C_X9_restore {l : Launch} {D : va_G} {cy : Nat → ClassId} {ad : Nat → Nat} {σ : ST}  {r : (Int32 × ST)} (h : D_X9_restore σ = some r) : MI l yX9_restore cX9_restore 2 (some .int) 0 0 D cy (wM ad cy σ) [.ref (ad 0)] r.1 (wM ad cy r.2) :=
  MI.mk (lv := [(0, .ref (ad 0))]) (by decide) (Nat.le_of_ble_eq_true rfl) rfl (fun x _ _ E K => B_X9_restore E K σ h)

noncomputable def D_X9_tailNow (σ : ST)  : Option Int32 := if (gI σ 1) = 0 then (some (-1 : Int32)) else (if (gI σ 2) ≤ (gI σ 3) then ((D_X9_rows σ).bind fun r1 => some ((gI σ 4) &&& (r1 - (1 : Int32)))) else (some (-1 : Int32)))
set_option maxRecDepth 100000 in
set_option maxHeartbeats 4000000 in
theorem B_X9_tailNow {x : CX} {cy : Nat → ClassId} {ad : Nat → Nat} {r : Int32} {σ : ST} (E : Ev x cy cX9_tailNow RX9 1 1 20) (K : RetI x cX9_tailNow .int r (wM ad cy σ))  (h : D_X9_tailNow σ = some r) : G x 0 0 0 [(0, .ref (ad 0))] [] (wM ad cy σ) := by
  unfold D_X9_tailNow at h
  refine G.aload_n E dX9_tailNow_0 rfl 0 rfl ?_
  refine G.get E inX9 0 rfl rfl 1 (by decide) (f699 E.fx) rfl dX9_tailNow_1 ?_
  refine G.if_eq (tgt := 18) E dX9_tailNow_4 (by decide) (fun q => ?_) (fun q => ?_)
  · have h := ite_t h q
    refine G.iconst (v := -1) E dX9_tailNow_18 (by decide) ?_
    refine G.goto (tgt := 33) E dX9_tailNow_19 (by decide) ?_
    obtain rfl := Option.some.inj h
    exact K rfl _ _ dX9_tailNow_33
  · have h := ite_f h q
    refine G.aload_n E dX9_tailNow_7 rfl 0 rfl ?_
    refine G.get E inX9 0 rfl rfl 6 (by decide) (f704 E.fx) rfl dX9_tailNow_8 ?_
    refine G.aload_n E dX9_tailNow_11 rfl 0 rfl ?_
    refine G.get E inX9 0 rfl rfl 2 (by decide) (f700 E.fx) rfl dX9_tailNow_12 ?_
    refine G.icmp_ge (tgt := 22) E dX9_tailNow_15 (by decide) (fun q => ?_) (fun q => ?_)
    · have h := ite_t h q
      refine G.aload_n E dX9_tailNow_22 rfl 0 rfl ?_
      refine G.get E inX9 0 rfl rfl 7 (by decide) (f705 E.fx) rfl dX9_tailNow_23 ?_
      refine G.aload_n E dX9_tailNow_26 rfl 0 rfl ?_
      obtain ⟨r1, h2, h⟩ := bind_s h
      refine G.retI E (runV (st := [.int (gI σ 4)]) (As := []) E (C_X9_rows h2) ck_X9_rows (f868 E.fx) (f870 E.fx) (f34 E.fx) 0 9 rfl rfl rfl (by decide) (by decide) rfl (Nat.le_of_ble_eq_true rfl) dX9_tailNow_27 ⟨Nat.zero_le _, Nat.zero_le _⟩) ?_
      refine G.iconst (v := 1) E dX9_tailNow_30 (by decide) ?_
      refine G.isub E dX9_tailNow_31 ?_
      refine G.iand E dX9_tailNow_32 ?_
      obtain rfl := Option.some.inj h
      exact K rfl _ _ dX9_tailNow_33
    · have h := ite_f h q
      refine G.iconst (v := -1) E dX9_tailNow_18 (by decide) ?_
      refine G.goto (tgt := 33) E dX9_tailNow_19 (by decide) ?_
      obtain rfl := Option.some.inj h
      exact K rfl _ _ dX9_tailNow_33
set_option maxRecDepth 100000 in
set_option maxHeartbeats 4000000 in
theorem C_X9_tailNow {l : Launch} {D : va_G} {cy : Nat → ClassId} {ad : Nat → Nat} {σ : ST}  {r : Int32} (h : D_X9_tailNow σ = some r) : MI l yX9_tailNow cX9_tailNow 1 (some .int) 1 20 D cy (wM ad cy σ) [.ref (ad 0)] r (wM ad cy σ) :=
  MI.mk (lv := [(0, .ref (ad 0))]) (by decide) (Nat.le_of_ble_eq_true rfl) rfl (fun x _ _ E K => B_X9_tailNow E K  h)
