noncomputable def D_X9_hits (σ : ST) (p1 : Int32) (p2 : Int32) : Option Int32 := (D_X9_isPlayer σ p1).bind fun r1 => if r1 = 0 then (some (-101 : Int32)) else ((D_X9_isRow σ p2).bind fun r3 => if r3 = 0 then (some (-102 : Int32)) else ((D_X9_hitsOf σ p1).bind fun r5 => some ((r5 >>> (p2 &&& 31)) &&& (1 : Int32))))
set_option maxRecDepth 100000 in
set_option maxHeartbeats 4000000 in
theorem B_X9_hits {x : CX} {cy : Nat → ClassId} {ad : Nat → Nat} {r : Int32} {σ : ST} (E : Ev x cy cX9_hits RX9 3 3 69) (K : RetI x cX9_hits .int r (wM ad cy σ)) (p1 : Int32) (p2 : Int32) (h : D_X9_hits σ p1 p2 = some r) : G x 0 0 0 [(0, .ref (ad 0)), (1, .int p1), (2, .int p2)] [] (wM ad cy σ) := by
  unfold D_X9_hits at h
  refine G.aload_n E dX9_hits_0 rfl 0 rfl ?_
  refine G.iload_n E dX9_hits_1 rfl 1 rfl ?_
  obtain ⟨r1, h2, h⟩ := bind_s h
  refine G.retI E (runV (st := []) (As := [.int p1]) E (C_X9_isPlayer h2) ck_X9_isPlayer (f852 E.fx) (f854 E.fx) (f30 E.fx) 0 9 rfl rfl rfl (by decide) (by decide) rfl (Nat.le_of_ble_eq_true rfl) dX9_hits_2 ⟨Nat.zero_le _, Nat.zero_le _⟩) ?_
  refine G.if_ne (tgt := 11) E dX9_hits_5 (by decide) (fun q => ?_) (fun q => ?_)
  · have h := ite_f h q
    refine G.aload_n E dX9_hits_11 rfl 0 rfl ?_
    refine G.iload_n E dX9_hits_12 rfl 2 rfl ?_
    obtain ⟨r3, h4, h⟩ := bind_s h
    refine G.retI E (runV (st := []) (As := [.int p2]) E (C_X9_isRow h4) ck_X9_isRow (f929 E.fx) (f931 E.fx) (f45 E.fx) 0 9 rfl rfl rfl (by decide) (by decide) rfl (Nat.le_of_ble_eq_true rfl) dX9_hits_13 ⟨Nat.zero_le _, Nat.zero_le _⟩) ?_
    refine G.if_ne (tgt := 24) E dX9_hits_16 (by decide) (fun q => ?_) (fun q => ?_)
    · have h := ite_f h q
      refine G.aload_n E dX9_hits_24 rfl 0 rfl ?_
      refine G.iload_n E dX9_hits_25 rfl 1 rfl ?_
      obtain ⟨r5, h6, h⟩ := bind_s h
      refine G.retI E (runV (st := []) (As := [.int p1]) E (C_X9_hitsOf h6) ck_X9_hitsOf (f860 E.fx) (f862 E.fx) (f32 E.fx) 0 9 rfl rfl rfl (by decide) (by decide) rfl (Nat.le_of_ble_eq_true rfl) dX9_hits_26 ⟨Nat.zero_le _, Nat.zero_le _⟩) ?_
      refine G.iload_n E dX9_hits_29 rfl 2 rfl ?_
      refine G.ishr E dX9_hits_30 ?_
      refine G.iconst (v := 1) E dX9_hits_31 (by decide) ?_
      refine G.iand E dX9_hits_32 ?_
      obtain rfl := Option.some.inj h
      exact K rfl _ _ dX9_hits_33
    · have h := ite_t h q
      refine G.bipush (v := -102) E dX9_hits_19 (by decide) ?_
      refine G.goto (tgt := 33) E dX9_hits_21 (by decide) ?_
      obtain rfl := Option.some.inj h
      exact K rfl _ _ dX9_hits_33
  · have h := ite_t h q
    refine G.bipush (v := -101) E dX9_hits_8 (by decide) ?_
    obtain rfl := Option.some.inj h
    exact K rfl _ _ dX9_hits_10
set_option maxRecDepth 100000 in
set_option maxHeartbeats 4000000 in
theorem C_X9_hits {l : Launch} {D : va_G} {cy : Nat → ClassId} {ad : Nat → Nat} {σ : ST} {p1 : Int32} {p2 : Int32} {r : Int32} (h : D_X9_hits σ p1 p2 = some r) : MI l yX9_hits cX9_hits 3 (some .int) 3 69 D cy (wM ad cy σ) [.ref (ad 0), .int p1, .int p2] r (wM ad cy σ) :=
  MI.mk (lv := [(0, .ref (ad 0)), (1, .int p1), (2, .int p2)]) (by decide) (Nat.le_of_ble_eq_true rfl) rfl (fun x _ _ E K => B_X9_hits E K p1 p2 h)

noncomputable def D_X9_whoHits_b51 (rec5 : (Int32 × Int32 × Int32 × Int32) → Option Int32) (σ : ST) (x1 : Int32) (x2 : Int32) (x4 : Int32) (s0 : Int32) (s1 : Int32) : Option Int32 := rec5 (x1, x2, (s1 ||| s0), (x4 + 1))
set_option maxRecDepth 100000 in
set_option maxHeartbeats 4000000 in
theorem B_X9_whoHits_b51 {x : CX} {cy : Nat → ClassId} {ad : Nat → Nat} {r : Int32} {σ : ST} (E : Ev x cy cX9_whoHits RX9 5 3 69) (K : RetI x cX9_whoHits .int r (wM ad cy σ)) (rec5 : (Int32 × Int32 × Int32 × Int32) → Option Int32) (hrec5 : ∀ a, rec5 a = some r → G x 0 0 5 [(0, .ref (ad 0)), (1, .int a.1), (2, .int a.2.1), (3, .int a.2.2.1), (4, .int a.2.2.2)] [] (wM ad cy σ)) (σ9 : ST) (x1 : Int32) (x2 : Int32) (x4 : Int32) (s0 : Int32) (s1 : Int32) (h : D_X9_whoHits_b51 rec5 σ x1 x2 x4 s0 s1 = some r) : G x 0 0 51 [(0, .ref (ad 0)), (1, .int x1), (2, .int x2), (4, .int x4)] [.int s0, .int s1] (wM ad cy σ) := by
  unfold D_X9_whoHits_b51 at h
  refine G.ior E dX9_whoHits_51 ?_
  refine G.istore_n (lv' := [(3, .int (s1 ||| s0)), (0, .ref (ad 0)), (1, .int x1), (2, .int x2), (4, .int x4)]) E dX9_whoHits_52 rfl (by decide) rfl ?_
  refine G.iinc (w := x4 + 1) (lv' := [(4, .int (x4 + 1)), (3, .int (s1 ||| s0)), (0, .ref (ad 0)), (1, .int x1), (2, .int x2)]) E dX9_whoHits_53 4 rfl rfl (by decide) rfl ?_
  refine G.goto (tgt := 5) E dX9_whoHits_56 (by decide) ?_
  refine G.sub (lv' := [(0, .ref (ad 0)), (1, .int x1), (2, .int x2), (3, .int (s1 ||| s0)), (4, .int (x4 + 1))]) [2, 3, 4, 1, 0] rfl ?_
  exact hrec5 (x1, x2, (s1 ||| s0), (x4 + 1)) h
noncomputable def D_X9_whoHits_L5_body (rec5 : (Int32 × Int32 × Int32 × Int32) → Option Int32) (σ : ST) (x1 : Int32) (x2 : Int32) (x3 : Int32) (x4 : Int32) : Option Int32 := if (gI σ 1) ≤ x4 then (some x3) else (if x1 < (gI σ 2) then (some x3) else ((D_X9_hitsOf σ x4).bind fun r1 => (D_X9_rows σ).bind fun r3 => (D_X9_isIn r1 (x2 &&& (r3 - (1 : Int32)))).bind fun r5 => if r5 = 0 then (D_X9_whoHits_b51 rec5 σ x1 x2 x4 (0 : Int32) x3) else (D_X9_whoHits_b51 rec5 σ x1 x2 x4 ((1 : Int32) <<< (x4 &&& 31)) x3)))
set_option maxRecDepth 100000 in
set_option maxHeartbeats 4000000 in
theorem B_X9_whoHits_L5_body {x : CX} {cy : Nat → ClassId} {ad : Nat → Nat} {r : Int32} {σ : ST} (E : Ev x cy cX9_whoHits RX9 5 3 69) (K : RetI x cX9_whoHits .int r (wM ad cy σ)) (rec5 : (Int32 × Int32 × Int32 × Int32) → Option Int32) (hrec5 : ∀ a, rec5 a = some r → G x 0 0 5 [(0, .ref (ad 0)), (1, .int a.1), (2, .int a.2.1), (3, .int a.2.2.1), (4, .int a.2.2.2)] [] (wM ad cy σ)) (σ9 : ST) (x1 : Int32) (x2 : Int32) (x3 : Int32) (x4 : Int32) (h : D_X9_whoHits_L5_body rec5 σ x1 x2 x3 x4 = some r) : G x 0 0 5 [(0, .ref (ad 0)), (1, .int x1), (2, .int x2), (3, .int x3), (4, .int x4)] [] (wM ad cy σ) := by
  unfold D_X9_whoHits_L5_body at h
  refine G.iload E dX9_whoHits_5 4 rfl ?_
  refine G.aload_n E dX9_whoHits_7 rfl 0 rfl ?_
  refine G.get E inX9 0 rfl rfl 1 (by decide) (f699 E.fx) rfl dX9_whoHits_8 ?_
  refine G.icmp_ge (tgt := 59) E dX9_whoHits_11 (by decide) (fun q => ?_) (fun q => ?_)
  · have h := ite_t h q
    refine G.iload_n E dX9_whoHits_59 rfl 3 rfl ?_
    obtain rfl := Option.some.inj h
    exact K rfl _ _ dX9_whoHits_60
  · have h := ite_f h q
    refine G.iload_n E dX9_whoHits_14 rfl 1 rfl ?_
    refine G.aload_n E dX9_whoHits_15 rfl 0 rfl ?_
    refine G.get E inX9 0 rfl rfl 2 (by decide) (f700 E.fx) rfl dX9_whoHits_16 ?_
    refine G.icmp_lt (tgt := 59) E dX9_whoHits_19 (by decide) (fun q => ?_) (fun q => ?_)
    · have h := ite_t h q
      refine G.iload_n E dX9_whoHits_59 rfl 3 rfl ?_
      obtain rfl := Option.some.inj h
      exact K rfl _ _ dX9_whoHits_60
    · have h := ite_f h q
      refine G.iload_n E dX9_whoHits_22 rfl 3 rfl ?_
      refine G.aload_n E dX9_whoHits_23 rfl 0 rfl ?_
      refine G.iload E dX9_whoHits_24 4 rfl ?_
      obtain ⟨r1, h2, h⟩ := bind_s h
      refine G.retI E (runV (st := [.int x3]) (As := [.int x4]) E (C_X9_hitsOf h2) ck_X9_hitsOf (f860 E.fx) (f862 E.fx) (f32 E.fx) 0 9 rfl rfl rfl (by decide) (by decide) rfl (Nat.le_of_ble_eq_true rfl) dX9_whoHits_26 ⟨Nat.zero_le _, Nat.zero_le _⟩) ?_
      refine G.iload_n E dX9_whoHits_29 rfl 2 rfl ?_
      refine G.aload_n E dX9_whoHits_30 rfl 0 rfl ?_
      obtain ⟨r3, h4, h⟩ := bind_s h
      refine G.retI E (runV (st := [.int x2, .int r1, .int x3]) (As := []) E (C_X9_rows h4) ck_X9_rows (f868 E.fx) (f870 E.fx) (f34 E.fx) 0 9 rfl rfl rfl (by decide) (by decide) rfl (Nat.le_of_ble_eq_true rfl) dX9_whoHits_31 ⟨Nat.zero_le _, Nat.zero_le _⟩) ?_
      refine G.iconst (v := 1) E dX9_whoHits_34 (by decide) ?_
      refine G.isub E dX9_whoHits_35 ?_
      refine G.iand E dX9_whoHits_36 ?_
      obtain ⟨r5, h6, h⟩ := bind_s h
      refine G.retI E (runS (st := [.int x3]) (As := [.int r1, .int (x2 &&& (r3 - (1 : Int32)))]) E (C_X9_isIn h6) ck_X9_isIn (f889 E.fx) (f890 E.fx) (by decide) (by decide) rfl (Nat.le_of_ble_eq_true rfl) dX9_whoHits_37 ⟨Nat.zero_le _, Nat.zero_le _⟩) ?_
      refine G.if_eq (tgt := 50) E dX9_whoHits_40 (by decide) (fun q => ?_) (fun q => ?_)
      · have h := ite_t h q
        refine G.iconst (v := 0) E dX9_whoHits_50 (by decide) ?_
        refine G.sub (lv' := [(0, .ref (ad 0)), (1, .int x1), (2, .int x2), (4, .int x4)]) [0, 1, 2, 4] rfl ?_
        exact B_X9_whoHits_b51 E K rec5 hrec5 σ x1 x2 x4 (0 : Int32) x3 h
      · have h := ite_f h q
        refine G.iconst (v := 1) E dX9_whoHits_43 (by decide) ?_
        refine G.iload E dX9_whoHits_44 4 rfl ?_
        refine G.ishl E dX9_whoHits_46 ?_
        refine G.goto (tgt := 51) E dX9_whoHits_47 (by decide) ?_
        refine G.sub (lv' := [(0, .ref (ad 0)), (1, .int x1), (2, .int x2), (4, .int x4)]) [0, 1, 2, 4] rfl ?_
        exact B_X9_whoHits_b51 E K rec5 hrec5 σ x1 x2 x4 ((1 : Int32) <<< (x4 &&& 31)) x3 h
noncomputable def D_X9_whoHits_L5  (σ : ST) (x1 : Int32) (x2 : Int32) (x3 : Int32) (x4 : Int32) : Option Int32 := itr (fun (rec5 : (Int32 × Int32 × Int32 × Int32) → Option Int32) (a : (Int32 × Int32 × Int32 × Int32)) => D_X9_whoHits_L5_body rec5 σ a.1 a.2.1 a.2.2.1 a.2.2.2) 200 (x1, x2, x3, x4)
set_option maxRecDepth 100000 in
set_option maxHeartbeats 4000000 in
theorem B_X9_whoHits_L5 {x : CX} {cy : Nat → ClassId} {ad : Nat → Nat} {r : Int32} {σ : ST} (E : Ev x cy cX9_whoHits RX9 5 3 69) (K : RetI x cX9_whoHits .int r (wM ad cy σ))  (σ9 : ST) (x1 : Int32) (x2 : Int32) (x3 : Int32) (x4 : Int32) (h : D_X9_whoHits_L5 σ x1 x2 x3 x4 = some r) : G x 0 0 5 [(0, .ref (ad 0)), (1, .int x1), (2, .int x2), (3, .int x3), (4, .int x4)] [] (wM ad cy σ) :=
  itr_ind (P := fun a => G x 0 0 5 [(0, .ref (ad 0)), (1, .int a.1), (2, .int a.2.1), (3, .int a.2.2.1), (4, .int a.2.2.2)] [] (wM ad cy σ)) (fun rec5 hrec5 a h => B_X9_whoHits_L5_body E K rec5 hrec5 σ a.1 a.2.1 a.2.2.1 a.2.2.2 h) 200 (x1, x2, x3, x4) h
noncomputable def D_X9_whoHits (σ : ST) (p1 : Int32) (p2 : Int32) : Option Int32 := D_X9_whoHits_L5 σ p1 p2 (0 : Int32) (0 : Int32)
set_option maxRecDepth 100000 in
set_option maxHeartbeats 4000000 in
theorem B_X9_whoHits {x : CX} {cy : Nat → ClassId} {ad : Nat → Nat} {r : Int32} {σ : ST} (E : Ev x cy cX9_whoHits RX9 5 3 69) (K : RetI x cX9_whoHits .int r (wM ad cy σ)) (p1 : Int32) (p2 : Int32) (h : D_X9_whoHits σ p1 p2 = some r) : G x 0 0 0 [(0, .ref (ad 0)), (1, .int p1), (2, .int p2)] [] (wM ad cy σ) := by
  unfold D_X9_whoHits at h
  refine G.iconst (v := 0) E dX9_whoHits_0 (by decide) ?_
  refine G.istore_n (lv' := [(3, .int (0 : Int32)), (0, .ref (ad 0)), (1, .int p1), (2, .int p2)]) E dX9_whoHits_1 rfl (by decide) rfl ?_
  refine G.iconst (v := 0) E dX9_whoHits_2 (by decide) ?_
  refine G.istore (lv' := [(4, .int (0 : Int32)), (3, .int (0 : Int32)), (0, .ref (ad 0)), (1, .int p1), (2, .int p2)]) E dX9_whoHits_3 (by decide) rfl ?_
  refine G.sub (lv' := [(0, .ref (ad 0)), (1, .int p1), (2, .int p2), (3, .int (0 : Int32)), (4, .int (0 : Int32))]) [2, 3, 4, 1, 0] rfl ?_
  exact B_X9_whoHits_L5 E K σ p1 p2 (0 : Int32) (0 : Int32) h
set_option maxRecDepth 100000 in
set_option maxHeartbeats 4000000 in
theorem C_X9_whoHits {l : Launch} {D : va_G} {cy : Nat → ClassId} {ad : Nat → Nat} {σ : ST} {p1 : Int32} {p2 : Int32} {r : Int32} (h : D_X9_whoHits σ p1 p2 = some r) : MI l yX9_whoHits cX9_whoHits 5 (some .int) 3 69 D cy (wM ad cy σ) [.ref (ad 0), .int p1, .int p2] r (wM ad cy σ) :=
  MI.mk (lv := [(0, .ref (ad 0)), (1, .int p1), (2, .int p2)]) (by decide) (Nat.le_of_ble_eq_true rfl) rfl (fun x _ _ E K => B_X9_whoHits E K p1 p2 h)

noncomputable def D_X9_toss_L85_body (rec85 : (ST × Int32 × Int32) → Option (Int32 × ST)) (σ : ST) (x2 : Int32) (x3 : Int32) : Option (Int32 × ST) := if (gI σ 1) ≤ x3 then (if x2 = 0 then (some (x2, σ)) else (some (x2, pI (pI σ 3 (0 : Int32)) 4 (0 : Int32)))) else (if x3 < 0 ∨ 4 ≤ x3.toNatClampNeg then none else (if x3 < 0 ∨ 4 ≤ x3.toNatClampNeg then none else (rec85 ((pA σ 2 x3.toNatClampNeg ((gA σ 2 x3.toNatClampNeg) + ((x2 >>> (x3 &&& 31)) &&& (1 : Int32)))), x2, (x3 + 1)))))
set_option maxRecDepth 100000 in
set_option maxHeartbeats 4000000 in
theorem B_X9_toss_L85_body {x : CX} {cy : Nat → ClassId} {ad : Nat → Nat} {r : (Int32 × ST)} (E : Ev x cy cX9_toss RX9 4 4 93) (K : RetI x cX9_toss .int r.1 (wM ad cy r.2)) (rec85 : (ST × Int32 × Int32) → Option (Int32 × ST)) (hrec85 : ∀ a, rec85 a = some r → G x 0 0 85 [(0, .ref (ad 0)), (2, .int a.2.1), (3, .int a.2.2)] [] (wM ad cy a.1)) (σ : ST) (x2 : Int32) (x3 : Int32) (h : D_X9_toss_L85_body rec85 σ x2 x3 = some r) : G x 0 0 85 [(0, .ref (ad 0)), (2, .int x2), (3, .int x3)] [] (wM ad cy σ) := by
  unfold D_X9_toss_L85_body at h
  refine G.iload_n E dX9_toss_85 rfl 2 rfl ?_
  refine G.aload_n E dX9_toss_86 rfl 0 rfl ?_
  refine G.get E inX9 0 rfl rfl 1 (by decide) (f699 E.fx) rfl dX9_toss_87 ?_
  refine G.icmp_ge (tgt := 113) E dX9_toss_90 (by decide) (fun q => ?_) (fun q => ?_)
  · have h := ite_t h q
    refine G.iload_n E dX9_toss_113 rfl 1 rfl ?_
    refine G.if_eq (tgt := 127) E dX9_toss_114 (by decide) (fun q => ?_) (fun q => ?_)
    · have h := ite_t h q
      refine G.iload_n E dX9_toss_127 rfl 1 rfl ?_
      obtain rfl := Option.some.inj h
      exact K rfl _ _ dX9_toss_128
    · have h := ite_f h q
      refine G.aload_n E dX9_toss_117 rfl 0 rfl ?_
      refine G.iconst (v := 0) E dX9_toss_118 (by decide) ?_
      refine G.put (ws' := (wM ad cy (pI σ 3 (0 : Int32)))) E inX9 tyX9 tyX9_ok nmX9 0 rfl rfl 6 (by decide) (f704 E.fx) rfl rfl rfl rfl (Nat.le_of_ble_eq_true rfl) dX9_toss_119 (wM_fI3 ad cy _ _) ?_
      refine G.aload_n E dX9_toss_122 rfl 0 rfl ?_
      refine G.iconst (v := 0) E dX9_toss_123 (by decide) ?_
      refine G.put (ws' := (wM ad cy (pI (pI σ 3 (0 : Int32)) 4 (0 : Int32)))) E inX9 tyX9 tyX9_ok nmX9 0 rfl rfl 7 (by decide) (f705 E.fx) rfl rfl rfl rfl (Nat.le_of_ble_eq_true rfl) dX9_toss_124 (wM_fI4 ad cy _ _) ?_
      refine G.iload_n E dX9_toss_127 rfl 1 rfl ?_
      obtain rfl := Option.some.inj h
      exact K rfl _ _ dX9_toss_128
  · have h := ite_f h q
    refine G.aload_n E dX9_toss_93 rfl 0 rfl ?_
    refine G.get E inX9 0 rfl rfl 5 (by decide) (f703 E.fx) rfl dX9_toss_94 ?_
    refine G.iload_n E dX9_toss_97 rfl 2 rfl ?_
    refine G.dup2 E dX9_toss_98 rfl rfl ?_
    obtain ⟨hg, h⟩ := ite_n h
    refine G.iald E 3 0 rfl rfl hg dX9_toss_99 ?_
    refine G.iload_n E dX9_toss_100 rfl 1 rfl ?_
    refine G.iload_n E dX9_toss_101 rfl 2 rfl ?_
    refine G.ishr E dX9_toss_102 ?_
    refine G.iconst (v := 1) E dX9_toss_103 (by decide) ?_
    refine G.iand E dX9_toss_104 ?_
    refine G.iadd E dX9_toss_105 ?_
    obtain ⟨hg, h⟩ := ite_n h
    refine G.iast (ws' := (wM ad cy (pA σ 2 x3.toNatClampNeg ((gA σ 2 x3.toNatClampNeg) + ((x2 >>> (x3 &&& 31)) &&& (1 : Int32)))))) E 3 0 rfl rfl hg dX9_toss_106 (wM_aI2 ad cy _ _ _) ?_
    refine G.iinc (w := x3 + 1) (lv' := [(3, .int (x3 + 1)), (0, .ref (ad 0)), (2, .int x2)]) E dX9_toss_107 2 rfl rfl (by decide) rfl ?_
    refine G.goto (tgt := 85) E dX9_toss_110 (by decide) ?_
    refine G.sub (lv' := [(0, .ref (ad 0)), (2, .int x2), (3, .int (x3 + 1))]) [1, 2, 0] rfl ?_
    exact hrec85 ((pA σ 2 x3.toNatClampNeg ((gA σ 2 x3.toNatClampNeg) + ((x2 >>> (x3 &&& 31)) &&& (1 : Int32)))), x2, (x3 + 1)) h
noncomputable def D_X9_toss_L85  (σ : ST) (x2 : Int32) (x3 : Int32) : Option (Int32 × ST) := itr (fun (rec85 : (ST × Int32 × Int32) → Option (Int32 × ST)) (a : (ST × Int32 × Int32)) => D_X9_toss_L85_body rec85 a.1 a.2.1 a.2.2) 200 (σ, x2, x3)
set_option maxRecDepth 100000 in
set_option maxHeartbeats 4000000 in
theorem B_X9_toss_L85 {x : CX} {cy : Nat → ClassId} {ad : Nat → Nat} {r : (Int32 × ST)} (E : Ev x cy cX9_toss RX9 4 4 93) (K : RetI x cX9_toss .int r.1 (wM ad cy r.2))  (σ : ST) (x2 : Int32) (x3 : Int32) (h : D_X9_toss_L85 σ x2 x3 = some r) : G x 0 0 85 [(0, .ref (ad 0)), (2, .int x2), (3, .int x3)] [] (wM ad cy σ) :=
  itr_ind (P := fun a => G x 0 0 85 [(0, .ref (ad 0)), (2, .int a.2.1), (3, .int a.2.2)] [] (wM ad cy a.1)) (fun rec85 hrec85 a h => B_X9_toss_L85_body E K rec85 hrec85 a.1 a.2.1 a.2.2 h) 200 (σ, x2, x3) h
noncomputable def D_X9_toss_b70  (σ : ST)  : Option (Int32 × ST) := (D_X9_whoHits σ (gI σ 3) (gI σ 4)).bind fun r3 => D_X9_toss_L85 σ r3 (0 : Int32)
set_option maxRecDepth 100000 in
set_option maxHeartbeats 4000000 in
theorem B_X9_toss_b70 {x : CX} {cy : Nat → ClassId} {ad : Nat → Nat} {r : (Int32 × ST)} (E : Ev x cy cX9_toss RX9 4 4 93) (K : RetI x cX9_toss .int r.1 (wM ad cy r.2))  (σ : ST)  (h : D_X9_toss_b70 σ = some r) : G x 0 0 70 [(0, .ref (ad 0))] [] (wM ad cy σ) := by
  unfold D_X9_toss_b70 at h
  refine G.aload_n E dX9_toss_70 rfl 0 rfl ?_
  refine G.aload_n E dX9_toss_71 rfl 0 rfl ?_
  refine G.get E inX9 0 rfl rfl 6 (by decide) (f704 E.fx) rfl dX9_toss_72 ?_
  refine G.aload_n E dX9_toss_75 rfl 0 rfl ?_
  refine G.get E inX9 0 rfl rfl 7 (by decide) (f705 E.fx) rfl dX9_toss_76 ?_
  obtain ⟨r3, h4, h⟩ := bind_s h
  refine G.retI E (runV (st := []) (As := [.int (gI σ 3), .int (gI σ 4)]) E (C_X9_whoHits h4) ck_X9_whoHits (f937 E.fx) (f939 E.fx) (f46 E.fx) 0 9 rfl rfl rfl (by decide) (by decide) rfl (Nat.le_of_ble_eq_true rfl) dX9_toss_79 ⟨Nat.zero_le _, Nat.zero_le _⟩) ?_
  refine G.istore_n (lv' := [(2, .int r3), (0, .ref (ad 0))]) E dX9_toss_82 rfl (by decide) rfl ?_
  refine G.iconst (v := 0) E dX9_toss_83 (by decide) ?_
  refine G.istore_n (lv' := [(3, .int (0 : Int32)), (2, .int r3), (0, .ref (ad 0))]) E dX9_toss_84 rfl (by decide) rfl ?_
  refine G.sub (lv' := [(0, .ref (ad 0)), (2, .int r3), (3, .int (0 : Int32))]) [2, 1, 0] rfl ?_
  exact B_X9_toss_L85 E K σ r3 (0 : Int32) h
noncomputable def D_X9_toss (σ : ST) (p1 : Int32) : Option (Int32 × ST) := (D_X9_within p1 (0 : Int32) (1 : Int32)).bind fun r1 => if r1 = 0 then (some ((-102 : Int32), σ)) else (if (gI σ 1) = 0 then (some ((-103 : Int32), σ)) else (if (gI σ 5) = (9999 : Int32) then (some ((-104 : Int32), σ)) else (D_X9_toss_b70 (pI (pI (pI σ 5 ((gI σ 5) + (1 : Int32))) 3 ((gI (pI σ 5 ((gI σ 5) + (1 : Int32))) 3) + (1 : Int32))) 4 ((((gI (pI (pI σ 5 ((gI σ 5) + (1 : Int32))) 3 ((gI (pI σ 5 ((gI σ 5) + (1 : Int32))) 3) + (1 : Int32))) 4) <<< ((1 : Int32) &&& 31)) ||| p1) &&& (15 : Int32))))))
set_option maxRecDepth 100000 in
set_option maxHeartbeats 4000000 in
theorem B_X9_toss {x : CX} {cy : Nat → ClassId} {ad : Nat → Nat} {r : (Int32 × ST)} (E : Ev x cy cX9_toss RX9 4 4 93) (K : RetI x cX9_toss .int r.1 (wM ad cy r.2)) (σ : ST) (p1 : Int32) (h : D_X9_toss σ p1 = some r) : G x 0 0 0 [(0, .ref (ad 0)), (1, .int p1)] [] (wM ad cy σ) := by
  unfold D_X9_toss at h
  refine G.iload_n E dX9_toss_0 rfl 1 rfl ?_
  refine G.iconst (v := 0) E dX9_toss_1 (by decide) ?_
  refine G.iconst (v := 1) E dX9_toss_2 (by decide) ?_
  obtain ⟨r1, h2, h⟩ := bind_s h
  refine G.retI E (runS (st := []) (As := [.int p1, .int (0 : Int32), .int (1 : Int32)]) E (C_X9_within h2) ck_X9_within (f814 E.fx) (f815 E.fx) (by decide) (by decide) rfl (Nat.le_of_ble_eq_true rfl) dX9_toss_3 ⟨Nat.zero_le _, Nat.zero_le _⟩) ?_
  refine G.if_ne (tgt := 12) E dX9_toss_6 (by decide) (fun q => ?_) (fun q => ?_)
  · have h := ite_f h q
    refine G.aload_n E dX9_toss_12 rfl 0 rfl ?_
    refine G.get E inX9 0 rfl rfl 1 (by decide) (f699 E.fx) rfl dX9_toss_13 ?_
    refine G.if_ne (tgt := 22) E dX9_toss_16 (by decide) (fun q => ?_) (fun q => ?_)
    · have h := ite_f h q
      refine G.aload_n E dX9_toss_22 rfl 0 rfl ?_
      refine G.get E inX9 0 rfl rfl 8 (by decide) (f706 E.fx) rfl dX9_toss_23 ?_
      refine G.sipush (v := 9999) E dX9_toss_26 (by decide) ?_
      refine G.icmp_ne (tgt := 35) E dX9_toss_29 (by decide) (fun q => ?_) (fun q => ?_)
      · have h := ite_f h q
        refine G.aload_n E dX9_toss_35 rfl 0 rfl ?_
        refine G.dup E dX9_toss_36 rfl ?_
        refine G.get E inX9 0 rfl rfl 8 (by decide) (f706 E.fx) rfl dX9_toss_37 ?_
        refine G.iconst (v := 1) E dX9_toss_40 (by decide) ?_
        refine G.iadd E dX9_toss_41 ?_
        refine G.put (ws' := (wM ad cy (pI σ 5 ((gI σ 5) + (1 : Int32))))) E inX9 tyX9 tyX9_ok nmX9 0 rfl rfl 8 (by decide) (f706 E.fx) rfl rfl rfl rfl (Nat.le_of_ble_eq_true rfl) dX9_toss_42 (wM_fI5 ad cy _ _) ?_
        refine G.aload_n E dX9_toss_45 rfl 0 rfl ?_
        refine G.dup E dX9_toss_46 rfl ?_
        refine G.get E inX9 0 rfl rfl 6 (by decide) (f704 E.fx) rfl dX9_toss_47 ?_
        refine G.iconst (v := 1) E dX9_toss_50 (by decide) ?_
        refine G.iadd E dX9_toss_51 ?_
        refine G.put (ws' := (wM ad cy (pI (pI σ 5 ((gI σ 5) + (1 : Int32))) 3 ((gI (pI σ 5 ((gI σ 5) + (1 : Int32))) 3) + (1 : Int32))))) E inX9 tyX9 tyX9_ok nmX9 0 rfl rfl 6 (by decide) (f704 E.fx) rfl rfl rfl rfl (Nat.le_of_ble_eq_true rfl) dX9_toss_52 (wM_fI3 ad cy _ _) ?_
        refine G.aload_n E dX9_toss_55 rfl 0 rfl ?_
        refine G.aload_n E dX9_toss_56 rfl 0 rfl ?_
        refine G.get E inX9 0 rfl rfl 7 (by decide) (f705 E.fx) rfl dX9_toss_57 ?_
        refine G.iconst (v := 1) E dX9_toss_60 (by decide) ?_
        refine G.ishl E dX9_toss_61 ?_
        refine G.iload_n E dX9_toss_62 rfl 1 rfl ?_
        refine G.ior E dX9_toss_63 ?_
        refine G.bipush (v := 15) E dX9_toss_64 (by decide) ?_
        refine G.iand E dX9_toss_66 ?_
        refine G.put (ws' := (wM ad cy (pI (pI (pI σ 5 ((gI σ 5) + (1 : Int32))) 3 ((gI (pI σ 5 ((gI σ 5) + (1 : Int32))) 3) + (1 : Int32))) 4 ((((gI (pI (pI σ 5 ((gI σ 5) + (1 : Int32))) 3 ((gI (pI σ 5 ((gI σ 5) + (1 : Int32))) 3) + (1 : Int32))) 4) <<< ((1 : Int32) &&& 31)) ||| p1) &&& (15 : Int32))))) E inX9 tyX9 tyX9_ok nmX9 0 rfl rfl 7 (by decide) (f705 E.fx) rfl rfl rfl rfl (Nat.le_of_ble_eq_true rfl) dX9_toss_67 (wM_fI4 ad cy _ _) ?_
        refine G.sub (lv' := [(0, .ref (ad 0))]) [0] rfl ?_
        exact B_X9_toss_b70 E K (pI (pI (pI σ 5 ((gI σ 5) + (1 : Int32))) 3 ((gI (pI σ 5 ((gI σ 5) + (1 : Int32))) 3) + (1 : Int32))) 4 ((((gI (pI (pI σ 5 ((gI σ 5) + (1 : Int32))) 3 ((gI (pI σ 5 ((gI σ 5) + (1 : Int32))) 3) + (1 : Int32))) 4) <<< ((1 : Int32) &&& 31)) ||| p1) &&& (15 : Int32))) h
      · have h := ite_t h q
        refine G.bipush (v := -104) E dX9_toss_32 (by decide) ?_
        obtain rfl := Option.some.inj h
        exact K rfl _ _ dX9_toss_34
    · have h := ite_t h q
      refine G.bipush (v := -103) E dX9_toss_19 (by decide) ?_
      obtain rfl := Option.some.inj h
      exact K rfl _ _ dX9_toss_21
  · have h := ite_t h q
    refine G.bipush (v := -102) E dX9_toss_9 (by decide) ?_
    obtain rfl := Option.some.inj h
    exact K rfl _ _ dX9_toss_11
set_option maxRecDepth 100000 in
set_option maxHeartbeats 4000000 in
theorem C_X9_toss {l : Launch} {D : va_G} {cy : Nat → ClassId} {ad : Nat → Nat} {σ : ST} {p1 : Int32} {r : (Int32 × ST)} (h : D_X9_toss σ p1 = some r) : MI l yX9_toss cX9_toss 4 (some .int) 4 93 D cy (wM ad cy σ) [.ref (ad 0), .int p1] r.1 (wM ad cy r.2) :=
  MI.mk (lv := [(0, .ref (ad 0)), (1, .int p1)]) (by decide) (Nat.le_of_ble_eq_true rfl) rfl (fun x _ _ E K => B_X9_toss E K σ p1 h)

noncomputable def D_X9_anew (σ : ST)  : Option (Int32 × ST) := if (gI σ 1) = 0 then (some ((-103 : Int32), σ)) else (some (gI σ 3, pI (pI σ 3 (0 : Int32)) 4 (0 : Int32)))
set_option maxRecDepth 100000 in
set_option maxHeartbeats 4000000 in
theorem B_X9_anew {x : CX} {cy : Nat → ClassId} {ad : Nat → Nat} {r : (Int32 × ST)} (E : Ev x cy cX9_anew RX9 2 0 0) (K : RetI x cX9_anew .int r.1 (wM ad cy r.2)) (σ : ST)  (h : D_X9_anew σ = some r) : G x 0 0 0 [(0, .ref (ad 0))] [] (wM ad cy σ) := by
  unfold D_X9_anew at h
  refine G.aload_n E dX9_anew_0 rfl 0 rfl ?_
  refine G.get E inX9 0 rfl rfl 1 (by decide) (f699 E.fx) rfl dX9_anew_1 ?_
  refine G.if_ne (tgt := 10) E dX9_anew_4 (by decide) (fun q => ?_) (fun q => ?_)
  · have h := ite_f h q
    refine G.aload_n E dX9_anew_10 rfl 0 rfl ?_
    refine G.get E inX9 0 rfl rfl 6 (by decide) (f704 E.fx) rfl dX9_anew_11 ?_
    refine G.istore_n (lv' := [(1, .int (gI σ 3)), (0, .ref (ad 0))]) E dX9_anew_14 rfl (by decide) rfl ?_
    refine G.aload_n E dX9_anew_15 rfl 1 rfl ?_
    refine G.iconst (v := 0) E dX9_anew_16 (by decide) ?_
    refine G.put (ws' := (wM ad cy (pI σ 3 (0 : Int32)))) E inX9 tyX9 tyX9_ok nmX9 0 rfl rfl 6 (by decide) (f704 E.fx) rfl rfl rfl rfl (Nat.le_of_ble_eq_true rfl) dX9_anew_17 (wM_fI3 ad cy _ _) ?_
    refine G.aload_n E dX9_anew_20 rfl 1 rfl ?_
    refine G.iconst (v := 0) E dX9_anew_21 (by decide) ?_
    refine G.put (ws' := (wM ad cy (pI (pI σ 3 (0 : Int32)) 4 (0 : Int32)))) E inX9 tyX9 tyX9_ok nmX9 0 rfl rfl 7 (by decide) (f705 E.fx) rfl rfl rfl rfl (Nat.le_of_ble_eq_true rfl) dX9_anew_22 (wM_fI4 ad cy _ _) ?_
    refine G.iload_n E dX9_anew_25 rfl 0 rfl ?_
    obtain rfl := Option.some.inj h
    exact K rfl _ _ dX9_anew_26
  · have h := ite_t h q
    refine G.bipush (v := -103) E dX9_anew_7 (by decide) ?_
    obtain rfl := Option.some.inj h
    exact K rfl _ _ dX9_anew_9
set_option maxRecDepth 100000 in
set_option maxHeartbeats 4000000 in
theorem C_X9_anew {l : Launch} {D : va_G} {cy : Nat → ClassId} {ad : Nat → Nat} {σ : ST}  {r : (Int32 × ST)} (h : D_X9_anew σ = some r) : MI l yX9_anew cX9_anew 2 (some .int) 0 0 D cy (wM ad cy σ) [.ref (ad 0)] r.1 (wM ad cy r.2) :=
  MI.mk (lv := [(0, .ref (ad 0))]) (by decide) (Nat.le_of_ble_eq_true rfl) rfl (fun x _ _ E K => B_X9_anew E K σ h)

noncomputable def D_X9_bet (σ : ST) (p1 : Int32) (p2 : Int32) : Option (Int32 × ST) := (D_X9_isPlayer σ p1).bind fun r1 => if r1 = 0 then (some ((-101 : Int32), σ)) else ((D_X9_isRow σ p2).bind fun r3 => if r3 = 0 then (some ((-102 : Int32), σ)) else (if p1 < 0 ∨ 4 ≤ p1.toNatClampNeg then none else (if p1 < 0 ∨ 4 ≤ p1.toNatClampNeg then none else (some (gA σ 1 p1.toNatClampNeg, pA σ 1 p1.toNatClampNeg p2)))))
set_option maxRecDepth 100000 in
set_option maxHeartbeats 4000000 in
theorem B_X9_bet {x : CX} {cy : Nat → ClassId} {ad : Nat → Nat} {r : (Int32 × ST)} (E : Ev x cy cX9_bet RX9 4 2 43) (K : RetI x cX9_bet .int r.1 (wM ad cy r.2)) (σ : ST) (p1 : Int32) (p2 : Int32) (h : D_X9_bet σ p1 p2 = some r) : G x 0 0 0 [(0, .ref (ad 0)), (1, .int p1), (2, .int p2)] [] (wM ad cy σ) := by
  unfold D_X9_bet at h
  refine G.aload_n E dX9_bet_0 rfl 0 rfl ?_
  refine G.iload_n E dX9_bet_1 rfl 1 rfl ?_
  obtain ⟨r1, h2, h⟩ := bind_s h
  refine G.retI E (runV (st := []) (As := [.int p1]) E (C_X9_isPlayer h2) ck_X9_isPlayer (f852 E.fx) (f854 E.fx) (f30 E.fx) 0 9 rfl rfl rfl (by decide) (by decide) rfl (Nat.le_of_ble_eq_true rfl) dX9_bet_2 ⟨Nat.zero_le _, Nat.zero_le _⟩) ?_
  refine G.if_ne (tgt := 11) E dX9_bet_5 (by decide) (fun q => ?_) (fun q => ?_)
  · have h := ite_f h q
    refine G.aload_n E dX9_bet_11 rfl 0 rfl ?_
    refine G.iload_n E dX9_bet_12 rfl 2 rfl ?_
    obtain ⟨r3, h4, h⟩ := bind_s h
    refine G.retI E (runV (st := []) (As := [.int p2]) E (C_X9_isRow h4) ck_X9_isRow (f929 E.fx) (f931 E.fx) (f45 E.fx) 0 9 rfl rfl rfl (by decide) (by decide) rfl (Nat.le_of_ble_eq_true rfl) dX9_bet_13 ⟨Nat.zero_le _, Nat.zero_le _⟩) ?_
    refine G.if_ne (tgt := 22) E dX9_bet_16 (by decide) (fun q => ?_) (fun q => ?_)
    · have h := ite_f h q
      refine G.aload_n E dX9_bet_22 rfl 0 rfl ?_
      refine G.get E inX9 0 rfl rfl 4 (by decide) (f702 E.fx) rfl dX9_bet_23 ?_
      refine G.iload_n E dX9_bet_26 rfl 1 rfl ?_
      obtain ⟨hg, h⟩ := ite_n h
      refine G.iald E 2 0 rfl rfl hg dX9_bet_27 ?_
      refine G.istore_n (lv' := [(3, .int (gA σ 1 p1.toNatClampNeg)), (0, .ref (ad 0)), (1, .int p1), (2, .int p2)]) E dX9_bet_28 rfl (by decide) rfl ?_
      refine G.aload_n E dX9_bet_29 rfl 1 rfl ?_
      refine G.get E inX9 0 rfl rfl 4 (by decide) (f702 E.fx) rfl dX9_bet_30 ?_
      refine G.iload_n E dX9_bet_33 rfl 2 rfl ?_
      refine G.iload_n E dX9_bet_34 rfl 3 rfl ?_
      obtain ⟨hg, h⟩ := ite_n h
      refine G.iast (ws' := (wM ad cy (pA σ 1 p1.toNatClampNeg p2))) E 2 0 rfl rfl hg dX9_bet_35 (wM_aI1 ad cy _ _ _) ?_
      refine G.iload_n E dX9_bet_36 rfl 0 rfl ?_
      obtain rfl := Option.some.inj h
      exact K rfl _ _ dX9_bet_37
    · have h := ite_t h q
      refine G.bipush (v := -102) E dX9_bet_19 (by decide) ?_
      obtain rfl := Option.some.inj h
      exact K rfl _ _ dX9_bet_21
  · have h := ite_t h q
    refine G.bipush (v := -101) E dX9_bet_8 (by decide) ?_
    obtain rfl := Option.some.inj h
    exact K rfl _ _ dX9_bet_10
set_option maxRecDepth 100000 in
set_option maxHeartbeats 4000000 in
theorem C_X9_bet {l : Launch} {D : va_G} {cy : Nat → ClassId} {ad : Nat → Nat} {σ : ST} {p1 : Int32} {p2 : Int32} {r : (Int32 × ST)} (h : D_X9_bet σ p1 p2 = some r) : MI l yX9_bet cX9_bet 4 (some .int) 2 43 D cy (wM ad cy σ) [.ref (ad 0), .int p1, .int p2] r.1 (wM ad cy r.2) :=
  MI.mk (lv := [(0, .ref (ad 0)), (1, .int p1), (2, .int p2)]) (by decide) (Nat.le_of_ble_eq_true rfl) rfl (fun x _ _ E K => B_X9_bet E K σ p1 p2 h)

noncomputable def D_X9_be (σ : ST) (p1 : Int32) (p2 : Int32) : Option (Int32 × ST) := (D_X9_isPlayer σ p1).bind fun r1 => if r1 = 0 then (some ((-101 : Int32), σ)) else ((D_X9_within p2 (0 : Int32) (4 : Int32)).bind fun r3 => if r3 = 0 then (some ((-102 : Int32), σ)) else (if p1 < 0 ∨ 4 ≤ p1.toNatClampNeg then none else (if p1 < 0 ∨ 4 ≤ p1.toNatClampNeg then none else (some (gA σ 0 p1.toNatClampNeg, pA σ 0 p1.toNatClampNeg p2)))))
set_option maxRecDepth 100000 in
set_option maxHeartbeats 4000000 in
theorem B_X9_be {x : CX} {cy : Nat → ClassId} {ad : Nat → Nat} {r : (Int32 × ST)} (E : Ev x cy cX9_be RX9 4 2 43) (K : RetI x cX9_be .int r.1 (wM ad cy r.2)) (σ : ST) (p1 : Int32) (p2 : Int32) (h : D_X9_be σ p1 p2 = some r) : G x 0 0 0 [(0, .ref (ad 0)), (1, .int p1), (2, .int p2)] [] (wM ad cy σ) := by
  unfold D_X9_be at h
  refine G.aload_n E dX9_be_0 rfl 0 rfl ?_
  refine G.iload_n E dX9_be_1 rfl 1 rfl ?_
  obtain ⟨r1, h2, h⟩ := bind_s h
  refine G.retI E (runV (st := []) (As := [.int p1]) E (C_X9_isPlayer h2) ck_X9_isPlayer (f852 E.fx) (f854 E.fx) (f30 E.fx) 0 9 rfl rfl rfl (by decide) (by decide) rfl (Nat.le_of_ble_eq_true rfl) dX9_be_2 ⟨Nat.zero_le _, Nat.zero_le _⟩) ?_
  refine G.if_ne (tgt := 11) E dX9_be_5 (by decide) (fun q => ?_) (fun q => ?_)
  · have h := ite_f h q
    refine G.iload_n E dX9_be_11 rfl 2 rfl ?_
    refine G.iconst (v := 0) E dX9_be_12 (by decide) ?_
    refine G.iconst (v := 4) E dX9_be_13 (by decide) ?_
    obtain ⟨r3, h4, h⟩ := bind_s h
    refine G.retI E (runS (st := []) (As := [.int p2, .int (0 : Int32), .int (4 : Int32)]) E (C_X9_within h4) ck_X9_within (f814 E.fx) (f815 E.fx) (by decide) (by decide) rfl (Nat.le_of_ble_eq_true rfl) dX9_be_14 ⟨Nat.zero_le _, Nat.zero_le _⟩) ?_
    refine G.if_ne (tgt := 23) E dX9_be_17 (by decide) (fun q => ?_) (fun q => ?_)
    · have h := ite_f h q
      refine G.aload_n E dX9_be_23 rfl 0 rfl ?_
      refine G.get E inX9 0 rfl rfl 3 (by decide) (f701 E.fx) rfl dX9_be_24 ?_
      refine G.iload_n E dX9_be_27 rfl 1 rfl ?_
      obtain ⟨hg, h⟩ := ite_n h
      refine G.iald E 1 0 rfl rfl hg dX9_be_28 ?_
      refine G.istore_n (lv' := [(3, .int (gA σ 0 p1.toNatClampNeg)), (0, .ref (ad 0)), (1, .int p1), (2, .int p2)]) E dX9_be_29 rfl (by decide) rfl ?_
      refine G.aload_n E dX9_be_30 rfl 1 rfl ?_
      refine G.get E inX9 0 rfl rfl 3 (by decide) (f701 E.fx) rfl dX9_be_31 ?_
      refine G.iload_n E dX9_be_34 rfl 2 rfl ?_
      refine G.iload_n E dX9_be_35 rfl 3 rfl ?_
      obtain ⟨hg, h⟩ := ite_n h
      refine G.iast (ws' := (wM ad cy (pA σ 0 p1.toNatClampNeg p2))) E 1 0 rfl rfl hg dX9_be_36 (wM_aI0 ad cy _ _ _) ?_
      refine G.iload_n E dX9_be_37 rfl 0 rfl ?_
      obtain rfl := Option.some.inj h
      exact K rfl _ _ dX9_be_38
    · have h := ite_t h q
      refine G.bipush (v := -102) E dX9_be_20 (by decide) ?_
      obtain rfl := Option.some.inj h
      exact K rfl _ _ dX9_be_22
  · have h := ite_t h q
    refine G.bipush (v := -101) E dX9_be_8 (by decide) ?_
    obtain rfl := Option.some.inj h
    exact K rfl _ _ dX9_be_10
set_option maxRecDepth 100000 in
set_option maxHeartbeats 4000000 in
theorem C_X9_be {l : Launch} {D : va_G} {cy : Nat → ClassId} {ad : Nat → Nat} {σ : ST} {p1 : Int32} {p2 : Int32} {r : (Int32 × ST)} (h : D_X9_be σ p1 p2 = some r) : MI l yX9_be cX9_be 4 (some .int) 2 43 D cy (wM ad cy σ) [.ref (ad 0), .int p1, .int p2] r.1 (wM ad cy r.2) :=
  MI.mk (lv := [(0, .ref (ad 0)), (1, .int p1), (2, .int p2)]) (by decide) (Nat.le_of_ble_eq_true rfl) rfl (fun x _ _ E K => B_X9_be E K σ p1 p2 h)

noncomputable def D_X9_duelOf_b116 (rec12 : (ST × Int32 × Int32 × Int32 × Int32) → Option (Int32 × ST)) (rec40 : (ST × Int32 × Int32 × Int32 × Int32 × Int32) → Option (Int32 × ST)) (σ : ST) (x1 : Int32) (x2 : Int32) (x3 : Int32) (x4 : Int32) (x5 : Int32) (s0 : Int64) (s1 : Int64) (s2 : Int32) : Option (Int32 × ST) := if s2 < 0 ∨ 72 ≤ s2.toNatClampNeg then none else (rec40 ((pB σ 0 s2.toNatClampNeg (s1 - s0)), x1, x2, x3, x4, (x5 + 1)))
set_option maxRecDepth 100000 in
set_option maxHeartbeats 4000000 in
theorem B_X9_duelOf_b116 {x : CX} {cy : Nat → ClassId} {ad : Nat → Nat} {r : (Int32 × ST)} (E : Ev x cy cX9_duelOf RX9 7 3 73) (K : RetI x cX9_duelOf .int r.1 (wM ad cy r.2)) (rec12 : (ST × Int32 × Int32 × Int32 × Int32) → Option (Int32 × ST)) (hrec12 : ∀ a, rec12 a = some r → G x 0 0 12 [(0, .ref (ad 0)), (1, .int a.2.1), (2, .int a.2.2.1), (3, .int a.2.2.2.1), (4, .int a.2.2.2.2)] [] (wM ad cy a.1)) (rec40 : (ST × Int32 × Int32 × Int32 × Int32 × Int32) → Option (Int32 × ST)) (hrec40 : ∀ a, rec40 a = some r → G x 0 0 40 [(0, .ref (ad 0)), (1, .int a.2.1), (2, .int a.2.2.1), (3, .int a.2.2.2.1), (4, .int a.2.2.2.2.1), (5, .int a.2.2.2.2.2)] [] (wM ad cy a.1)) (σ : ST) (x1 : Int32) (x2 : Int32) (x3 : Int32) (x4 : Int32) (x5 : Int32) (s0 : Int64) (s1 : Int64) (s2 : Int32) (h : D_X9_duelOf_b116 rec12 rec40 σ x1 x2 x3 x4 x5 s0 s1 s2 = some r) : G x 0 0 116 [(0, .ref (ad 0)), (1, .int x1), (2, .int x2), (3, .int x3), (4, .int x4), (5, .int x5)] [.long s0, .long s1, .int s2, .ref (ad 18)] (wM ad cy σ) := by
  unfold D_X9_duelOf_b116 at h
  refine G.lsub E dX9_duelOf_116 ?_
  obtain ⟨hg, h⟩ := ite_n h
  refine G.last (ws' := (wM ad cy (pB σ 0 s2.toNatClampNeg (s1 - s0)))) E 18 3 rfl rfl hg dX9_duelOf_117 (wM_aJ0 ad cy _ _ _) ?_
  refine G.iinc (w := x5 + 1) (lv' := [(5, .int (x5 + 1)), (0, .ref (ad 0)), (1, .int x1), (2, .int x2), (3, .int x3), (4, .int x4)]) E dX9_duelOf_118 5 rfl rfl (by decide) rfl ?_
  refine G.goto (tgt := 40) E dX9_duelOf_121 (by decide) ?_
  refine G.sub (lv' := [(0, .ref (ad 0)), (1, .int x1), (2, .int x2), (3, .int x3), (4, .int x4), (5, .int (x5 + 1))]) [1, 2, 3, 4, 5, 0] rfl ?_
  exact hrec40 ((pB σ 0 s2.toNatClampNeg (s1 - s0)), x1, x2, x3, x4, (x5 + 1)) h
noncomputable def D_X9_duelOf_b82 (rec12 : (ST × Int32 × Int32 × Int32 × Int32) → Option (Int32 × ST)) (rec40 : (ST × Int32 × Int32 × Int32 × Int32 × Int32) → Option (Int32 × ST)) (σ : ST) (x1 : Int32) (x2 : Int32) (x3 : Int32) (x4 : Int32) (x5 : Int32) (x6 : Int32) (s0 : Int64) (s1 : Int64) (s2 : Int32) : Option (Int32 × ST) := if s2 < 0 ∨ 72 ≤ s2.toNatClampNeg then none else (if x3 = 0 then none else (if (((9 : Int32) * x4) + (x6 - x6 / x3 * x3)) < 0 ∨ 72 ≤ (((9 : Int32) * x4) + (x6 - x6 / x3 * x3)).toNatClampNeg then none else ((D_X9_isIn (x1 ||| x2) x6).bind fun r11 => if r11 = 0 then (D_X9_duelOf_b116 rec12 rec40 (pB σ 0 s2.toNatClampNeg (s1 + s0)) x1 x2 x3 x4 x5 (1 : Int64) (gB (pB σ 0 s2.toNatClampNeg (s1 + s0)) 0 (((9 : Int32) * x4) + (x6 - x6 / x3 * x3)).toNatClampNeg) (((9 : Int32) * x4) + (x6 - x6 / x3 * x3))) else (D_X9_duelOf_b116 rec12 rec40 (pB σ 0 s2.toNatClampNeg (s1 + s0)) x1 x2 x3 x4 x5 (0 : Int64) (gB (pB σ 0 s2.toNatClampNeg (s1 + s0)) 0 (((9 : Int32) * x4) + (x6 - x6 / x3 * x3)).toNatClampNeg) (((9 : Int32) * x4) + (x6 - x6 / x3 * x3))))))
set_option maxRecDepth 100000 in
set_option maxHeartbeats 4000000 in
theorem B_X9_duelOf_b82 {x : CX} {cy : Nat → ClassId} {ad : Nat → Nat} {r : (Int32 × ST)} (E : Ev x cy cX9_duelOf RX9 7 3 73) (K : RetI x cX9_duelOf .int r.1 (wM ad cy r.2)) (rec12 : (ST × Int32 × Int32 × Int32 × Int32) → Option (Int32 × ST)) (hrec12 : ∀ a, rec12 a = some r → G x 0 0 12 [(0, .ref (ad 0)), (1, .int a.2.1), (2, .int a.2.2.1), (3, .int a.2.2.2.1), (4, .int a.2.2.2.2)] [] (wM ad cy a.1)) (rec40 : (ST × Int32 × Int32 × Int32 × Int32 × Int32) → Option (Int32 × ST)) (hrec40 : ∀ a, rec40 a = some r → G x 0 0 40 [(0, .ref (ad 0)), (1, .int a.2.1), (2, .int a.2.2.1), (3, .int a.2.2.2.1), (4, .int a.2.2.2.2.1), (5, .int a.2.2.2.2.2)] [] (wM ad cy a.1)) (σ : ST) (x1 : Int32) (x2 : Int32) (x3 : Int32) (x4 : Int32) (x5 : Int32) (x6 : Int32) (s0 : Int64) (s1 : Int64) (s2 : Int32) (h : D_X9_duelOf_b82 rec12 rec40 σ x1 x2 x3 x4 x5 x6 s0 s1 s2 = some r) : G x 0 0 82 [(0, .ref (ad 0)), (1, .int x1), (2, .int x2), (3, .int x3), (4, .int x4), (5, .int x5), (6, .int x6)] [.long s0, .long s1, .int s2, .ref (ad 18)] (wM ad cy σ) := by
  unfold D_X9_duelOf_b82 at h
  refine G.ladd E dX9_duelOf_82 ?_
  obtain ⟨hg, h⟩ := ite_n h
  refine G.last (ws' := (wM ad cy (pB σ 0 s2.toNatClampNeg (s1 + s0)))) E 18 3 rfl rfl hg dX9_duelOf_83 (wM_aJ0 ad cy _ _ _) ?_
  refine G.aload_n E dX9_duelOf_84 rfl 0 rfl ?_
  refine G.get E inX9 0 rfl rfl 18 (by decide) (f716 E.fx) rfl dX9_duelOf_85 ?_
  refine G.bipush (v := 9) E dX9_duelOf_88 (by decide) ?_
  refine G.iload E dX9_duelOf_90 4 rfl ?_
  refine G.imul E dX9_duelOf_92 ?_
  refine G.iload E dX9_duelOf_93 6 rfl ?_
  refine G.iload_n E dX9_duelOf_95 rfl 3 rfl ?_
  obtain ⟨hg, h⟩ := ite_n h
  refine G.irem E dX9_duelOf_96 hg ?_
  refine G.iadd E dX9_duelOf_97 ?_
  refine G.dup2 E dX9_duelOf_98 rfl rfl ?_
  obtain ⟨hg, h⟩ := ite_n h
  refine G.lald E 18 3 rfl rfl hg dX9_duelOf_99 ?_
  refine G.iload_n E dX9_duelOf_100 rfl 1 rfl ?_
  refine G.iload_n E dX9_duelOf_101 rfl 2 rfl ?_
  refine G.ior E dX9_duelOf_102 ?_
  refine G.iload E dX9_duelOf_103 6 rfl ?_
  obtain ⟨r11, h12, h⟩ := bind_s h
  refine G.retI E (runS (st := [.long (gB (pB σ 0 s2.toNatClampNeg (s1 + s0)) 0 (((9 : Int32) * x4) + (x6 - x6 / x3 * x3)).toNatClampNeg), .int (((9 : Int32) * x4) + (x6 - x6 / x3 * x3)), .ref (ad 18)]) (As := [.int (x1 ||| x2), .int x6]) E (C_X9_isIn h12) ck_X9_isIn (f889 E.fx) (f890 E.fx) (by decide) (by decide) rfl (Nat.le_of_ble_eq_true rfl) dX9_duelOf_105 ⟨Nat.zero_le _, Nat.zero_le _⟩) ?_
  refine G.if_eq (tgt := 115) E dX9_duelOf_108 (by decide) (fun q => ?_) (fun q => ?_)
  · have h := ite_t h q
    refine G.lconst (v := 1) E dX9_duelOf_115 (by decide) ?_
    refine G.sub (lv' := [(0, .ref (ad 0)), (1, .int x1), (2, .int x2), (3, .int x3), (4, .int x4), (5, .int x5)]) [0, 1, 2, 3, 4, 5] rfl ?_
    exact B_X9_duelOf_b116 E K rec12 hrec12 rec40 hrec40 (pB σ 0 s2.toNatClampNeg (s1 + s0)) x1 x2 x3 x4 x5 (1 : Int64) (gB (pB σ 0 s2.toNatClampNeg (s1 + s0)) 0 (((9 : Int32) * x4) + (x6 - x6 / x3 * x3)).toNatClampNeg) (((9 : Int32) * x4) + (x6 - x6 / x3 * x3)) h
  · have h := ite_f h q
    refine G.lconst (v := 0) E dX9_duelOf_111 (by decide) ?_
    refine G.goto (tgt := 116) E dX9_duelOf_112 (by decide) ?_
    refine G.sub (lv' := [(0, .ref (ad 0)), (1, .int x1), (2, .int x2), (3, .int x3), (4, .int x4), (5, .int x5)]) [0, 1, 2, 3, 4, 5] rfl ?_
    exact B_X9_duelOf_b116 E K rec12 hrec12 rec40 hrec40 (pB σ 0 s2.toNatClampNeg (s1 + s0)) x1 x2 x3 x4 x5 (0 : Int64) (gB (pB σ 0 s2.toNatClampNeg (s1 + s0)) 0 (((9 : Int32) * x4) + (x6 - x6 / x3 * x3)).toNatClampNeg) (((9 : Int32) * x4) + (x6 - x6 / x3 * x3)) h
noncomputable def D_X9_duelOf_L40_body (rec12 : (ST × Int32 × Int32 × Int32 × Int32) → Option (Int32 × ST)) (rec40 : (ST × Int32 × Int32 × Int32 × Int32 × Int32) → Option (Int32 × ST)) (σ : ST) (x1 : Int32) (x2 : Int32) (x3 : Int32) (x4 : Int32) (x5 : Int32) : Option (Int32 × ST) := if (2 : Int32) ≤ x5 then (rec12 (σ, x1, x2, x3, (x4 + 1))) else (if (((9 : Int32) * x4) + x3) < 0 ∨ 72 ≤ (((9 : Int32) * x4) + x3).toNatClampNeg then none else ((D_X9_isIn x1 (((2 : Int32) * x4) + x5)).bind fun r9 => if r9 = 0 then (D_X9_duelOf_b82 rec12 rec40 σ x1 x2 x3 x4 x5 (((2 : Int32) * x4) + x5) (0 : Int64) (gB σ 0 (((9 : Int32) * x4) + x3).toNatClampNeg) (((9 : Int32) * x4) + x3)) else (D_X9_duelOf_b82 rec12 rec40 σ x1 x2 x3 x4 x5 (((2 : Int32) * x4) + x5) (1 : Int64) (gB σ 0 (((9 : Int32) * x4) + x3).toNatClampNeg) (((9 : Int32) * x4) + x3))))
set_option maxRecDepth 100000 in
set_option maxHeartbeats 4000000 in
theorem B_X9_duelOf_L40_body {x : CX} {cy : Nat → ClassId} {ad : Nat → Nat} {r : (Int32 × ST)} (E : Ev x cy cX9_duelOf RX9 7 3 73) (K : RetI x cX9_duelOf .int r.1 (wM ad cy r.2)) (rec12 : (ST × Int32 × Int32 × Int32 × Int32) → Option (Int32 × ST)) (hrec12 : ∀ a, rec12 a = some r → G x 0 0 12 [(0, .ref (ad 0)), (1, .int a.2.1), (2, .int a.2.2.1), (3, .int a.2.2.2.1), (4, .int a.2.2.2.2)] [] (wM ad cy a.1)) (rec40 : (ST × Int32 × Int32 × Int32 × Int32 × Int32) → Option (Int32 × ST)) (hrec40 : ∀ a, rec40 a = some r → G x 0 0 40 [(0, .ref (ad 0)), (1, .int a.2.1), (2, .int a.2.2.1), (3, .int a.2.2.2.1), (4, .int a.2.2.2.2.1), (5, .int a.2.2.2.2.2)] [] (wM ad cy a.1)) (σ : ST) (x1 : Int32) (x2 : Int32) (x3 : Int32) (x4 : Int32) (x5 : Int32) (h : D_X9_duelOf_L40_body rec12 rec40 σ x1 x2 x3 x4 x5 = some r) : G x 0 0 40 [(0, .ref (ad 0)), (1, .int x1), (2, .int x2), (3, .int x3), (4, .int x4), (5, .int x5)] [] (wM ad cy σ) := by
  unfold D_X9_duelOf_L40_body at h
  refine G.iload E dX9_duelOf_40 5 rfl ?_
  refine G.iconst (v := 2) E dX9_duelOf_42 (by decide) ?_
  refine G.icmp_ge (tgt := 124) E dX9_duelOf_43 (by decide) (fun q => ?_) (fun q => ?_)
  · have h := ite_t h q
    refine G.iinc (w := x4 + 1) (lv' := [(4, .int (x4 + 1)), (0, .ref (ad 0)), (1, .int x1), (2, .int x2), (3, .int x3), (5, .int x5)]) E dX9_duelOf_124 4 rfl rfl (by decide) rfl ?_
    refine G.goto (tgt := 12) E dX9_duelOf_127 (by decide) ?_
    refine G.sub (lv' := [(0, .ref (ad 0)), (1, .int x1), (2, .int x2), (3, .int x3), (4, .int (x4 + 1))]) [1, 2, 3, 4, 0] rfl ?_
    exact hrec12 (σ, x1, x2, x3, (x4 + 1)) h
  · have h := ite_f h q
    refine G.iconst (v := 2) E dX9_duelOf_46 (by decide) ?_
    refine G.iload E dX9_duelOf_47 4 rfl ?_
    refine G.imul E dX9_duelOf_49 ?_
    refine G.iload E dX9_duelOf_50 5 rfl ?_
    refine G.iadd E dX9_duelOf_52 ?_
    refine G.istore (lv' := [(6, .int (((2 : Int32) * x4) + x5)), (0, .ref (ad 0)), (1, .int x1), (2, .int x2), (3, .int x3), (4, .int x4), (5, .int x5)]) E dX9_duelOf_53 (by decide) rfl ?_
    refine G.aload_n E dX9_duelOf_55 rfl 1 rfl ?_
    refine G.get E inX9 0 rfl rfl 18 (by decide) (f716 E.fx) rfl dX9_duelOf_56 ?_
    refine G.bipush (v := 9) E dX9_duelOf_59 (by decide) ?_
    refine G.iload E dX9_duelOf_61 5 rfl ?_
    refine G.imul E dX9_duelOf_63 ?_
    refine G.iload_n E dX9_duelOf_64 rfl 4 rfl ?_
    refine G.iadd E dX9_duelOf_65 ?_
    refine G.dup2 E dX9_duelOf_66 rfl rfl ?_
    obtain ⟨hg, h⟩ := ite_n h
    refine G.lald E 18 3 rfl rfl hg dX9_duelOf_67 ?_
    refine G.iload_n E dX9_duelOf_68 rfl 2 rfl ?_
    refine G.iload E dX9_duelOf_69 0 rfl ?_
    obtain ⟨r9, h10, h⟩ := bind_s h
    refine G.retI E (runS (st := [.long (gB σ 0 (((9 : Int32) * x4) + x3).toNatClampNeg), .int (((9 : Int32) * x4) + x3), .ref (ad 18)]) (As := [.int x1, .int (((2 : Int32) * x4) + x5)]) E (C_X9_isIn h10) ck_X9_isIn (f889 E.fx) (f890 E.fx) (by decide) (by decide) rfl (Nat.le_of_ble_eq_true rfl) dX9_duelOf_71 ⟨Nat.zero_le _, Nat.zero_le _⟩) ?_
    refine G.if_eq (tgt := 81) E dX9_duelOf_74 (by decide) (fun q => ?_) (fun q => ?_)
    · have h := ite_t h q
      refine G.lconst (v := 0) E dX9_duelOf_81 (by decide) ?_
      refine G.sub (lv' := [(0, .ref (ad 0)), (1, .int x1), (2, .int x2), (3, .int x3), (4, .int x4), (5, .int x5), (6, .int (((2 : Int32) * x4) + x5))]) [1, 2, 3, 4, 5, 6, 0] rfl ?_
      exact B_X9_duelOf_b82 E K rec12 hrec12 rec40 hrec40 σ x1 x2 x3 x4 x5 (((2 : Int32) * x4) + x5) (0 : Int64) (gB σ 0 (((9 : Int32) * x4) + x3).toNatClampNeg) (((9 : Int32) * x4) + x3) h
    · have h := ite_f h q
      refine G.lconst (v := 1) E dX9_duelOf_77 (by decide) ?_
      refine G.goto (tgt := 82) E dX9_duelOf_78 (by decide) ?_
      refine G.sub (lv' := [(0, .ref (ad 0)), (1, .int x1), (2, .int x2), (3, .int x3), (4, .int x4), (5, .int x5), (6, .int (((2 : Int32) * x4) + x5))]) [1, 2, 3, 4, 5, 6, 0] rfl ?_
      exact B_X9_duelOf_b82 E K rec12 hrec12 rec40 hrec40 σ x1 x2 x3 x4 x5 (((2 : Int32) * x4) + x5) (1 : Int64) (gB σ 0 (((9 : Int32) * x4) + x3).toNatClampNeg) (((9 : Int32) * x4) + x3) h
noncomputable def D_X9_duelOf_L40 (rec12 : (ST × Int32 × Int32 × Int32 × Int32) → Option (Int32 × ST)) (σ : ST) (x1 : Int32) (x2 : Int32) (x3 : Int32) (x4 : Int32) (x5 : Int32) : Option (Int32 × ST) := itr (fun (rec40 : (ST × Int32 × Int32 × Int32 × Int32 × Int32) → Option (Int32 × ST)) (a : (ST × Int32 × Int32 × Int32 × Int32 × Int32)) => D_X9_duelOf_L40_body rec12 rec40 a.1 a.2.1 a.2.2.1 a.2.2.2.1 a.2.2.2.2.1 a.2.2.2.2.2) 200 (σ, x1, x2, x3, x4, x5)
set_option maxRecDepth 100000 in
set_option maxHeartbeats 4000000 in
theorem B_X9_duelOf_L40 {x : CX} {cy : Nat → ClassId} {ad : Nat → Nat} {r : (Int32 × ST)} (E : Ev x cy cX9_duelOf RX9 7 3 73) (K : RetI x cX9_duelOf .int r.1 (wM ad cy r.2)) (rec12 : (ST × Int32 × Int32 × Int32 × Int32) → Option (Int32 × ST)) (hrec12 : ∀ a, rec12 a = some r → G x 0 0 12 [(0, .ref (ad 0)), (1, .int a.2.1), (2, .int a.2.2.1), (3, .int a.2.2.2.1), (4, .int a.2.2.2.2)] [] (wM ad cy a.1)) (σ : ST) (x1 : Int32) (x2 : Int32) (x3 : Int32) (x4 : Int32) (x5 : Int32) (h : D_X9_duelOf_L40 rec12 σ x1 x2 x3 x4 x5 = some r) : G x 0 0 40 [(0, .ref (ad 0)), (1, .int x1), (2, .int x2), (3, .int x3), (4, .int x4), (5, .int x5)] [] (wM ad cy σ) :=
  itr_ind (P := fun a => G x 0 0 40 [(0, .ref (ad 0)), (1, .int a.2.1), (2, .int a.2.2.1), (3, .int a.2.2.2.1), (4, .int a.2.2.2.2.1), (5, .int a.2.2.2.2.2)] [] (wM ad cy a.1)) (fun rec40 hrec40 a h => B_X9_duelOf_L40_body E K rec12 hrec12 rec40 hrec40 a.1 a.2.1 a.2.2.1 a.2.2.2.1 a.2.2.2.2.1 a.2.2.2.2.2 h) 200 (σ, x1, x2, x3, x4, x5) h
noncomputable def D_X9_duelOf_L12_body (rec12 : (ST × Int32 × Int32 × Int32 × Int32) → Option (Int32 × ST)) (σ : ST) (x1 : Int32) (x2 : Int32) (x3 : Int32) (x4 : Int32) : Option (Int32 × ST) := if x3 ≤ x4 then ((D_X9_solve σ).bind fun r5 => (D_X9_middle r5 (1000000 : Int64)).bind fun r7 => some (r7.toInt32, r5)) else (if (((9 : Int32) * x4) + x4) < 0 ∨ 72 ≤ (((9 : Int32) * x4) + x4).toNatClampNeg then none else (if (((9 : Int32) * x4) + x4) < 0 ∨ 72 ≤ (((9 : Int32) * x4) + x4).toNatClampNeg then none else (D_X9_duelOf_L40 rec12 (pB σ 0 (((9 : Int32) * x4) + x4).toNatClampNeg ((gB σ 0 (((9 : Int32) * x4) + x4).toNatClampNeg) + (2 : Int64))) x1 x2 x3 x4 (0 : Int32))))
set_option maxRecDepth 100000 in
set_option maxHeartbeats 4000000 in
theorem B_X9_duelOf_L12_body {x : CX} {cy : Nat → ClassId} {ad : Nat → Nat} {r : (Int32 × ST)} (E : Ev x cy cX9_duelOf RX9 7 3 73) (K : RetI x cX9_duelOf .int r.1 (wM ad cy r.2)) (rec12 : (ST × Int32 × Int32 × Int32 × Int32) → Option (Int32 × ST)) (hrec12 : ∀ a, rec12 a = some r → G x 0 0 12 [(0, .ref (ad 0)), (1, .int a.2.1), (2, .int a.2.2.1), (3, .int a.2.2.2.1), (4, .int a.2.2.2.2)] [] (wM ad cy a.1)) (σ : ST) (x1 : Int32) (x2 : Int32) (x3 : Int32) (x4 : Int32) (h : D_X9_duelOf_L12_body rec12 σ x1 x2 x3 x4 = some r) : G x 0 0 12 [(0, .ref (ad 0)), (1, .int x1), (2, .int x2), (3, .int x3), (4, .int x4)] [] (wM ad cy σ) := by
  unfold D_X9_duelOf_L12_body at h
  refine G.iload E dX9_duelOf_12 4 rfl ?_
  refine G.iload_n E dX9_duelOf_14 rfl 3 rfl ?_
  refine G.icmp_ge (tgt := 130) E dX9_duelOf_15 (by decide) (fun q => ?_) (fun q => ?_)
  · have h := ite_t h q
    refine G.aload_n E dX9_duelOf_130 rfl 0 rfl ?_
    obtain ⟨r5, h6, h⟩ := bind_s h
    refine G.retV E (runV (st := []) (As := []) E (C_X9_solve h6) ck_X9_solve (f892 E.fx) (f894 E.fx) (f39 E.fx) 0 9 rfl rfl rfl (by decide) (by decide) rfl (Nat.le_of_ble_eq_true rfl) dX9_duelOf_131 ⟨Nat.zero_le _, Nat.zero_le _⟩) ?_
    refine G.aload_n E dX9_duelOf_134 rfl 0 rfl ?_
    refine G.ldc2 E (f965 E.fx) dX9_duelOf_135 ?_
    obtain ⟨r7, h8, h⟩ := bind_s h
    refine G.retL E (runV (st := []) (As := [.long (1000000 : Int64)]) E (C_X9_middle h8) ck_X9_middle (f905 E.fx) (f907 E.fx) (f42 E.fx) 0 9 rfl rfl rfl (by decide) (by decide) rfl (Nat.le_of_ble_eq_true rfl) dX9_duelOf_138 ⟨Nat.zero_le _, Nat.zero_le _⟩) ?_
    refine G.l2i E dX9_duelOf_141 ?_
    obtain rfl := Option.some.inj h
    exact K rfl _ _ dX9_duelOf_142
  · have h := ite_f h q
    refine G.aload_n E dX9_duelOf_18 rfl 0 rfl ?_
    refine G.get E inX9 0 rfl rfl 18 (by decide) (f716 E.fx) rfl dX9_duelOf_19 ?_
    refine G.bipush (v := 9) E dX9_duelOf_22 (by decide) ?_
    refine G.iload E dX9_duelOf_24 4 rfl ?_
    refine G.imul E dX9_duelOf_26 ?_
    refine G.iload E dX9_duelOf_27 4 rfl ?_
    refine G.iadd E dX9_duelOf_29 ?_
    refine G.dup2 E dX9_duelOf_30 rfl rfl ?_
    obtain ⟨hg, h⟩ := ite_n h
    refine G.lald E 18 3 rfl rfl hg dX9_duelOf_31 ?_
    refine G.ldc2 E (f888 E.fx) dX9_duelOf_32 ?_
    refine G.ladd E dX9_duelOf_35 ?_
    obtain ⟨hg, h⟩ := ite_n h
    refine G.last (ws' := (wM ad cy (pB σ 0 (((9 : Int32) * x4) + x4).toNatClampNeg ((gB σ 0 (((9 : Int32) * x4) + x4).toNatClampNeg) + (2 : Int64))))) E 18 3 rfl rfl hg dX9_duelOf_36 (wM_aJ0 ad cy _ _ _) ?_
    refine G.iconst (v := 0) E dX9_duelOf_37 (by decide) ?_
    refine G.istore (lv' := [(5, .int (0 : Int32)), (0, .ref (ad 0)), (1, .int x1), (2, .int x2), (3, .int x3), (4, .int x4)]) E dX9_duelOf_38 (by decide) rfl ?_
    refine G.sub (lv' := [(0, .ref (ad 0)), (1, .int x1), (2, .int x2), (3, .int x3), (4, .int x4), (5, .int (0 : Int32))]) [1, 2, 3, 4, 5, 0] rfl ?_
    exact B_X9_duelOf_L40 E K rec12 hrec12 (pB σ 0 (((9 : Int32) * x4) + x4).toNatClampNeg ((gB σ 0 (((9 : Int32) * x4) + x4).toNatClampNeg) + (2 : Int64))) x1 x2 x3 x4 (0 : Int32) h
noncomputable def D_X9_duelOf_L12  (σ : ST) (x1 : Int32) (x2 : Int32) (x3 : Int32) (x4 : Int32) : Option (Int32 × ST) := itr (fun (rec12 : (ST × Int32 × Int32 × Int32 × Int32) → Option (Int32 × ST)) (a : (ST × Int32 × Int32 × Int32 × Int32)) => D_X9_duelOf_L12_body rec12 a.1 a.2.1 a.2.2.1 a.2.2.2.1 a.2.2.2.2) 200 (σ, x1, x2, x3, x4)
set_option maxRecDepth 100000 in
set_option maxHeartbeats 4000000 in
theorem B_X9_duelOf_L12 {x : CX} {cy : Nat → ClassId} {ad : Nat → Nat} {r : (Int32 × ST)} (E : Ev x cy cX9_duelOf RX9 7 3 73) (K : RetI x cX9_duelOf .int r.1 (wM ad cy r.2))  (σ : ST) (x1 : Int32) (x2 : Int32) (x3 : Int32) (x4 : Int32) (h : D_X9_duelOf_L12 σ x1 x2 x3 x4 = some r) : G x 0 0 12 [(0, .ref (ad 0)), (1, .int x1), (2, .int x2), (3, .int x3), (4, .int x4)] [] (wM ad cy σ) :=
  itr_ind (P := fun a => G x 0 0 12 [(0, .ref (ad 0)), (1, .int a.2.1), (2, .int a.2.2.1), (3, .int a.2.2.2.1), (4, .int a.2.2.2.2)] [] (wM ad cy a.1)) (fun rec12 hrec12 a h => B_X9_duelOf_L12_body E K rec12 hrec12 a.1 a.2.1 a.2.2.1 a.2.2.2.1 a.2.2.2.2 h) 200 (σ, x1, x2, x3, x4) h
noncomputable def D_X9_duelOf (σ : ST) (p1 : Int32) (p2 : Int32) : Option (Int32 × ST) := (D_X9_unknowns σ).bind fun r1 => (D_X9_clear σ).bind fun r3 => D_X9_duelOf_L12 r3 p1 p2 r1 (0 : Int32)
set_option maxRecDepth 100000 in
set_option maxHeartbeats 4000000 in
theorem B_X9_duelOf {x : CX} {cy : Nat → ClassId} {ad : Nat → Nat} {r : (Int32 × ST)} (E : Ev x cy cX9_duelOf RX9 7 3 73) (K : RetI x cX9_duelOf .int r.1 (wM ad cy r.2)) (σ : ST) (p1 : Int32) (p2 : Int32) (h : D_X9_duelOf σ p1 p2 = some r) : G x 0 0 0 [(0, .ref (ad 0)), (1, .int p1), (2, .int p2)] [] (wM ad cy σ) := by
  unfold D_X9_duelOf at h
  refine G.aload_n E dX9_duelOf_0 rfl 0 rfl ?_
  obtain ⟨r1, h2, h⟩ := bind_s h
  refine G.retI E (runV (st := []) (As := []) E (C_X9_unknowns h2) ck_X9_unknowns (f880 E.fx) (f882 E.fx) (f37 E.fx) 0 9 rfl rfl rfl (by decide) (by decide) rfl (Nat.le_of_ble_eq_true rfl) dX9_duelOf_1 ⟨Nat.zero_le _, Nat.zero_le _⟩) ?_
  refine G.istore_n (lv' := [(3, .int r1), (0, .ref (ad 0)), (1, .int p1), (2, .int p2)]) E dX9_duelOf_4 rfl (by decide) rfl ?_
  refine G.aload_n E dX9_duelOf_5 rfl 1 rfl ?_
  obtain ⟨r3, h4, h⟩ := bind_s h
  refine G.retV E (runV (st := []) (As := []) E (C_X9_clear h4) ck_X9_clear (f884 E.fx) (f886 E.fx) (f38 E.fx) 0 9 rfl rfl rfl (by decide) (by decide) rfl (Nat.le_of_ble_eq_true rfl) dX9_duelOf_6 ⟨Nat.zero_le _, Nat.zero_le _⟩) ?_
  refine G.iconst (v := 0) E dX9_duelOf_9 (by decide) ?_
  refine G.istore (lv' := [(4, .int (0 : Int32)), (3, .int r1), (0, .ref (ad 0)), (1, .int p1), (2, .int p2)]) E dX9_duelOf_10 (by decide) rfl ?_
  refine G.sub (lv' := [(0, .ref (ad 0)), (1, .int p1), (2, .int p2), (3, .int r1), (4, .int (0 : Int32))]) [2, 3, 4, 1, 0] rfl ?_
  exact B_X9_duelOf_L12 E K r3 p1 p2 r1 (0 : Int32) h
set_option maxRecDepth 100000 in
set_option maxHeartbeats 4000000 in
theorem C_X9_duelOf {l : Launch} {D : va_G} {cy : Nat → ClassId} {ad : Nat → Nat} {σ : ST} {p1 : Int32} {p2 : Int32} {r : (Int32 × ST)} (h : D_X9_duelOf σ p1 p2 = some r) : MI l yX9_duelOf cX9_duelOf 7 (some .int) 3 73 D cy (wM ad cy σ) [.ref (ad 0), .int p1, .int p2] r.1 (wM ad cy r.2) :=
  MI.mk (lv := [(0, .ref (ad 0)), (1, .int p1), (2, .int p2)]) (by decide) (Nat.le_of_ble_eq_true rfl) rfl (fun x _ _ E K => B_X9_duelOf E K σ p1 p2 h)

noncomputable def D_X9_duelNow (σ : ST) (p1 : Int32) (p2 : Int32) : Option (Int32 × ST) := (D_X9_hitsOf σ p1).bind fun r1 => (D_X9_hitsOf σ p2).bind fun r3 => (D_X9_duelOf σ r1 r3).bind fun r5 => some (r5.1, r5.2)
set_option maxRecDepth 100000 in
set_option maxHeartbeats 4000000 in
theorem B_X9_duelNow {x : CX} {cy : Nat → ClassId} {ad : Nat → Nat} {r : (Int32 × ST)} (E : Ev x cy cX9_duelNow RX9 3 4 99) (K : RetI x cX9_duelNow .int r.1 (wM ad cy r.2)) (σ : ST) (p1 : Int32) (p2 : Int32) (h : D_X9_duelNow σ p1 p2 = some r) : G x 0 0 0 [(0, .ref (ad 0)), (1, .int p1), (2, .int p2)] [] (wM ad cy σ) := by
  unfold D_X9_duelNow at h
  refine G.aload_n E dX9_duelNow_0 rfl 0 rfl ?_
  refine G.aload_n E dX9_duelNow_1 rfl 0 rfl ?_
  refine G.iload_n E dX9_duelNow_2 rfl 1 rfl ?_
  obtain ⟨r1, h2, h⟩ := bind_s h
  refine G.retI E (runV (st := [.ref (ad 0)]) (As := [.int p1]) E (C_X9_hitsOf h2) ck_X9_hitsOf (f860 E.fx) (f862 E.fx) (f32 E.fx) 0 9 rfl rfl rfl (by decide) (by decide) rfl (Nat.le_of_ble_eq_true rfl) dX9_duelNow_3 ⟨Nat.zero_le _, Nat.zero_le _⟩) ?_
  refine G.aload_n E dX9_duelNow_6 rfl 0 rfl ?_
  refine G.iload_n E dX9_duelNow_7 rfl 2 rfl ?_
  obtain ⟨r3, h4, h⟩ := bind_s h
  refine G.retI E (runV (st := [.int r1, .ref (ad 0)]) (As := [.int p2]) E (C_X9_hitsOf h4) ck_X9_hitsOf (f860 E.fx) (f862 E.fx) (f32 E.fx) 0 9 rfl rfl rfl (by decide) (by decide) rfl (Nat.le_of_ble_eq_true rfl) dX9_duelNow_8 ⟨Nat.zero_le _, Nat.zero_le _⟩) ?_
  obtain ⟨r5, h6, h⟩ := bind_s h
  refine G.retI E (runV (st := []) (As := [.int r1, .int r3]) E (C_X9_duelOf h6) ck_X9_duelOf (f961 E.fx) (f963 E.fx) (f48 E.fx) 0 9 rfl rfl rfl (by decide) (by decide) rfl (Nat.le_of_ble_eq_true rfl) dX9_duelNow_11 ⟨Nat.zero_le _, Nat.zero_le _⟩) ?_
  obtain rfl := Option.some.inj h
  exact K rfl _ _ dX9_duelNow_14
set_option maxRecDepth 100000 in
set_option maxHeartbeats 4000000 in
theorem C_X9_duelNow {l : Launch} {D : va_G} {cy : Nat → ClassId} {ad : Nat → Nat} {σ : ST} {p1 : Int32} {p2 : Int32} {r : (Int32 × ST)} (h : D_X9_duelNow σ p1 p2 = some r) : MI l yX9_duelNow cX9_duelNow 3 (some .int) 4 99 D cy (wM ad cy σ) [.ref (ad 0), .int p1, .int p2] r.1 (wM ad cy r.2) :=
  MI.mk (lv := [(0, .ref (ad 0)), (1, .int p1), (2, .int p2)]) (by decide) (Nat.le_of_ble_eq_true rfl) rfl (fun x _ _ E K => B_X9_duelNow E K σ p1 p2 h)

noncomputable def D_X9_duel (σ : ST) (p1 : Int32) (p2 : Int32) : Option (Int32 × ST) := (D_X9_isPlayer σ p1).bind fun r1 => if r1 = 0 then (some ((-101 : Int32), σ)) else ((D_X9_isPlayer σ p2).bind fun r3 => if r3 = 0 then (some ((-101 : Int32), σ)) else (if p1 = p2 then (some ((-101 : Int32), σ)) else ((D_X9_duelNow σ p1 p2).bind fun r5 => some (r5.1, r5.2))))
set_option maxRecDepth 100000 in
set_option maxHeartbeats 4000000 in
theorem B_X9_duel {x : CX} {cy : Nat → ClassId} {ad : Nat → Nat} {r : (Int32 × ST)} (E : Ev x cy cX9_duel RX9 3 5 121) (K : RetI x cX9_duel .int r.1 (wM ad cy r.2)) (σ : ST) (p1 : Int32) (p2 : Int32) (h : D_X9_duel σ p1 p2 = some r) : G x 0 0 0 [(0, .ref (ad 0)), (1, .int p1), (2, .int p2)] [] (wM ad cy σ) := by
  unfold D_X9_duel at h
  refine G.aload_n E dX9_duel_0 rfl 0 rfl ?_
  refine G.iload_n E dX9_duel_1 rfl 1 rfl ?_
  obtain ⟨r1, h2, h⟩ := bind_s h
  refine G.retI E (runV (st := []) (As := [.int p1]) E (C_X9_isPlayer h2) ck_X9_isPlayer (f852 E.fx) (f854 E.fx) (f30 E.fx) 0 9 rfl rfl rfl (by decide) (by decide) rfl (Nat.le_of_ble_eq_true rfl) dX9_duel_2 ⟨Nat.zero_le _, Nat.zero_le _⟩) ?_
  refine G.if_eq (tgt := 30) E dX9_duel_5 (by decide) (fun q => ?_) (fun q => ?_)
  · have h := ite_t h q
    refine G.bipush (v := -101) E dX9_duel_30 (by decide) ?_
    obtain rfl := Option.some.inj h
    exact K rfl _ _ dX9_duel_32
  · have h := ite_f h q
    refine G.aload_n E dX9_duel_8 rfl 0 rfl ?_
    refine G.iload_n E dX9_duel_9 rfl 2 rfl ?_
    obtain ⟨r3, h4, h⟩ := bind_s h
    refine G.retI E (runV (st := []) (As := [.int p2]) E (C_X9_isPlayer h4) ck_X9_isPlayer (f852 E.fx) (f854 E.fx) (f30 E.fx) 0 9 rfl rfl rfl (by decide) (by decide) rfl (Nat.le_of_ble_eq_true rfl) dX9_duel_10 ⟨Nat.zero_le _, Nat.zero_le _⟩) ?_
    refine G.if_eq (tgt := 30) E dX9_duel_13 (by decide) (fun q => ?_) (fun q => ?_)
    · have h := ite_t h q
      refine G.bipush (v := -101) E dX9_duel_30 (by decide) ?_
      obtain rfl := Option.some.inj h
      exact K rfl _ _ dX9_duel_32
    · have h := ite_f h q
      refine G.iload_n E dX9_duel_16 rfl 1 rfl ?_
      refine G.iload_n E dX9_duel_17 rfl 2 rfl ?_
      refine G.icmp_eq (tgt := 30) E dX9_duel_18 (by decide) (fun q => ?_) (fun q => ?_)
      · have h := ite_t h q
        refine G.bipush (v := -101) E dX9_duel_30 (by decide) ?_
        obtain rfl := Option.some.inj h
        exact K rfl _ _ dX9_duel_32
      · have h := ite_f h q
        refine G.aload_n E dX9_duel_21 rfl 0 rfl ?_
        refine G.iload_n E dX9_duel_22 rfl 1 rfl ?_
        refine G.iload_n E dX9_duel_23 rfl 2 rfl ?_
        obtain ⟨r5, h6, h⟩ := bind_s h
        refine G.retI E (runV (st := []) (As := [.int p1, .int p2]) E (C_X9_duelNow h6) ck_X9_duelNow (f957 E.fx) (f959 E.fx) (f47 E.fx) 0 9 rfl rfl rfl (by decide) (by decide) rfl (Nat.le_of_ble_eq_true rfl) dX9_duel_24 ⟨Nat.zero_le _, Nat.zero_le _⟩) ?_
        refine G.goto (tgt := 32) E dX9_duel_27 (by decide) ?_
        obtain rfl := Option.some.inj h
        exact K rfl _ _ dX9_duel_32
set_option maxRecDepth 100000 in
set_option maxHeartbeats 4000000 in
theorem C_X9_duel {l : Launch} {D : va_G} {cy : Nat → ClassId} {ad : Nat → Nat} {σ : ST} {p1 : Int32} {p2 : Int32} {r : (Int32 × ST)} (h : D_X9_duel σ p1 p2 = some r) : MI l yX9_duel cX9_duel 3 (some .int) 5 121 D cy (wM ad cy σ) [.ref (ad 0), .int p1, .int p2] r.1 (wM ad cy r.2) :=
  MI.mk (lv := [(0, .ref (ad 0)), (1, .int p1), (2, .int p2)]) (by decide) (Nat.le_of_ble_eq_true rfl) rfl (fun x _ _ E K => B_X9_duel E K σ p1 p2 h)
