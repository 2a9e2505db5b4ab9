noncomputable def D_X8_odds_b69  (σ : ST) (x3 : Int32) (x4 : Int32) (x5 : Int32) : Option (Int32 × ST) := if x3 = 0 then (some (x4, σ)) else (some ((1 : Int32) <<< (x5 &&& 31), σ))
set_option maxRecDepth 100000 in
set_option maxHeartbeats 4000000 in
theorem B_X8_odds_b69 {x : CX} {cy : Nat → ClassId} {ad : Nat → Nat} {r : (Int32 × ST)} (E : Ev x cy cX8_odds RX8 6 6 167) (K : RetI x cX8_odds .int r.1 (wT ad cy r.2))  (σ : ST) (x3 : Int32) (x4 : Int32) (x5 : Int32) (h : D_X8_odds_b69 σ x3 x4 x5 = some r) : G x 0 0 69 [(3, .int x3), (4, .int x4), (5, .int x5)] [] (wT ad cy σ) := by
  unfold D_X8_odds_b69 at h
  refine G.iload_n E dX8_odds_69 rfl 0 rfl ?_
  refine G.if_ne (tgt := 78) E dX8_odds_70 (by decide) (fun q => ?_) (fun q => ?_)
  · have h := ite_f h q
    refine G.iconst (v := 1) E dX8_odds_78 (by decide) ?_
    refine G.iload E dX8_odds_79 2 rfl ?_
    refine G.ishl E dX8_odds_81 ?_
    obtain rfl := Option.some.inj h
    exact K rfl _ _ dX8_odds_82
  · have h := ite_t h q
    refine G.iload E dX8_odds_73 1 rfl ?_
    refine G.goto (tgt := 82) E dX8_odds_75 (by decide) ?_
    obtain rfl := Option.some.inj h
    exact K rfl _ _ dX8_odds_82
noncomputable def D_X8_odds_L45_body (rec45 : (ST × Int32 × Int32 × Int32) → Option (Int32 × ST)) (σ : ST) (x3 : Int32) (x4 : Int32) (x5 : Int32) : Option (Int32 × ST) := if x5 ≤ 0 then (D_X8_odds_b69 σ x3 x4 x5) else (if (x4 &&& (1 : Int32)) = 0 then (rec45 (σ, x3, (x4 >>> ((1 : Int32) &&& 31)), (x5 + (-1)))) else (D_X8_odds_b69 σ x3 x4 x5))
set_option maxRecDepth 100000 in
set_option maxHeartbeats 4000000 in
theorem B_X8_odds_L45_body {x : CX} {cy : Nat → ClassId} {ad : Nat → Nat} {r : (Int32 × ST)} (E : Ev x cy cX8_odds RX8 6 6 167) (K : RetI x cX8_odds .int r.1 (wT ad cy r.2)) (rec45 : (ST × Int32 × Int32 × Int32) → Option (Int32 × ST)) (hrec45 : ∀ a, rec45 a = some r → G x 0 0 45 [(3, .int a.2.1), (4, .int a.2.2.1), (5, .int a.2.2.2)] [] (wT ad cy a.1)) (σ : ST) (x3 : Int32) (x4 : Int32) (x5 : Int32) (h : D_X8_odds_L45_body rec45 σ x3 x4 x5 = some r) : G x 0 0 45 [(3, .int x3), (4, .int x4), (5, .int x5)] [] (wT ad cy σ) := by
  unfold D_X8_odds_L45_body at h
  refine G.iload E dX8_odds_45 2 rfl ?_
  refine G.if_le (tgt := 69) E dX8_odds_47 (by decide) (fun q => ?_) (fun q => ?_)
  · have h := ite_t h q
    refine G.sub (lv' := [(3, .int x3), (4, .int x4), (5, .int x5)]) [0, 1, 2] rfl ?_
    exact B_X8_odds_b69 E K σ x3 x4 x5 h
  · have h := ite_f h q
    refine G.iload E dX8_odds_50 1 rfl ?_
    refine G.iconst (v := 1) E dX8_odds_52 (by decide) ?_
    refine G.iand E dX8_odds_53 ?_
    refine G.if_ne (tgt := 69) E dX8_odds_54 (by decide) (fun q => ?_) (fun q => ?_)
    · have h := ite_f h q
      refine G.sub (lv' := [(3, .int x3), (4, .int x4), (5, .int x5)]) [0, 1, 2] rfl ?_
      exact B_X8_odds_b69 E K σ x3 x4 x5 h
    · have h := ite_t h q
      refine G.iload E dX8_odds_57 1 rfl ?_
      refine G.iconst (v := 1) E dX8_odds_59 (by decide) ?_
      refine G.ishr E dX8_odds_60 ?_
      refine G.istore (lv' := [(4, .int (x4 >>> ((1 : Int32) &&& 31))), (3, .int x3), (5, .int x5)]) E dX8_odds_61 (by decide) rfl ?_
      refine G.iinc (w := x5 + (-1)) (lv' := [(5, .int (x5 + (-1))), (4, .int (x4 >>> ((1 : Int32) &&& 31))), (3, .int x3)]) E dX8_odds_63 2 rfl rfl (by decide) rfl ?_
      refine G.goto (tgt := 45) E dX8_odds_66 (by decide) ?_
      refine G.sub (lv' := [(3, .int x3), (4, .int (x4 >>> ((1 : Int32) &&& 31))), (5, .int (x5 + (-1)))]) [2, 1, 0] rfl ?_
      exact hrec45 (σ, x3, (x4 >>> ((1 : Int32) &&& 31)), (x5 + (-1))) h
noncomputable def D_X8_odds_L45  (σ : ST) (x3 : Int32) (x4 : Int32) (x5 : Int32) : Option (Int32 × ST) := itr (fun (rec45 : (ST × Int32 × Int32 × Int32) → Option (Int32 × ST)) (a : (ST × Int32 × Int32 × Int32)) => D_X8_odds_L45_body rec45 a.1 a.2.1 a.2.2.1 a.2.2.2) 200 (σ, x3, x4, x5)
set_option maxRecDepth 100000 in
set_option maxHeartbeats 4000000 in
theorem B_X8_odds_L45 {x : CX} {cy : Nat → ClassId} {ad : Nat → Nat} {r : (Int32 × ST)} (E : Ev x cy cX8_odds RX8 6 6 167) (K : RetI x cX8_odds .int r.1 (wT ad cy r.2))  (σ : ST) (x3 : Int32) (x4 : Int32) (x5 : Int32) (h : D_X8_odds_L45 σ x3 x4 x5 = some r) : G x 0 0 45 [(3, .int x3), (4, .int x4), (5, .int x5)] [] (wT ad cy σ) :=
  itr_ind (P := fun a => G x 0 0 45 [(3, .int a.2.1), (4, .int a.2.2.1), (5, .int a.2.2.2)] [] (wT ad cy a.1)) (fun rec45 hrec45 a h => B_X8_odds_L45_body E K rec45 hrec45 a.1 a.2.1 a.2.2.1 a.2.2.2 h) 200 (σ, x3, x4, x5) h
noncomputable def D_X8_odds (σ : ST) (p1 : Int32) (p2 : Int32) (p3 : Int32) : Option (Int32 × ST) := (D_X8_isPlayer σ p1).bind fun r1 => if r1 = 0 then (some ((-101 : Int32), σ)) else (if p2 < (1 : Int32) then (some ((-102 : Int32), σ)) else (if (20 : Int32) < p2 then (some ((-102 : Int32), σ)) else (if p3 < 0 then (some ((-102 : Int32), σ)) else (if p3 ≤ (1 : Int32) then ((D_X8_waysToWin σ p1 p2).bind fun r3 => D_X8_odds_L45 r3.2 p3 r3.1 p2) else (some ((-102 : Int32), σ))))))
set_option maxRecDepth 100000 in
set_option maxHeartbeats 4000000 in
theorem B_X8_odds {x : CX} {cy : Nat → ClassId} {ad : Nat → Nat} {r : (Int32 × ST)} (E : Ev x cy cX8_odds RX8 6 6 167) (K : RetI x cX8_odds .int r.1 (wT ad cy r.2)) (σ : ST) (p1 : Int32) (p2 : Int32) (p3 : Int32) (h : D_X8_odds σ p1 p2 p3 = some r) : G x 0 0 0 [(0, .ref (ad 0)), (1, .int p1), (2, .int p2), (3, .int p3)] [] (wT ad cy σ) := by
  unfold D_X8_odds at h
  refine G.aload_n E dX8_odds_0 rfl 0 rfl ?_
  refine G.iload_n E dX8_odds_1 rfl 1 rfl ?_
  obtain ⟨r1, h2, h⟩ := bind_s h
  refine G.retI E (runV (st := []) (As := [.int p1]) E (C_X8_isPlayer h2) ck_X8_isPlayer (f425 E.fx) (f427 E.fx) (f3 E.fx) 0 8 rfl rfl rfl (by decide) (by decide) rfl (Nat.le_of_ble_eq_true rfl) dX8_odds_2 ⟨Nat.zero_le _, Nat.zero_le _⟩) ?_
  refine G.if_ne (tgt := 11) E dX8_odds_5 (by decide) (fun q => ?_) (fun q => ?_)
  · have h := ite_f h q
    refine G.iload_n E dX8_odds_11 rfl 2 rfl ?_
    refine G.iconst (v := 1) E dX8_odds_12 (by decide) ?_
    refine G.icmp_lt (tgt := 31) E dX8_odds_13 (by decide) (fun q => ?_) (fun q => ?_)
    · have h := ite_t h q
      refine G.bipush (v := -102) E dX8_odds_31 (by decide) ?_
      obtain rfl := Option.some.inj h
      exact K rfl _ _ dX8_odds_33
    · have h := ite_f h q
      refine G.iload_n E dX8_odds_16 rfl 2 rfl ?_
      refine G.bipush (v := 20) E dX8_odds_17 (by decide) ?_
      refine G.icmp_gt (tgt := 31) E dX8_odds_19 (by decide) (fun q => ?_) (fun q => ?_)
      · have h := ite_t h q
        refine G.bipush (v := -102) E dX8_odds_31 (by decide) ?_
        obtain rfl := Option.some.inj h
        exact K rfl _ _ dX8_odds_33
      · have h := ite_f h q
        refine G.iload_n E dX8_odds_22 rfl 3 rfl ?_
        refine G.if_lt (tgt := 31) E dX8_odds_23 (by decide) (fun q => ?_) (fun q => ?_)
        · have h := ite_t h q
          refine G.bipush (v := -102) E dX8_odds_31 (by decide) ?_
          obtain rfl := Option.some.inj h
          exact K rfl _ _ dX8_odds_33
        · have h := ite_f h q
          refine G.iload_n E dX8_odds_26 rfl 3 rfl ?_
          refine G.iconst (v := 1) E dX8_odds_27 (by decide) ?_
          refine G.icmp_le (tgt := 34) E dX8_odds_28 (by decide) (fun q => ?_) (fun q => ?_)
          · have h := ite_t h q
            refine G.aload_n E dX8_odds_34 rfl 0 rfl ?_
            refine G.iload_n E dX8_odds_35 rfl 1 rfl ?_
            refine G.iload_n E dX8_odds_36 rfl 2 rfl ?_
            obtain ⟨r3, h4, h⟩ := bind_s h
            refine G.retI E (runV (st := []) (As := [.int p1, .int p2]) E (C_X8_waysToWin h4) ck_X8_waysToWin (f616 E.fx) (f618 E.fx) (f23 E.fx) 0 8 rfl rfl rfl (by decide) (by decide) rfl (Nat.le_of_ble_eq_true rfl) dX8_odds_37 ⟨Nat.zero_le _, Nat.zero_le _⟩) ?_
            refine G.istore (lv' := [(4, .int r3.1), (0, .ref (ad 0)), (1, .int p1), (2, .int p2), (3, .int p3)]) E dX8_odds_40 (by decide) rfl ?_
            refine G.iload_n E dX8_odds_42 rfl 3 rfl ?_
            refine G.istore (lv' := [(5, .int p2), (4, .int r3.1), (0, .ref (ad 0)), (1, .int p1), (2, .int p2), (3, .int p3)]) E dX8_odds_43 (by decide) rfl ?_
            refine G.sub (lv' := [(3, .int p3), (4, .int r3.1), (5, .int p2)]) [5, 1, 0] rfl ?_
            exact B_X8_odds_L45 E K r3.2 p3 r3.1 p2 h
          · have h := ite_f h q
            refine G.bipush (v := -102) E dX8_odds_31 (by decide) ?_
            obtain rfl := Option.some.inj h
            exact K rfl _ _ dX8_odds_33
  · have h := ite_t h q
    refine G.bipush (v := -101) E dX8_odds_8 (by decide) ?_
    obtain rfl := Option.some.inj h
    exact K rfl _ _ dX8_odds_10
set_option maxRecDepth 100000 in
set_option maxHeartbeats 4000000 in
theorem C_X8_odds {l : Launch} {D : va_G} {cy : Nat → ClassId} {ad : Nat → Nat} {σ : ST} {p1 : Int32} {p2 : Int32} {p3 : Int32} {r : (Int32 × ST)} (h : D_X8_odds σ p1 p2 p3 = some r) : MI l yX8_odds cX8_odds 6 (some .int) 6 167 D cy (wT ad cy σ) [.ref (ad 0), .int p1, .int p2, .int p3] r.1 (wT ad cy r.2) :=
  MI.mk (lv := [(0, .ref (ad 0)), (1, .int p1), (2, .int p2), (3, .int p3)]) (by decide) (Nat.le_of_ble_eq_true rfl) rfl (fun x _ _ E K => B_X8_odds E K σ p1 p2 p3 h)

noncomputable def D_X1_addSeen_b46  (σ : ST)  : Option ST := some (pI σ 5 ((gI σ 5) + (1 : Int32)))
set_option maxRecDepth 100000 in
set_option maxHeartbeats 4000000 in
theorem B_X1_addSeen_b46 {x : CX} {cy : Nat → ClassId} {ad : Nat → Nat} {r : ST} (E : Ev x cy cX1_addSeen RX1 4 0 0) (K : RetV x cX1_addSeen (wT ad cy r))  (σ : ST)  (h : D_X1_addSeen_b46 σ = some r) : G x 0 0 46 [(0, .ref (ad 3))] [] (wT ad cy σ) := by
  unfold D_X1_addSeen_b46 at h
  refine G.aload_n E dX1_addSeen_46 rfl 0 rfl ?_
  refine G.dup E dX1_addSeen_47 rfl ?_
  refine G.get E inX1 3 rfl rfl 6 (by decide) (f128 E.fx) rfl dX1_addSeen_48 ?_
  refine G.iconst (v := 1) E dX1_addSeen_51 (by decide) ?_
  refine G.iadd E dX1_addSeen_52 ?_
  refine G.put (ws' := (wT ad cy (pI σ 5 ((gI σ 5) + (1 : Int32))))) E inX1 tyX1 tyX1_ok nmX1 3 rfl rfl 6 (by decide) (f128 E.fx) rfl rfl rfl rfl (Nat.le_of_ble_eq_true rfl) dX1_addSeen_53 (wT_fI5 ad cy _ _) ?_
  obtain rfl := Option.some.inj h
  exact K _ _ dX1_addSeen_56
noncomputable def D_X1_addSeen (σ : ST) (p1 : Int32) (p2 : Int32) (p3 : Int32) : Option ST := if (gI σ 5) < 0 then (some σ) else (if (6 : Int32) ≤ (gI σ 5) then (some σ) else (if (gI σ 5) < 0 ∨ 6 ≤ (gI σ 5).toNatClampNeg then none else (if (gI (pA σ 4 (gI σ 5).toNatClampNeg p1) 5) < 0 ∨ 6 ≤ (gI (pA σ 4 (gI σ 5).toNatClampNeg p1) 5).toNatClampNeg then none else (if (gI (pA (pA σ 4 (gI σ 5).toNatClampNeg p1) 5 (gI (pA σ 4 (gI σ 5).toNatClampNeg p1) 5).toNatClampNeg p2) 5) < 0 ∨ 6 ≤ (gI (pA (pA σ 4 (gI σ 5).toNatClampNeg p1) 5 (gI (pA σ 4 (gI σ 5).toNatClampNeg p1) 5).toNatClampNeg p2) 5).toNatClampNeg then none else (D_X1_addSeen_b46 (pA (pA (pA σ 4 (gI σ 5).toNatClampNeg p1) 5 (gI (pA σ 4 (gI σ 5).toNatClampNeg p1) 5).toNatClampNeg p2) 6 (gI (pA (pA σ 4 (gI σ 5).toNatClampNeg p1) 5 (gI (pA σ 4 (gI σ 5).toNatClampNeg p1) 5).toNatClampNeg p2) 5).toNatClampNeg (vp_nar .boolean p3)))))))
set_option maxRecDepth 100000 in
set_option maxHeartbeats 4000000 in
theorem B_X1_addSeen {x : CX} {cy : Nat → ClassId} {ad : Nat → Nat} {r : ST} (E : Ev x cy cX1_addSeen RX1 4 0 0) (K : RetV x cX1_addSeen (wT ad cy r)) (σ : ST) (p1 : Int32) (p2 : Int32) (p3 : Int32) (h : D_X1_addSeen σ p1 p2 p3 = some r) : G x 0 0 0 [(0, .ref (ad 3)), (1, .int p1), (2, .int p2), (3, .int p3)] [] (wT ad cy σ) := by
  unfold D_X1_addSeen at h
  refine G.aload_n E dX1_addSeen_0 rfl 0 rfl ?_
  refine G.get E inX1 3 rfl rfl 6 (by decide) (f128 E.fx) rfl dX1_addSeen_1 ?_
  refine G.if_lt (tgt := 56) E dX1_addSeen_4 (by decide) (fun q => ?_) (fun q => ?_)
  · have h := ite_t h q
    obtain rfl := Option.some.inj h
    exact K _ _ dX1_addSeen_56
  · have h := ite_f h q
    refine G.aload_n E dX1_addSeen_7 rfl 0 rfl ?_
    refine G.get E inX1 3 rfl rfl 6 (by decide) (f128 E.fx) rfl dX1_addSeen_8 ?_
    refine G.bipush (v := 6) E dX1_addSeen_11 (by decide) ?_
    refine G.icmp_ge (tgt := 56) E dX1_addSeen_13 (by decide) (fun q => ?_) (fun q => ?_)
    · have h := ite_t h q
      obtain rfl := Option.some.inj h
      exact K _ _ dX1_addSeen_56
    · have h := ite_f h q
      refine G.aload_n E dX1_addSeen_16 rfl 0 rfl ?_
      refine G.get E inX1 3 rfl rfl 3 (by decide) (f122 E.fx) rfl dX1_addSeen_17 ?_
      refine G.aload_n E dX1_addSeen_20 rfl 0 rfl ?_
      refine G.get E inX1 3 rfl rfl 6 (by decide) (f128 E.fx) rfl dX1_addSeen_21 ?_
      refine G.iload_n E dX1_addSeen_24 rfl 1 rfl ?_
      obtain ⟨hg, h⟩ := ite_n h
      refine G.iast (ws' := (wT ad cy (pA σ 4 (gI σ 5).toNatClampNeg p1))) E 7 0 rfl rfl hg dX1_addSeen_25 (wT_aI4 ad cy _ _ _) ?_
      refine G.aload_n E dX1_addSeen_26 rfl 0 rfl ?_
      refine G.get E inX1 3 rfl rfl 4 (by decide) (f124 E.fx) rfl dX1_addSeen_27 ?_
      refine G.aload_n E dX1_addSeen_30 rfl 0 rfl ?_
      refine G.get E inX1 3 rfl rfl 6 (by decide) (f128 E.fx) rfl dX1_addSeen_31 ?_
      refine G.iload_n E dX1_addSeen_34 rfl 2 rfl ?_
      obtain ⟨hg, h⟩ := ite_n h
      refine G.iast (ws' := (wT ad cy (pA (pA σ 4 (gI σ 5).toNatClampNeg p1) 5 (gI (pA σ 4 (gI σ 5).toNatClampNeg p1) 5).toNatClampNeg p2))) E 8 0 rfl rfl hg dX1_addSeen_35 (wT_aI5 ad cy _ _ _) ?_
      refine G.aload_n E dX1_addSeen_36 rfl 0 rfl ?_
      refine G.get E inX1 3 rfl rfl 5 (by decide) (f126 E.fx) rfl dX1_addSeen_37 ?_
      refine G.aload_n E dX1_addSeen_40 rfl 0 rfl ?_
      refine G.get E inX1 3 rfl rfl 6 (by decide) (f128 E.fx) rfl dX1_addSeen_41 ?_
      refine G.iload_n E dX1_addSeen_44 rfl 3 rfl ?_
      obtain ⟨hg, h⟩ := ite_n h
      refine G.zast (ws' := (wT ad cy (pA (pA (pA σ 4 (gI σ 5).toNatClampNeg p1) 5 (gI (pA σ 4 (gI σ 5).toNatClampNeg p1) 5).toNatClampNeg p2) 6 (gI (pA (pA σ 4 (gI σ 5).toNatClampNeg p1) 5 (gI (pA σ 4 (gI σ 5).toNatClampNeg p1) 5).toNatClampNeg p2) 5).toNatClampNeg (vp_nar .boolean p3)))) E 9 2 rfl rfl hg dX1_addSeen_45 (wT_aI6 ad cy _ _ _) ?_
      refine G.sub (lv' := [(0, .ref (ad 3))]) [0] rfl ?_
      exact B_X1_addSeen_b46 E K (pA (pA (pA σ 4 (gI σ 5).toNatClampNeg p1) 5 (gI (pA σ 4 (gI σ 5).toNatClampNeg p1) 5).toNatClampNeg p2) 6 (gI (pA (pA σ 4 (gI σ 5).toNatClampNeg p1) 5 (gI (pA σ 4 (gI σ 5).toNatClampNeg p1) 5).toNatClampNeg p2) 5).toNatClampNeg (vp_nar .boolean p3)) h
set_option maxRecDepth 100000 in
set_option maxHeartbeats 4000000 in
theorem C_X1_addSeen {l : Launch} {D : va_G} {cy : Nat → ClassId} {ad : Nat → Nat} {σ : ST} {p1 : Int32} {p2 : Int32} {p3 : Int32} {r : ST} (h : D_X1_addSeen σ p1 p2 p3 = some r) : MV l yX1_addSeen cX1_addSeen 4 none 0 0 D cy (wT ad cy σ) [.ref (ad 3), .int p1, .int p2, .int p3]  (wT ad cy r) :=
  MV.mk (lv := [(0, .ref (ad 3)), (1, .int p1), (2, .int p2), (3, .int p3)]) (by decide) (Nat.le_of_ble_eq_true rfl) rfl (fun x _ _ E K => B_X1_addSeen E K σ p1 p2 p3 h)

noncomputable def D_X8_see (σ : ST) (p1 : Int32) (p2 : Int32) (p3 : Int32) : Option (Int32 × ST) := (D_X8_isPlayer σ p1).bind fun r1 => if r1 = 0 then (some ((-101 : Int32), σ)) else ((D_X8_isRow σ p2).bind fun r3 => if r3 = 0 then (some ((-102 : Int32), σ)) else (if (gI σ 5) < (6 : Int32) then ((D_X1_addSeen σ p1 p2 p3).bind fun r5 => some (gI r5 5, r5)) else (some ((-104 : Int32), σ))))
set_option maxRecDepth 100000 in
set_option maxHeartbeats 4000000 in
theorem B_X8_see {x : CX} {cy : Nat → ClassId} {ad : Nat → Nat} {r : (Int32 × ST)} (E : Ev x cy cX8_see RX8 4 1 23) (K : RetI x cX8_see .int r.1 (wT ad cy r.2)) (σ : ST) (p1 : Int32) (p2 : Int32) (p3 : Int32) (h : D_X8_see σ p1 p2 p3 = some r) : G x 0 0 0 [(0, .ref (ad 0)), (1, .int p1), (2, .int p2), (3, .int p3)] [] (wT ad cy σ) := by
  unfold D_X8_see at h
  refine G.aload_n E dX8_see_0 rfl 0 rfl ?_
  refine G.iload_n E dX8_see_1 rfl 1 rfl ?_
  obtain ⟨r1, h2, h⟩ := bind_s h
  refine G.retI E (runV (st := []) (As := [.int p1]) E (C_X8_isPlayer h2) ck_X8_isPlayer (f425 E.fx) (f427 E.fx) (f3 E.fx) 0 8 rfl rfl rfl (by decide) (by decide) rfl (Nat.le_of_ble_eq_true rfl) dX8_see_2 ⟨Nat.zero_le _, Nat.zero_le _⟩) ?_
  refine G.if_ne (tgt := 11) E dX8_see_5 (by decide) (fun q => ?_) (fun q => ?_)
  · have h := ite_f h q
    refine G.aload_n E dX8_see_11 rfl 0 rfl ?_
    refine G.iload_n E dX8_see_12 rfl 2 rfl ?_
    obtain ⟨r3, h4, h⟩ := bind_s h
    refine G.retI E (runV (st := []) (As := [.int p2]) E (C_X8_isRow h4) ck_X8_isRow (f529 E.fx) (f531 E.fx) (f15 E.fx) 0 8 rfl rfl rfl (by decide) (by decide) rfl (Nat.le_of_ble_eq_true rfl) dX8_see_13 ⟨Nat.zero_le _, Nat.zero_le _⟩) ?_
    refine G.if_ne (tgt := 22) E dX8_see_16 (by decide) (fun q => ?_) (fun q => ?_)
    · have h := ite_f h q
      refine G.aload_n E dX8_see_22 rfl 0 rfl ?_
      refine G.get E inX8 0 rfl rfl 1 (by decide) (f215 E.fx) rfl dX8_see_23 ?_
      refine G.getN E inX1 3 rfl rfl 6 (by decide) (f129 E.fx) rfl dX8_see_26 ?_
      refine G.bipush (v := 6) E dX8_see_29 (by decide) ?_
      refine G.icmp_lt (tgt := 37) E dX8_see_31 (by decide) (fun q => ?_) (fun q => ?_)
      · have h := ite_t h q
        refine G.aload_n E dX8_see_37 rfl 0 rfl ?_
        refine G.get E inX8 0 rfl rfl 1 (by decide) (f215 E.fx) rfl dX8_see_38 ?_
        refine G.iload_n E dX8_see_41 rfl 1 rfl ?_
        refine G.iload_n E dX8_see_42 rfl 2 rfl ?_
        refine G.iload_n E dX8_see_43 rfl 3 rfl ?_
        obtain ⟨r5, h6, h⟩ := bind_s h
        refine G.retV E (runV (st := []) (As := [.int p1, .int p2, .int p3]) E (C_X1_addSeen h6) ck_X1_addSeen (f632 E.fx) (f633 E.fx) (f634 E.fx) 3 1 rfl rfl rfl (by decide) (by decide) rfl (Nat.le_of_ble_eq_true rfl) dX8_see_44 ⟨Nat.zero_le _, Nat.zero_le _⟩) ?_
        refine G.aload_n E dX8_see_47 rfl 0 rfl ?_
        refine G.get E inX8 0 rfl rfl 1 (by decide) (f215 E.fx) rfl dX8_see_48 ?_
        refine G.getN E inX1 3 rfl rfl 6 (by decide) (f129 E.fx) rfl dX8_see_51 ?_
        obtain rfl := Option.some.inj h
        exact K rfl _ _ dX8_see_54
      · have h := ite_f h q
        refine G.bipush (v := -104) E dX8_see_34 (by decide) ?_
        obtain rfl := Option.some.inj h
        exact K rfl _ _ dX8_see_36
    · have h := ite_t h q
      refine G.bipush (v := -102) E dX8_see_19 (by decide) ?_
      obtain rfl := Option.some.inj h
      exact K rfl _ _ dX8_see_21
  · have h := ite_t h q
    refine G.bipush (v := -101) E dX8_see_8 (by decide) ?_
    obtain rfl := Option.some.inj h
    exact K rfl _ _ dX8_see_10
set_option maxRecDepth 100000 in
set_option maxHeartbeats 4000000 in
theorem C_X8_see {l : Launch} {D : va_G} {cy : Nat → ClassId} {ad : Nat → Nat} {σ : ST} {p1 : Int32} {p2 : Int32} {p3 : Int32} {r : (Int32 × ST)} (h : D_X8_see σ p1 p2 p3 = some r) : MI l yX8_see cX8_see 4 (some .int) 1 23 D cy (wT ad cy σ) [.ref (ad 0), .int p1, .int p2, .int p3] r.1 (wT ad cy r.2) :=
  MI.mk (lv := [(0, .ref (ad 0)), (1, .int p1), (2, .int p2), (3, .int p3)]) (by decide) (Nat.le_of_ble_eq_true rfl) rfl (fun x _ _ E K => B_X8_see E K σ p1 p2 p3 h)

noncomputable def D_X8_forget (σ : ST)  : Option (Int32 × ST) := some (gI σ 5, pI σ 5 (0 : Int32))
set_option maxRecDepth 100000 in
set_option maxHeartbeats 4000000 in
theorem B_X8_forget {x : CX} {cy : Nat → ClassId} {ad : Nat → Nat} {r : (Int32 × ST)} (E : Ev x cy cX8_forget RX8 2 0 0) (K : RetI x cX8_forget .int r.1 (wT ad cy r.2)) (σ : ST)  (h : D_X8_forget σ = some r) : G x 0 0 0 [(0, .ref (ad 0))] [] (wT ad cy σ) := by
  unfold D_X8_forget at h
  refine G.aload_n E dX8_forget_0 rfl 0 rfl ?_
  refine G.get E inX8 0 rfl rfl 1 (by decide) (f215 E.fx) rfl dX8_forget_1 ?_
  refine G.getN E inX1 3 rfl rfl 6 (by decide) (f129 E.fx) rfl dX8_forget_4 ?_
  refine G.istore_n (lv' := [(1, .int (gI σ 5)), (0, .ref (ad 0))]) E dX8_forget_7 rfl (by decide) rfl ?_
  refine G.aload_n E dX8_forget_8 rfl 1 rfl ?_
  refine G.get E inX8 0 rfl rfl 1 (by decide) (f215 E.fx) rfl dX8_forget_9 ?_
  refine G.iconst (v := 0) E dX8_forget_12 (by decide) ?_
  refine G.putN (ws' := (wT ad cy (pI σ 5 (0 : Int32)))) E inX1 tyX1 tyX1_ok nmX1 3 rfl rfl 6 (by decide) (f129 E.fx) rfl rfl rfl rfl (Nat.le_of_ble_eq_true rfl) dX8_forget_13 (wT_fI5 ad cy _ _) ?_
  refine G.iload_n E dX8_forget_16 rfl 0 rfl ?_
  obtain rfl := Option.some.inj h
  exact K rfl _ _ dX8_forget_17
set_option maxRecDepth 100000 in
set_option maxHeartbeats 4000000 in
theorem C_X8_forget {l : Launch} {D : va_G} {cy : Nat → ClassId} {ad : Nat → Nat} {σ : ST}  {r : (Int32 × ST)} (h : D_X8_forget σ = some r) : MI l yX8_forget cX8_forget 2 (some .int) 0 0 D cy (wT ad cy σ) [.ref (ad 0)] r.1 (wT ad cy r.2) :=
  MI.mk (lv := [(0, .ref (ad 0))]) (by decide) (Nat.le_of_ble_eq_true rfl) rfl (fun x _ _ E K => B_X8_forget E K σ h)

noncomputable def D_J7_fill_53178_32_L5_body (rec5 : (ST × Int32 × Int32 × Int32) → Option ST) (σ : ST) (x1 : Int32) (x2 : Int32) (x3 : Int32) : Option ST := if x3 ≤ x2 then (some σ) else (if x2 < 0 ∨ 4 ≤ x2.toNatClampNeg then none else (rec5 ((pA σ 14 x2.toNatClampNeg x1), x1, (x2 + 1), x3)))
set_option maxRecDepth 100000 in
set_option maxHeartbeats 4000000 in
theorem B_J7_fill_53178_32_L5_body {x : CX} {cy : Nat → ClassId} {ad : Nat → Nat} {r : ST} (E : Ev x cy cJ7_fill_53178 RJ7 4 0 0) (K : RetV x cJ7_fill_53178 (wT ad cy r)) (rec5 : (ST × Int32 × Int32 × Int32) → Option ST) (hrec5 : ∀ a, rec5 a = some r → G x 0 0 5 [(0, .ref (ad 32)), (1, .int a.2.1), (2, .int a.2.2.1), (3, .int a.2.2.2)] [] (wT ad cy a.1)) (σ : ST) (x1 : Int32) (x2 : Int32) (x3 : Int32) (h : D_J7_fill_53178_32_L5_body rec5 σ x1 x2 x3 = some r) : G x 0 0 5 [(0, .ref (ad 32)), (1, .int x1), (2, .int x2), (3, .int x3)] [] (wT ad cy σ) := by
  unfold D_J7_fill_53178_32_L5_body at h
  refine G.iload_n E dJ7_fill_53178_5 rfl 2 rfl ?_
  refine G.iload_n E dJ7_fill_53178_6 rfl 3 rfl ?_
  refine G.icmp_ge (tgt := 20) E dJ7_fill_53178_7 (by decide) (fun q => ?_) (fun q => ?_)
  · have h := ite_t h q
    obtain rfl := Option.some.inj h
    exact K _ _ dJ7_fill_53178_20
  · have h := ite_f h q
    refine G.aload_n E dJ7_fill_53178_10 rfl 0 rfl ?_
    refine G.iload_n E dJ7_fill_53178_11 rfl 2 rfl ?_
    refine G.iload_n E dJ7_fill_53178_12 rfl 1 rfl ?_
    obtain ⟨hg, h⟩ := ite_n h
    refine G.iast (ws' := (wT ad cy (pA σ 14 x2.toNatClampNeg x1))) E 32 0 rfl rfl hg dJ7_fill_53178_13 (wT_aI14 ad cy _ _ _) ?_
    refine G.iinc (w := x2 + 1) (lv' := [(2, .int (x2 + 1)), (0, .ref (ad 32)), (1, .int x1), (3, .int x3)]) E dJ7_fill_53178_14 2 rfl rfl (by decide) rfl ?_
    refine G.goto (tgt := 5) E dJ7_fill_53178_17 (by decide) ?_
    refine G.sub (lv' := [(0, .ref (ad 32)), (1, .int x1), (2, .int (x2 + 1)), (3, .int x3)]) [1, 2, 0, 3] rfl ?_
    exact hrec5 ((pA σ 14 x2.toNatClampNeg x1), x1, (x2 + 1), x3) h
noncomputable def D_J7_fill_53178_32_L5  (σ : ST) (x1 : Int32) (x2 : Int32) (x3 : Int32) : Option ST := itr (fun (rec5 : (ST × Int32 × Int32 × Int32) → Option ST) (a : (ST × Int32 × Int32 × Int32)) => D_J7_fill_53178_32_L5_body rec5 a.1 a.2.1 a.2.2.1 a.2.2.2) 200 (σ, x1, x2, x3)
set_option maxRecDepth 100000 in
set_option maxHeartbeats 4000000 in
theorem B_J7_fill_53178_32_L5 {x : CX} {cy : Nat → ClassId} {ad : Nat → Nat} {r : ST} (E : Ev x cy cJ7_fill_53178 RJ7 4 0 0) (K : RetV x cJ7_fill_53178 (wT ad cy r))  (σ : ST) (x1 : Int32) (x2 : Int32) (x3 : Int32) (h : D_J7_fill_53178_32_L5 σ x1 x2 x3 = some r) : G x 0 0 5 [(0, .ref (ad 32)), (1, .int x1), (2, .int x2), (3, .int x3)] [] (wT ad cy σ) :=
  itr_ind (P := fun a => G x 0 0 5 [(0, .ref (ad 32)), (1, .int a.2.1), (2, .int a.2.2.1), (3, .int a.2.2.2)] [] (wT ad cy a.1)) (fun rec5 hrec5 a h => B_J7_fill_53178_32_L5_body E K rec5 hrec5 a.1 a.2.1 a.2.2.1 a.2.2.2 h) 200 (σ, x1, x2, x3) h
noncomputable def D_J7_fill_53178_32 (σ : ST) (p1 : Int32) : Option ST := D_J7_fill_53178_32_L5 σ p1 (0 : Int32) (4 : Int32)
set_option maxRecDepth 100000 in
set_option maxHeartbeats 4000000 in
theorem B_J7_fill_53178_32 {x : CX} {cy : Nat → ClassId} {ad : Nat → Nat} {r : ST} (E : Ev x cy cJ7_fill_53178 RJ7 4 0 0) (K : RetV x cJ7_fill_53178 (wT ad cy r)) (σ : ST) (p1 : Int32) (h : D_J7_fill_53178_32 σ p1 = some r) : G x 0 0 0 [(0, .ref (ad 32)), (1, .int p1)] [] (wT ad cy σ) := by
  unfold D_J7_fill_53178_32 at h
  refine G.iconst (v := 0) E dJ7_fill_53178_0 (by decide) ?_
  refine G.istore_n (lv' := [(2, .int (0 : Int32)), (0, .ref (ad 32)), (1, .int p1)]) E dJ7_fill_53178_1 rfl (by decide) rfl ?_
  refine G.aload_n E dJ7_fill_53178_2 rfl 1 rfl ?_
  refine G.alen (v := 4) E 32 0 rfl rfl rfl dJ7_fill_53178_3 ?_
  refine G.istore_n (lv' := [(3, .int (4 : Int32)), (2, .int (0 : Int32)), (0, .ref (ad 32)), (1, .int p1)]) E dJ7_fill_53178_4 rfl (by decide) rfl ?_
  refine G.sub (lv' := [(0, .ref (ad 32)), (1, .int p1), (2, .int (0 : Int32)), (3, .int (4 : Int32))]) [2, 3, 1, 0] rfl ?_
  exact B_J7_fill_53178_32_L5 E K σ p1 (0 : Int32) (4 : Int32) h
set_option maxRecDepth 100000 in
set_option maxHeartbeats 4000000 in
theorem C_J7_fill_53178_32 {l : Launch} {D : va_G} {cy : Nat → ClassId} {ad : Nat → Nat} {σ : ST} {p1 : Int32} {r : ST} (h : D_J7_fill_53178_32 σ p1 = some r) : MV l yJ7_fill_53178 cJ7_fill_53178 4 none 0 0 D cy (wT ad cy σ) [.ref (ad 32), .int p1]  (wT ad cy r) :=
  MV.mk (lv := [(0, .ref (ad 32)), (1, .int p1)]) (by decide) (Nat.le_of_ble_eq_true rfl) rfl (fun x _ _ E K => B_J7_fill_53178_32 E K σ p1 h)

noncomputable def D_X8_mostWins_b38 (rec4 : (Int32 × Int32) → Option Int32) (σ : ST) (x1 : Int32) (x2 : Int32) : Option Int32 := rec4 (x1, (x2 + 1))
set_option maxRecDepth 100000 in
set_option maxHeartbeats 4000000 in
theorem B_X8_mostWins_b38 {x : CX} {cy : Nat → ClassId} {ad : Nat → Nat} {r : Int32} {σ : ST} (E : Ev x cy cX8_mostWins RX8 3 0 0) (K : RetI x cX8_mostWins .int r (wT ad cy σ)) (rec4 : (Int32 × Int32) → Option Int32) (hrec4 : ∀ a, rec4 a = some r → G x 0 0 4 [(0, .ref (ad 0)), (1, .int a.1), (2, .int a.2)] [] (wT ad cy σ)) (σ9 : ST) (x1 : Int32) (x2 : Int32) (h : D_X8_mostWins_b38 rec4 σ x1 x2 = some r) : G x 0 0 38 [(0, .ref (ad 0)), (1, .int x1), (2, .int x2)] [] (wT ad cy σ) := by
  unfold D_X8_mostWins_b38 at h
  refine G.iinc (w := x2 + 1) (lv' := [(2, .int (x2 + 1)), (0, .ref (ad 0)), (1, .int x1)]) E dX8_mostWins_38 2 rfl rfl (by decide) rfl ?_
  refine G.goto (tgt := 4) E dX8_mostWins_41 (by decide) ?_
  refine G.sub (lv' := [(0, .ref (ad 0)), (1, .int x1), (2, .int (x2 + 1))]) [1, 2, 0] rfl ?_
  exact hrec4 (x1, (x2 + 1)) h
noncomputable def D_X8_mostWins_L4_body (rec4 : (Int32 × Int32) → Option Int32) (σ : ST) (x1 : Int32) (x2 : Int32) : Option Int32 := if (gI σ 1) ≤ x2 then (some x1) else (if (4 : Int32) ≤ x2 then (some x1) else (if x2 < 0 ∨ 4 ≤ x2.toNatClampNeg then none else (if x1 < 0 ∨ 4 ≤ x1.toNatClampNeg then none else (if (gA σ 14 x2.toNatClampNeg) ≤ (gA σ 14 x1.toNatClampNeg) then (D_X8_mostWins_b38 rec4 σ x1 x2) else (D_X8_mostWins_b38 rec4 σ x2 x2)))))
set_option maxRecDepth 100000 in
set_option maxHeartbeats 4000000 in
theorem B_X8_mostWins_L4_body {x : CX} {cy : Nat → ClassId} {ad : Nat → Nat} {r : Int32} {σ : ST} (E : Ev x cy cX8_mostWins RX8 3 0 0) (K : RetI x cX8_mostWins .int r (wT ad cy σ)) (rec4 : (Int32 × Int32) → Option Int32) (hrec4 : ∀ a, rec4 a = some r → G x 0 0 4 [(0, .ref (ad 0)), (1, .int a.1), (2, .int a.2)] [] (wT ad cy σ)) (σ9 : ST) (x1 : Int32) (x2 : Int32) (h : D_X8_mostWins_L4_body rec4 σ x1 x2 = some r) : G x 0 0 4 [(0, .ref (ad 0)), (1, .int x1), (2, .int x2)] [] (wT ad cy σ) := by
  unfold D_X8_mostWins_L4_body at h
  refine G.iload_n E dX8_mostWins_4 rfl 2 rfl ?_
  refine G.aload_n E dX8_mostWins_5 rfl 0 rfl ?_
  refine G.get E inX8 0 rfl rfl 9 (by decide) (f223 E.fx) rfl dX8_mostWins_6 ?_
  refine G.icmp_ge (tgt := 44) E dX8_mostWins_9 (by decide) (fun q => ?_) (fun q => ?_)
  · have h := ite_t h q
    refine G.iload_n E dX8_mostWins_44 rfl 1 rfl ?_
    obtain rfl := Option.some.inj h
    exact K rfl _ _ dX8_mostWins_45
  · have h := ite_f h q
    refine G.iload_n E dX8_mostWins_12 rfl 2 rfl ?_
    refine G.aload_n E dX8_mostWins_13 rfl 0 rfl ?_
    refine G.get E inX8 0 rfl rfl 5 (by decide) (f219 E.fx) rfl dX8_mostWins_14 ?_
    refine G.alen (v := 4) E 32 0 rfl rfl rfl dX8_mostWins_17 ?_
    refine G.icmp_ge (tgt := 44) E dX8_mostWins_18 (by decide) (fun q => ?_) (fun q => ?_)
    · have h := ite_t h q
      refine G.iload_n E dX8_mostWins_44 rfl 1 rfl ?_
      obtain rfl := Option.some.inj h
      exact K rfl _ _ dX8_mostWins_45
    · have h := ite_f h q
      refine G.aload_n E dX8_mostWins_21 rfl 0 rfl ?_
      refine G.get E inX8 0 rfl rfl 5 (by decide) (f219 E.fx) rfl dX8_mostWins_22 ?_
      refine G.iload_n E dX8_mostWins_25 rfl 2 rfl ?_
      obtain ⟨hg, h⟩ := ite_n h
      refine G.iald E 32 0 rfl rfl hg dX8_mostWins_26 ?_
      refine G.aload_n E dX8_mostWins_27 rfl 0 rfl ?_
      refine G.get E inX8 0 rfl rfl 5 (by decide) (f219 E.fx) rfl dX8_mostWins_28 ?_
      refine G.iload_n E dX8_mostWins_31 rfl 1 rfl ?_
      obtain ⟨hg, h⟩ := ite_n h
      refine G.iald E 32 0 rfl rfl hg dX8_mostWins_32 ?_
      refine G.icmp_le (tgt := 38) E dX8_mostWins_33 (by decide) (fun q => ?_) (fun q => ?_)
      · have h := ite_t h q
        refine G.sub (lv' := [(0, .ref (ad 0)), (1, .int x1), (2, .int x2)]) [0, 1, 2] rfl ?_
        exact B_X8_mostWins_b38 E K rec4 hrec4 σ x1 x2 h
      · have h := ite_f h q
        refine G.iload_n E dX8_mostWins_36 rfl 2 rfl ?_
        refine G.istore_n (lv' := [(1, .int x2), (0, .ref (ad 0)), (2, .int x2)]) E dX8_mostWins_37 rfl (by decide) rfl ?_
        refine G.sub (lv' := [(0, .ref (ad 0)), (1, .int x2), (2, .int x2)]) [1, 0, 2] rfl ?_
        exact B_X8_mostWins_b38 E K rec4 hrec4 σ x2 x2 h
noncomputable def D_X8_mostWins_L4  (σ : ST) (x1 : Int32) (x2 : Int32) : Option Int32 := itr (fun (rec4 : (Int32 × Int32) → Option Int32) (a : (Int32 × Int32)) => D_X8_mostWins_L4_body rec4 σ a.1 a.2) 200 (x1, x2)
set_option maxRecDepth 100000 in
set_option maxHeartbeats 4000000 in
theorem B_X8_mostWins_L4 {x : CX} {cy : Nat → ClassId} {ad : Nat → Nat} {r : Int32} {σ : ST} (E : Ev x cy cX8_mostWins RX8 3 0 0) (K : RetI x cX8_mostWins .int r (wT ad cy σ))  (σ9 : ST) (x1 : Int32) (x2 : Int32) (h : D_X8_mostWins_L4 σ x1 x2 = some r) : G x 0 0 4 [(0, .ref (ad 0)), (1, .int x1), (2, .int x2)] [] (wT ad cy σ) :=
  itr_ind (P := fun a => G x 0 0 4 [(0, .ref (ad 0)), (1, .int a.1), (2, .int a.2)] [] (wT ad cy σ)) (fun rec4 hrec4 a h => B_X8_mostWins_L4_body E K rec4 hrec4 σ a.1 a.2 h) 200 (x1, x2) h
noncomputable def D_X8_mostWins (σ : ST)  : Option Int32 := D_X8_mostWins_L4 σ (0 : Int32) (1 : Int32)
set_option maxRecDepth 100000 in
set_option maxHeartbeats 4000000 in
theorem B_X8_mostWins {x : CX} {cy : Nat → ClassId} {ad : Nat → Nat} {r : Int32} {σ : ST} (E : Ev x cy cX8_mostWins RX8 3 0 0) (K : RetI x cX8_mostWins .int r (wT ad cy σ))  (h : D_X8_mostWins σ = some r) : G x 0 0 0 [(0, .ref (ad 0))] [] (wT ad cy σ) := by
  unfold D_X8_mostWins at h
  refine G.iconst (v := 0) E dX8_mostWins_0 (by decide) ?_
  refine G.istore_n (lv' := [(1, .int (0 : Int32)), (0, .ref (ad 0))]) E dX8_mostWins_1 rfl (by decide) rfl ?_
  refine G.iconst (v := 1) E dX8_mostWins_2 (by decide) ?_
  refine G.istore_n (lv' := [(2, .int (1 : Int32)), (1, .int (0 : Int32)), (0, .ref (ad 0))]) E dX8_mostWins_3 rfl (by decide) rfl ?_
  refine G.sub (lv' := [(0, .ref (ad 0)), (1, .int (0 : Int32)), (2, .int (1 : Int32))]) [2, 1, 0] rfl ?_
  exact B_X8_mostWins_L4 E K σ (0 : Int32) (1 : Int32) h
set_option maxRecDepth 100000 in
set_option maxHeartbeats 4000000 in
theorem C_X8_mostWins {l : Launch} {D : va_G} {cy : Nat → ClassId} {ad : Nat → Nat} {σ : ST}  {r : Int32} (h : D_X8_mostWins σ = some r) : MI l yX8_mostWins cX8_mostWins 3 (some .int) 0 0 D cy (wT ad cy σ) [.ref (ad 0)] r (wT ad cy σ) :=
  MI.mk (lv := [(0, .ref (ad 0))]) (by decide) (Nat.le_of_ble_eq_true rfl) rfl (fun x _ _ E K => B_X8_mostWins E K  h)

noncomputable def D_X8_nextSeed (p0 : Int32) : Option Int32 := some (((((1103515245 : Int64) * p0.toInt64) + (12345 : Int64)) &&& (2147483647 : Int64)).toInt32)
set_option maxRecDepth 100000 in
set_option maxHeartbeats 4000000 in
theorem B_X8_nextSeed {x : CX} {cy : Nat → ClassId} {ws : va_W} {r : Int32} (E : Ev x cy cX8_nextSeed RX8 1 0 0) (K : RetI x cX8_nextSeed .int r ws) (p0 : Int32) (h : D_X8_nextSeed p0 = some r) : G x 0 0 0 [(0, .int p0)] [] ws := by
  unfold D_X8_nextSeed at h
  refine G.ldc2 E (f647 E.fx) dX8_nextSeed_0 ?_
  refine G.iload_n E dX8_nextSeed_3 rfl 0 rfl ?_
  refine G.i2l E dX8_nextSeed_4 ?_
  refine G.lmul E dX8_nextSeed_5 ?_
  refine G.ldc2 E (f648 E.fx) dX8_nextSeed_6 ?_
  refine G.ladd E dX8_nextSeed_9 ?_
  refine G.ldc2 E (f649 E.fx) dX8_nextSeed_10 ?_
  refine G.land E dX8_nextSeed_13 ?_
  refine G.l2i E dX8_nextSeed_14 ?_
  obtain rfl := Option.some.inj h
  exact K rfl _ _ dX8_nextSeed_15
set_option maxRecDepth 100000 in
set_option maxHeartbeats 4000000 in
theorem C_X8_nextSeed {l : Launch} {D : va_G} {cy : Nat → ClassId} {ws : va_W} {p0 : Int32} {r : Int32} (h : D_X8_nextSeed p0 = some r) : MI l yX8_nextSeed cX8_nextSeed 1 (some .int) 0 0 D cy ws [.int p0] r ws :=
  MI.mk (lv := [(0, .int p0)]) (by decide) (Nat.le_of_ble_eq_true rfl) rfl (fun x _ _ E K => B_X8_nextSeed E K p0 h)

noncomputable def D_X8_addWins_32_b25 (rec2 : (ST × Int32 × Int32) → Option ST) (σ : ST) (x0 : Int32) (x2 : Int32) (s0 : Int32) (s1 : Int32) (s2 : Int32) : Option ST := if s2 < 0 ∨ 4 ≤ s2.toNatClampNeg then none else (rec2 ((pA σ 14 s2.toNatClampNeg (s1 + s0)), x0, (x2 + 1)))
set_option maxRecDepth 100000 in
set_option maxHeartbeats 4000000 in
theorem B_X8_addWins_32_b25 {x : CX} {cy : Nat → ClassId} {ad : Nat → Nat} {r : ST} (E : Ev x cy cX8_addWins RX8 3 1 21) (K : RetV x cX8_addWins (wT ad cy r)) (rec2 : (ST × Int32 × Int32) → Option ST) (hrec2 : ∀ a, rec2 a = some r → G x 0 0 2 [(0, .int a.2.1), (1, .ref (ad 32)), (2, .int a.2.2)] [] (wT ad cy a.1)) (σ : ST) (x0 : Int32) (x2 : Int32) (s0 : Int32) (s1 : Int32) (s2 : Int32) (h : D_X8_addWins_32_b25 rec2 σ x0 x2 s0 s1 s2 = some r) : G x 0 0 25 [(0, .int x0), (1, .ref (ad 32)), (2, .int x2)] [.int s0, .int s1, .int s2, .ref (ad 32)] (wT ad cy σ) := by
  unfold D_X8_addWins_32_b25 at h
  refine G.iadd E dX8_addWins_25 ?_
  obtain ⟨hg, h⟩ := ite_n h
  refine G.iast (ws' := (wT ad cy (pA σ 14 s2.toNatClampNeg (s1 + s0)))) E 32 0 rfl rfl hg dX8_addWins_26 (wT_aI14 ad cy _ _ _) ?_
  refine G.iinc (w := x2 + 1) (lv' := [(2, .int (x2 + 1)), (0, .int x0), (1, .ref (ad 32))]) E dX8_addWins_27 2 rfl rfl (by decide) rfl ?_
  refine G.goto (tgt := 2) E dX8_addWins_30 (by decide) ?_
  refine G.sub (lv' := [(0, .int x0), (1, .ref (ad 32)), (2, .int (x2 + 1))]) [1, 2, 0] rfl ?_
  exact hrec2 ((pA σ 14 s2.toNatClampNeg (s1 + s0)), x0, (x2 + 1)) h
noncomputable def D_X8_addWins_32_L2_body (rec2 : (ST × Int32 × Int32) → Option ST) (σ : ST) (x0 : Int32) (x2 : Int32) : Option ST := if (4 : Int32) ≤ x2 then (some σ) else (if x2 < 0 ∨ 4 ≤ x2.toNatClampNeg then none else ((D_X8_has x0 x2).bind fun r1 => if r1 = 0 then (D_X8_addWins_32_b25 rec2 σ x0 x2 (0 : Int32) (gA σ 14 x2.toNatClampNeg) x2) else (D_X8_addWins_32_b25 rec2 σ x0 x2 (1 : Int32) (gA σ 14 x2.toNatClampNeg) x2)))
set_option maxRecDepth 100000 in
set_option maxHeartbeats 4000000 in
theorem B_X8_addWins_32_L2_body {x : CX} {cy : Nat → ClassId} {ad : Nat → Nat} {r : ST} (E : Ev x cy cX8_addWins RX8 3 1 21) (K : RetV x cX8_addWins (wT ad cy r)) (rec2 : (ST × Int32 × Int32) → Option ST) (hrec2 : ∀ a, rec2 a = some r → G x 0 0 2 [(0, .int a.2.1), (1, .ref (ad 32)), (2, .int a.2.2)] [] (wT ad cy a.1)) (σ : ST) (x0 : Int32) (x2 : Int32) (h : D_X8_addWins_32_L2_body rec2 σ x0 x2 = some r) : G x 0 0 2 [(0, .int x0), (1, .ref (ad 32)), (2, .int x2)] [] (wT ad cy σ) := by
  unfold D_X8_addWins_32_L2_body at h
  refine G.iload_n E dX8_addWins_2 rfl 2 rfl ?_
  refine G.aload_n E dX8_addWins_3 rfl 1 rfl ?_
  refine G.alen (v := 4) E 32 0 rfl rfl rfl dX8_addWins_4 ?_
  refine G.icmp_ge (tgt := 33) E dX8_addWins_5 (by decide) (fun q => ?_) (fun q => ?_)
  · have h := ite_t h q
    obtain rfl := Option.some.inj h
    exact K _ _ dX8_addWins_33
  · have h := ite_f h q
    refine G.aload_n E dX8_addWins_8 rfl 1 rfl ?_
    refine G.iload_n E dX8_addWins_9 rfl 2 rfl ?_
    refine G.dup2 E dX8_addWins_10 rfl rfl ?_
    obtain ⟨hg, h⟩ := ite_n h
    refine G.iald E 32 0 rfl rfl hg dX8_addWins_11 ?_
    refine G.iload_n E dX8_addWins_12 rfl 0 rfl ?_
    refine G.iload_n E dX8_addWins_13 rfl 2 rfl ?_
    obtain ⟨r1, h2, h⟩ := bind_s h
    refine G.retI E (runS (st := [.int (gA σ 14 x2.toNatClampNeg), .int x2, .ref (ad 32)]) (As := [.int x0, .int x2]) E (C_X8_has h2) ck_X8_has (f512 E.fx) (f480 E.fx) (by decide) (by decide) rfl (Nat.le_of_ble_eq_true rfl) dX8_addWins_14 ⟨Nat.zero_le _, Nat.zero_le _⟩) ?_
    refine G.if_eq (tgt := 24) E dX8_addWins_17 (by decide) (fun q => ?_) (fun q => ?_)
    · have h := ite_t h q
      refine G.iconst (v := 0) E dX8_addWins_24 (by decide) ?_
      refine G.sub (lv' := [(0, .int x0), (1, .ref (ad 32)), (2, .int x2)]) [0, 1, 2] rfl ?_
      exact B_X8_addWins_32_b25 E K rec2 hrec2 σ x0 x2 (0 : Int32) (gA σ 14 x2.toNatClampNeg) x2 h
    · have h := ite_f h q
      refine G.iconst (v := 1) E dX8_addWins_20 (by decide) ?_
      refine G.goto (tgt := 25) E dX8_addWins_21 (by decide) ?_
      refine G.sub (lv' := [(0, .int x0), (1, .ref (ad 32)), (2, .int x2)]) [0, 1, 2] rfl ?_
      exact B_X8_addWins_32_b25 E K rec2 hrec2 σ x0 x2 (1 : Int32) (gA σ 14 x2.toNatClampNeg) x2 h
noncomputable def D_X8_addWins_32_L2  (σ : ST) (x0 : Int32) (x2 : Int32) : Option ST := itr (fun (rec2 : (ST × Int32 × Int32) → Option ST) (a : (ST × Int32 × Int32)) => D_X8_addWins_32_L2_body rec2 a.1 a.2.1 a.2.2) 200 (σ, x0, x2)
set_option maxRecDepth 100000 in
set_option maxHeartbeats 4000000 in
theorem B_X8_addWins_32_L2 {x : CX} {cy : Nat → ClassId} {ad : Nat → Nat} {r : ST} (E : Ev x cy cX8_addWins RX8 3 1 21) (K : RetV x cX8_addWins (wT ad cy r))  (σ : ST) (x0 : Int32) (x2 : Int32) (h : D_X8_addWins_32_L2 σ x0 x2 = some r) : G x 0 0 2 [(0, .int x0), (1, .ref (ad 32)), (2, .int x2)] [] (wT ad cy σ) :=
  itr_ind (P := fun a => G x 0 0 2 [(0, .int a.2.1), (1, .ref (ad 32)), (2, .int a.2.2)] [] (wT ad cy a.1)) (fun rec2 hrec2 a h => B_X8_addWins_32_L2_body E K rec2 hrec2 a.1 a.2.1 a.2.2 h) 200 (σ, x0, x2) h
noncomputable def D_X8_addWins_32 (σ : ST) (p0 : Int32) : Option ST := D_X8_addWins_32_L2 σ p0 (0 : Int32)
set_option maxRecDepth 100000 in
set_option maxHeartbeats 4000000 in
theorem B_X8_addWins_32 {x : CX} {cy : Nat → ClassId} {ad : Nat → Nat} {r : ST} (E : Ev x cy cX8_addWins RX8 3 1 21) (K : RetV x cX8_addWins (wT ad cy r)) (σ : ST) (p0 : Int32) (h : D_X8_addWins_32 σ p0 = some r) : G x 0 0 0 [(0, .int p0), (1, .ref (ad 32))] [] (wT ad cy σ) := by
  unfold D_X8_addWins_32 at h
  refine G.iconst (v := 0) E dX8_addWins_0 (by decide) ?_
  refine G.istore_n (lv' := [(2, .int (0 : Int32)), (0, .int p0), (1, .ref (ad 32))]) E dX8_addWins_1 rfl (by decide) rfl ?_
  refine G.sub (lv' := [(0, .int p0), (1, .ref (ad 32)), (2, .int (0 : Int32))]) [1, 2, 0] rfl ?_
  exact B_X8_addWins_32_L2 E K σ p0 (0 : Int32) h
set_option maxRecDepth 100000 in
set_option maxHeartbeats 4000000 in
theorem C_X8_addWins_32 {l : Launch} {D : va_G} {cy : Nat → ClassId} {ad : Nat → Nat} {σ : ST} {p0 : Int32} {r : ST} (h : D_X8_addWins_32 σ p0 = some r) : MV l yX8_addWins cX8_addWins 3 none 1 21 D cy (wT ad cy σ) [.int p0, .ref (ad 32)]  (wT ad cy r) :=
  MV.mk (lv := [(0, .int p0), (1, .ref (ad 32))]) (by decide) (Nat.le_of_ble_eq_true rfl) rfl (fun x _ _ E K => B_X8_addWins_32 E K σ p0 h)

noncomputable def D_X8_games_b119 (rec63 : (ST × Int32 × Int32 × Int32 × Int32 × Int32 × Int32) → Option (Int32 × ST)) (σ : ST) (x1 : Int32) (x3 : Int32) (x4 : Int32) (x5 : Int32) (x6 : Int32) (x7 : Int32) : Option (Int32 × ST) := rec63 (σ, x1, x3, x4, x5, x6, (x7 + 1))
set_option maxRecDepth 100000 in
set_option maxHeartbeats 4000000 in
theorem B_X8_games_b119 {x : CX} {cy : Nat → ClassId} {ad : Nat → Nat} {r : (Int32 × ST)} (E : Ev x cy cX8_games RX8 9 6 165) (K : RetI x cX8_games .int r.1 (wT ad cy r.2)) (rec63 : (ST × Int32 × Int32 × Int32 × Int32 × Int32 × Int32) → Option (Int32 × ST)) (hrec63 : ∀ a, rec63 a = some r → G x 0 0 63 [(0, .ref (ad 0)), (1, .int a.2.1), (3, .int a.2.2.1), (4, .int a.2.2.2.1), (5, .int a.2.2.2.2.1), (6, .int a.2.2.2.2.2.1), (7, .int a.2.2.2.2.2.2)] [] (wT ad cy a.1)) (σ : ST) (x1 : Int32) (x3 : Int32) (x4 : Int32) (x5 : Int32) (x6 : Int32) (x7 : Int32) (h : D_X8_games_b119 rec63 σ x1 x3 x4 x5 x6 x7 = some r) : G x 0 0 119 [(0, .ref (ad 0)), (1, .int x1), (3, .int x3), (4, .int x4), (5, .int x5), (6, .int x6), (7, .int x7)] [] (wT ad cy σ) := by
  unfold D_X8_games_b119 at h
  refine G.iinc (w := x7 + 1) (lv' := [(7, .int (x7 + 1)), (0, .ref (ad 0)), (1, .int x1), (3, .int x3), (4, .int x4), (5, .int x5), (6, .int x6)]) E dX8_games_119 6 rfl rfl (by decide) rfl ?_
  refine G.goto (tgt := 63) E dX8_games_122 (by decide) ?_
  refine G.sub (lv' := [(0, .ref (ad 0)), (1, .int x1), (3, .int x3), (4, .int x4), (5, .int x5), (6, .int x6), (7, .int (x7 + 1))]) [1, 2, 3, 4, 5, 6, 0] rfl ?_
  exact hrec63 (σ, x1, x3, x4, x5, x6, (x7 + 1)) h
noncomputable def D_X8_games_L63_body (rec63 : (ST × Int32 × Int32 × Int32 × Int32 × Int32 × Int32) → Option (Int32 × ST)) (σ : ST) (x1 : Int32) (x3 : Int32) (x4 : Int32) (x5 : Int32) (x6 : Int32) (x7 : Int32) : Option (Int32 × ST) := if x1 ≤ x7 then (if x3 = 0 then (some (x4, σ)) else (if x3 = (1 : Int32) then ((D_X8_mostWins σ).bind fun r3 => some (r3, σ)) else (some (x5, σ)))) else ((D_X8_nextSeed x5).bind fun r5 => (D_X8_trackBehind σ x6 ((r5 / (65536 : Int32)) - (r5 / (65536 : Int32)) / (2 : Int32) * (2 : Int32))).bind fun r7 => (D_X8_hittersAt σ r7).bind fun r9 => if r9 = 0 then (D_X8_games_b119 rec63 σ x1 x3 x4 r5 r7 x7) else ((D_X8_addWins_32 σ r9).bind fun r11 => D_X8_games_b119 rec63 r11 x1 x3 (x4 + 1) r5 (1 : Int32) x7))
set_option maxRecDepth 100000 in
set_option maxHeartbeats 4000000 in
theorem B_X8_games_L63_body {x : CX} {cy : Nat → ClassId} {ad : Nat → Nat} {r : (Int32 × ST)} (E : Ev x cy cX8_games RX8 9 6 165) (K : RetI x cX8_games .int r.1 (wT ad cy r.2)) (rec63 : (ST × Int32 × Int32 × Int32 × Int32 × Int32 × Int32) → Option (Int32 × ST)) (hrec63 : ∀ a, rec63 a = some r → G x 0 0 63 [(0, .ref (ad 0)), (1, .int a.2.1), (3, .int a.2.2.1), (4, .int a.2.2.2.1), (5, .int a.2.2.2.2.1), (6, .int a.2.2.2.2.2.1), (7, .int a.2.2.2.2.2.2)] [] (wT ad cy a.1)) (σ : ST) (x1 : Int32) (x3 : Int32) (x4 : Int32) (x5 : Int32) (x6 : Int32) (x7 : Int32) (h : D_X8_games_L63_body rec63 σ x1 x3 x4 x5 x6 x7 = some r) : G x 0 0 63 [(0, .ref (ad 0)), (1, .int x1), (3, .int x3), (4, .int x4), (5, .int x5), (6, .int x6), (7, .int x7)] [] (wT ad cy σ) := by
  unfold D_X8_games_L63_body at h
  refine G.iload E dX8_games_63 6 rfl ?_
  refine G.iload_n E dX8_games_65 rfl 1 rfl ?_
  refine G.icmp_ge (tgt := 125) E dX8_games_66 (by decide) (fun q => ?_) (fun q => ?_)
  · have h := ite_t h q
    refine G.iload_n E dX8_games_125 rfl 2 rfl ?_
    refine G.if_ne (tgt := 134) E dX8_games_126 (by decide) (fun q => ?_) (fun q => ?_)
    · have h := ite_f h q
      refine G.iload_n E dX8_games_134 rfl 2 rfl ?_
      refine G.iconst (v := 1) E dX8_games_135 (by decide) ?_
      refine G.icmp_ne (tgt := 146) E dX8_games_136 (by decide) (fun q => ?_) (fun q => ?_)
      · have h := ite_f h q
        refine G.iload E dX8_games_146 4 rfl ?_
        obtain rfl := Option.some.inj h
        exact K rfl _ _ dX8_games_148
      · have h := ite_t h q
        refine G.aload_n E dX8_games_139 rfl 0 rfl ?_
        obtain ⟨r3, h4, h⟩ := bind_s h
        refine G.retI E (runV (st := []) (As := []) E (C_X8_mostWins h4) ck_X8_mostWins (f651 E.fx) (f653 E.fx) (f25 E.fx) 0 8 rfl rfl rfl (by decide) (by decide) rfl (Nat.le_of_ble_eq_true rfl) dX8_games_140 ⟨Nat.zero_le _, Nat.zero_le _⟩) ?_
        refine G.goto (tgt := 148) E dX8_games_143 (by decide) ?_
        obtain rfl := Option.some.inj h
        exact K rfl _ _ dX8_games_148
    · have h := ite_t h q
      refine G.iload E dX8_games_129 3 rfl ?_
      refine G.goto (tgt := 148) E dX8_games_131 (by decide) ?_
      obtain rfl := Option.some.inj h
      exact K rfl _ _ dX8_games_148
  · have h := ite_f h q
    refine G.iload E dX8_games_69 4 rfl ?_
    obtain ⟨r5, h6, h⟩ := bind_s h
    refine G.retI E (runS (st := []) (As := [.int x5]) E (C_X8_nextSeed h6) ck_X8_nextSeed (f644 E.fx) (f645 E.fx) (by decide) (by decide) rfl (Nat.le_of_ble_eq_true rfl) dX8_games_71 ⟨Nat.zero_le _, Nat.zero_le _⟩) ?_
    refine G.istore (lv' := [(5, .int r5), (0, .ref (ad 0)), (1, .int x1), (3, .int x3), (4, .int x4), (6, .int x6), (7, .int x7)]) E dX8_games_74 (by decide) rfl ?_
    refine G.aload_n E dX8_games_76 rfl 1 rfl ?_
    refine G.iload E dX8_games_77 5 rfl ?_
    refine G.iload E dX8_games_79 0 rfl ?_
    refine G.ldc E (f650 E.fx) dX8_games_81 ?_
    refine G.idiv E dX8_games_83 (by decide) ?_
    refine G.iconst (v := 2) E dX8_games_84 (by decide) ?_
    refine G.irem E dX8_games_85 (by decide) ?_
    obtain ⟨r7, h8, h⟩ := bind_s h
    refine G.retI E (runV (st := []) (As := [.int x6, .int ((r5 / (65536 : Int32)) - (r5 / (65536 : Int32)) / (2 : Int32) * (2 : Int32))]) E (C_X8_trackBehind h8) ck_X8_trackBehind (f537 E.fx) (f539 E.fx) (f16 E.fx) 0 8 rfl rfl rfl (by decide) (by decide) rfl (Nat.le_of_ble_eq_true rfl) dX8_games_86 ⟨Nat.zero_le _, Nat.zero_le _⟩) ?_
    refine G.istore (lv' := [(6, .int r7), (5, .int r5), (0, .ref (ad 0)), (1, .int x1), (3, .int x3), (4, .int x4), (7, .int x7)]) E dX8_games_89 (by decide) rfl ?_
    refine G.aload_n E dX8_games_91 rfl 2 rfl ?_
    refine G.iload E dX8_games_92 0 rfl ?_
    obtain ⟨r9, h10, h⟩ := bind_s h
    refine G.retI E (runV (st := []) (As := [.int r7]) E (C_X8_hittersAt h10) ck_X8_hittersAt (f541 E.fx) (f543 E.fx) (f17 E.fx) 0 8 rfl rfl rfl (by decide) (by decide) rfl (Nat.le_of_ble_eq_true rfl) dX8_games_94 ⟨Nat.zero_le _, Nat.zero_le _⟩) ?_
    refine G.istore (lv' := [(8, .int r9), (6, .int r7), (5, .int r5), (0, .ref (ad 0)), (1, .int x1), (3, .int x3), (4, .int x4), (7, .int x7)]) E dX8_games_97 (by decide) rfl ?_
    refine G.iload E dX8_games_99 0 rfl ?_
    refine G.if_eq (tgt := 119) E dX8_games_101 (by decide) (fun q => ?_) (fun q => ?_)
    · have h := ite_t h q
      refine G.sub (lv' := [(0, .ref (ad 0)), (1, .int x1), (3, .int x3), (4, .int x4), (5, .int r5), (6, .int r7), (7, .int x7)]) [3, 4, 5, 6, 2, 1, 7] rfl ?_
      exact B_X8_games_b119 E K rec63 hrec63 σ x1 x3 x4 r5 r7 x7 h
    · have h := ite_f h q
      refine G.iinc (w := x4 + 1) (lv' := [(4, .int (x4 + 1)), (8, .int r9), (6, .int r7), (5, .int r5), (0, .ref (ad 0)), (1, .int x1), (3, .int x3), (7, .int x7)]) E dX8_games_104 6 rfl rfl (by decide) rfl ?_
      refine G.iload E dX8_games_107 1 rfl ?_
      refine G.aload_n E dX8_games_109 rfl 4 rfl ?_
      refine G.get E inX8 0 rfl rfl 5 (by decide) (f219 E.fx) rfl dX8_games_110 ?_
      obtain ⟨r11, h12, h⟩ := bind_s h
      refine G.retV E (runS (st := []) (As := [.int r9, .ref (ad 32)]) E (C_X8_addWins_32 h12) ck_X8_addWins (f549 E.fx) (f550 E.fx) (by decide) (by decide) rfl (Nat.le_of_ble_eq_true rfl) dX8_games_113 ⟨Nat.zero_le _, Nat.zero_le _⟩) ?_
      refine G.iconst (v := 1) E dX8_games_116 (by decide) ?_
      refine G.istore (lv' := [(6, .int (1 : Int32)), (4, .int (x4 + 1)), (8, .int r9), (5, .int r5), (0, .ref (ad 0)), (1, .int x1), (3, .int x3), (7, .int x7)]) E dX8_games_117 (by decide) rfl ?_
      refine G.sub (lv' := [(0, .ref (ad 0)), (1, .int x1), (3, .int x3), (4, .int (x4 + 1)), (5, .int r5), (6, .int (1 : Int32)), (7, .int x7)]) [4, 5, 6, 1, 3, 0, 7] rfl ?_
      exact B_X8_games_b119 E K rec63 hrec63 r11 x1 x3 (x4 + 1) r5 (1 : Int32) x7 h
noncomputable def D_X8_games_L63  (σ : ST) (x1 : Int32) (x3 : Int32) (x4 : Int32) (x5 : Int32) (x6 : Int32) (x7 : Int32) : Option (Int32 × ST) := itr (fun (rec63 : (ST × Int32 × Int32 × Int32 × Int32 × Int32 × Int32) → Option (Int32 × ST)) (a : (ST × Int32 × Int32 × Int32 × Int32 × Int32 × Int32)) => D_X8_games_L63_body rec63 a.1 a.2.1 a.2.2.1 a.2.2.2.1 a.2.2.2.2.1 a.2.2.2.2.2.1 a.2.2.2.2.2.2) 200 (σ, x1, x3, x4, x5, x6, x7)
set_option maxRecDepth 100000 in
set_option maxHeartbeats 4000000 in
theorem B_X8_games_L63 {x : CX} {cy : Nat → ClassId} {ad : Nat → Nat} {r : (Int32 × ST)} (E : Ev x cy cX8_games RX8 9 6 165) (K : RetI x cX8_games .int r.1 (wT ad cy r.2))  (σ : ST) (x1 : Int32) (x3 : Int32) (x4 : Int32) (x5 : Int32) (x6 : Int32) (x7 : Int32) (h : D_X8_games_L63 σ x1 x3 x4 x5 x6 x7 = some r) : G x 0 0 63 [(0, .ref (ad 0)), (1, .int x1), (3, .int x3), (4, .int x4), (5, .int x5), (6, .int x6), (7, .int x7)] [] (wT ad cy σ) :=
  itr_ind (P := fun a => G x 0 0 63 [(0, .ref (ad 0)), (1, .int a.2.1), (3, .int a.2.2.1), (4, .int a.2.2.2.1), (5, .int a.2.2.2.2.1), (6, .int a.2.2.2.2.2.1), (7, .int a.2.2.2.2.2.2)] [] (wT ad cy a.1)) (fun rec63 hrec63 a h => B_X8_games_L63_body E K rec63 hrec63 a.1 a.2.1 a.2.2.1 a.2.2.2.1 a.2.2.2.2.1 a.2.2.2.2.2.1 a.2.2.2.2.2.2 h) 200 (σ, x1, x3, x4, x5, x6, x7) h
noncomputable def D_X8_games (σ : ST) (p1 : Int32) (p2 : Int32) (p3 : Int32) : Option (Int32 × ST) := if p1 < (1 : Int32) then (some ((-102 : Int32), σ)) else (if (99 : Int32) < p1 then (some ((-102 : Int32), σ)) else (if p2 < 0 then (some ((-102 : Int32), σ)) else (if p3 < 0 then (some ((-102 : Int32), σ)) else (if p3 ≤ (2 : Int32) then (if (gI σ 1) = 0 then (some ((-103 : Int32), σ)) else ((D_J7_fill_53178_32 σ (0 : Int32)).bind fun r1 => D_X8_games_L63 r1 p1 p3 (0 : Int32) p2 (gI r1 8) (0 : Int32))) else (some ((-102 : Int32), σ))))))
set_option maxRecDepth 100000 in
set_option maxHeartbeats 4000000 in
theorem B_X8_games {x : CX} {cy : Nat → ClassId} {ad : Nat → Nat} {r : (Int32 × ST)} (E : Ev x cy cX8_games RX8 9 6 165) (K : RetI x cX8_games .int r.1 (wT ad cy r.2)) (σ : ST) (p1 : Int32) (p2 : Int32) (p3 : Int32) (h : D_X8_games σ p1 p2 p3 = some r) : G x 0 0 0 [(0, .ref (ad 0)), (1, .int p1), (2, .int p2), (3, .int p3)] [] (wT ad cy σ) := by
  unfold D_X8_games at h
  refine G.iload_n E dX8_games_0 rfl 1 rfl ?_
  refine G.iconst (v := 1) E dX8_games_1 (by decide) ?_
  refine G.icmp_lt (tgt := 24) E dX8_games_2 (by decide) (fun q => ?_) (fun q => ?_)
  · have h := ite_t h q
    refine G.bipush (v := -102) E dX8_games_24 (by decide) ?_
    obtain rfl := Option.some.inj h
    exact K rfl _ _ dX8_games_26
  · have h := ite_f h q
    refine G.iload_n E dX8_games_5 rfl 1 rfl ?_
    refine G.bipush (v := 99) E dX8_games_6 (by decide) ?_
    refine G.icmp_gt (tgt := 24) E dX8_games_8 (by decide) (fun q => ?_) (fun q => ?_)
    · have h := ite_t h q
      refine G.bipush (v := -102) E dX8_games_24 (by decide) ?_
      obtain rfl := Option.some.inj h
      exact K rfl _ _ dX8_games_26
    · have h := ite_f h q
      refine G.iload_n E dX8_games_11 rfl 2 rfl ?_
      refine G.if_lt (tgt := 24) E dX8_games_12 (by decide) (fun q => ?_) (fun q => ?_)
      · have h := ite_t h q
        refine G.bipush (v := -102) E dX8_games_24 (by decide) ?_
        obtain rfl := Option.some.inj h
        exact K rfl _ _ dX8_games_26
      · have h := ite_f h q
        refine G.iload_n E dX8_games_15 rfl 3 rfl ?_
        refine G.if_lt (tgt := 24) E dX8_games_16 (by decide) (fun q => ?_) (fun q => ?_)
        · have h := ite_t h q
          refine G.bipush (v := -102) E dX8_games_24 (by decide) ?_
          obtain rfl := Option.some.inj h
          exact K rfl _ _ dX8_games_26
        · have h := ite_f h q
          refine G.iload_n E dX8_games_19 rfl 3 rfl ?_
          refine G.iconst (v := 2) E dX8_games_20 (by decide) ?_
          refine G.icmp_le (tgt := 27) E dX8_games_21 (by decide) (fun q => ?_) (fun q => ?_)
          · have h := ite_t h q
            refine G.aload_n E dX8_games_27 rfl 0 rfl ?_
            refine G.get E inX8 0 rfl rfl 9 (by decide) (f223 E.fx) rfl dX8_games_28 ?_
            refine G.if_ne (tgt := 37) E dX8_games_31 (by decide) (fun q => ?_) (fun q => ?_)
            · have h := ite_f h q
              refine G.aload_n E dX8_games_37 rfl 0 rfl ?_
              refine G.get E inX8 0 rfl rfl 5 (by decide) (f219 E.fx) rfl dX8_games_38 ?_
              refine G.iconst (v := 0) E dX8_games_41 (by decide) ?_
              obtain ⟨r1, h2, h⟩ := bind_s h
              refine G.retV E (runS (st := []) (As := [.ref (ad 32), .int (0 : Int32)]) E (C_J7_fill_53178_32 h2) ck_J7_fill_53178 (f620 E.fx) (f402 E.fx) (by decide) (by decide) rfl (Nat.le_of_ble_eq_true rfl) dX8_games_42 ⟨Nat.zero_le _, Nat.zero_le _⟩) ?_
              refine G.iconst (v := 0) E dX8_games_45 (by decide) ?_
              refine G.istore (lv' := [(4, .int (0 : Int32)), (0, .ref (ad 0)), (1, .int p1), (2, .int p2), (3, .int p3)]) E dX8_games_46 (by decide) rfl ?_
              refine G.iload_n E dX8_games_48 rfl 3 rfl ?_
              refine G.istore (lv' := [(5, .int p2), (4, .int (0 : Int32)), (0, .ref (ad 0)), (1, .int p1), (2, .int p2), (3, .int p3)]) E dX8_games_49 (by decide) rfl ?_
              refine G.aload_n E dX8_games_51 rfl 2 rfl ?_
              refine G.get E inX8 0 rfl rfl 1 (by decide) (f215 E.fx) rfl dX8_games_52 ?_
              refine G.getN E inX1 3 rfl rfl 9 (by decide) (f135 E.fx) rfl dX8_games_55 ?_
              refine G.istore (lv' := [(6, .int (gI r1 8)), (5, .int p2), (4, .int (0 : Int32)), (0, .ref (ad 0)), (1, .int p1), (2, .int p2), (3, .int p3)]) E dX8_games_58 (by decide) rfl ?_
              refine G.iconst (v := 0) E dX8_games_60 (by decide) ?_
              refine G.istore (lv' := [(7, .int (0 : Int32)), (6, .int (gI r1 8)), (5, .int p2), (4, .int (0 : Int32)), (0, .ref (ad 0)), (1, .int p1), (2, .int p2), (3, .int p3)]) E dX8_games_61 (by decide) rfl ?_
              refine G.sub (lv' := [(0, .ref (ad 0)), (1, .int p1), (3, .int p3), (4, .int (0 : Int32)), (5, .int p2), (6, .int (gI r1 8)), (7, .int (0 : Int32))]) [4, 5, 7, 3, 2, 1, 0] rfl ?_
              exact B_X8_games_L63 E K r1 p1 p3 (0 : Int32) p2 (gI r1 8) (0 : Int32) h
            · have h := ite_t h q
              refine G.bipush (v := -103) E dX8_games_34 (by decide) ?_
              obtain rfl := Option.some.inj h
              exact K rfl _ _ dX8_games_36
          · have h := ite_f h q
            refine G.bipush (v := -102) E dX8_games_24 (by decide) ?_
            obtain rfl := Option.some.inj h
            exact K rfl _ _ dX8_games_26
set_option maxRecDepth 100000 in
set_option maxHeartbeats 4000000 in
theorem C_X8_games {l : Launch} {D : va_G} {cy : Nat → ClassId} {ad : Nat → Nat} {σ : ST} {p1 : Int32} {p2 : Int32} {p3 : Int32} {r : (Int32 × ST)} (h : D_X8_games σ p1 p2 p3 = some r) : MI l yX8_games cX8_games 9 (some .int) 6 165 D cy (wT ad cy σ) [.ref (ad 0), .int p1, .int p2, .int p3] r.1 (wT ad cy r.2) :=
  MI.mk (lv := [(0, .ref (ad 0)), (1, .int p1), (2, .int p2), (3, .int p3)]) (by decide) (Nat.le_of_ble_eq_true rfl) rfl (fun x _ _ E K => B_X8_games E K σ p1 p2 p3 h)

noncomputable def D_X1_take_10_3_b135  (σ : ST)  : Option ST := some σ
set_option maxRecDepth 100000 in
set_option maxHeartbeats 4000000 in
theorem B_X1_take_10_3_b135 {x : CX} {cy : Nat → ClassId} {ad : Nat → Nat} {r : ST} (E : Ev x cy cX1_take RX1 3 1 64) (K : RetV x cX1_take (wT ad cy r))  (σ : ST)  (h : D_X1_take_10_3_b135 σ = some r) : G x 0 0 135 [] [] (wT ad cy σ) := by
  unfold D_X1_take_10_3_b135 at h
  obtain rfl := Option.some.inj h
  exact K _ _ dX1_take_135
noncomputable def D_X1_take_10_3_L79_body (rec79 : (ST × Int32) → Option ST) (σ : ST) (x2 : Int32) : Option ST := if (6 : Int32) ≤ x2 then (D_X1_take_10_3_b135 (pI (pI (pI (pI σ 9 (gI σ 5)) 10 (gI (pI σ 9 (gI σ 5)) 6)) 11 (gI (pI (pI σ 9 (gI σ 5)) 10 (gI (pI σ 9 (gI σ 5)) 6)) 7)) 12 (gI (pI (pI (pI σ 9 (gI σ 5)) 10 (gI (pI σ 9 (gI σ 5)) 6)) 11 (gI (pI (pI σ 9 (gI σ 5)) 10 (gI (pI σ 9 (gI σ 5)) 6)) 7)) 8))) else (if x2 < 0 ∨ 6 ≤ x2.toNatClampNeg then none else (if x2 < 0 ∨ 6 ≤ x2.toNatClampNeg then none else (rec79 ((pA σ 12 x2.toNatClampNeg (vp_nar .boolean (gA σ 6 x2.toNatClampNeg))), (x2 + 1)))))
set_option maxRecDepth 100000 in
set_option maxHeartbeats 4000000 in
theorem B_X1_take_10_3_L79_body {x : CX} {cy : Nat → ClassId} {ad : Nat → Nat} {r : ST} (E : Ev x cy cX1_take RX1 3 1 64) (K : RetV x cX1_take (wT ad cy r)) (rec79 : (ST × Int32) → Option ST) (hrec79 : ∀ a, rec79 a = some r → G x 0 0 79 [(0, .ref (ad 10)), (1, .ref (ad 3)), (2, .int a.2)] [] (wT ad cy a.1)) (σ : ST) (x2 : Int32) (h : D_X1_take_10_3_L79_body rec79 σ x2 = some r) : G x 0 0 79 [(0, .ref (ad 10)), (1, .ref (ad 3)), (2, .int x2)] [] (wT ad cy σ) := by
  unfold D_X1_take_10_3_L79_body at h
  refine G.iload_n E dX1_take_79 rfl 2 rfl ?_
  refine G.bipush (v := 6) E dX1_take_80 (by decide) ?_
  refine G.icmp_ge (tgt := 103) E dX1_take_82 (by decide) (fun q => ?_) (fun q => ?_)
  · have h := ite_t h q
    refine G.aload_n E dX1_take_103 rfl 0 rfl ?_
    refine G.aload_n E dX1_take_104 rfl 1 rfl ?_
    refine G.get E inX1 3 rfl rfl 6 (by decide) (f128 E.fx) rfl dX1_take_105 ?_
    refine G.put (ws' := (wT ad cy (pI σ 9 (gI σ 5)))) E inX1 tyX1 tyX1_ok nmX1 10 rfl rfl 6 (by decide) (f128 E.fx) rfl rfl rfl rfl (Nat.le_of_ble_eq_true rfl) dX1_take_108 (wT_fI9 ad cy _ _) ?_
    refine G.aload_n E dX1_take_111 rfl 0 rfl ?_
    refine G.aload_n E dX1_take_112 rfl 1 rfl ?_
    refine G.get E inX1 3 rfl rfl 7 (by decide) (f130 E.fx) rfl dX1_take_113 ?_
    refine G.put (ws' := (wT ad cy (pI (pI σ 9 (gI σ 5)) 10 (gI (pI σ 9 (gI σ 5)) 6)))) E inX1 tyX1 tyX1_ok nmX1 10 rfl rfl 7 (by decide) (f130 E.fx) rfl rfl rfl rfl (Nat.le_of_ble_eq_true rfl) dX1_take_116 (wT_fI10 ad cy _ _) ?_
    refine G.aload_n E dX1_take_119 rfl 0 rfl ?_
    refine G.aload_n E dX1_take_120 rfl 1 rfl ?_
    refine G.get E inX1 3 rfl rfl 8 (by decide) (f132 E.fx) rfl dX1_take_121 ?_
    refine G.put (ws' := (wT ad cy (pI (pI (pI σ 9 (gI σ 5)) 10 (gI (pI σ 9 (gI σ 5)) 6)) 11 (gI (pI (pI σ 9 (gI σ 5)) 10 (gI (pI σ 9 (gI σ 5)) 6)) 7)))) E inX1 tyX1 tyX1_ok nmX1 10 rfl rfl 8 (by decide) (f132 E.fx) rfl rfl rfl rfl (Nat.le_of_ble_eq_true rfl) dX1_take_124 (wT_fI11 ad cy _ _) ?_
    refine G.aload_n E dX1_take_127 rfl 0 rfl ?_
    refine G.aload_n E dX1_take_128 rfl 1 rfl ?_
    refine G.get E inX1 3 rfl rfl 9 (by decide) (f134 E.fx) rfl dX1_take_129 ?_
    refine G.put (ws' := (wT ad cy (pI (pI (pI (pI σ 9 (gI σ 5)) 10 (gI (pI σ 9 (gI σ 5)) 6)) 11 (gI (pI (pI σ 9 (gI σ 5)) 10 (gI (pI σ 9 (gI σ 5)) 6)) 7)) 12 (gI (pI (pI (pI σ 9 (gI σ 5)) 10 (gI (pI σ 9 (gI σ 5)) 6)) 11 (gI (pI (pI σ 9 (gI σ 5)) 10 (gI (pI σ 9 (gI σ 5)) 6)) 7)) 8)))) E inX1 tyX1 tyX1_ok nmX1 10 rfl rfl 9 (by decide) (f134 E.fx) rfl rfl rfl rfl (Nat.le_of_ble_eq_true rfl) dX1_take_132 (wT_fI12 ad cy _ _) ?_
    refine G.sub (lv' := []) [] rfl ?_
    exact B_X1_take_10_3_b135 E K (pI (pI (pI (pI σ 9 (gI σ 5)) 10 (gI (pI σ 9 (gI σ 5)) 6)) 11 (gI (pI (pI σ 9 (gI σ 5)) 10 (gI (pI σ 9 (gI σ 5)) 6)) 7)) 12 (gI (pI (pI (pI σ 9 (gI σ 5)) 10 (gI (pI σ 9 (gI σ 5)) 6)) 11 (gI (pI (pI σ 9 (gI σ 5)) 10 (gI (pI σ 9 (gI σ 5)) 6)) 7)) 8)) h
  · have h := ite_f h q
    refine G.aload_n E dX1_take_85 rfl 0 rfl ?_
    refine G.get E inX1 10 rfl rfl 5 (by decide) (f126 E.fx) rfl dX1_take_86 ?_
    refine G.iload_n E dX1_take_89 rfl 2 rfl ?_
    refine G.aload_n E dX1_take_90 rfl 1 rfl ?_
    refine G.get E inX1 3 rfl rfl 5 (by decide) (f126 E.fx) rfl dX1_take_91 ?_
    refine G.iload_n E dX1_take_94 rfl 2 rfl ?_
    obtain ⟨hg, h⟩ := ite_n h
    refine G.zald E 9 2 rfl rfl hg dX1_take_95 ?_
    obtain ⟨hg, h⟩ := ite_n h
    refine G.zast (ws' := (wT ad cy (pA σ 12 x2.toNatClampNeg (vp_nar .boolean (gA σ 6 x2.toNatClampNeg))))) E 16 2 rfl rfl hg dX1_take_96 (wT_aI12 ad cy _ _ _) ?_
    refine G.iinc (w := x2 + 1) (lv' := [(2, .int (x2 + 1)), (0, .ref (ad 10)), (1, .ref (ad 3))]) E dX1_take_97 2 rfl rfl (by decide) rfl ?_
    refine G.goto (tgt := 79) E dX1_take_100 (by decide) ?_
    refine G.sub (lv' := [(0, .ref (ad 10)), (1, .ref (ad 3)), (2, .int (x2 + 1))]) [1, 2, 0] rfl ?_
    exact hrec79 ((pA σ 12 x2.toNatClampNeg (vp_nar .boolean (gA σ 6 x2.toNatClampNeg))), (x2 + 1)) h
noncomputable def D_X1_take_10_3_L79  (σ : ST) (x2 : Int32) : Option ST := itr (fun (rec79 : (ST × Int32) → Option ST) (a : (ST × Int32)) => D_X1_take_10_3_L79_body rec79 a.1 a.2) 200 (σ, x2)
set_option maxRecDepth 100000 in
set_option maxHeartbeats 4000000 in
theorem B_X1_take_10_3_L79 {x : CX} {cy : Nat → ClassId} {ad : Nat → Nat} {r : ST} (E : Ev x cy cX1_take RX1 3 1 64) (K : RetV x cX1_take (wT ad cy r))  (σ : ST) (x2 : Int32) (h : D_X1_take_10_3_L79 σ x2 = some r) : G x 0 0 79 [(0, .ref (ad 10)), (1, .ref (ad 3)), (2, .int x2)] [] (wT ad cy σ) :=
  itr_ind (P := fun a => G x 0 0 79 [(0, .ref (ad 10)), (1, .ref (ad 3)), (2, .int a.2)] [] (wT ad cy a.1)) (fun rec79 hrec79 a h => B_X1_take_10_3_L79_body E K rec79 hrec79 a.1 a.2 h) 200 (σ, x2) h
noncomputable def D_X1_take_10_3_b62  (σ : ST)  : Option ST := D_X1_take_10_3_L79 (pF σ 11 (va_cpy (gA σ 5) (gA σ 11) (0 : Int32).toNatClampNeg (0 : Int32).toNatClampNeg (6 : Int32).toNatClampNeg)) (0 : Int32)
set_option maxRecDepth 100000 in
set_option maxHeartbeats 4000000 in
theorem B_X1_take_10_3_b62 {x : CX} {cy : Nat → ClassId} {ad : Nat → Nat} {r : ST} (E : Ev x cy cX1_take RX1 3 1 64) (K : RetV x cX1_take (wT ad cy r))  (σ : ST)  (h : D_X1_take_10_3_b62 σ = some r) : G x 0 0 62 [(0, .ref (ad 10)), (1, .ref (ad 3))] [] (wT ad cy σ) := by
  unfold D_X1_take_10_3_b62 at h
  refine G.aload_n E dX1_take_62 rfl 1 rfl ?_
  refine G.get E inX1 3 rfl rfl 4 (by decide) (f124 E.fx) rfl dX1_take_63 ?_
  refine G.iconst (v := 0) E dX1_take_66 (by decide) ?_
  refine G.aload_n E dX1_take_67 rfl 0 rfl ?_
  refine G.get E inX1 10 rfl rfl 4 (by decide) (f124 E.fx) rfl dX1_take_68 ?_
  refine G.iconst (v := 0) E dX1_take_71 (by decide) ?_
  refine G.bipush (v := 6) E dX1_take_72 (by decide) ?_
  refine G.copyi (ws' := (wT ad cy (pF σ 11 (va_cpy (gA σ 5) (gA σ 11) (0 : Int32).toNatClampNeg (0 : Int32).toNatClampNeg (6 : Int32).toNatClampNeg)))) E (f663 E.fx) (f627 E.fx) (f626 E.fx) (f87 E.fx) 8 15 rfl rfl (by decide) (by decide) (by decide) (by decide) (by decide) (by decide) (by decide) (Nat.le_of_ble_eq_true rfl) dX1_take_74 rfl ?_
  refine G.iconst (v := 0) E dX1_take_77 (by decide) ?_
  refine G.istore_n (lv' := [(2, .int (0 : Int32)), (0, .ref (ad 10)), (1, .ref (ad 3))]) E dX1_take_78 rfl (by decide) rfl ?_
  refine G.sub (lv' := [(0, .ref (ad 10)), (1, .ref (ad 3)), (2, .int (0 : Int32))]) [1, 2, 0] rfl ?_
  exact B_X1_take_10_3_L79 E K (pF σ 11 (va_cpy (gA σ 5) (gA σ 11) (0 : Int32).toNatClampNeg (0 : Int32).toNatClampNeg (6 : Int32).toNatClampNeg)) (0 : Int32) h
noncomputable def D_X1_take_10_3_b33  (σ : ST)  : Option ST := D_X1_take_10_3_b62 (pF (pF σ 9 (va_cpy (gA σ 3) (gA σ 9) (0 : Int32).toNatClampNeg (0 : Int32).toNatClampNeg (4 : Int32).toNatClampNeg)) 10 (va_cpy (gA (pF σ 9 (va_cpy (gA σ 3) (gA σ 9) (0 : Int32).toNatClampNeg (0 : Int32).toNatClampNeg (4 : Int32).toNatClampNeg)) 4) (gA (pF σ 9 (va_cpy (gA σ 3) (gA σ 9) (0 : Int32).toNatClampNeg (0 : Int32).toNatClampNeg (4 : Int32).toNatClampNeg)) 10) (0 : Int32).toNatClampNeg (0 : Int32).toNatClampNeg (6 : Int32).toNatClampNeg))
set_option maxRecDepth 100000 in
set_option maxHeartbeats 4000000 in
theorem B_X1_take_10_3_b33 {x : CX} {cy : Nat → ClassId} {ad : Nat → Nat} {r : ST} (E : Ev x cy cX1_take RX1 3 1 64) (K : RetV x cX1_take (wT ad cy r))  (σ : ST)  (h : D_X1_take_10_3_b33 σ = some r) : G x 0 0 33 [(0, .ref (ad 10)), (1, .ref (ad 3))] [] (wT ad cy σ) := by
  unfold D_X1_take_10_3_b33 at h
  refine G.aload_n E dX1_take_33 rfl 1 rfl ?_
  refine G.get E inX1 3 rfl rfl 2 (by decide) (f120 E.fx) rfl dX1_take_34 ?_
  refine G.iconst (v := 0) E dX1_take_37 (by decide) ?_
  refine G.aload_n E dX1_take_38 rfl 0 rfl ?_
  refine G.get E inX1 10 rfl rfl 2 (by decide) (f120 E.fx) rfl dX1_take_39 ?_
  refine G.iconst (v := 0) E dX1_take_42 (by decide) ?_
  refine G.iconst (v := 4) E dX1_take_43 (by decide) ?_
  refine G.copyi (ws' := (wT ad cy (pF σ 9 (va_cpy (gA σ 3) (gA σ 9) (0 : Int32).toNatClampNeg (0 : Int32).toNatClampNeg (4 : Int32).toNatClampNeg)))) E (f663 E.fx) (f627 E.fx) (f626 E.fx) (f87 E.fx) 6 13 rfl rfl (by decide) (by decide) (by decide) (by decide) (by decide) (by decide) (by decide) (Nat.le_of_ble_eq_true rfl) dX1_take_44 rfl ?_
  refine G.aload_n E dX1_take_47 rfl 1 rfl ?_
  refine G.get E inX1 3 rfl rfl 3 (by decide) (f122 E.fx) rfl dX1_take_48 ?_
  refine G.iconst (v := 0) E dX1_take_51 (by decide) ?_
  refine G.aload_n E dX1_take_52 rfl 0 rfl ?_
  refine G.get E inX1 10 rfl rfl 3 (by decide) (f122 E.fx) rfl dX1_take_53 ?_
  refine G.iconst (v := 0) E dX1_take_56 (by decide) ?_
  refine G.bipush (v := 6) E dX1_take_57 (by decide) ?_
  refine G.copyi (ws' := (wT ad cy (pF (pF σ 9 (va_cpy (gA σ 3) (gA σ 9) (0 : Int32).toNatClampNeg (0 : Int32).toNatClampNeg (4 : Int32).toNatClampNeg)) 10 (va_cpy (gA (pF σ 9 (va_cpy (gA σ 3) (gA σ 9) (0 : Int32).toNatClampNeg (0 : Int32).toNatClampNeg (4 : Int32).toNatClampNeg)) 4) (gA (pF σ 9 (va_cpy (gA σ 3) (gA σ 9) (0 : Int32).toNatClampNeg (0 : Int32).toNatClampNeg (4 : Int32).toNatClampNeg)) 10) (0 : Int32).toNatClampNeg (0 : Int32).toNatClampNeg (6 : Int32).toNatClampNeg)))) E (f663 E.fx) (f627 E.fx) (f626 E.fx) (f87 E.fx) 7 14 rfl rfl (by decide) (by decide) (by decide) (by decide) (by decide) (by decide) (by decide) (Nat.le_of_ble_eq_true rfl) dX1_take_59 rfl ?_
  refine G.sub (lv' := [(0, .ref (ad 10)), (1, .ref (ad 3))]) [0, 1] rfl ?_
  exact B_X1_take_10_3_b62 E K (pF (pF σ 9 (va_cpy (gA σ 3) (gA σ 9) (0 : Int32).toNatClampNeg (0 : Int32).toNatClampNeg (4 : Int32).toNatClampNeg)) 10 (va_cpy (gA (pF σ 9 (va_cpy (gA σ 3) (gA σ 9) (0 : Int32).toNatClampNeg (0 : Int32).toNatClampNeg (4 : Int32).toNatClampNeg)) 4) (gA (pF σ 9 (va_cpy (gA σ 3) (gA σ 9) (0 : Int32).toNatClampNeg (0 : Int32).toNatClampNeg (4 : Int32).toNatClampNeg)) 10) (0 : Int32).toNatClampNeg (0 : Int32).toNatClampNeg (6 : Int32).toNatClampNeg)) h
noncomputable def D_X1_take_10_3 (σ : ST)  : Option ST := D_X1_take_10_3_b33 (pF (pF σ 7 (va_cpy (gA σ 1) (gA σ 7) (0 : Int32).toNatClampNeg (0 : Int32).toNatClampNeg (4 : Int32).toNatClampNeg)) 8 (va_cpy (gA (pF σ 7 (va_cpy (gA σ 1) (gA σ 7) (0 : Int32).toNatClampNeg (0 : Int32).toNatClampNeg (4 : Int32).toNatClampNeg)) 2) (gA (pF σ 7 (va_cpy (gA σ 1) (gA σ 7) (0 : Int32).toNatClampNeg (0 : Int32).toNatClampNeg (4 : Int32).toNatClampNeg)) 8) (0 : Int32).toNatClampNeg (0 : Int32).toNatClampNeg (4 : Int32).toNatClampNeg))
set_option maxRecDepth 100000 in
set_option maxHeartbeats 4000000 in
theorem B_X1_take_10_3 {x : CX} {cy : Nat → ClassId} {ad : Nat → Nat} {r : ST} (E : Ev x cy cX1_take RX1 3 1 64) (K : RetV x cX1_take (wT ad cy r)) (σ : ST)  (h : D_X1_take_10_3 σ = some r) : G x 0 0 0 [(0, .ref (ad 10)), (1, .ref (ad 3))] [] (wT ad cy σ) := by
  unfold D_X1_take_10_3 at h
  refine G.aload_n E dX1_take_0 rfl 1 rfl ?_
  refine G.ifnonnull (tgt := 5) E dX1_take_1 (by decide) ?_
  refine G.aload_n E dX1_take_5 rfl 1 rfl ?_
  refine G.get E inX1 3 rfl rfl 0 (by decide) (f116 E.fx) rfl dX1_take_6 ?_
  refine G.iconst (v := 0) E dX1_take_9 (by decide) ?_
  refine G.aload_n E dX1_take_10 rfl 0 rfl ?_
  refine G.get E inX1 10 rfl rfl 0 (by decide) (f116 E.fx) rfl dX1_take_11 ?_
  refine G.iconst (v := 0) E dX1_take_14 (by decide) ?_
  refine G.iconst (v := 4) E dX1_take_15 (by decide) ?_
  refine G.copyi (ws' := (wT ad cy (pF σ 7 (va_cpy (gA σ 1) (gA σ 7) (0 : Int32).toNatClampNeg (0 : Int32).toNatClampNeg (4 : Int32).toNatClampNeg)))) E (f663 E.fx) (f627 E.fx) (f626 E.fx) (f87 E.fx) 4 11 rfl rfl (by decide) (by decide) (by decide) (by decide) (by decide) (by decide) (by decide) (Nat.le_of_ble_eq_true rfl) dX1_take_16 rfl ?_
  refine G.aload_n E dX1_take_19 rfl 1 rfl ?_
  refine G.get E inX1 3 rfl rfl 1 (by decide) (f118 E.fx) rfl dX1_take_20 ?_
  refine G.iconst (v := 0) E dX1_take_23 (by decide) ?_
  refine G.aload_n E dX1_take_24 rfl 0 rfl ?_
  refine G.get E inX1 10 rfl rfl 1 (by decide) (f118 E.fx) rfl dX1_take_25 ?_
  refine G.iconst (v := 0) E dX1_take_28 (by decide) ?_
  refine G.iconst (v := 4) E dX1_take_29 (by decide) ?_
  refine G.copyi (ws' := (wT ad cy (pF (pF σ 7 (va_cpy (gA σ 1) (gA σ 7) (0 : Int32).toNatClampNeg (0 : Int32).toNatClampNeg (4 : Int32).toNatClampNeg)) 8 (va_cpy (gA (pF σ 7 (va_cpy (gA σ 1) (gA σ 7) (0 : Int32).toNatClampNeg (0 : Int32).toNatClampNeg (4 : Int32).toNatClampNeg)) 2) (gA (pF σ 7 (va_cpy (gA σ 1) (gA σ 7) (0 : Int32).toNatClampNeg (0 : Int32).toNatClampNeg (4 : Int32).toNatClampNeg)) 8) (0 : Int32).toNatClampNeg (0 : Int32).toNatClampNeg (4 : Int32).toNatClampNeg)))) E (f663 E.fx) (f627 E.fx) (f626 E.fx) (f87 E.fx) 5 12 rfl rfl (by decide) (by decide) (by decide) (by decide) (by decide) (by decide) (by decide) (Nat.le_of_ble_eq_true rfl) dX1_take_30 rfl ?_
  refine G.sub (lv' := [(0, .ref (ad 10)), (1, .ref (ad 3))]) [0, 1] rfl ?_
  exact B_X1_take_10_3_b33 E K (pF (pF σ 7 (va_cpy (gA σ 1) (gA σ 7) (0 : Int32).toNatClampNeg (0 : Int32).toNatClampNeg (4 : Int32).toNatClampNeg)) 8 (va_cpy (gA (pF σ 7 (va_cpy (gA σ 1) (gA σ 7) (0 : Int32).toNatClampNeg (0 : Int32).toNatClampNeg (4 : Int32).toNatClampNeg)) 2) (gA (pF σ 7 (va_cpy (gA σ 1) (gA σ 7) (0 : Int32).toNatClampNeg (0 : Int32).toNatClampNeg (4 : Int32).toNatClampNeg)) 8) (0 : Int32).toNatClampNeg (0 : Int32).toNatClampNeg (4 : Int32).toNatClampNeg)) h
set_option maxRecDepth 100000 in
set_option maxHeartbeats 4000000 in
theorem C_X1_take_10_3 {l : Launch} {D : va_G} {cy : Nat → ClassId} {ad : Nat → Nat} {σ : ST}  {r : ST} (h : D_X1_take_10_3 σ = some r) : MV l yX1_take cX1_take 3 none 1 64 D cy (wT ad cy σ) [.ref (ad 10), .ref (ad 3)]  (wT ad cy r) :=
  MV.mk (lv := [(0, .ref (ad 10)), (1, .ref (ad 3))]) (by decide) (Nat.le_of_ble_eq_true rfl) rfl (fun x _ _ E K => B_X1_take_10_3 E K σ h)
