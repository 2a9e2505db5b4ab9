noncomputable def D_X8_image (σ : ST)  : Option (Int32 × ST) := if (gI σ 1) = 0 then (some ((-103 : Int32), σ)) else ((D_X1_take_10_3 σ).bind fun r1 => some (gI (pI r1 0 (1 : Int32)) 6, pI r1 0 (1 : Int32)))
set_option maxRecDepth 100000 in
set_option maxHeartbeats 4000000 in
theorem B_X8_image {x : CX} {cy : Nat → ClassId} {ad : Nat → Nat} {r : (Int32 × ST)} (E : Ev x cy cX8_image RX8 1 2 86) (K : RetI x cX8_image .int r.1 (wT ad cy r.2)) (σ : ST)  (h : D_X8_image σ = some r) : G x 0 0 0 [(0, .ref (ad 0))] [] (wT ad cy σ) := by
  unfold D_X8_image at h
  refine G.aload_n E dX8_image_0 rfl 0 rfl ?_
  refine G.get E inX8 0 rfl rfl 9 (by decide) (f223 E.fx) rfl dX8_image_1 ?_
  refine G.if_ne (tgt := 10) E dX8_image_4 (by decide) (fun q => ?_) (fun q => ?_)
  · have h := ite_f h q
    refine G.aload_n E dX8_image_10 rfl 0 rfl ?_
    refine G.get E inX8 0 rfl rfl 2 (by decide) (f216 E.fx) rfl dX8_image_11 ?_
    refine G.aload_n E dX8_image_14 rfl 0 rfl ?_
    refine G.get E inX8 0 rfl rfl 1 (by decide) (f215 E.fx) rfl dX8_image_15 ?_
    obtain ⟨r1, h2, h⟩ := bind_s h
    refine G.retV E (runV (st := []) (As := [.ref (ad 3)]) E (C_X1_take_10_3 h2) ck_X1_take (f659 E.fx) (f660 E.fx) (f661 E.fx) 10 1 rfl rfl rfl (by decide) (by decide) rfl (Nat.le_of_ble_eq_true rfl) dX8_image_18 ⟨Nat.zero_le _, Nat.zero_le _⟩) ?_
    refine G.aload_n E dX8_image_21 rfl 0 rfl ?_
    refine G.iconst (v := 1) E dX8_image_22 (by decide) ?_
    refine G.put (ws' := (wT ad cy (pI r1 0 (1 : Int32)))) E inX8 tyX8 tyX8_ok nmX8 0 rfl rfl 8 (by decide) (f222 E.fx) rfl rfl rfl rfl (Nat.le_of_ble_eq_true rfl) dX8_image_23 (wT_fI0 ad cy _ _) ?_
    refine G.aload_n E dX8_image_26 rfl 0 rfl ?_
    refine G.get E inX8 0 rfl rfl 1 (by decide) (f215 E.fx) rfl dX8_image_27 ?_
    refine G.getN E inX1 3 rfl rfl 7 (by decide) (f131 E.fx) rfl dX8_image_30 ?_
    obtain rfl := Option.some.inj h
    exact K rfl _ _ dX8_image_33
  · have h := ite_t h q
    refine G.bipush (v := -103) E dX8_image_7 (by decide) ?_
    obtain rfl := Option.some.inj h
    exact K rfl _ _ dX8_image_9
set_option maxRecDepth 100000 in
set_option maxHeartbeats 4000000 in
theorem C_X8_image {l : Launch} {D : va_G} {cy : Nat → ClassId} {ad : Nat → Nat} {σ : ST}  {r : (Int32 × ST)} (h : D_X8_image σ = some r) : MI l yX8_image cX8_image 1 (some .int) 2 86 D cy (wT ad cy σ) [.ref (ad 0)] r.1 (wT ad cy r.2) :=
  MI.mk (lv := [(0, .ref (ad 0))]) (by decide) (Nat.le_of_ble_eq_true rfl) rfl (fun x _ _ E K => B_X8_image E K σ h)

noncomputable def D_X1_take_10_b135  (σ : ST)  : Option ST := some σ
set_option maxRecDepth 100000 in
set_option maxHeartbeats 4000000 in
theorem B_X1_take_10_b135 {x : CX} {cy : Nat → ClassId} {ad : Nat → Nat} {r : ST} (E : Ev x cy cX1_take RX1 3 1 64) (K : RetV x cX1_take (wT ad cy r))  (σ : ST)  (h : D_X1_take_10_b135 σ = some r) : G x 0 0 135 [] [] (wT ad cy σ) := by
  unfold D_X1_take_10_b135 at h
  obtain rfl := Option.some.inj h
  exact K _ _ dX1_take_135
noncomputable def D_X1_take_10_L79_body (rec79 : (ST × Int32) → Option ST) (σ : ST) (x2 : Int32) : Option ST := if (6 : Int32) ≤ x2 then (D_X1_take_10_b135 (pI (pI (pI (pI σ 5 (gI σ 9)) 6 (gI (pI σ 5 (gI σ 9)) 10)) 7 (gI (pI (pI σ 5 (gI σ 9)) 6 (gI (pI σ 5 (gI σ 9)) 10)) 11)) 8 (gI (pI (pI (pI σ 5 (gI σ 9)) 6 (gI (pI σ 5 (gI σ 9)) 10)) 7 (gI (pI (pI σ 5 (gI σ 9)) 6 (gI (pI σ 5 (gI σ 9)) 10)) 11)) 12))) else (if x2 < 0 ∨ 6 ≤ x2.toNatClampNeg then none else (if x2 < 0 ∨ 6 ≤ x2.toNatClampNeg then none else (rec79 ((pA σ 6 x2.toNatClampNeg (vp_nar .boolean (gA σ 12 x2.toNatClampNeg))), (x2 + 1)))))
set_option maxRecDepth 100000 in
set_option maxHeartbeats 4000000 in
theorem B_X1_take_10_L79_body {x : CX} {cy : Nat → ClassId} {ad : Nat → Nat} {r : ST} (E : Ev x cy cX1_take RX1 3 1 64) (K : RetV x cX1_take (wT ad cy r)) (rec79 : (ST × Int32) → Option ST) (hrec79 : ∀ a, rec79 a = some r → G x 0 0 79 [(0, .ref (ad 3)), (1, .ref (ad 10)), (2, .int a.2)] [] (wT ad cy a.1)) (σ : ST) (x2 : Int32) (h : D_X1_take_10_L79_body rec79 σ x2 = some r) : G x 0 0 79 [(0, .ref (ad 3)), (1, .ref (ad 10)), (2, .int x2)] [] (wT ad cy σ) := by
  unfold D_X1_take_10_L79_body at h
  refine G.iload_n E dX1_take_79 rfl 2 rfl ?_
  refine G.bipush (v := 6) E dX1_take_80 (by decide) ?_
  refine G.icmp_ge (tgt := 103) E dX1_take_82 (by decide) (fun q => ?_) (fun q => ?_)
  · have h := ite_t h q
    refine G.aload_n E dX1_take_103 rfl 0 rfl ?_
    refine G.aload_n E dX1_take_104 rfl 1 rfl ?_
    refine G.get E inX1 10 rfl rfl 6 (by decide) (f128 E.fx) rfl dX1_take_105 ?_
    refine G.put (ws' := (wT ad cy (pI σ 5 (gI σ 9)))) E inX1 tyX1 tyX1_ok nmX1 3 rfl rfl 6 (by decide) (f128 E.fx) rfl rfl rfl rfl (Nat.le_of_ble_eq_true rfl) dX1_take_108 (wT_fI5 ad cy _ _) ?_
    refine G.aload_n E dX1_take_111 rfl 0 rfl ?_
    refine G.aload_n E dX1_take_112 rfl 1 rfl ?_
    refine G.get E inX1 10 rfl rfl 7 (by decide) (f130 E.fx) rfl dX1_take_113 ?_
    refine G.put (ws' := (wT ad cy (pI (pI σ 5 (gI σ 9)) 6 (gI (pI σ 5 (gI σ 9)) 10)))) E inX1 tyX1 tyX1_ok nmX1 3 rfl rfl 7 (by decide) (f130 E.fx) rfl rfl rfl rfl (Nat.le_of_ble_eq_true rfl) dX1_take_116 (wT_fI6 ad cy _ _) ?_
    refine G.aload_n E dX1_take_119 rfl 0 rfl ?_
    refine G.aload_n E dX1_take_120 rfl 1 rfl ?_
    refine G.get E inX1 10 rfl rfl 8 (by decide) (f132 E.fx) rfl dX1_take_121 ?_
    refine G.put (ws' := (wT ad cy (pI (pI (pI σ 5 (gI σ 9)) 6 (gI (pI σ 5 (gI σ 9)) 10)) 7 (gI (pI (pI σ 5 (gI σ 9)) 6 (gI (pI σ 5 (gI σ 9)) 10)) 11)))) E inX1 tyX1 tyX1_ok nmX1 3 rfl rfl 8 (by decide) (f132 E.fx) rfl rfl rfl rfl (Nat.le_of_ble_eq_true rfl) dX1_take_124 (wT_fI7 ad cy _ _) ?_
    refine G.aload_n E dX1_take_127 rfl 0 rfl ?_
    refine G.aload_n E dX1_take_128 rfl 1 rfl ?_
    refine G.get E inX1 10 rfl rfl 9 (by decide) (f134 E.fx) rfl dX1_take_129 ?_
    refine G.put (ws' := (wT ad cy (pI (pI (pI (pI σ 5 (gI σ 9)) 6 (gI (pI σ 5 (gI σ 9)) 10)) 7 (gI (pI (pI σ 5 (gI σ 9)) 6 (gI (pI σ 5 (gI σ 9)) 10)) 11)) 8 (gI (pI (pI (pI σ 5 (gI σ 9)) 6 (gI (pI σ 5 (gI σ 9)) 10)) 7 (gI (pI (pI σ 5 (gI σ 9)) 6 (gI (pI σ 5 (gI σ 9)) 10)) 11)) 12)))) E inX1 tyX1 tyX1_ok nmX1 3 rfl rfl 9 (by decide) (f134 E.fx) rfl rfl rfl rfl (Nat.le_of_ble_eq_true rfl) dX1_take_132 (wT_fI8 ad cy _ _) ?_
    refine G.sub (lv' := []) [] rfl ?_
    exact B_X1_take_10_b135 E K (pI (pI (pI (pI σ 5 (gI σ 9)) 6 (gI (pI σ 5 (gI σ 9)) 10)) 7 (gI (pI (pI σ 5 (gI σ 9)) 6 (gI (pI σ 5 (gI σ 9)) 10)) 11)) 8 (gI (pI (pI (pI σ 5 (gI σ 9)) 6 (gI (pI σ 5 (gI σ 9)) 10)) 7 (gI (pI (pI σ 5 (gI σ 9)) 6 (gI (pI σ 5 (gI σ 9)) 10)) 11)) 12)) h
  · have h := ite_f h q
    refine G.aload_n E dX1_take_85 rfl 0 rfl ?_
    refine G.get E inX1 3 rfl rfl 5 (by decide) (f126 E.fx) rfl dX1_take_86 ?_
    refine G.iload_n E dX1_take_89 rfl 2 rfl ?_
    refine G.aload_n E dX1_take_90 rfl 1 rfl ?_
    refine G.get E inX1 10 rfl rfl 5 (by decide) (f126 E.fx) rfl dX1_take_91 ?_
    refine G.iload_n E dX1_take_94 rfl 2 rfl ?_
    obtain ⟨hg, h⟩ := ite_n h
    refine G.zald E 16 2 rfl rfl hg dX1_take_95 ?_
    obtain ⟨hg, h⟩ := ite_n h
    refine G.zast (ws' := (wT ad cy (pA σ 6 x2.toNatClampNeg (vp_nar .boolean (gA σ 12 x2.toNatClampNeg))))) E 9 2 rfl rfl hg dX1_take_96 (wT_aI6 ad cy _ _ _) ?_
    refine G.iinc (w := x2 + 1) (lv' := [(2, .int (x2 + 1)), (0, .ref (ad 3)), (1, .ref (ad 10))]) E dX1_take_97 2 rfl rfl (by decide) rfl ?_
    refine G.goto (tgt := 79) E dX1_take_100 (by decide) ?_
    refine G.sub (lv' := [(0, .ref (ad 3)), (1, .ref (ad 10)), (2, .int (x2 + 1))]) [1, 2, 0] rfl ?_
    exact hrec79 ((pA σ 6 x2.toNatClampNeg (vp_nar .boolean (gA σ 12 x2.toNatClampNeg))), (x2 + 1)) h
noncomputable def D_X1_take_10_L79  (σ : ST) (x2 : Int32) : Option ST := itr (fun (rec79 : (ST × Int32) → Option ST) (a : (ST × Int32)) => D_X1_take_10_L79_body rec79 a.1 a.2) 200 (σ, x2)
set_option maxRecDepth 100000 in
set_option maxHeartbeats 4000000 in
theorem B_X1_take_10_L79 {x : CX} {cy : Nat → ClassId} {ad : Nat → Nat} {r : ST} (E : Ev x cy cX1_take RX1 3 1 64) (K : RetV x cX1_take (wT ad cy r))  (σ : ST) (x2 : Int32) (h : D_X1_take_10_L79 σ x2 = some r) : G x 0 0 79 [(0, .ref (ad 3)), (1, .ref (ad 10)), (2, .int x2)] [] (wT ad cy σ) :=
  itr_ind (P := fun a => G x 0 0 79 [(0, .ref (ad 3)), (1, .ref (ad 10)), (2, .int a.2)] [] (wT ad cy a.1)) (fun rec79 hrec79 a h => B_X1_take_10_L79_body E K rec79 hrec79 a.1 a.2 h) 200 (σ, x2) h
noncomputable def D_X1_take_10_b62  (σ : ST)  : Option ST := D_X1_take_10_L79 (pF σ 5 (va_cpy (gA σ 11) (gA σ 5) (0 : Int32).toNatClampNeg (0 : Int32).toNatClampNeg (6 : Int32).toNatClampNeg)) (0 : Int32)
set_option maxRecDepth 100000 in
set_option maxHeartbeats 4000000 in
theorem B_X1_take_10_b62 {x : CX} {cy : Nat → ClassId} {ad : Nat → Nat} {r : ST} (E : Ev x cy cX1_take RX1 3 1 64) (K : RetV x cX1_take (wT ad cy r))  (σ : ST)  (h : D_X1_take_10_b62 σ = some r) : G x 0 0 62 [(0, .ref (ad 3)), (1, .ref (ad 10))] [] (wT ad cy σ) := by
  unfold D_X1_take_10_b62 at h
  refine G.aload_n E dX1_take_62 rfl 1 rfl ?_
  refine G.get E inX1 10 rfl rfl 4 (by decide) (f124 E.fx) rfl dX1_take_63 ?_
  refine G.iconst (v := 0) E dX1_take_66 (by decide) ?_
  refine G.aload_n E dX1_take_67 rfl 0 rfl ?_
  refine G.get E inX1 3 rfl rfl 4 (by decide) (f124 E.fx) rfl dX1_take_68 ?_
  refine G.iconst (v := 0) E dX1_take_71 (by decide) ?_
  refine G.bipush (v := 6) E dX1_take_72 (by decide) ?_
  refine G.copyi (ws' := (wT ad cy (pF σ 5 (va_cpy (gA σ 11) (gA σ 5) (0 : Int32).toNatClampNeg (0 : Int32).toNatClampNeg (6 : Int32).toNatClampNeg)))) E (f663 E.fx) (f627 E.fx) (f626 E.fx) (f87 E.fx) 15 8 rfl rfl (by decide) (by decide) (by decide) (by decide) (by decide) (by decide) (by decide) (Nat.le_of_ble_eq_true rfl) dX1_take_74 rfl ?_
  refine G.iconst (v := 0) E dX1_take_77 (by decide) ?_
  refine G.istore_n (lv' := [(2, .int (0 : Int32)), (0, .ref (ad 3)), (1, .ref (ad 10))]) E dX1_take_78 rfl (by decide) rfl ?_
  refine G.sub (lv' := [(0, .ref (ad 3)), (1, .ref (ad 10)), (2, .int (0 : Int32))]) [1, 2, 0] rfl ?_
  exact B_X1_take_10_L79 E K (pF σ 5 (va_cpy (gA σ 11) (gA σ 5) (0 : Int32).toNatClampNeg (0 : Int32).toNatClampNeg (6 : Int32).toNatClampNeg)) (0 : Int32) h
noncomputable def D_X1_take_10_b33  (σ : ST)  : Option ST := D_X1_take_10_b62 (pF (pF σ 3 (va_cpy (gA σ 9) (gA σ 3) (0 : Int32).toNatClampNeg (0 : Int32).toNatClampNeg (4 : Int32).toNatClampNeg)) 4 (va_cpy (gA (pF σ 3 (va_cpy (gA σ 9) (gA σ 3) (0 : Int32).toNatClampNeg (0 : Int32).toNatClampNeg (4 : Int32).toNatClampNeg)) 10) (gA (pF σ 3 (va_cpy (gA σ 9) (gA σ 3) (0 : Int32).toNatClampNeg (0 : Int32).toNatClampNeg (4 : Int32).toNatClampNeg)) 4) (0 : Int32).toNatClampNeg (0 : Int32).toNatClampNeg (6 : Int32).toNatClampNeg))
set_option maxRecDepth 100000 in
set_option maxHeartbeats 4000000 in
theorem B_X1_take_10_b33 {x : CX} {cy : Nat → ClassId} {ad : Nat → Nat} {r : ST} (E : Ev x cy cX1_take RX1 3 1 64) (K : RetV x cX1_take (wT ad cy r))  (σ : ST)  (h : D_X1_take_10_b33 σ = some r) : G x 0 0 33 [(0, .ref (ad 3)), (1, .ref (ad 10))] [] (wT ad cy σ) := by
  unfold D_X1_take_10_b33 at h
  refine G.aload_n E dX1_take_33 rfl 1 rfl ?_
  refine G.get E inX1 10 rfl rfl 2 (by decide) (f120 E.fx) rfl dX1_take_34 ?_
  refine G.iconst (v := 0) E dX1_take_37 (by decide) ?_
  refine G.aload_n E dX1_take_38 rfl 0 rfl ?_
  refine G.get E inX1 3 rfl rfl 2 (by decide) (f120 E.fx) rfl dX1_take_39 ?_
  refine G.iconst (v := 0) E dX1_take_42 (by decide) ?_
  refine G.iconst (v := 4) E dX1_take_43 (by decide) ?_
  refine G.copyi (ws' := (wT ad cy (pF σ 3 (va_cpy (gA σ 9) (gA σ 3) (0 : Int32).toNatClampNeg (0 : Int32).toNatClampNeg (4 : Int32).toNatClampNeg)))) E (f663 E.fx) (f627 E.fx) (f626 E.fx) (f87 E.fx) 13 6 rfl rfl (by decide) (by decide) (by decide) (by decide) (by decide) (by decide) (by decide) (Nat.le_of_ble_eq_true rfl) dX1_take_44 rfl ?_
  refine G.aload_n E dX1_take_47 rfl 1 rfl ?_
  refine G.get E inX1 10 rfl rfl 3 (by decide) (f122 E.fx) rfl dX1_take_48 ?_
  refine G.iconst (v := 0) E dX1_take_51 (by decide) ?_
  refine G.aload_n E dX1_take_52 rfl 0 rfl ?_
  refine G.get E inX1 3 rfl rfl 3 (by decide) (f122 E.fx) rfl dX1_take_53 ?_
  refine G.iconst (v := 0) E dX1_take_56 (by decide) ?_
  refine G.bipush (v := 6) E dX1_take_57 (by decide) ?_
  refine G.copyi (ws' := (wT ad cy (pF (pF σ 3 (va_cpy (gA σ 9) (gA σ 3) (0 : Int32).toNatClampNeg (0 : Int32).toNatClampNeg (4 : Int32).toNatClampNeg)) 4 (va_cpy (gA (pF σ 3 (va_cpy (gA σ 9) (gA σ 3) (0 : Int32).toNatClampNeg (0 : Int32).toNatClampNeg (4 : Int32).toNatClampNeg)) 10) (gA (pF σ 3 (va_cpy (gA σ 9) (gA σ 3) (0 : Int32).toNatClampNeg (0 : Int32).toNatClampNeg (4 : Int32).toNatClampNeg)) 4) (0 : Int32).toNatClampNeg (0 : Int32).toNatClampNeg (6 : Int32).toNatClampNeg)))) E (f663 E.fx) (f627 E.fx) (f626 E.fx) (f87 E.fx) 14 7 rfl rfl (by decide) (by decide) (by decide) (by decide) (by decide) (by decide) (by decide) (Nat.le_of_ble_eq_true rfl) dX1_take_59 rfl ?_
  refine G.sub (lv' := [(0, .ref (ad 3)), (1, .ref (ad 10))]) [0, 1] rfl ?_
  exact B_X1_take_10_b62 E K (pF (pF σ 3 (va_cpy (gA σ 9) (gA σ 3) (0 : Int32).toNatClampNeg (0 : Int32).toNatClampNeg (4 : Int32).toNatClampNeg)) 4 (va_cpy (gA (pF σ 3 (va_cpy (gA σ 9) (gA σ 3) (0 : Int32).toNatClampNeg (0 : Int32).toNatClampNeg (4 : Int32).toNatClampNeg)) 10) (gA (pF σ 3 (va_cpy (gA σ 9) (gA σ 3) (0 : Int32).toNatClampNeg (0 : Int32).toNatClampNeg (4 : Int32).toNatClampNeg)) 4) (0 : Int32).toNatClampNeg (0 : Int32).toNatClampNeg (6 : Int32).toNatClampNeg)) h
noncomputable def D_X1_take_10 (σ : ST)  : Option ST := D_X1_take_10_b33 (pF (pF σ 1 (va_cpy (gA σ 7) (gA σ 1) (0 : Int32).toNatClampNeg (0 : Int32).toNatClampNeg (4 : Int32).toNatClampNeg)) 2 (va_cpy (gA (pF σ 1 (va_cpy (gA σ 7) (gA σ 1) (0 : Int32).toNatClampNeg (0 : Int32).toNatClampNeg (4 : Int32).toNatClampNeg)) 8) (gA (pF σ 1 (va_cpy (gA σ 7) (gA σ 1) (0 : Int32).toNatClampNeg (0 : Int32).toNatClampNeg (4 : Int32).toNatClampNeg)) 2) (0 : Int32).toNatClampNeg (0 : Int32).toNatClampNeg (4 : Int32).toNatClampNeg))
set_option maxRecDepth 100000 in
set_option maxHeartbeats 4000000 in
theorem B_X1_take_10 {x : CX} {cy : Nat → ClassId} {ad : Nat → Nat} {r : ST} (E : Ev x cy cX1_take RX1 3 1 64) (K : RetV x cX1_take (wT ad cy r)) (σ : ST)  (h : D_X1_take_10 σ = some r) : G x 0 0 0 [(0, .ref (ad 3)), (1, .ref (ad 10))] [] (wT ad cy σ) := by
  unfold D_X1_take_10 at h
  refine G.aload_n E dX1_take_0 rfl 1 rfl ?_
  refine G.ifnonnull (tgt := 5) E dX1_take_1 (by decide) ?_
  refine G.aload_n E dX1_take_5 rfl 1 rfl ?_
  refine G.get E inX1 10 rfl rfl 0 (by decide) (f116 E.fx) rfl dX1_take_6 ?_
  refine G.iconst (v := 0) E dX1_take_9 (by decide) ?_
  refine G.aload_n E dX1_take_10 rfl 0 rfl ?_
  refine G.get E inX1 3 rfl rfl 0 (by decide) (f116 E.fx) rfl dX1_take_11 ?_
  refine G.iconst (v := 0) E dX1_take_14 (by decide) ?_
  refine G.iconst (v := 4) E dX1_take_15 (by decide) ?_
  refine G.copyi (ws' := (wT ad cy (pF σ 1 (va_cpy (gA σ 7) (gA σ 1) (0 : Int32).toNatClampNeg (0 : Int32).toNatClampNeg (4 : Int32).toNatClampNeg)))) E (f663 E.fx) (f627 E.fx) (f626 E.fx) (f87 E.fx) 11 4 rfl rfl (by decide) (by decide) (by decide) (by decide) (by decide) (by decide) (by decide) (Nat.le_of_ble_eq_true rfl) dX1_take_16 rfl ?_
  refine G.aload_n E dX1_take_19 rfl 1 rfl ?_
  refine G.get E inX1 10 rfl rfl 1 (by decide) (f118 E.fx) rfl dX1_take_20 ?_
  refine G.iconst (v := 0) E dX1_take_23 (by decide) ?_
  refine G.aload_n E dX1_take_24 rfl 0 rfl ?_
  refine G.get E inX1 3 rfl rfl 1 (by decide) (f118 E.fx) rfl dX1_take_25 ?_
  refine G.iconst (v := 0) E dX1_take_28 (by decide) ?_
  refine G.iconst (v := 4) E dX1_take_29 (by decide) ?_
  refine G.copyi (ws' := (wT ad cy (pF (pF σ 1 (va_cpy (gA σ 7) (gA σ 1) (0 : Int32).toNatClampNeg (0 : Int32).toNatClampNeg (4 : Int32).toNatClampNeg)) 2 (va_cpy (gA (pF σ 1 (va_cpy (gA σ 7) (gA σ 1) (0 : Int32).toNatClampNeg (0 : Int32).toNatClampNeg (4 : Int32).toNatClampNeg)) 8) (gA (pF σ 1 (va_cpy (gA σ 7) (gA σ 1) (0 : Int32).toNatClampNeg (0 : Int32).toNatClampNeg (4 : Int32).toNatClampNeg)) 2) (0 : Int32).toNatClampNeg (0 : Int32).toNatClampNeg (4 : Int32).toNatClampNeg)))) E (f663 E.fx) (f627 E.fx) (f626 E.fx) (f87 E.fx) 12 5 rfl rfl (by decide) (by decide) (by decide) (by decide) (by decide) (by decide) (by decide) (Nat.le_of_ble_eq_true rfl) dX1_take_30 rfl ?_
  refine G.sub (lv' := [(0, .ref (ad 3)), (1, .ref (ad 10))]) [0, 1] rfl ?_
  exact B_X1_take_10_b33 E K (pF (pF σ 1 (va_cpy (gA σ 7) (gA σ 1) (0 : Int32).toNatClampNeg (0 : Int32).toNatClampNeg (4 : Int32).toNatClampNeg)) 2 (va_cpy (gA (pF σ 1 (va_cpy (gA σ 7) (gA σ 1) (0 : Int32).toNatClampNeg (0 : Int32).toNatClampNeg (4 : Int32).toNatClampNeg)) 8) (gA (pF σ 1 (va_cpy (gA σ 7) (gA σ 1) (0 : Int32).toNatClampNeg (0 : Int32).toNatClampNeg (4 : Int32).toNatClampNeg)) 2) (0 : Int32).toNatClampNeg (0 : Int32).toNatClampNeg (4 : Int32).toNatClampNeg)) h
set_option maxRecDepth 100000 in
set_option maxHeartbeats 4000000 in
theorem C_X1_take_10 {l : Launch} {D : va_G} {cy : Nat → ClassId} {ad : Nat → Nat} {σ : ST}  {r : ST} (h : D_X1_take_10 σ = some r) : MV l yX1_take cX1_take 3 none 1 64 D cy (wT ad cy σ) [.ref (ad 3), .ref (ad 10)]  (wT ad cy r) :=
  MV.mk (lv := [(0, .ref (ad 3)), (1, .ref (ad 10))]) (by decide) (Nat.le_of_ble_eq_true rfl) rfl (fun x _ _ E K => B_X1_take_10 E K σ h)

noncomputable def D_X8_restore (σ : ST)  : Option (Int32 × ST) := if (gI σ 0) = 0 then (some ((-103 : Int32), σ)) else ((D_X1_take_10 σ).bind fun r1 => some (gI r1 6, r1))
set_option maxRecDepth 100000 in
set_option maxHeartbeats 4000000 in
theorem B_X8_restore {x : CX} {cy : Nat → ClassId} {ad : Nat → Nat} {r : (Int32 × ST)} (E : Ev x cy cX8_restore RX8 1 2 86) (K : RetI x cX8_restore .int r.1 (wT ad cy r.2)) (σ : ST)  (h : D_X8_restore σ = some r) : G x 0 0 0 [(0, .ref (ad 0))] [] (wT ad cy σ) := by
  unfold D_X8_restore at h
  refine G.aload_n E dX8_restore_0 rfl 0 rfl ?_
  refine G.get E inX8 0 rfl rfl 8 (by decide) (f222 E.fx) rfl dX8_restore_1 ?_
  refine G.if_ne (tgt := 10) E dX8_restore_4 (by decide) (fun q => ?_) (fun q => ?_)
  · have h := ite_f h q
    refine G.aload_n E dX8_restore_10 rfl 0 rfl ?_
    refine G.get E inX8 0 rfl rfl 1 (by decide) (f215 E.fx) rfl dX8_restore_11 ?_
    refine G.aload_n E dX8_restore_14 rfl 0 rfl ?_
    refine G.get E inX8 0 rfl rfl 2 (by decide) (f216 E.fx) rfl dX8_restore_15 ?_
    obtain ⟨r1, h2, h⟩ := bind_s h
    refine G.retV E (runV (st := []) (As := [.ref (ad 10)]) E (C_X1_take_10 h2) ck_X1_take (f659 E.fx) (f660 E.fx) (f661 E.fx) 3 1 rfl rfl rfl (by decide) (by decide) rfl (Nat.le_of_ble_eq_true rfl) dX8_restore_18 ⟨Nat.zero_le _, Nat.zero_le _⟩) ?_
    refine G.aload_n E dX8_restore_21 rfl 0 rfl ?_
    refine G.get E inX8 0 rfl rfl 1 (by decide) (f215 E.fx) rfl dX8_restore_22 ?_
    refine G.getN E inX1 3 rfl rfl 7 (by decide) (f131 E.fx) rfl dX8_restore_25 ?_
    obtain rfl := Option.some.inj h
    exact K rfl _ _ dX8_restore_28
  · have h := ite_t h q
    refine G.bipush (v := -103) E dX8_restore_7 (by decide) ?_
    obtain rfl := Option.some.inj h
    exact K rfl _ _ dX8_restore_9
set_option maxRecDepth 100000 in
set_option maxHeartbeats 4000000 in
theorem C_X8_restore {l : Launch} {D : va_G} {cy : Nat → ClassId} {ad : Nat → Nat} {σ : ST}  {r : (Int32 × ST)} (h : D_X8_restore σ = some r) : MI l yX8_restore cX8_restore 1 (some .int) 2 86 D cy (wT ad cy σ) [.ref (ad 0)] r.1 (wT ad cy r.2) :=
  MI.mk (lv := [(0, .ref (ad 0))]) (by decide) (Nat.le_of_ble_eq_true rfl) rfl (fun x _ _ E K => B_X8_restore E K σ h)

noncomputable def D_X1_wonByAll_L4_body (rec4 : (Int32 × Int32) → Option Int32) (σ : ST) (x1 : Int32) (x2 : Int32) : Option Int32 := if (4 : Int32) ≤ x2 then (some x1) else (if x2 < 0 ∨ 4 ≤ x2.toNatClampNeg then none else (rec4 ((x1 + (gA σ 3 x2.toNatClampNeg)), (x2 + 1))))
set_option maxRecDepth 100000 in
set_option maxHeartbeats 4000000 in
theorem B_X1_wonByAll_L4_body {x : CX} {cy : Nat → ClassId} {ad : Nat → Nat} {r : Int32} {σ : ST} (E : Ev x cy cX1_wonByAll RX1 3 0 0) (K : RetI x cX1_wonByAll .int r (wT ad cy σ)) (rec4 : (Int32 × Int32) → Option Int32) (hrec4 : ∀ a, rec4 a = some r → G x 0 0 4 [(0, .ref (ad 3)), (1, .int a.1), (2, .int a.2)] [] (wT ad cy σ)) (σ9 : ST) (x1 : Int32) (x2 : Int32) (h : D_X1_wonByAll_L4_body rec4 σ x1 x2 = some r) : G x 0 0 4 [(0, .ref (ad 3)), (1, .int x1), (2, .int x2)] [] (wT ad cy σ) := by
  unfold D_X1_wonByAll_L4_body at h
  refine G.iload_n E dX1_wonByAll_4 rfl 2 rfl ?_
  refine G.aload_n E dX1_wonByAll_5 rfl 0 rfl ?_
  refine G.get E inX1 3 rfl rfl 2 (by decide) (f120 E.fx) rfl dX1_wonByAll_6 ?_
  refine G.alen (v := 4) E 6 0 rfl rfl rfl dX1_wonByAll_9 ?_
  refine G.icmp_ge (tgt := 28) E dX1_wonByAll_10 (by decide) (fun q => ?_) (fun q => ?_)
  · have h := ite_t h q
    refine G.iload_n E dX1_wonByAll_28 rfl 1 rfl ?_
    obtain rfl := Option.some.inj h
    exact K rfl _ _ dX1_wonByAll_29
  · have h := ite_f h q
    refine G.iload_n E dX1_wonByAll_13 rfl 1 rfl ?_
    refine G.aload_n E dX1_wonByAll_14 rfl 0 rfl ?_
    refine G.get E inX1 3 rfl rfl 2 (by decide) (f120 E.fx) rfl dX1_wonByAll_15 ?_
    refine G.iload_n E dX1_wonByAll_18 rfl 2 rfl ?_
    obtain ⟨hg, h⟩ := ite_n h
    refine G.iald E 6 0 rfl rfl hg dX1_wonByAll_19 ?_
    refine G.iadd E dX1_wonByAll_20 ?_
    refine G.istore_n (lv' := [(1, .int (x1 + (gA σ 3 x2.toNatClampNeg))), (0, .ref (ad 3)), (2, .int x2)]) E dX1_wonByAll_21 rfl (by decide) rfl ?_
    refine G.iinc (w := x2 + 1) (lv' := [(2, .int (x2 + 1)), (1, .int (x1 + (gA σ 3 x2.toNatClampNeg))), (0, .ref (ad 3))]) E dX1_wonByAll_22 2 rfl rfl (by decide) rfl ?_
    refine G.goto (tgt := 4) E dX1_wonByAll_25 (by decide) ?_
    refine G.sub (lv' := [(0, .ref (ad 3)), (1, .int (x1 + (gA σ 3 x2.toNatClampNeg))), (2, .int (x2 + 1))]) [2, 1, 0] rfl ?_
    exact hrec4 ((x1 + (gA σ 3 x2.toNatClampNeg)), (x2 + 1)) h
noncomputable def D_X1_wonByAll_L4  (σ : ST) (x1 : Int32) (x2 : Int32) : Option Int32 := itr (fun (rec4 : (Int32 × Int32) → Option Int32) (a : (Int32 × Int32)) => D_X1_wonByAll_L4_body rec4 σ a.1 a.2) 200 (x1, x2)
set_option maxRecDepth 100000 in
set_option maxHeartbeats 4000000 in
theorem B_X1_wonByAll_L4 {x : CX} {cy : Nat → ClassId} {ad : Nat → Nat} {r : Int32} {σ : ST} (E : Ev x cy cX1_wonByAll RX1 3 0 0) (K : RetI x cX1_wonByAll .int r (wT ad cy σ))  (σ9 : ST) (x1 : Int32) (x2 : Int32) (h : D_X1_wonByAll_L4 σ x1 x2 = some r) : G x 0 0 4 [(0, .ref (ad 3)), (1, .int x1), (2, .int x2)] [] (wT ad cy σ) :=
  itr_ind (P := fun a => G x 0 0 4 [(0, .ref (ad 3)), (1, .int a.1), (2, .int a.2)] [] (wT ad cy σ)) (fun rec4 hrec4 a h => B_X1_wonByAll_L4_body E K rec4 hrec4 σ a.1 a.2 h) 200 (x1, x2) h
noncomputable def D_X1_wonByAll (σ : ST)  : Option Int32 := D_X1_wonByAll_L4 σ (0 : Int32) (0 : Int32)
set_option maxRecDepth 100000 in
set_option maxHeartbeats 4000000 in
theorem B_X1_wonByAll {x : CX} {cy : Nat → ClassId} {ad : Nat → Nat} {r : Int32} {σ : ST} (E : Ev x cy cX1_wonByAll RX1 3 0 0) (K : RetI x cX1_wonByAll .int r (wT ad cy σ))  (h : D_X1_wonByAll σ = some r) : G x 0 0 0 [(0, .ref (ad 3))] [] (wT ad cy σ) := by
  unfold D_X1_wonByAll at h
  refine G.iconst (v := 0) E dX1_wonByAll_0 (by decide) ?_
  refine G.istore_n (lv' := [(1, .int (0 : Int32)), (0, .ref (ad 3))]) E dX1_wonByAll_1 rfl (by decide) rfl ?_
  refine G.iconst (v := 0) E dX1_wonByAll_2 (by decide) ?_
  refine G.istore_n (lv' := [(2, .int (0 : Int32)), (1, .int (0 : Int32)), (0, .ref (ad 3))]) E dX1_wonByAll_3 rfl (by decide) rfl ?_
  refine G.sub (lv' := [(0, .ref (ad 3)), (1, .int (0 : Int32)), (2, .int (0 : Int32))]) [2, 1, 0] rfl ?_
  exact B_X1_wonByAll_L4 E K σ (0 : Int32) (0 : Int32) h
set_option maxRecDepth 100000 in
set_option maxHeartbeats 4000000 in
theorem C_X1_wonByAll {l : Launch} {D : va_G} {cy : Nat → ClassId} {ad : Nat → Nat} {σ : ST}  {r : Int32} (h : D_X1_wonByAll σ = some r) : MI l yX1_wonByAll cX1_wonByAll 3 (some .int) 0 0 D cy (wT ad cy σ) [.ref (ad 3)] r (wT ad cy σ) :=
  MI.mk (lv := [(0, .ref (ad 3))]) (by decide) (Nat.le_of_ble_eq_true rfl) rfl (fun x _ _ E K => B_X1_wonByAll E K  h)

noncomputable def D_X8_count (σ : ST) (p1 : Int32) : Option Int32 := if p1.toInt < 0 ∨ 8 < p1.toInt then (some (-102 : Int32)) else (if p1 = 0 then (some (gI σ 1)) else (if p1 = 1 then (some (gI σ 2)) else (if p1 = 2 then (some (gI σ 7)) else (if p1 = 3 then (some (gI σ 6)) else (if p1 = 4 then ((D_X8_tailOf σ (gI σ 8)).bind fun r1 => some r1) else (if p1 = 5 then ((D_X1_wonByAll σ).bind fun r3 => some r3) else (if p1 = 6 then (some (gI σ 5)) else (if p1 = 7 then ((D_X5_length σ).bind fun r5 => some r5) else (if p1 = 8 then (some (gI σ 3)) else (none))))))))))
set_option maxRecDepth 100000 in
set_option maxHeartbeats 4000000 in
theorem B_X8_count {x : CX} {cy : Nat → ClassId} {ad : Nat → Nat} {r : Int32} {σ : ST} (E : Ev x cy cX8_count RX8 2 1 22) (K : RetI x cX8_count .int r (wT ad cy σ)) (p1 : Int32) (h : D_X8_count σ p1 = some r) : G x 0 0 0 [(0, .ref (ad 0)), (1, .int p1)] [] (wT ad cy σ) := by
  unfold D_X8_count at h
  refine G.iload_n E dX8_count_0 rfl 1 rfl ?_
  by_cases q : p1.toInt < 0 ∨ 8 < p1.toInt
  · have h := ite_t h q
    refine G.tableOut (tgt := 119) E dX8_count_1 q (by decide) ?_
    refine G.bipush (v := -102) E dX8_count_119 (by decide) ?_
    obtain rfl := Option.some.inj h
    exact K rfl _ _ dX8_count_121
  have h := ite_f h q
  by_cases q0 : p1 = 0
  · have h := ite_t h q0
    refine G.tableAt (n := 0) (off := 51) (tgt := 52) E q0 dX8_count_1 (by decide) (by decide) (by decide) (by decide) ?_
    refine G.aload_n E dX8_count_52 rfl 0 rfl ?_
    refine G.get E inX8 0 rfl rfl 9 (by decide) (f223 E.fx) rfl dX8_count_53 ?_
    obtain rfl := Option.some.inj h
    exact K rfl _ _ dX8_count_56
  have h := ite_f h q0
  by_cases q1 : p1 = 1
  · have h := ite_t h q1
    refine G.tableAt (n := 1) (off := 56) (tgt := 57) E q1 dX8_count_1 (by decide) (by decide) (by decide) (by decide) ?_
    refine G.aload_n E dX8_count_57 rfl 0 rfl ?_
    refine G.get E inX8 0 rfl rfl 10 (by decide) (f224 E.fx) rfl dX8_count_58 ?_
    obtain rfl := Option.some.inj h
    exact K rfl _ _ dX8_count_61
  have h := ite_f h q1
  by_cases q2 : p1 = 2
  · have h := ite_t h q2
    refine G.tableAt (n := 2) (off := 61) (tgt := 62) E q2 dX8_count_1 (by decide) (by decide) (by decide) (by decide) ?_
    refine G.aload_n E dX8_count_62 rfl 0 rfl ?_
    refine G.get E inX8 0 rfl rfl 1 (by decide) (f215 E.fx) rfl dX8_count_63 ?_
    refine G.getN E inX1 3 rfl rfl 8 (by decide) (f133 E.fx) rfl dX8_count_66 ?_
    obtain rfl := Option.some.inj h
    exact K rfl _ _ dX8_count_69
  have h := ite_f h q2
  by_cases q3 : p1 = 3
  · have h := ite_t h q3
    refine G.tableAt (n := 3) (off := 69) (tgt := 70) E q3 dX8_count_1 (by decide) (by decide) (by decide) (by decide) ?_
    refine G.aload_n E dX8_count_70 rfl 0 rfl ?_
    refine G.get E inX8 0 rfl rfl 1 (by decide) (f215 E.fx) rfl dX8_count_71 ?_
    refine G.getN E inX1 3 rfl rfl 7 (by decide) (f131 E.fx) rfl dX8_count_74 ?_
    obtain rfl := Option.some.inj h
    exact K rfl _ _ dX8_count_77
  have h := ite_f h q3
  by_cases q4 : p1 = 4
  · have h := ite_t h q4
    refine G.tableAt (n := 4) (off := 77) (tgt := 78) E q4 dX8_count_1 (by decide) (by decide) (by decide) (by decide) ?_
    refine G.aload_n E dX8_count_78 rfl 0 rfl ?_
    refine G.aload_n E dX8_count_79 rfl 0 rfl ?_
    refine G.get E inX8 0 rfl rfl 1 (by decide) (f215 E.fx) rfl dX8_count_80 ?_
    refine G.getN E inX1 3 rfl rfl 9 (by decide) (f135 E.fx) rfl dX8_count_83 ?_
    obtain ⟨r1, h2, h⟩ := bind_s h
    refine G.retI E (runV (st := []) (As := [.int (gI σ 8)]) E (C_X8_tailOf h2) ck_X8_tailOf (f545 E.fx) (f547 E.fx) (f18 E.fx) 0 8 rfl rfl rfl (by decide) (by decide) rfl (Nat.le_of_ble_eq_true rfl) dX8_count_86 ⟨Nat.zero_le _, Nat.zero_le _⟩) ?_
    obtain rfl := Option.some.inj h
    exact K rfl _ _ dX8_count_89
  have h := ite_f h q4
  by_cases q5 : p1 = 5
  · have h := ite_t h q5
    refine G.tableAt (n := 5) (off := 89) (tgt := 90) E q5 dX8_count_1 (by decide) (by decide) (by decide) (by decide) ?_
    refine G.aload_n E dX8_count_90 rfl 0 rfl ?_
    refine G.get E inX8 0 rfl rfl 1 (by decide) (f215 E.fx) rfl dX8_count_91 ?_
    obtain ⟨r3, h4, h⟩ := bind_s h
    refine G.retI E (runV (st := []) (As := []) E (C_X1_wonByAll h4) ck_X1_wonByAll (f672 E.fx) (f673 E.fx) (f674 E.fx) 3 1 rfl rfl rfl (by decide) (by decide) rfl (Nat.le_of_ble_eq_true rfl) dX8_count_94 ⟨Nat.zero_le _, Nat.zero_le _⟩) ?_
    obtain rfl := Option.some.inj h
    exact K rfl _ _ dX8_count_97
  have h := ite_f h q5
  by_cases q6 : p1 = 6
  · have h := ite_t h q6
    refine G.tableAt (n := 6) (off := 97) (tgt := 98) E q6 dX8_count_1 (by decide) (by decide) (by decide) (by decide) ?_
    refine G.aload_n E dX8_count_98 rfl 0 rfl ?_
    refine G.get E inX8 0 rfl rfl 1 (by decide) (f215 E.fx) rfl dX8_count_99 ?_
    refine G.getN E inX1 3 rfl rfl 6 (by decide) (f129 E.fx) rfl dX8_count_102 ?_
    obtain rfl := Option.some.inj h
    exact K rfl _ _ dX8_count_105
  have h := ite_f h q6
  by_cases q7 : p1 = 7
  · have h := ite_t h q7
    refine G.tableAt (n := 7) (off := 105) (tgt := 106) E q7 dX8_count_1 (by decide) (by decide) (by decide) (by decide) ?_
    refine G.aload_n E dX8_count_106 rfl 0 rfl ?_
    refine G.get E inX8 0 rfl rfl 0 (by decide) (f214 E.fx) rfl dX8_count_107 ?_
    obtain ⟨r5, h6, h⟩ := bind_s h
    refine G.retI E (runV (st := []) (As := []) E (C_X5_length h6) ck_X5_length (f263 E.fx) (f264 E.fx) (f265 E.fx) 1 5 rfl rfl rfl (by decide) (by decide) rfl (Nat.le_of_ble_eq_true rfl) dX8_count_110 ⟨Nat.zero_le _, Nat.zero_le _⟩) ?_
    obtain rfl := Option.some.inj h
    exact K rfl _ _ dX8_count_113
  have h := ite_f h q7
  by_cases q8 : p1 = 8
  · have h := ite_t h q8
    refine G.tableAt (n := 8) (off := 113) (tgt := 114) E q8 dX8_count_1 (by decide) (by decide) (by decide) (by decide) ?_
    refine G.aload_n E dX8_count_114 rfl 0 rfl ?_
    refine G.get E inX8 0 rfl rfl 11 (by decide) (f225 E.fx) rfl dX8_count_115 ?_
    obtain rfl := Option.some.inj h
    exact K rfl _ _ dX8_count_118
  have h := ite_f h q8
  cases h
set_option maxRecDepth 100000 in
set_option maxHeartbeats 4000000 in
theorem C_X8_count {l : Launch} {D : va_G} {cy : Nat → ClassId} {ad : Nat → Nat} {σ : ST} {p1 : Int32} {r : Int32} (h : D_X8_count σ p1 = some r) : MI l yX8_count cX8_count 2 (some .int) 1 22 D cy (wT ad cy σ) [.ref (ad 0), .int p1] r (wT ad cy σ) :=
  MI.mk (lv := [(0, .ref (ad 0)), (1, .int p1)]) (by decide) (Nat.le_of_ble_eq_true rfl) rfl (fun x _ _ E K => B_X8_count E K p1 h)

noncomputable def D_X8_with (p0 : Int64) (p2 : Int64) : Option Int64 := some (((31 : Int64) * p0) + p2)
set_option maxRecDepth 100000 in
set_option maxHeartbeats 4000000 in
theorem B_X8_with {x : CX} {cy : Nat → ClassId} {ws : va_W} {r : Int64} (E : Ev x cy cX8_with RX8 4 0 0) (K : RetL x cX8_with r ws) (p0 : Int64) (p2 : Int64) (h : D_X8_with p0 p2 = some r) : G x 0 0 0 [(0, .long p0), (2, .long p2)] [] ws := by
  unfold D_X8_with at h
  refine G.ldc2 E (f685 E.fx) dX8_with_0 ?_
  refine G.lload_n E dX8_with_3 rfl 0 rfl ?_
  refine G.lmul E dX8_with_4 ?_
  refine G.lload_n E dX8_with_5 rfl 1 rfl ?_
  refine G.ladd E dX8_with_6 ?_
  obtain rfl := Option.some.inj h
  exact K _ _ dX8_with_7
set_option maxRecDepth 100000 in
set_option maxHeartbeats 4000000 in
theorem C_X8_with {l : Launch} {D : va_G} {cy : Nat → ClassId} {ws : va_W} {p0 : Int64} {p2 : Int64} {r : Int64} (h : D_X8_with p0 p2 = some r) : ML l yX8_with cX8_with 4 (some .long) 0 0 D cy ws [.long p0, .long p2] r ws :=
  ML.mk (lv := [(0, .long p0), (2, .long p2)]) (by decide) (Nat.le_of_ble_eq_true rfl) rfl (fun x _ _ E K => B_X8_with E K p0 p2 h)

noncomputable def D_X8_digest_L171_body (rec171 : (ST × Int64 × Int32) → Option (Int64 × ST)) (σ : ST) (x1 : Int64) (x3 : Int32) : Option (Int64 × ST) := if (8 : Int32) < x3 then (some (x1, σ)) else ((D_X8_count σ x3).bind fun r11 => (D_X8_with x1 r11.toInt64).bind fun r13 => rec171 (σ, r13, (x3 + 1)))
set_option maxRecDepth 100000 in
set_option maxHeartbeats 4000000 in
theorem B_X8_digest_L171_body {x : CX} {cy : Nat → ClassId} {ad : Nat → Nat} {r : (Int64 × ST)} (E : Ev x cy cX8_digest RX8 5 13 451) (K : RetL x cX8_digest r.1 (wT ad cy r.2)) (rec171 : (ST × Int64 × Int32) → Option (Int64 × ST)) (hrec171 : ∀ a, rec171 a = some r → G x 0 0 171 [(0, .ref (ad 0)), (1, .long a.2.1), (3, .int a.2.2)] [] (wT ad cy a.1)) (σ : ST) (x1 : Int64) (x3 : Int32) (h : D_X8_digest_L171_body rec171 σ x1 x3 = some r) : G x 0 0 171 [(0, .ref (ad 0)), (1, .long x1), (3, .int x3)] [] (wT ad cy σ) := by
  unfold D_X8_digest_L171_body at h
  refine G.iload_n E dX8_digest_171 rfl 2 rfl ?_
  refine G.bipush (v := 8) E dX8_digest_172 (by decide) ?_
  refine G.icmp_gt (tgt := 194) E dX8_digest_174 (by decide) (fun q => ?_) (fun q => ?_)
  · have h := ite_t h q
    refine G.lload_n E dX8_digest_194 rfl 1 rfl ?_
    obtain rfl := Option.some.inj h
    exact K _ _ dX8_digest_195
  · have h := ite_f h q
    refine G.lload_n E dX8_digest_177 rfl 1 rfl ?_
    refine G.aload_n E dX8_digest_178 rfl 0 rfl ?_
    refine G.iload_n E dX8_digest_179 rfl 2 rfl ?_
    obtain ⟨r11, h12, h⟩ := bind_s h
    refine G.retI E (runV (st := [.long x1]) (As := [.int x3]) E (C_X8_count h12) ck_X8_count (f691 E.fx) (f669 E.fx) (f670 E.fx) 0 8 rfl rfl rfl (by decide) (by decide) rfl (Nat.le_of_ble_eq_true rfl) dX8_digest_180 ⟨Nat.zero_le _, Nat.zero_le _⟩) ?_
    refine G.i2l E dX8_digest_183 ?_
    obtain ⟨r13, h14, h⟩ := bind_s h
    refine G.retL E (runS (st := []) (As := [.long x1, .long r11.toInt64]) E (C_X8_with h14) ck_X8_with (f682 E.fx) (f683 E.fx) (by decide) (by decide) rfl (Nat.le_of_ble_eq_true rfl) dX8_digest_184 ⟨Nat.zero_le _, Nat.zero_le _⟩) ?_
    refine G.lstore_n (lv' := [(1, .long r13), (0, .ref (ad 0)), (3, .int x3)]) E dX8_digest_187 rfl (by decide) rfl ?_
    refine G.iinc (w := x3 + 1) (lv' := [(3, .int (x3 + 1)), (1, .long r13), (0, .ref (ad 0))]) E dX8_digest_188 2 rfl rfl (by decide) rfl ?_
    refine G.goto (tgt := 171) E dX8_digest_191 (by decide) ?_
    refine G.sub (lv' := [(0, .ref (ad 0)), (1, .long r13), (3, .int (x3 + 1))]) [2, 1, 0] rfl ?_
    exact hrec171 (σ, r13, (x3 + 1)) h
noncomputable def D_X8_digest_L171  (σ : ST) (x1 : Int64) (x3 : Int32) : Option (Int64 × ST) := itr (fun (rec171 : (ST × Int64 × Int32) → Option (Int64 × ST)) (a : (ST × Int64 × Int32)) => D_X8_digest_L171_body rec171 a.1 a.2.1 a.2.2) 200 (σ, x1, x3)
set_option maxRecDepth 100000 in
set_option maxHeartbeats 4000000 in
theorem B_X8_digest_L171 {x : CX} {cy : Nat → ClassId} {ad : Nat → Nat} {r : (Int64 × ST)} (E : Ev x cy cX8_digest RX8 5 13 451) (K : RetL x cX8_digest r.1 (wT ad cy r.2))  (σ : ST) (x1 : Int64) (x3 : Int32) (h : D_X8_digest_L171 σ x1 x3 = some r) : G x 0 0 171 [(0, .ref (ad 0)), (1, .long x1), (3, .int x3)] [] (wT ad cy σ) :=
  itr_ind (P := fun a => G x 0 0 171 [(0, .ref (ad 0)), (1, .long a.2.1), (3, .int a.2.2)] [] (wT ad cy a.1)) (fun rec171 hrec171 a h => B_X8_digest_L171_body E K rec171 hrec171 a.1 a.2.1 a.2.2 h) 200 (σ, x1, x3) h
noncomputable def D_X8_digest_L138_body (rec138 : (ST × Int64 × Int32) → Option (Int64 × ST)) (σ : ST) (x1 : Int64) (x3 : Int32) : Option (Int64 × ST) := (D_X5_length σ).bind fun r9 => if r9 ≤ x3 then (D_X8_digest_L171 σ x1 (0 : Int32)) else ((D_X5_at σ x3).bind fun r15 => (D_X8_with x1 r15.toInt64).bind fun r17 => rec138 (σ, r17, (x3 + 1)))
set_option maxRecDepth 100000 in
set_option maxHeartbeats 4000000 in
theorem B_X8_digest_L138_body {x : CX} {cy : Nat → ClassId} {ad : Nat → Nat} {r : (Int64 × ST)} (E : Ev x cy cX8_digest RX8 5 13 451) (K : RetL x cX8_digest r.1 (wT ad cy r.2)) (rec138 : (ST × Int64 × Int32) → Option (Int64 × ST)) (hrec138 : ∀ a, rec138 a = some r → G x 0 0 138 [(0, .ref (ad 0)), (1, .long a.2.1), (3, .int a.2.2)] [] (wT ad cy a.1)) (σ : ST) (x1 : Int64) (x3 : Int32) (h : D_X8_digest_L138_body rec138 σ x1 x3 = some r) : G x 0 0 138 [(0, .ref (ad 0)), (1, .long x1), (3, .int x3)] [] (wT ad cy σ) := by
  unfold D_X8_digest_L138_body at h
  refine G.iload_n E dX8_digest_138 rfl 2 rfl ?_
  refine G.aload_n E dX8_digest_139 rfl 0 rfl ?_
  refine G.get E inX8 0 rfl rfl 0 (by decide) (f214 E.fx) rfl dX8_digest_140 ?_
  obtain ⟨r9, h10, h⟩ := bind_s h
  refine G.retI E (runV (st := [.int x3]) (As := []) E (C_X5_length h10) ck_X5_length (f263 E.fx) (f264 E.fx) (f265 E.fx) 1 5 rfl rfl rfl (by decide) (by decide) rfl (Nat.le_of_ble_eq_true rfl) dX8_digest_143 ⟨Nat.zero_le _, Nat.zero_le _⟩) ?_
  refine G.icmp_ge (tgt := 169) E dX8_digest_146 (by decide) (fun q => ?_) (fun q => ?_)
  · have h := ite_t h q
    refine G.iconst (v := 0) E dX8_digest_169 (by decide) ?_
    refine G.istore_n (lv' := [(3, .int (0 : Int32)), (0, .ref (ad 0)), (1, .long x1)]) E dX8_digest_170 rfl (by decide) rfl ?_
    refine G.sub (lv' := [(0, .ref (ad 0)), (1, .long x1), (3, .int (0 : Int32))]) [1, 2, 0] rfl ?_
    exact B_X8_digest_L171 E K σ x1 (0 : Int32) h
  · have h := ite_f h q
    refine G.lload_n E dX8_digest_149 rfl 1 rfl ?_
    refine G.aload_n E dX8_digest_150 rfl 0 rfl ?_
    refine G.get E inX8 0 rfl rfl 0 (by decide) (f214 E.fx) rfl dX8_digest_151 ?_
    refine G.iload_n E dX8_digest_154 rfl 2 rfl ?_
    obtain ⟨r15, h16, h⟩ := bind_s h
    refine G.retI E (runV (st := [.long x1]) (As := [.int x3]) E (C_X5_at h16) ck_X5_at (f690 E.fx) (f292 E.fx) (f293 E.fx) 1 5 rfl rfl rfl (by decide) (by decide) rfl (Nat.le_of_ble_eq_true rfl) dX8_digest_155 ⟨Nat.zero_le _, Nat.zero_le _⟩) ?_
    refine G.i2l E dX8_digest_158 ?_
    obtain ⟨r17, h18, h⟩ := bind_s h
    refine G.retL E (runS (st := []) (As := [.long x1, .long r15.toInt64]) E (C_X8_with h18) ck_X8_with (f682 E.fx) (f683 E.fx) (by decide) (by decide) rfl (Nat.le_of_ble_eq_true rfl) dX8_digest_159 ⟨Nat.zero_le _, Nat.zero_le _⟩) ?_
    refine G.lstore_n (lv' := [(1, .long r17), (0, .ref (ad 0)), (3, .int x3)]) E dX8_digest_162 rfl (by decide) rfl ?_
    refine G.iinc (w := x3 + 1) (lv' := [(3, .int (x3 + 1)), (1, .long r17), (0, .ref (ad 0))]) E dX8_digest_163 2 rfl rfl (by decide) rfl ?_
    refine G.goto (tgt := 138) E dX8_digest_166 (by decide) ?_
    refine G.sub (lv' := [(0, .ref (ad 0)), (1, .long r17), (3, .int (x3 + 1))]) [2, 1, 0] rfl ?_
    exact hrec138 (σ, r17, (x3 + 1)) h
noncomputable def D_X8_digest_L138  (σ : ST) (x1 : Int64) (x3 : Int32) : Option (Int64 × ST) := itr (fun (rec138 : (ST × Int64 × Int32) → Option (Int64 × ST)) (a : (ST × Int64 × Int32)) => D_X8_digest_L138_body rec138 a.1 a.2.1 a.2.2) 200 (σ, x1, x3)
set_option maxRecDepth 100000 in
set_option maxHeartbeats 4000000 in
theorem B_X8_digest_L138 {x : CX} {cy : Nat → ClassId} {ad : Nat → Nat} {r : (Int64 × ST)} (E : Ev x cy cX8_digest RX8 5 13 451) (K : RetL x cX8_digest r.1 (wT ad cy r.2))  (σ : ST) (x1 : Int64) (x3 : Int32) (h : D_X8_digest_L138 σ x1 x3 = some r) : G x 0 0 138 [(0, .ref (ad 0)), (1, .long x1), (3, .int x3)] [] (wT ad cy σ) :=
  itr_ind (P := fun a => G x 0 0 138 [(0, .ref (ad 0)), (1, .long a.2.1), (3, .int a.2.2)] [] (wT ad cy a.1)) (fun rec138 hrec138 a h => B_X8_digest_L138_body E K rec138 hrec138 a.1 a.2.1 a.2.2 h) 200 (σ, x1, x3) h
noncomputable def D_X8_digest_b136  (σ : ST) (x1 : Int64) : Option (Int64 × ST) := D_X8_digest_L138 σ x1 (0 : Int32)
set_option maxRecDepth 100000 in
set_option maxHeartbeats 4000000 in
theorem B_X8_digest_b136 {x : CX} {cy : Nat → ClassId} {ad : Nat → Nat} {r : (Int64 × ST)} (E : Ev x cy cX8_digest RX8 5 13 451) (K : RetL x cX8_digest r.1 (wT ad cy r.2))  (σ : ST) (x1 : Int64) (h : D_X8_digest_b136 σ x1 = some r) : G x 0 0 136 [(0, .ref (ad 0)), (1, .long x1)] [] (wT ad cy σ) := by
  unfold D_X8_digest_b136 at h
  refine G.iconst (v := 0) E dX8_digest_136 (by decide) ?_
  refine G.istore_n (lv' := [(3, .int (0 : Int32)), (0, .ref (ad 0)), (1, .long x1)]) E dX8_digest_137 rfl (by decide) rfl ?_
  refine G.sub (lv' := [(0, .ref (ad 0)), (1, .long x1), (3, .int (0 : Int32))]) [1, 2, 0] rfl ?_
  exact B_X8_digest_L138 E K σ x1 (0 : Int32) h
noncomputable def D_X8_digest_L17_body (rec6 : (ST × Int64 × Int32) → Option (Int64 × ST)) (rec17 : (ST × Int64 × Int32 × Int32) → Option (Int64 × ST)) (σ : ST) (x1 : Int64) (x3 : Int32) (x4 : Int32) : Option (Int64 × ST) := if (6 : Int32) < x4 then ((D_X8_answer σ x3 (0 : Int32)).bind fun r23 => (D_X8_with x1 r23.1.toInt64).bind fun r25 => (D_X8_answer r23.2 x3 (1 : Int32)).bind fun r27 => (D_X8_with r25 r27.1.toInt64).bind fun r29 => (D_X8_odds r27.2 x3 (9 : Int32) (0 : Int32)).bind fun r31 => (D_X8_with r29 r31.1.toInt64).bind fun r33 => (D_X8_odds r31.2 x3 (9 : Int32) (1 : Int32)).bind fun r35 => (D_X8_with r33 r35.1.toInt64).bind fun r37 => rec6 (r35.2, r37, (x3 + 1))) else ((D_X8_player σ x3 x4).bind fun r39 => (D_X8_with x1 r39.1.toInt64).bind fun r41 => rec17 (r39.2, r41, x3, (x4 + 1)))
set_option maxRecDepth 100000 in
set_option maxHeartbeats 4000000 in
theorem B_X8_digest_L17_body {x : CX} {cy : Nat → ClassId} {ad : Nat → Nat} {r : (Int64 × ST)} (E : Ev x cy cX8_digest RX8 5 13 451) (K : RetL x cX8_digest r.1 (wT ad cy r.2)) (rec6 : (ST × Int64 × Int32) → Option (Int64 × ST)) (hrec6 : ∀ a, rec6 a = some r → G x 0 0 6 [(0, .ref (ad 0)), (1, .long a.2.1), (3, .int a.2.2)] [] (wT ad cy a.1)) (rec17 : (ST × Int64 × Int32 × Int32) → Option (Int64 × ST)) (hrec17 : ∀ a, rec17 a = some r → G x 0 0 17 [(0, .ref (ad 0)), (1, .long a.2.1), (3, .int a.2.2.1), (4, .int a.2.2.2)] [] (wT ad cy a.1)) (σ : ST) (x1 : Int64) (x3 : Int32) (x4 : Int32) (h : D_X8_digest_L17_body rec6 rec17 σ x1 x3 x4 = some r) : G x 0 0 17 [(0, .ref (ad 0)), (1, .long x1), (3, .int x3), (4, .int x4)] [] (wT ad cy σ) := by
  unfold D_X8_digest_L17_body at h
  refine G.iload E dX8_digest_17 3 rfl ?_
  refine G.bipush (v := 6) E dX8_digest_19 (by decide) ?_
  refine G.icmp_gt (tgt := 43) E dX8_digest_21 (by decide) (fun q => ?_) (fun q => ?_)
  · have h := ite_t h q
    refine G.lload_n E dX8_digest_43 rfl 1 rfl ?_
    refine G.aload_n E dX8_digest_44 rfl 0 rfl ?_
    refine G.iload_n E dX8_digest_45 rfl 2 rfl ?_
    refine G.iconst (v := 0) E dX8_digest_46 (by decide) ?_
    obtain ⟨r23, h24, h⟩ := bind_s h
    refine G.retI E (runV (st := [.long x1]) (As := [.int x3, .int (0 : Int32)]) E (C_X8_answer h24) ck_X8_answer (f686 E.fx) (f575 E.fx) (f576 E.fx) 0 8 rfl rfl rfl (by decide) (by decide) rfl (Nat.le_of_ble_eq_true rfl) dX8_digest_47 ⟨Nat.zero_le _, Nat.zero_le _⟩) ?_
    refine G.i2l E dX8_digest_50 ?_
    obtain ⟨r25, h26, h⟩ := bind_s h
    refine G.retL E (runS (st := []) (As := [.long x1, .long r23.1.toInt64]) E (C_X8_with h26) ck_X8_with (f682 E.fx) (f683 E.fx) (by decide) (by decide) rfl (Nat.le_of_ble_eq_true rfl) dX8_digest_51 ⟨Nat.zero_le _, Nat.zero_le _⟩) ?_
    refine G.aload_n E dX8_digest_54 rfl 0 rfl ?_
    refine G.iload_n E dX8_digest_55 rfl 2 rfl ?_
    refine G.iconst (v := 1) E dX8_digest_56 (by decide) ?_
    obtain ⟨r27, h28, h⟩ := bind_s h
    refine G.retI E (runV (st := [.long r25]) (As := [.int x3, .int (1 : Int32)]) E (C_X8_answer h28) ck_X8_answer (f686 E.fx) (f575 E.fx) (f576 E.fx) 0 8 rfl rfl rfl (by decide) (by decide) rfl (Nat.le_of_ble_eq_true rfl) dX8_digest_57 ⟨Nat.zero_le _, Nat.zero_le _⟩) ?_
    refine G.i2l E dX8_digest_60 ?_
    obtain ⟨r29, h30, h⟩ := bind_s h
    refine G.retL E (runS (st := []) (As := [.long r25, .long r27.1.toInt64]) E (C_X8_with h30) ck_X8_with (f682 E.fx) (f683 E.fx) (by decide) (by decide) rfl (Nat.le_of_ble_eq_true rfl) dX8_digest_61 ⟨Nat.zero_le _, Nat.zero_le _⟩) ?_
    refine G.lstore_n (lv' := [(1, .long r29), (0, .ref (ad 0)), (3, .int x3), (4, .int x4)]) E dX8_digest_64 rfl (by decide) rfl ?_
    refine G.lload_n E dX8_digest_65 rfl 0 rfl ?_
    refine G.aload_n E dX8_digest_66 rfl 1 rfl ?_
    refine G.iload_n E dX8_digest_67 rfl 2 rfl ?_
    refine G.bipush (v := 9) E dX8_digest_68 (by decide) ?_
    refine G.iconst (v := 0) E dX8_digest_70 (by decide) ?_
    obtain ⟨r31, h32, h⟩ := bind_s h
    refine G.retI E (runV (st := [.long r29]) (As := [.int x3, .int (9 : Int32), .int (0 : Int32)]) E (C_X8_odds h32) ck_X8_odds (f687 E.fx) (f613 E.fx) (f614 E.fx) 0 8 rfl rfl rfl (by decide) (by decide) rfl (Nat.le_of_ble_eq_true rfl) dX8_digest_71 ⟨Nat.zero_le _, Nat.zero_le _⟩) ?_
    refine G.i2l E dX8_digest_74 ?_
    obtain ⟨r33, h34, h⟩ := bind_s h
    refine G.retL E (runS (st := []) (As := [.long r29, .long r31.1.toInt64]) E (C_X8_with h34) ck_X8_with (f682 E.fx) (f683 E.fx) (by decide) (by decide) rfl (Nat.le_of_ble_eq_true rfl) dX8_digest_75 ⟨Nat.zero_le _, Nat.zero_le _⟩) ?_
    refine G.aload_n E dX8_digest_78 rfl 1 rfl ?_
    refine G.iload_n E dX8_digest_79 rfl 2 rfl ?_
    refine G.bipush (v := 9) E dX8_digest_80 (by decide) ?_
    refine G.iconst (v := 1) E dX8_digest_82 (by decide) ?_
    obtain ⟨r35, h36, h⟩ := bind_s h
    refine G.retI E (runV (st := [.long r33]) (As := [.int x3, .int (9 : Int32), .int (1 : Int32)]) E (C_X8_odds h36) ck_X8_odds (f687 E.fx) (f613 E.fx) (f614 E.fx) 0 8 rfl rfl rfl (by decide) (by decide) rfl (Nat.le_of_ble_eq_true rfl) dX8_digest_83 ⟨Nat.zero_le _, Nat.zero_le _⟩) ?_
    refine G.i2l E dX8_digest_86 ?_
    obtain ⟨r37, h38, h⟩ := bind_s h
    refine G.retL E (runS (st := []) (As := [.long r33, .long r35.1.toInt64]) E (C_X8_with h38) ck_X8_with (f682 E.fx) (f683 E.fx) (by decide) (by decide) rfl (Nat.le_of_ble_eq_true rfl) dX8_digest_87 ⟨Nat.zero_le _, Nat.zero_le _⟩) ?_
    refine G.lstore_n (lv' := [(1, .long r37), (0, .ref (ad 0)), (3, .int x3), (4, .int x4)]) E dX8_digest_90 rfl (by decide) rfl ?_
    refine G.iinc (w := x3 + 1) (lv' := [(3, .int (x3 + 1)), (1, .long r37), (0, .ref (ad 0)), (4, .int x4)]) E dX8_digest_91 2 rfl rfl (by decide) rfl ?_
    refine G.goto (tgt := 6) E dX8_digest_94 (by decide) ?_
    refine G.sub (lv' := [(0, .ref (ad 0)), (1, .long r37), (3, .int (x3 + 1))]) [2, 1, 0] rfl ?_
    exact hrec6 (r35.2, r37, (x3 + 1)) h
  · have h := ite_f h q
    refine G.lload_n E dX8_digest_24 rfl 1 rfl ?_
    refine G.aload_n E dX8_digest_25 rfl 0 rfl ?_
    refine G.iload_n E dX8_digest_26 rfl 2 rfl ?_
    refine G.iload E dX8_digest_27 3 rfl ?_
    obtain ⟨r39, h40, h⟩ := bind_s h
    refine G.retI E (runV (st := [.long x1]) (As := [.int x3, .int x4]) E (C_X8_player h40) ck_X8_player (f681 E.fx) (f422 E.fx) (f423 E.fx) 0 8 rfl rfl rfl (by decide) (by decide) rfl (Nat.le_of_ble_eq_true rfl) dX8_digest_29 ⟨Nat.zero_le _, Nat.zero_le _⟩) ?_
    refine G.i2l E dX8_digest_32 ?_
    obtain ⟨r41, h42, h⟩ := bind_s h
    refine G.retL E (runS (st := []) (As := [.long x1, .long r39.1.toInt64]) E (C_X8_with h42) ck_X8_with (f682 E.fx) (f683 E.fx) (by decide) (by decide) rfl (Nat.le_of_ble_eq_true rfl) dX8_digest_33 ⟨Nat.zero_le _, Nat.zero_le _⟩) ?_
    refine G.lstore_n (lv' := [(1, .long r41), (0, .ref (ad 0)), (3, .int x3), (4, .int x4)]) E dX8_digest_36 rfl (by decide) rfl ?_
    refine G.iinc (w := x4 + 1) (lv' := [(4, .int (x4 + 1)), (1, .long r41), (0, .ref (ad 0)), (3, .int x3)]) E dX8_digest_37 3 rfl rfl (by decide) rfl ?_
    refine G.goto (tgt := 17) E dX8_digest_40 (by decide) ?_
    refine G.sub (lv' := [(0, .ref (ad 0)), (1, .long r41), (3, .int x3), (4, .int (x4 + 1))]) [2, 1, 3, 0] rfl ?_
    exact hrec17 (r39.2, r41, x3, (x4 + 1)) h
noncomputable def D_X8_digest_L17 (rec6 : (ST × Int64 × Int32) → Option (Int64 × ST)) (σ : ST) (x1 : Int64) (x3 : Int32) (x4 : Int32) : Option (Int64 × ST) := itr (fun (rec17 : (ST × Int64 × Int32 × Int32) → Option (Int64 × ST)) (a : (ST × Int64 × Int32 × Int32)) => D_X8_digest_L17_body rec6 rec17 a.1 a.2.1 a.2.2.1 a.2.2.2) 200 (σ, x1, x3, x4)
set_option maxRecDepth 100000 in
set_option maxHeartbeats 4000000 in
theorem B_X8_digest_L17 {x : CX} {cy : Nat → ClassId} {ad : Nat → Nat} {r : (Int64 × ST)} (E : Ev x cy cX8_digest RX8 5 13 451) (K : RetL x cX8_digest r.1 (wT ad cy r.2)) (rec6 : (ST × Int64 × Int32) → Option (Int64 × ST)) (hrec6 : ∀ a, rec6 a = some r → G x 0 0 6 [(0, .ref (ad 0)), (1, .long a.2.1), (3, .int a.2.2)] [] (wT ad cy a.1)) (σ : ST) (x1 : Int64) (x3 : Int32) (x4 : Int32) (h : D_X8_digest_L17 rec6 σ x1 x3 x4 = some r) : G x 0 0 17 [(0, .ref (ad 0)), (1, .long x1), (3, .int x3), (4, .int x4)] [] (wT ad cy σ) :=
  itr_ind (P := fun a => G x 0 0 17 [(0, .ref (ad 0)), (1, .long a.2.1), (3, .int a.2.2.1), (4, .int a.2.2.2)] [] (wT ad cy a.1)) (fun rec17 hrec17 a h => B_X8_digest_L17_body E K rec6 hrec6 rec17 hrec17 a.1 a.2.1 a.2.2.1 a.2.2.2 h) 200 (σ, x1, x3, x4) h
noncomputable def D_X8_digest_L6_body (rec6 : (ST × Int64 × Int32) → Option (Int64 × ST)) (σ : ST) (x1 : Int64) (x3 : Int32) : Option (Int64 × ST) := if (gI σ 1) ≤ x3 then ((D_X8_duel σ (0 : Int32) (1 : Int32)).bind fun r1 => (D_X8_with x1 r1.1.toInt64).bind fun r3 => (D_X8_duel r1.2 (1 : Int32) (0 : Int32)).bind fun r5 => (D_X8_with r3 r5.1.toInt64).bind fun r7 => if (gI r5.2 1) ≤ 0 then (D_X8_digest_b136 r5.2 r7) else ((D_X8_ring r5.2).bind fun r19 => (D_X8_with r7 r19.1.toInt64).bind fun r21 => D_X8_digest_b136 r19.2 r21)) else (D_X8_digest_L17 rec6 σ x1 x3 (0 : Int32))
set_option maxRecDepth 100000 in
set_option maxHeartbeats 4000000 in
theorem B_X8_digest_L6_body {x : CX} {cy : Nat → ClassId} {ad : Nat → Nat} {r : (Int64 × ST)} (E : Ev x cy cX8_digest RX8 5 13 451) (K : RetL x cX8_digest r.1 (wT ad cy r.2)) (rec6 : (ST × Int64 × Int32) → Option (Int64 × ST)) (hrec6 : ∀ a, rec6 a = some r → G x 0 0 6 [(0, .ref (ad 0)), (1, .long a.2.1), (3, .int a.2.2)] [] (wT ad cy a.1)) (σ : ST) (x1 : Int64) (x3 : Int32) (h : D_X8_digest_L6_body rec6 σ x1 x3 = some r) : G x 0 0 6 [(0, .ref (ad 0)), (1, .long x1), (3, .int x3)] [] (wT ad cy σ) := by
  unfold D_X8_digest_L6_body at h
  refine G.iload_n E dX8_digest_6 rfl 2 rfl ?_
  refine G.aload_n E dX8_digest_7 rfl 0 rfl ?_
  refine G.get E inX8 0 rfl rfl 9 (by decide) (f223 E.fx) rfl dX8_digest_8 ?_
  refine G.icmp_ge (tgt := 97) E dX8_digest_11 (by decide) (fun q => ?_) (fun q => ?_)
  · have h := ite_t h q
    refine G.lload_n E dX8_digest_97 rfl 1 rfl ?_
    refine G.aload_n E dX8_digest_98 rfl 0 rfl ?_
    refine G.iconst (v := 0) E dX8_digest_99 (by decide) ?_
    refine G.iconst (v := 1) E dX8_digest_100 (by decide) ?_
    obtain ⟨r1, h2, h⟩ := bind_s h
    refine G.retI E (runV (st := [.long x1]) (As := [.int (0 : Int32), .int (1 : Int32)]) E (C_X8_duel h2) ck_X8_duel (f688 E.fx) (f566 E.fx) (f567 E.fx) 0 8 rfl rfl rfl (by decide) (by decide) rfl (Nat.le_of_ble_eq_true rfl) dX8_digest_101 ⟨Nat.zero_le _, Nat.zero_le _⟩) ?_
    refine G.i2l E dX8_digest_104 ?_
    obtain ⟨r3, h4, h⟩ := bind_s h
    refine G.retL E (runS (st := []) (As := [.long x1, .long r1.1.toInt64]) E (C_X8_with h4) ck_X8_with (f682 E.fx) (f683 E.fx) (by decide) (by decide) rfl (Nat.le_of_ble_eq_true rfl) dX8_digest_105 ⟨Nat.zero_le _, Nat.zero_le _⟩) ?_
    refine G.aload_n E dX8_digest_108 rfl 0 rfl ?_
    refine G.iconst (v := 1) E dX8_digest_109 (by decide) ?_
    refine G.iconst (v := 0) E dX8_digest_110 (by decide) ?_
    obtain ⟨r5, h6, h⟩ := bind_s h
    refine G.retI E (runV (st := [.long r3]) (As := [.int (1 : Int32), .int (0 : Int32)]) E (C_X8_duel h6) ck_X8_duel (f688 E.fx) (f566 E.fx) (f567 E.fx) 0 8 rfl rfl rfl (by decide) (by decide) rfl (Nat.le_of_ble_eq_true rfl) dX8_digest_111 ⟨Nat.zero_le _, Nat.zero_le _⟩) ?_
    refine G.i2l E dX8_digest_114 ?_
    obtain ⟨r7, h8, h⟩ := bind_s h
    refine G.retL E (runS (st := []) (As := [.long r3, .long r5.1.toInt64]) E (C_X8_with h8) ck_X8_with (f682 E.fx) (f683 E.fx) (by decide) (by decide) rfl (Nat.le_of_ble_eq_true rfl) dX8_digest_115 ⟨Nat.zero_le _, Nat.zero_le _⟩) ?_
    refine G.lstore_n (lv' := [(1, .long r7), (0, .ref (ad 0)), (3, .int x3)]) E dX8_digest_118 rfl (by decide) rfl ?_
    refine G.aload_n E dX8_digest_119 rfl 1 rfl ?_
    refine G.get E inX8 0 rfl rfl 9 (by decide) (f223 E.fx) rfl dX8_digest_120 ?_
    refine G.if_le (tgt := 136) E dX8_digest_123 (by decide) (fun q => ?_) (fun q => ?_)
    · have h := ite_t h q
      refine G.sub (lv' := [(0, .ref (ad 0)), (1, .long r7)]) [1, 0] rfl ?_
      exact B_X8_digest_b136 E K r5.2 r7 h
    · have h := ite_f h q
      refine G.lload_n E dX8_digest_126 rfl 0 rfl ?_
      refine G.aload_n E dX8_digest_127 rfl 1 rfl ?_
      obtain ⟨r19, h20, h⟩ := bind_s h
      refine G.retI E (runV (st := [.long r7]) (As := []) E (C_X8_ring h20) ck_X8_ring (f689 E.fx) (f596 E.fx) (f597 E.fx) 0 8 rfl rfl rfl (by decide) (by decide) rfl (Nat.le_of_ble_eq_true rfl) dX8_digest_128 ⟨Nat.zero_le _, Nat.zero_le _⟩) ?_
      refine G.i2l E dX8_digest_131 ?_
      obtain ⟨r21, h22, h⟩ := bind_s h
      refine G.retL E (runS (st := []) (As := [.long r7, .long r19.1.toInt64]) E (C_X8_with h22) ck_X8_with (f682 E.fx) (f683 E.fx) (by decide) (by decide) rfl (Nat.le_of_ble_eq_true rfl) dX8_digest_132 ⟨Nat.zero_le _, Nat.zero_le _⟩) ?_
      refine G.lstore_n (lv' := [(1, .long r21), (0, .ref (ad 0)), (3, .int x3)]) E dX8_digest_135 rfl (by decide) rfl ?_
      refine G.sub (lv' := [(0, .ref (ad 0)), (1, .long r21)]) [1, 0] rfl ?_
      exact B_X8_digest_b136 E K r19.2 r21 h
  · have h := ite_f h q
    refine G.iconst (v := 0) E dX8_digest_14 (by decide) ?_
    refine G.istore (lv' := [(4, .int (0 : Int32)), (0, .ref (ad 0)), (1, .long x1), (3, .int x3)]) E dX8_digest_15 (by decide) rfl ?_
    refine G.sub (lv' := [(0, .ref (ad 0)), (1, .long x1), (3, .int x3), (4, .int (0 : Int32))]) [1, 2, 3, 0] rfl ?_
    exact B_X8_digest_L17 E K rec6 hrec6 σ x1 x3 (0 : Int32) h
noncomputable def D_X8_digest_L6  (σ : ST) (x1 : Int64) (x3 : Int32) : Option (Int64 × ST) := itr (fun (rec6 : (ST × Int64 × Int32) → Option (Int64 × ST)) (a : (ST × Int64 × Int32)) => D_X8_digest_L6_body rec6 a.1 a.2.1 a.2.2) 200 (σ, x1, x3)
set_option maxRecDepth 100000 in
set_option maxHeartbeats 4000000 in
theorem B_X8_digest_L6 {x : CX} {cy : Nat → ClassId} {ad : Nat → Nat} {r : (Int64 × ST)} (E : Ev x cy cX8_digest RX8 5 13 451) (K : RetL x cX8_digest r.1 (wT ad cy r.2))  (σ : ST) (x1 : Int64) (x3 : Int32) (h : D_X8_digest_L6 σ x1 x3 = some r) : G x 0 0 6 [(0, .ref (ad 0)), (1, .long x1), (3, .int x3)] [] (wT ad cy σ) :=
  itr_ind (P := fun a => G x 0 0 6 [(0, .ref (ad 0)), (1, .long a.2.1), (3, .int a.2.2)] [] (wT ad cy a.1)) (fun rec6 hrec6 a h => B_X8_digest_L6_body E K rec6 hrec6 a.1 a.2.1 a.2.2 h) 200 (σ, x1, x3) h
noncomputable def D_X8_digest (σ : ST)  : Option (Int64 × ST) := D_X8_digest_L6 σ (1297 : Int64) (0 : Int32)
set_option maxRecDepth 100000 in
set_option maxHeartbeats 4000000 in
theorem B_X8_digest {x : CX} {cy : Nat → ClassId} {ad : Nat → Nat} {r : (Int64 × ST)} (E : Ev x cy cX8_digest RX8 5 13 451) (K : RetL x cX8_digest r.1 (wT ad cy r.2)) (σ : ST)  (h : D_X8_digest σ = some r) : G x 0 0 0 [(0, .ref (ad 0))] [] (wT ad cy σ) := by
  unfold D_X8_digest at h
  refine G.ldc2 E (f680 E.fx) dX8_digest_0 ?_
  refine G.lstore_n (lv' := [(1, .long (1297 : Int64)), (0, .ref (ad 0))]) E dX8_digest_3 rfl (by decide) rfl ?_
  refine G.iconst (v := 0) E dX8_digest_4 (by decide) ?_
  refine G.istore_n (lv' := [(3, .int (0 : Int32)), (1, .long (1297 : Int64)), (0, .ref (ad 0))]) E dX8_digest_5 rfl (by decide) rfl ?_
  refine G.sub (lv' := [(0, .ref (ad 0)), (1, .long (1297 : Int64)), (3, .int (0 : Int32))]) [2, 1, 0] rfl ?_
  exact B_X8_digest_L6 E K σ (1297 : Int64) (0 : Int32) h
set_option maxRecDepth 100000 in
set_option maxHeartbeats 4000000 in
theorem C_X8_digest {l : Launch} {D : va_G} {cy : Nat → ClassId} {ad : Nat → Nat} {σ : ST}  {r : (Int64 × ST)} (h : D_X8_digest σ = some r) : ML l yX8_digest cX8_digest 5 (some .long) 13 451 D cy (wT ad cy σ) [.ref (ad 0)] r.1 (wT ad cy r.2) :=
  ML.mk (lv := [(0, .ref (ad 0))]) (by decide) (Nat.le_of_ble_eq_true rfl) rfl (fun x _ _ E K => B_X8_digest E K σ h)
