section GS
variable {x : CX} {cy : Nat → ClassId} {cc : ByteArray} {own : String} {nL fr lo cs sl pc : Nat} {lv : List (Nat × Value)} {st stk : List Value} {ws : va_W}
def strB (i : Int32) : Int32 := ([112, 109, 111, 101, 98] : List Int32).getD i.toNatClampNeg 0
theorem G.getsC (E : Ev x cy cc RJ0 nL fr lo) (w : va_Nw (.fieldLink RJ0 38 "java/lang/String" "COMPACT_STRINGS" "Z") (xS x)) (d : decode cc pc = .ok (.getstatic 38, 3)) (kk : G x cs sl (pc + 3) lv (.int 1 :: st) ws) : G x cs sl pc lv st ws := fun H locs ls hP hD hS hl => va_gets E.1 E.2.1 E.z.2.2.2 hS E.2.2.2.1 (nw_use w rfl) (fun _ h => h) d (kk H locs ls hP hD hS hl)
theorem G.strCoder (E : Ev x cy cc own nL fr lo) {index : Nat} (w : va_Nw (.fieldLink own index "java/lang/String" "coder" "B") (xS x)) (d : decode cc pc = .ok (.getfield index, 3)) (kk : G x cs sl (pc + 3) lv (.int 0 :: st) ws) : G x cs sl pc lv (.ref (cy 7) :: st) ws := fun H locs ls hP hD hS hl => vk_getf E.1 E.2.1 (E.z.2.2.1.1 0 (by decide)).2.1 hS E.2.2.2.1 (nw_use w rfl) (fun _ h => h) d (kk H locs ls hP hD hS hl)
theorem G.strVal (E : Ev x cy cc own nL fr lo) {index : Nat} (w : va_Nw (.fieldLink own index "java/lang/String" "value" "[B") (xS x)) (d : decode cc pc = .ok (.getfield index, 3)) (kk : G x cs sl (pc + 3) lv (.ref (cy 8) :: st) ws) : G x cs sl pc lv (.ref (cy 7) :: st) ws := fun H locs ls hP hD hS hl => vk_getf E.1 E.2.1 (E.z.2.2.1.1 0 (by decide)).2.2.1 hS E.2.2.2.1 (nw_use w rfl) (fun _ h => h) d (kk H locs ls hP hD hS hl)
theorem G.strLen (E : Ev x cy cc own nL fr lo) (d : decode cc pc = .ok (.arraylength, 1)) (kk : G x cs sl (pc + 1) lv (.int 5 :: st) ws) : G x cs sl pc lv (.ref (cy 8) :: st) ws := fun H locs ls hP hD hS hl => va_tlen (v := 5) E.1 E.2.1 (E.z.2.2.1.1 0 (by decide)).2.2.2 hS rfl d (kk H locs ls hP hD hS hl)
theorem G.strByte (E : Ev x cy cc own nL fr lo) {i : Int32} (hin : ¬ (i < 0 ∨ 5 ≤ i.toNatClampNeg)) (d : decode cc pc = .ok (.baload, 1)) (kk : G x cs sl (pc + 1) lv (.int (strB i) :: st) ws) : G x cs sl pc lv (.int i :: .ref (cy 8) :: st) ws := fun H locs ls hP hD hS hl => va_tb (v := .int (strB i)) E.1 E.2.1 (E.z.2.2.1.1 0 (by decide)).2.2.2 hS hin rfl d (kk H locs ls hP hD hS hl)
theorem G.mmin (E : Ev x cy cc own nL fr lo) {index : Nat} {a b : Int32} (w1 : va_Nw (.methodLink own index Lib.Math.min.name) (xS x)) (w2 : va_Nw (.static Lib.Math.min.name) (xS x)) (w3 : va_Nw (.initialized "java/lang/Math") (xS x)) (w4 : va_Nw (.code Lib.Math.min.name Lib.Math.min.code 2 (some .int)) (xS x)) (hfr : 1 ≤ fr) (hlo : 32 ≤ lo) (hst : cs = 0 ∧ sl = 0) (hW : (st.map fun v => v.category).sum ≤ 8) (d : decode cc pc = .ok (.invokestatic index, 3)) (kk : G x cs sl (pc + 3) lv (.int (if b < a then b else a) :: st) ws) : G x cs sl pc lv (.int b :: .int a :: st) ws := fun H locs ls hP hD hS hl => by
  obtain ⟨rfl, rfl⟩ := hst
  have h1 := E.2.2.2.2.2.2.2.2.1
  have h2 := E.2.2.2.2.2.2.2.2.2
  exact va_mmin E.1 E.2.1 hl.1.symm E.2.2.2.1 (nw_use w1 rfl) (nw_use w2 rfl) (nw_use w3 rfl) (nw_use w4 rfl) (Nat.le_trans hfr h1) (Nat.le_trans (by omega) h2) (Nat.zero_le _) (Nat.zero_le _) d (kk H locs ls hP hD hS hl)
variable {y : MethodName} {cb : ByteArray} {n fr' lo' idx : Nat} {ret : Option FieldType} {As : List Value} {Qk : Nat → Array Value → State → Outcome → State → Prop}
theorem runStr (E : Ev x cy cc own nL fr lo) (hM : MX (xL x) y cb n ret fr' lo' (xD x) cy ws (.ref (cy 7) :: As) Qk) (c : CK y cb n ret As.length) (wl : va_Nw (.methodLink own idx y) (xS x)) (wi : va_Nw (.instanceMethod y) (xS x)) (wsl : va_Nw (.selects "java/lang/String" y y) (xS x)) (h1 : fr' + 1 ≤ fr) (h2 : 8 + (n + 11) + lo' ≤ lo) (hst : stk = As.reverse ++ .ref (cy 7) :: st) (hW : (st.map fun v => v.category).sum ≤ 8) (d : decode cc pc = .ok (.invokevirtual idx, 3)) (hf : cs ≤ (xR x).cells ∧ sl ≤ (xR x).slots) : RunG x cs sl pc lv stk st ws Qk (Value.ref (cy 7) :: As).toArray := fun H locs ls hP hD hS hl => by
  have hp := pre_of (As := .ref (cy 7) :: As) E hP hD hS
  exact va_runV (C := "java/lang/String") (rest := st) E.fix (hM H.size) ⟨cb_of (lo' := lo') E c wl h1 h2, nw_use wi rfl, nw_use wsl rfl⟩ ⟨hp.1, vk_recv (i := 0) (adK := fun _ => cy 7) E.z.2.2.1 (by decide) hS, hp.2⟩ rfl rfl (by rw [hl.1]; exact E.2.2.1) hst (lv_room hW) d hf
end GS
theorem nar_okB {v : Int32} (h : vp_nar .byte v = v) : narrow .byte (.int v) = .int v := by
  have e : narrow .byte (.int v) = .int (vp_nar .byte v) := rfl
  rw [e, h]
noncomputable def D_J0_isLatin1_aae02  : Option Int32 := if (1 : Int32) = 0 then (some (0 : Int32)) else (if (0 : Int32) = 0 then (some (1 : Int32)) else (some (0 : Int32)))
set_option maxRecDepth 100000 in
set_option maxHeartbeats 4000000 in
theorem B_J0_isLatin1_aae02 {x : CX} {cy : Nat → ClassId} {ws : va_W} {r : Int32} (E : Ev x cy cJ0_isLatin1_aae02 RJ0 1 0 0) (K : RetI x cJ0_isLatin1_aae02 .boolean r ws)  (h : D_J0_isLatin1_aae02  = some r) : G x 0 0 0 [(0, .ref (cy 7))] [] ws := by
  unfold D_J0_isLatin1_aae02 at h
  refine G.getsC E (f312 E.fx) dJ0_isLatin1_aae02_0 ?_
  refine G.if_eq (tgt := 17) E dJ0_isLatin1_aae02_3 (by decide) (fun q => ?_) (fun q => ?_)
  · have h := ite_t h q
    refine G.iconst (v := 0) E dJ0_isLatin1_aae02_17 (by decide) ?_
    obtain rfl := Option.some.inj h
    exact K rfl _ _ dJ0_isLatin1_aae02_18
  · have h := ite_f h q
    refine G.aload_n E dJ0_isLatin1_aae02_6 rfl 0 rfl ?_
    refine G.strCoder E (f1102 E.fx) dJ0_isLatin1_aae02_7 ?_
    refine G.if_ne (tgt := 17) E dJ0_isLatin1_aae02_10 (by decide) (fun q => ?_) (fun q => ?_)
    · have h := ite_f h q
      refine G.iconst (v := 0) E dJ0_isLatin1_aae02_17 (by decide) ?_
      obtain rfl := Option.some.inj h
      exact K rfl _ _ dJ0_isLatin1_aae02_18
    · have h := ite_t h q
      refine G.iconst (v := 1) E dJ0_isLatin1_aae02_13 (by decide) ?_
      refine G.goto (tgt := 18) E dJ0_isLatin1_aae02_14 (by decide) ?_
      obtain rfl := Option.some.inj h
      exact K rfl _ _ dJ0_isLatin1_aae02_18
set_option maxRecDepth 100000 in
set_option maxHeartbeats 4000000 in
theorem C_J0_isLatin1_aae02 {l : Launch} {D : va_G} {cy : Nat → ClassId} {ws : va_W}  {r : Int32} (h : D_J0_isLatin1_aae02  = some r) : MI l yJ0_isLatin1_aae02 cJ0_isLatin1_aae02 1 (some .boolean) 0 0 D cy ws [.ref (cy 7)] r ws :=
  MI.mk (lv := [(0, .ref (cy 7))]) (by decide) (Nat.le_of_ble_eq_true rfl) rfl (fun x _ _ E K => B_J0_isLatin1_aae02 E K  h)

noncomputable def D_J0_coder_7d493  : Option Int32 := if (1 : Int32) = 0 then (some (1 : Int32)) else (some (0 : Int32))
set_option maxRecDepth 100000 in
set_option maxHeartbeats 4000000 in
theorem B_J0_coder_7d493 {x : CX} {cy : Nat → ClassId} {ws : va_W} {r : Int32} (E : Ev x cy cJ0_coder_7d493 RJ0 1 0 0) (K : RetI x cJ0_coder_7d493 .byte r ws)  (h : D_J0_coder_7d493  = some r) : G x 0 0 0 [(0, .ref (cy 7))] [] ws := by
  unfold D_J0_coder_7d493 at h
  refine G.getsC E (f312 E.fx) dJ0_coder_7d493_0 ?_
  refine G.if_eq (tgt := 13) E dJ0_coder_7d493_3 (by decide) (fun q => ?_) (fun q => ?_)
  · have h := ite_t h q
    refine G.iconst (v := 1) E dJ0_coder_7d493_13 (by decide) ?_
    obtain rfl := Option.some.inj h
    exact K rfl _ _ dJ0_coder_7d493_14
  · have h := ite_f h q
    refine G.aload_n E dJ0_coder_7d493_6 rfl 0 rfl ?_
    refine G.strCoder E (f1102 E.fx) dJ0_coder_7d493_7 ?_
    refine G.goto (tgt := 14) E dJ0_coder_7d493_10 (by decide) ?_
    obtain rfl := Option.some.inj h
    exact K rfl _ _ dJ0_coder_7d493_14
set_option maxRecDepth 100000 in
set_option maxHeartbeats 4000000 in
theorem C_J0_coder_7d493 {l : Launch} {D : va_G} {cy : Nat → ClassId} {ws : va_W}  {r : Int32} (h : D_J0_coder_7d493  = some r) : MI l yJ0_coder_7d493 cJ0_coder_7d493 1 (some .byte) 0 0 D cy ws [.ref (cy 7)] r ws :=
  MI.mk (lv := [(0, .ref (cy 7))]) (by decide) (Nat.le_of_ble_eq_true rfl) rfl (fun x _ _ E K => B_J0_coder_7d493 E K  h)

noncomputable def D_J0_length_8abf5  : Option Int32 := (D_J0_coder_7d493).bind fun r1 => some ((5 : Int32) >>> (r1 &&& 31))
set_option maxRecDepth 100000 in
set_option maxHeartbeats 4000000 in
theorem B_J0_length_8abf5 {x : CX} {cy : Nat → ClassId} {ws : va_W} {r : Int32} (E : Ev x cy cJ0_length_8abf5 RJ0 1 1 20) (K : RetI x cJ0_length_8abf5 .int r ws)  (h : D_J0_length_8abf5  = some r) : G x 0 0 0 [(0, .ref (cy 7))] [] ws := by
  unfold D_J0_length_8abf5 at h
  refine G.aload_n E dJ0_length_8abf5_0 rfl 0 rfl ?_
  refine G.strVal E (f1103 E.fx) dJ0_length_8abf5_1 ?_
  refine G.strLen E dJ0_length_8abf5_4 ?_
  refine G.aload_n E dJ0_length_8abf5_5 rfl 0 rfl ?_
  obtain ⟨r1, h2, h⟩ := bind_s h
  refine G.retI E (runStr (st := [.int (5 : Int32)]) (As := []) E (C_J0_coder_7d493 h2) ck_J0_coder_7d493 (f318 E.fx) (f319 E.fx) (f320 E.fx) (by decide) (by decide) rfl (Nat.le_of_ble_eq_true rfl) dJ0_length_8abf5_6 ⟨Nat.zero_le _, Nat.zero_le _⟩) ?_
  refine G.ishr E dJ0_length_8abf5_9 ?_
  obtain rfl := Option.some.inj h
  exact K rfl _ _ dJ0_length_8abf5_10
set_option maxRecDepth 100000 in
set_option maxHeartbeats 4000000 in
theorem C_J0_length_8abf5 {l : Launch} {D : va_G} {cy : Nat → ClassId} {ws : va_W}  {r : Int32} (h : D_J0_length_8abf5  = some r) : MI l yJ0_length_8abf5 cJ0_length_8abf5 1 (some .int) 1 20 D cy ws [.ref (cy 7)] r ws :=
  MI.mk (lv := [(0, .ref (cy 7))]) (by decide) (Nat.le_of_ble_eq_true rfl) rfl (fun x _ _ E K => B_J0_length_8abf5 E K  h)

noncomputable def D_J1_canEncode_9a6ad (p0 : Int32) : Option Int32 := if p0 < 0 then (some (0 : Int32)) else (if (255 : Int32) < p0 then (some (0 : Int32)) else (some (1 : Int32)))
set_option maxRecDepth 100000 in
set_option maxHeartbeats 4000000 in
theorem B_J1_canEncode_9a6ad {x : CX} {cy : Nat → ClassId} {ws : va_W} {r : Int32} (E : Ev x cy cJ1_canEncode_9a6ad RJ1 1 0 0) (K : RetI x cJ1_canEncode_9a6ad .boolean r ws) (p0 : Int32) (h : D_J1_canEncode_9a6ad p0 = some r) : G x 0 0 0 [(0, .int p0)] [] ws := by
  unfold D_J1_canEncode_9a6ad at h
  refine G.iload_n E dJ1_canEncode_9a6ad_0 rfl 0 rfl ?_
  refine G.if_lt (tgt := 15) E dJ1_canEncode_9a6ad_1 (by decide) (fun q => ?_) (fun q => ?_)
  · have h := ite_t h q
    refine G.iconst (v := 0) E dJ1_canEncode_9a6ad_15 (by decide) ?_
    obtain rfl := Option.some.inj h
    exact K rfl _ _ dJ1_canEncode_9a6ad_16
  · have h := ite_f h q
    refine G.iload_n E dJ1_canEncode_9a6ad_4 rfl 0 rfl ?_
    refine G.sipush (v := 255) E dJ1_canEncode_9a6ad_5 (by decide) ?_
    refine G.icmp_gt (tgt := 15) E dJ1_canEncode_9a6ad_8 (by decide) (fun q => ?_) (fun q => ?_)
    · have h := ite_t h q
      refine G.iconst (v := 0) E dJ1_canEncode_9a6ad_15 (by decide) ?_
      obtain rfl := Option.some.inj h
      exact K rfl _ _ dJ1_canEncode_9a6ad_16
    · have h := ite_f h q
      refine G.iconst (v := 1) E dJ1_canEncode_9a6ad_11 (by decide) ?_
      refine G.goto (tgt := 16) E dJ1_canEncode_9a6ad_12 (by decide) ?_
      obtain rfl := Option.some.inj h
      exact K rfl _ _ dJ1_canEncode_9a6ad_16
set_option maxRecDepth 100000 in
set_option maxHeartbeats 4000000 in
theorem C_J1_canEncode_9a6ad {l : Launch} {D : va_G} {cy : Nat → ClassId} {ws : va_W} {p0 : Int32} {r : Int32} (h : D_J1_canEncode_9a6ad p0 = some r) : MI l yJ1_canEncode_9a6ad cJ1_canEncode_9a6ad 1 (some .boolean) 0 0 D cy ws [.int p0] r ws :=
  MI.mk (lv := [(0, .int p0)]) (by decide) (Nat.le_of_ble_eq_true rfl) rfl (fun x _ _ E K => B_J1_canEncode_9a6ad E K p0 h)

noncomputable def D_J1_indexOfChar_4cfef_L7_body (rec7 : (Int32 × Int32 × Int32) → Option Int32) (x3 : Int32) (x4 : Int32) (x5 : Int32) : Option Int32 := if x3 ≤ x5 then (some (-1 : Int32)) else (if x5 < 0 ∨ 5 ≤ x5.toNatClampNeg then none else (if (strB x5) = x4 then (some x5) else (rec7 (x3, x4, (x5 + 1)))))
set_option maxRecDepth 100000 in
set_option maxHeartbeats 4000000 in
theorem B_J1_indexOfChar_4cfef_L7_body {x : CX} {cy : Nat → ClassId} {ws : va_W} {r : Int32} (E : Ev x cy cJ1_indexOfChar_4cfef RJ1 6 0 0) (K : RetI x cJ1_indexOfChar_4cfef .int r ws) (rec7 : (Int32 × Int32 × Int32) → Option Int32) (hrec7 : ∀ a, rec7 a = some r → G x 0 0 7 [(0, .ref (cy 8)), (3, .int a.1), (4, .int a.2.1), (5, .int a.2.2)] [] ws) (x3 : Int32) (x4 : Int32) (x5 : Int32) (h : D_J1_indexOfChar_4cfef_L7_body rec7 x3 x4 x5 = some r) : G x 0 0 7 [(0, .ref (cy 8)), (3, .int x3), (4, .int x4), (5, .int x5)] [] ws := by
  unfold D_J1_indexOfChar_4cfef_L7_body at h
  refine G.iload E dJ1_indexOfChar_4cfef_7 3 rfl ?_
  refine G.iload_n E dJ1_indexOfChar_4cfef_9 rfl 1 rfl ?_
  refine G.icmp_ge (tgt := 31) E dJ1_indexOfChar_4cfef_10 (by decide) (fun q => ?_) (fun q => ?_)
  · have h := ite_t h q
    refine G.iconst (v := -1) E dJ1_indexOfChar_4cfef_31 (by decide) ?_
    obtain rfl := Option.some.inj h
    exact K rfl _ _ dJ1_indexOfChar_4cfef_32
  · have h := ite_f h q
    refine G.aload_n E dJ1_indexOfChar_4cfef_13 rfl 0 rfl ?_
    refine G.iload E dJ1_indexOfChar_4cfef_14 3 rfl ?_
    obtain ⟨hg, h⟩ := ite_n h
    refine G.strByte E hg dJ1_indexOfChar_4cfef_16 ?_
    refine G.iload E dJ1_indexOfChar_4cfef_17 2 rfl ?_
    refine G.icmp_ne (tgt := 25) E dJ1_indexOfChar_4cfef_19 (by decide) (fun q => ?_) (fun q => ?_)
    · have h := ite_f h q
      refine G.iinc (w := x5 + 1) (lv' := [(5, .int (x5 + 1)), (0, .ref (cy 8)), (3, .int x3), (4, .int x4)]) E dJ1_indexOfChar_4cfef_25 3 rfl rfl (by decide) rfl ?_
      refine G.goto (tgt := 7) E dJ1_indexOfChar_4cfef_28 (by decide) ?_
      refine G.sub (lv' := [(0, .ref (cy 8)), (3, .int x3), (4, .int x4), (5, .int (x5 + 1))]) [1, 2, 3, 0] rfl ?_
      exact hrec7 (x3, x4, (x5 + 1)) h
    · have h := ite_t h q
      refine G.iload E dJ1_indexOfChar_4cfef_22 3 rfl ?_
      obtain rfl := Option.some.inj h
      exact K rfl _ _ dJ1_indexOfChar_4cfef_24
noncomputable def D_J1_indexOfChar_4cfef_L7  (x3 : Int32) (x4 : Int32) (x5 : Int32) : Option Int32 := itr (fun (rec7 : (Int32 × Int32 × Int32) → Option Int32) (a : (Int32 × Int32 × Int32)) => D_J1_indexOfChar_4cfef_L7_body rec7 a.1 a.2.1 a.2.2) 200 (x3, x4, x5)
set_option maxRecDepth 100000 in
set_option maxHeartbeats 4000000 in
theorem B_J1_indexOfChar_4cfef_L7 {x : CX} {cy : Nat → ClassId} {ws : va_W} {r : Int32} (E : Ev x cy cJ1_indexOfChar_4cfef RJ1 6 0 0) (K : RetI x cJ1_indexOfChar_4cfef .int r ws)  (x3 : Int32) (x4 : Int32) (x5 : Int32) (h : D_J1_indexOfChar_4cfef_L7 x3 x4 x5 = some r) : G x 0 0 7 [(0, .ref (cy 8)), (3, .int x3), (4, .int x4), (5, .int x5)] [] ws :=
  itr_ind (P := fun a => G x 0 0 7 [(0, .ref (cy 8)), (3, .int a.1), (4, .int a.2.1), (5, .int a.2.2)] [] ws) (fun rec7 hrec7 a h => B_J1_indexOfChar_4cfef_L7_body E K rec7 hrec7 a.1 a.2.1 a.2.2 h) 200 (x3, x4, x5) h
noncomputable def D_J1_indexOfChar_4cfef (p1 : Int32) (p2 : Int32) (p3 : Int32) : Option Int32 := D_J1_indexOfChar_4cfef_L7 p3 p1.toInt8.toInt32 p2
set_option maxRecDepth 100000 in
set_option maxHeartbeats 4000000 in
theorem B_J1_indexOfChar_4cfef {x : CX} {cy : Nat → ClassId} {ws : va_W} {r : Int32} (E : Ev x cy cJ1_indexOfChar_4cfef RJ1 6 0 0) (K : RetI x cJ1_indexOfChar_4cfef .int r ws) (p1 : Int32) (p2 : Int32) (p3 : Int32) (h : D_J1_indexOfChar_4cfef p1 p2 p3 = some r) : G x 0 0 0 [(0, .ref (cy 8)), (1, .int p1), (2, .int p2), (3, .int p3)] [] ws := by
  unfold D_J1_indexOfChar_4cfef at h
  refine G.iload_n E dJ1_indexOfChar_4cfef_0 rfl 1 rfl ?_
  refine G.i2b E dJ1_indexOfChar_4cfef_1 ?_
  refine G.istore (lv' := [(4, .int p1.toInt8.toInt32), (0, .ref (cy 8)), (1, .int p1), (2, .int p2), (3, .int p3)]) E dJ1_indexOfChar_4cfef_2 (by decide) rfl ?_
  refine G.iload_n E dJ1_indexOfChar_4cfef_4 rfl 3 rfl ?_
  refine G.istore (lv' := [(5, .int p2), (4, .int p1.toInt8.toInt32), (0, .ref (cy 8)), (1, .int p1), (2, .int p2), (3, .int p3)]) E dJ1_indexOfChar_4cfef_5 (by decide) rfl ?_
  refine G.sub (lv' := [(0, .ref (cy 8)), (3, .int p3), (4, .int p1.toInt8.toInt32), (5, .int p2)]) [2, 5, 1, 0] rfl ?_
  exact B_J1_indexOfChar_4cfef_L7 E K p3 p1.toInt8.toInt32 p2 h
set_option maxRecDepth 100000 in
set_option maxHeartbeats 4000000 in
theorem C_J1_indexOfChar_4cfef {l : Launch} {D : va_G} {cy : Nat → ClassId} {ws : va_W} {p1 : Int32} {p2 : Int32} {p3 : Int32} {r : Int32} (h : D_J1_indexOfChar_4cfef p1 p2 p3 = some r) : MI l yJ1_indexOfChar_4cfef cJ1_indexOfChar_4cfef 6 (some .int) 0 0 D cy ws [.ref (cy 8), .int p1, .int p2, .int p3] r ws :=
  MI.mk (lv := [(0, .ref (cy 8)), (1, .int p1), (2, .int p2), (3, .int p3)]) (by decide) (Nat.le_of_ble_eq_true rfl) rfl (fun x _ _ E K => B_J1_indexOfChar_4cfef E K p1 p2 p3 h)

noncomputable def D_J1_indexOf_4cfef (p1 : Int32) (p2 : Int32) (p3 : Int32) : Option Int32 := (D_J1_canEncode_9a6ad p1).bind fun r1 => if r1 = 0 then (some (-1 : Int32)) else (if (if p2 < (0 : Int32) then (0 : Int32) else p2) < (if (5 : Int32) < p3 then (5 : Int32) else p3) then ((D_J1_indexOfChar_4cfef p1 (if p2 < (0 : Int32) then (0 : Int32) else p2) (if (5 : Int32) < p3 then (5 : Int32) else p3)).bind fun r3 => some r3) else (some (-1 : Int32)))
set_option maxRecDepth 100000 in
set_option maxHeartbeats 4000000 in
theorem B_J1_indexOf_4cfef {x : CX} {cy : Nat → ClassId} {ws : va_W} {r : Int32} (E : Ev x cy cJ1_indexOf_4cfef RJ1 4 1 32) (K : RetI x cJ1_indexOf_4cfef .int r ws) (p1 : Int32) (p2 : Int32) (p3 : Int32) (h : D_J1_indexOf_4cfef p1 p2 p3 = some r) : G x 0 0 0 [(0, .ref (cy 8)), (1, .int p1), (2, .int p2), (3, .int p3)] [] ws := by
  unfold D_J1_indexOf_4cfef at h
  refine G.iload_n E dJ1_indexOf_4cfef_0 rfl 1 rfl ?_
  obtain ⟨r1, h2, h⟩ := bind_s h
  refine G.retI E (runS (st := []) (As := [.int p1]) E (C_J1_canEncode_9a6ad h2) ck_J1_canEncode_9a6ad (f325 E.fx) (f326 E.fx) (by decide) (by decide) rfl (Nat.le_of_ble_eq_true rfl) dJ1_indexOf_4cfef_1 ⟨Nat.zero_le _, Nat.zero_le _⟩) ?_
  refine G.if_ne (tgt := 9) E dJ1_indexOf_4cfef_4 (by decide) (fun q => ?_) (fun q => ?_)
  · have h := ite_f h q
    refine G.iload_n E dJ1_indexOf_4cfef_9 rfl 2 rfl ?_
    refine G.iconst (v := 0) E dJ1_indexOf_4cfef_10 (by decide) ?_
    refine G.mmax E (f328 E.fx) (f329 E.fx) (f81 E.fx) (f330 E.fx) (by decide) (by decide) ⟨rfl, rfl⟩ (Nat.le_of_ble_eq_true rfl) dJ1_indexOf_4cfef_11 ?_
    refine G.istore_n (lv' := [(2, .int (if p2 < (0 : Int32) then (0 : Int32) else p2)), (0, .ref (cy 8)), (1, .int p1), (3, .int p3)]) E dJ1_indexOf_4cfef_14 rfl (by decide) rfl ?_
    refine G.iload_n E dJ1_indexOf_4cfef_15 rfl 3 rfl ?_
    refine G.aload_n E dJ1_indexOf_4cfef_16 rfl 1 rfl ?_
    refine G.strLen E dJ1_indexOf_4cfef_17 ?_
    refine G.mmin E (f331 E.fx) (f332 E.fx) (f81 E.fx) (f333 E.fx) (by decide) (by decide) ⟨rfl, rfl⟩ (Nat.le_of_ble_eq_true rfl) dJ1_indexOf_4cfef_18 ?_
    refine G.istore_n (lv' := [(3, .int (if (5 : Int32) < p3 then (5 : Int32) else p3)), (2, .int (if p2 < (0 : Int32) then (0 : Int32) else p2)), (0, .ref (cy 8)), (1, .int p1)]) E dJ1_indexOf_4cfef_21 rfl (by decide) rfl ?_
    refine G.iload_n E dJ1_indexOf_4cfef_22 rfl 1 rfl ?_
    refine G.iload_n E dJ1_indexOf_4cfef_23 rfl 0 rfl ?_
    refine G.icmp_lt (tgt := 29) E dJ1_indexOf_4cfef_24 (by decide) (fun q => ?_) (fun q => ?_)
    · have h := ite_t h q
      refine G.aload_n E dJ1_indexOf_4cfef_29 rfl 2 rfl ?_
      refine G.iload_n E dJ1_indexOf_4cfef_30 rfl 3 rfl ?_
      refine G.iload_n E dJ1_indexOf_4cfef_31 rfl 1 rfl ?_
      refine G.iload_n E dJ1_indexOf_4cfef_32 rfl 0 rfl ?_
      obtain ⟨r3, h4, h⟩ := bind_s h
      refine G.retI E (runS (st := []) (As := [.ref (cy 8), .int p1, .int (if p2 < (0 : Int32) then (0 : Int32) else p2), .int (if (5 : Int32) < p3 then (5 : Int32) else p3)]) E (C_J1_indexOfChar_4cfef h4) ck_J1_indexOfChar_4cfef (f334 E.fx) (f335 E.fx) (by decide) (by decide) rfl (Nat.le_of_ble_eq_true rfl) dJ1_indexOf_4cfef_33 ⟨Nat.zero_le _, Nat.zero_le _⟩) ?_
      obtain rfl := Option.some.inj h
      exact K rfl _ _ dJ1_indexOf_4cfef_36
    · have h := ite_f h q
      refine G.iconst (v := -1) E dJ1_indexOf_4cfef_27 (by decide) ?_
      obtain rfl := Option.some.inj h
      exact K rfl _ _ dJ1_indexOf_4cfef_28
  · have h := ite_t h q
    refine G.iconst (v := -1) E dJ1_indexOf_4cfef_7 (by decide) ?_
    obtain rfl := Option.some.inj h
    exact K rfl _ _ dJ1_indexOf_4cfef_8
set_option maxRecDepth 100000 in
set_option maxHeartbeats 4000000 in
theorem C_J1_indexOf_4cfef {l : Launch} {D : va_G} {cy : Nat → ClassId} {ws : va_W} {p1 : Int32} {p2 : Int32} {p3 : Int32} {r : Int32} (h : D_J1_indexOf_4cfef p1 p2 p3 = some r) : MI l yJ1_indexOf_4cfef cJ1_indexOf_4cfef 4 (some .int) 1 32 D cy ws [.ref (cy 8), .int p1, .int p2, .int p3] r ws :=
  MI.mk (lv := [(0, .ref (cy 8)), (1, .int p1), (2, .int p2), (3, .int p3)]) (by decide) (Nat.le_of_ble_eq_true rfl) rfl (fun x _ _ E K => B_J1_indexOf_4cfef E K p1 p2 p3 h)

noncomputable def D_J0_indexOf_7cf53 (p1 : Int32) (p2 : Int32) : Option Int32 := (D_J0_isLatin1_aae02).bind fun r1 => if r1 = 0 then (none) else ((D_J0_length_8abf5).bind fun r3 => (D_J1_indexOf_4cfef p1 p2 r3).bind fun r5 => some r5)
set_option maxRecDepth 100000 in
set_option maxHeartbeats 4000000 in
theorem B_J0_indexOf_7cf53 {x : CX} {cy : Nat → ClassId} {ws : va_W} {r : Int32} (E : Ev x cy cJ0_indexOf_7cf53 RJ0 3 2 55) (K : RetI x cJ0_indexOf_7cf53 .int r ws) (p1 : Int32) (p2 : Int32) (h : D_J0_indexOf_7cf53 p1 p2 = some r) : G x 0 0 0 [(0, .ref (cy 7)), (1, .int p1), (2, .int p2)] [] ws := by
  unfold D_J0_indexOf_7cf53 at h
  refine G.aload_n E dJ0_indexOf_7cf53_0 rfl 0 rfl ?_
  obtain ⟨r1, h2, h⟩ := bind_s h
  refine G.retI E (runStr (st := []) (As := []) E (C_J0_isLatin1_aae02 h2) ck_J0_isLatin1_aae02 (f308 E.fx) (f309 E.fx) (f310 E.fx) (by decide) (by decide) rfl (Nat.le_of_ble_eq_true rfl) dJ0_indexOf_7cf53_1 ⟨Nat.zero_le _, Nat.zero_le _⟩) ?_
  refine G.if_eq (tgt := 23) E dJ0_indexOf_7cf53_4 (by decide) (fun q => ?_) (fun q => ?_)
  · have h := ite_t h q
    cases h
  · have h := ite_f h q
    refine G.aload_n E dJ0_indexOf_7cf53_7 rfl 0 rfl ?_
    refine G.strVal E (f1103 E.fx) dJ0_indexOf_7cf53_8 ?_
    refine G.iload_n E dJ0_indexOf_7cf53_11 rfl 1 rfl ?_
    refine G.iload_n E dJ0_indexOf_7cf53_12 rfl 2 rfl ?_
    refine G.aload_n E dJ0_indexOf_7cf53_13 rfl 0 rfl ?_
    obtain ⟨r3, h4, h⟩ := bind_s h
    refine G.retI E (runStr (st := [.int p2, .int p1, .ref (cy 8)]) (As := []) E (C_J0_length_8abf5 h4) ck_J0_length_8abf5 (f314 E.fx) (f315 E.fx) (f316 E.fx) (by decide) (by decide) rfl (Nat.le_of_ble_eq_true rfl) dJ0_indexOf_7cf53_14 ⟨Nat.zero_le _, Nat.zero_le _⟩) ?_
    obtain ⟨r5, h6, h⟩ := bind_s h
    refine G.retI E (runS (st := []) (As := [.ref (cy 8), .int p1, .int p2, .int r3]) E (C_J1_indexOf_4cfef h6) ck_J1_indexOf_4cfef (f322 E.fx) (f323 E.fx) (by decide) (by decide) rfl (Nat.le_of_ble_eq_true rfl) dJ0_indexOf_7cf53_17 ⟨Nat.zero_le _, Nat.zero_le _⟩) ?_
    refine G.goto (tgt := 36) E dJ0_indexOf_7cf53_20 (by decide) ?_
    obtain rfl := Option.some.inj h
    exact K rfl _ _ dJ0_indexOf_7cf53_36
set_option maxRecDepth 100000 in
set_option maxHeartbeats 4000000 in
theorem C_J0_indexOf_7cf53 {l : Launch} {D : va_G} {cy : Nat → ClassId} {ws : va_W} {p1 : Int32} {p2 : Int32} {r : Int32} (h : D_J0_indexOf_7cf53 p1 p2 = some r) : MI l yJ0_indexOf_7cf53 cJ0_indexOf_7cf53 3 (some .int) 2 55 D cy ws [.ref (cy 7), .int p1, .int p2] r ws :=
  MI.mk (lv := [(0, .ref (cy 7)), (1, .int p1), (2, .int p2)]) (by decide) (Nat.le_of_ble_eq_true rfl) rfl (fun x _ _ E K => B_J0_indexOf_7cf53 E K p1 p2 h)

noncomputable def D_J0_indexOf_0f7a4 (p1 : Int32) : Option Int32 := (D_J0_indexOf_7cf53 p1 (0 : Int32)).bind fun r1 => some r1
set_option maxRecDepth 100000 in
set_option maxHeartbeats 4000000 in
theorem B_J0_indexOf_0f7a4 {x : CX} {cy : Nat → ClassId} {ws : va_W} {r : Int32} (E : Ev x cy cJ0_indexOf_0f7a4 RJ0 2 3 77) (K : RetI x cJ0_indexOf_0f7a4 .int r ws) (p1 : Int32) (h : D_J0_indexOf_0f7a4 p1 = some r) : G x 0 0 0 [(0, .ref (cy 7)), (1, .int p1)] [] ws := by
  unfold D_J0_indexOf_0f7a4 at h
  refine G.aload_n E dJ0_indexOf_0f7a4_0 rfl 0 rfl ?_
  refine G.iload_n E dJ0_indexOf_0f7a4_1 rfl 1 rfl ?_
  refine G.iconst (v := 0) E dJ0_indexOf_0f7a4_2 (by decide) ?_
  obtain ⟨r1, h2, h⟩ := bind_s h
  refine G.retI E (runStr (st := []) (As := [.int p1, .int (0 : Int32)]) E (C_J0_indexOf_7cf53 h2) ck_J0_indexOf_7cf53 (f304 E.fx) (f305 E.fx) (f306 E.fx) (by decide) (by decide) rfl (Nat.le_of_ble_eq_true rfl) dJ0_indexOf_0f7a4_3 ⟨Nat.zero_le _, Nat.zero_le _⟩) ?_
  obtain rfl := Option.some.inj h
  exact K rfl _ _ dJ0_indexOf_0f7a4_6
set_option maxRecDepth 100000 in
set_option maxHeartbeats 4000000 in
theorem C_J0_indexOf_0f7a4 {l : Launch} {D : va_G} {cy : Nat → ClassId} {ws : va_W} {p1 : Int32} {r : Int32} (h : D_J0_indexOf_0f7a4 p1 = some r) : MI l yJ0_indexOf_0f7a4 cJ0_indexOf_0f7a4 2 (some .int) 3 77 D cy ws [.ref (cy 7), .int p1] r ws :=
  MI.mk (lv := [(0, .ref (cy 7)), (1, .int p1)]) (by decide) (Nat.le_of_ble_eq_true rfl) rfl (fun x _ _ E K => B_J0_indexOf_0f7a4 E K p1 h)
theorem indexOf_eq (ch : Int32) : D_J0_indexOf_0f7a4 ch = D_indexOf ch := by
  by_cases h1 : ch < 0
  · have e1 : D_J1_canEncode_9a6ad ch = some 0 := by unfold D_J1_canEncode_9a6ad; rw [if_pos h1]
    have e : D_J0_indexOf_0f7a4 ch = some (-1) := by
      simp only [D_J0_indexOf_0f7a4, D_J0_indexOf_7cf53, D_J0_isLatin1_aae02, D_J0_length_8abf5, D_J0_coder_7d493, D_J1_indexOf_4cfef, e1, Option.bind_some]
      rfl
    rw [e]
    have n1 : ∀ k : Nat, k < 2147483648 → ¬ ch = nI k := fun k hk e => by
      rw [e] at h1
      exact nI_pos hk h1
    simp only [D_indexOf, show ¬ ch = 112 from n1 112 (by omega), show ¬ ch = 109 from n1 109 (by omega), show ¬ ch = 111 from n1 111 (by omega), show ¬ ch = 101 from n1 101 (by omega), show ¬ ch = 98 from n1 98 (by omega), if_false]
  · by_cases h2 : (255 : Int32) < ch
    · have e1 : D_J1_canEncode_9a6ad ch = some 0 := by unfold D_J1_canEncode_9a6ad; rw [if_neg h1, if_pos h2]
      have e : D_J0_indexOf_0f7a4 ch = some (-1) := by
        simp only [D_J0_indexOf_0f7a4, D_J0_indexOf_7cf53, D_J0_isLatin1_aae02, D_J0_length_8abf5, D_J0_coder_7d493, D_J1_indexOf_4cfef, e1, Option.bind_some]
        rfl
      rw [e]
      have n1 : ∀ k : Nat, k < 255 → ¬ ch = nI k := fun k hk e => by
        rw [e] at h2
        exact absurd h2 (nI_nlt (a := 255) (b := k) (by omega) (by omega))
      simp only [D_indexOf, show ¬ ch = 112 from n1 112 (by omega), show ¬ ch = 109 from n1 109 (by omega), show ¬ ch = 111 from n1 111 (by omega), show ¬ ch = 101 from n1 101 (by omega), show ¬ ch = 98 from n1 98 (by omega), if_false]
    · obtain ⟨j, hj, rfl⟩ := nI_of2 (M := 255) (n := 255) rfl h1 (by rw [Int32.le_iff_toInt_le]; rw [Int32.lt_iff_toInt_lt] at h2; omega)
      have hall : ∀ j : Fin 256, D_J0_indexOf_0f7a4 (nI j.val) = D_indexOf (nI j.val) := by decide +kernel
      exact hall ⟨j, by omega⟩
theorem run_indexOf {x : CX} {cy : Nat → ClassId} {cc : ByteArray} {nL fr lo pc : Nat} {lv : List (Nat × Value)} {st stk : List Value} {ws : va_W} {ch v : Int32} (E : Ev x cy cc RX5 nL fr lo) (h : D_indexOf ch = some v) (hst : stk = .int ch :: .ref (cy 7) :: st) (hW : (st.map fun v => v.category).sum ≤ 8) (d : decode cc pc = .ok (.invokevirtual 43, 3)) (hfr : 8 ≤ fr) (hlo : 300 ≤ lo) : RunG x 0 0 pc lv stk st ws (QI (xD x) ws ws v) (Value.ref (cy 7) :: [.int ch]).toArray := runStr (As := [.int ch]) E (C_J0_indexOf_0f7a4 ((indexOf_eq ch).trans h)) ck_J0_indexOf_0f7a4 (E.fx.at 300 (by decide +kernel) rfl) (E.fx.at 301 (by decide +kernel) rfl) (E.fx.at 302 (by decide +kernel) rfl) (Nat.le_trans (by decide) hfr) (Nat.le_trans (by decide) hlo) hst hW d ⟨Nat.zero_le _, Nat.zero_le _⟩
