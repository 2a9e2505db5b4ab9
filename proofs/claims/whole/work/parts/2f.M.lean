noncomputable def D_X9_ringNow_b200  (σ : ST) (s0 : Int32) : Option (Int32 × ST) := if s0 = 0 then (some ((0 : Int32), σ)) else (some ((15 : Int32), σ))
set_option maxRecDepth 100000 in
set_option maxHeartbeats 4000000 in
theorem B_X9_ringNow_b200 {x : CX} {cy : Nat → ClassId} {ad : Nat → Nat} {r : (Int32 × ST)} (E : Ev x cy cX9_ringNow RX9 7 6 145) (K : RetI x cX9_ringNow .int r.1 (wM ad cy r.2))  (σ : ST) (s0 : Int32) (h : D_X9_ringNow_b200 σ s0 = some r) : G x 0 0 200 [] [.int s0] (wM ad cy σ) := by
  unfold D_X9_ringNow_b200 at h
  refine G.istore_n (lv' := [(2, .int s0)]) E dX9_ringNow_200 rfl (by decide) rfl ?_
  refine G.iload_n E dX9_ringNow_201 rfl 0 rfl ?_
  refine G.if_eq (tgt := 210) E dX9_ringNow_202 (by decide) (fun q => ?_) (fun q => ?_)
  · have h := ite_t h q
    refine G.iconst (v := 0) E dX9_ringNow_210 (by decide) ?_
    obtain rfl := Option.some.inj h
    exact K rfl _ _ dX9_ringNow_211
  · have h := ite_f h q
    refine G.bipush (v := 15) E dX9_ringNow_205 (by decide) ?_
    refine G.goto (tgt := 211) E dX9_ringNow_207 (by decide) ?_
    obtain rfl := Option.some.inj h
    exact K rfl _ _ dX9_ringNow_211
noncomputable def D_X9_ringNow_b195  (σ : ST)  : Option (Int32 × ST) := D_X9_ringNow_b200 σ (1 : Int32)
set_option maxRecDepth 100000 in
set_option maxHeartbeats 4000000 in
theorem B_X9_ringNow_b195 {x : CX} {cy : Nat → ClassId} {ad : Nat → Nat} {r : (Int32 × ST)} (E : Ev x cy cX9_ringNow RX9 7 6 145) (K : RetI x cX9_ringNow .int r.1 (wM ad cy r.2))  (σ : ST)  (h : D_X9_ringNow_b195 σ = some r) : G x 0 0 195 [] [] (wM ad cy σ) := by
  unfold D_X9_ringNow_b195 at h
  refine G.iconst (v := 1) E dX9_ringNow_195 (by decide) ?_
  refine G.goto (tgt := 200) E dX9_ringNow_196 (by decide) ?_
  refine G.sub (lv' := []) [] rfl ?_
  exact B_X9_ringNow_b200 E K σ (1 : Int32) h
noncomputable def D_X9_ringNow_b96 (rec8 : (ST × Int32 × Int32) → Option (Int32 × ST)) (rec18 : (ST × Int32 × Int32 × Int32) → Option (Int32 × ST)) (rec26 : (ST × Int32 × Int32 × Int32 × Int32) → Option (Int32 × ST)) (σ : ST) (x2 : Int32) (x3 : Int32) (x4 : Int32) (s0 : Int32) : Option (Int32 × ST) := rec26 (σ, s0, x2, x3, (x4 + 1))
set_option maxRecDepth 100000 in
set_option maxHeartbeats 4000000 in
theorem B_X9_ringNow_b96 {x : CX} {cy : Nat → ClassId} {ad : Nat → Nat} {r : (Int32 × ST)} (E : Ev x cy cX9_ringNow RX9 7 6 145) (K : RetI x cX9_ringNow .int r.1 (wM ad cy r.2)) (rec8 : (ST × Int32 × Int32) → Option (Int32 × ST)) (hrec8 : ∀ a, rec8 a = some r → G x 0 0 8 [(0, .ref (ad 0)), (1, .int a.2.1), (2, .int a.2.2)] [] (wM ad cy a.1)) (rec18 : (ST × Int32 × Int32 × Int32) → Option (Int32 × ST)) (hrec18 : ∀ a, rec18 a = some r → G x 0 0 18 [(0, .ref (ad 0)), (1, .int a.2.1), (2, .int a.2.2.1), (3, .int a.2.2.2)] [] (wM ad cy a.1)) (rec26 : (ST × Int32 × Int32 × Int32 × Int32) → Option (Int32 × ST)) (hrec26 : ∀ a, rec26 a = some r → G x 0 0 26 [(0, .ref (ad 0)), (1, .int a.2.1), (2, .int a.2.2.1), (3, .int a.2.2.2.1), (4, .int a.2.2.2.2)] [] (wM ad cy a.1)) (σ : ST) (x2 : Int32) (x3 : Int32) (x4 : Int32) (s0 : Int32) (h : D_X9_ringNow_b96 rec8 rec18 rec26 σ x2 x3 x4 s0 = some r) : G x 0 0 96 [(0, .ref (ad 0)), (2, .int x2), (3, .int x3), (4, .int x4)] [.int s0] (wM ad cy σ) := by
  unfold D_X9_ringNow_b96 at h
  refine G.istore_n (lv' := [(1, .int s0), (0, .ref (ad 0)), (2, .int x2), (3, .int x3), (4, .int x4)]) E dX9_ringNow_96 rfl (by decide) rfl ?_
  refine G.iinc (w := x4 + 1) (lv' := [(4, .int (x4 + 1)), (1, .int s0), (0, .ref (ad 0)), (2, .int x2), (3, .int x3)]) E dX9_ringNow_97 4 rfl rfl (by decide) rfl ?_
  refine G.goto (tgt := 26) E dX9_ringNow_100 (by decide) ?_
  refine G.sub (lv' := [(0, .ref (ad 0)), (1, .int s0), (2, .int x2), (3, .int x3), (4, .int (x4 + 1))]) [2, 1, 3, 4, 0] rfl ?_
  exact hrec26 (σ, s0, x2, x3, (x4 + 1)) h
noncomputable def D_X9_ringNow_b95 (rec8 : (ST × Int32 × Int32) → Option (Int32 × ST)) (rec18 : (ST × Int32 × Int32 × Int32) → Option (Int32 × ST)) (rec26 : (ST × Int32 × Int32 × Int32 × Int32) → Option (Int32 × ST)) (σ : ST) (x1 : Int32) (x2 : Int32) (x3 : Int32) (x4 : Int32) : Option (Int32 × ST) := D_X9_ringNow_b96 rec8 rec18 rec26 σ x2 x3 x4 x1
set_option maxRecDepth 100000 in
set_option maxHeartbeats 4000000 in
theorem B_X9_ringNow_b95 {x : CX} {cy : Nat → ClassId} {ad : Nat → Nat} {r : (Int32 × ST)} (E : Ev x cy cX9_ringNow RX9 7 6 145) (K : RetI x cX9_ringNow .int r.1 (wM ad cy r.2)) (rec8 : (ST × Int32 × Int32) → Option (Int32 × ST)) (hrec8 : ∀ a, rec8 a = some r → G x 0 0 8 [(0, .ref (ad 0)), (1, .int a.2.1), (2, .int a.2.2)] [] (wM ad cy a.1)) (rec18 : (ST × Int32 × Int32 × Int32) → Option (Int32 × ST)) (hrec18 : ∀ a, rec18 a = some r → G x 0 0 18 [(0, .ref (ad 0)), (1, .int a.2.1), (2, .int a.2.2.1), (3, .int a.2.2.2)] [] (wM ad cy a.1)) (rec26 : (ST × Int32 × Int32 × Int32 × Int32) → Option (Int32 × ST)) (hrec26 : ∀ a, rec26 a = some r → G x 0 0 26 [(0, .ref (ad 0)), (1, .int a.2.1), (2, .int a.2.2.1), (3, .int a.2.2.2.1), (4, .int a.2.2.2.2)] [] (wM ad cy a.1)) (σ : ST) (x1 : Int32) (x2 : Int32) (x3 : Int32) (x4 : Int32) (h : D_X9_ringNow_b95 rec8 rec18 rec26 σ x1 x2 x3 x4 = some r) : G x 0 0 95 [(0, .ref (ad 0)), (1, .int x1), (2, .int x2), (3, .int x3), (4, .int x4)] [] (wM ad cy σ) := by
  unfold D_X9_ringNow_b95 at h
  refine G.iload_n E dX9_ringNow_95 rfl 1 rfl ?_
  refine G.sub (lv' := [(0, .ref (ad 0)), (2, .int x2), (3, .int x3), (4, .int x4)]) [0, 2, 3, 4] rfl ?_
  exact B_X9_ringNow_b96 E K rec8 hrec8 rec18 hrec18 rec26 hrec26 σ x2 x3 x4 x1 h
noncomputable def D_X9_ringNow_b90 (rec8 : (ST × Int32 × Int32) → Option (Int32 × ST)) (rec18 : (ST × Int32 × Int32 × Int32) → Option (Int32 × ST)) (rec26 : (ST × Int32 × Int32 × Int32 × Int32) → Option (Int32 × ST)) (σ : ST) (x2 : Int32) (x3 : Int32) (x4 : Int32) (x5 : Int32) : Option (Int32 × ST) := D_X9_ringNow_b96 rec8 rec18 rec26 σ x2 x3 x4 x5
set_option maxRecDepth 100000 in
set_option maxHeartbeats 4000000 in
theorem B_X9_ringNow_b90 {x : CX} {cy : Nat → ClassId} {ad : Nat → Nat} {r : (Int32 × ST)} (E : Ev x cy cX9_ringNow RX9 7 6 145) (K : RetI x cX9_ringNow .int r.1 (wM ad cy r.2)) (rec8 : (ST × Int32 × Int32) → Option (Int32 × ST)) (hrec8 : ∀ a, rec8 a = some r → G x 0 0 8 [(0, .ref (ad 0)), (1, .int a.2.1), (2, .int a.2.2)] [] (wM ad cy a.1)) (rec18 : (ST × Int32 × Int32 × Int32) → Option (Int32 × ST)) (hrec18 : ∀ a, rec18 a = some r → G x 0 0 18 [(0, .ref (ad 0)), (1, .int a.2.1), (2, .int a.2.2.1), (3, .int a.2.2.2)] [] (wM ad cy a.1)) (rec26 : (ST × Int32 × Int32 × Int32 × Int32) → Option (Int32 × ST)) (hrec26 : ∀ a, rec26 a = some r → G x 0 0 26 [(0, .ref (ad 0)), (1, .int a.2.1), (2, .int a.2.2.1), (3, .int a.2.2.2.1), (4, .int a.2.2.2.2)] [] (wM ad cy a.1)) (σ : ST) (x2 : Int32) (x3 : Int32) (x4 : Int32) (x5 : Int32) (h : D_X9_ringNow_b90 rec8 rec18 rec26 σ x2 x3 x4 x5 = some r) : G x 0 0 90 [(0, .ref (ad 0)), (2, .int x2), (3, .int x3), (4, .int x4), (5, .int x5)] [] (wM ad cy σ) := by
  unfold D_X9_ringNow_b90 at h
  refine G.iload E dX9_ringNow_90 4 rfl ?_
  refine G.goto (tgt := 96) E dX9_ringNow_92 (by decide) ?_
  refine G.sub (lv' := [(0, .ref (ad 0)), (2, .int x2), (3, .int x3), (4, .int x4)]) [0, 1, 2, 3] rfl ?_
  exact B_X9_ringNow_b96 E K rec8 hrec8 rec18 hrec18 rec26 hrec26 σ x2 x3 x4 x5 h
noncomputable def D_X9_ringNow_b73 (rec8 : (ST × Int32 × Int32) → Option (Int32 × ST)) (rec18 : (ST × Int32 × Int32 × Int32) → Option (Int32 × ST)) (rec26 : (ST × Int32 × Int32 × Int32 × Int32) → Option (Int32 × ST)) (σ : ST) (x1 : Int32) (x2 : Int32) (x3 : Int32) (x4 : Int32) (x5 : Int32) (s0 : Int32) : Option (Int32 × ST) := if s0 = 0 then (D_X9_ringNow_b95 rec8 rec18 rec26 σ x1 x2 x3 x4) else (if x1 = 0 then (D_X9_ringNow_b90 rec8 rec18 rec26 σ x2 x3 x4 x5) else (if x1 ≤ x5 then (D_X9_ringNow_b95 rec8 rec18 rec26 σ x1 x2 x3 x4) else (D_X9_ringNow_b90 rec8 rec18 rec26 σ x2 x3 x4 x5)))
set_option maxRecDepth 100000 in
set_option maxHeartbeats 4000000 in
theorem B_X9_ringNow_b73 {x : CX} {cy : Nat → ClassId} {ad : Nat → Nat} {r : (Int32 × ST)} (E : Ev x cy cX9_ringNow RX9 7 6 145) (K : RetI x cX9_ringNow .int r.1 (wM ad cy r.2)) (rec8 : (ST × Int32 × Int32) → Option (Int32 × ST)) (hrec8 : ∀ a, rec8 a = some r → G x 0 0 8 [(0, .ref (ad 0)), (1, .int a.2.1), (2, .int a.2.2)] [] (wM ad cy a.1)) (rec18 : (ST × Int32 × Int32 × Int32) → Option (Int32 × ST)) (hrec18 : ∀ a, rec18 a = some r → G x 0 0 18 [(0, .ref (ad 0)), (1, .int a.2.1), (2, .int a.2.2.1), (3, .int a.2.2.2)] [] (wM ad cy a.1)) (rec26 : (ST × Int32 × Int32 × Int32 × Int32) → Option (Int32 × ST)) (hrec26 : ∀ a, rec26 a = some r → G x 0 0 26 [(0, .ref (ad 0)), (1, .int a.2.1), (2, .int a.2.2.1), (3, .int a.2.2.2.1), (4, .int a.2.2.2.2)] [] (wM ad cy a.1)) (σ : ST) (x1 : Int32) (x2 : Int32) (x3 : Int32) (x4 : Int32) (x5 : Int32) (s0 : Int32) (h : D_X9_ringNow_b73 rec8 rec18 rec26 σ x1 x2 x3 x4 x5 s0 = some r) : G x 0 0 73 [(0, .ref (ad 0)), (1, .int x1), (2, .int x2), (3, .int x3), (4, .int x4), (5, .int x5)] [.int s0] (wM ad cy σ) := by
  unfold D_X9_ringNow_b73 at h
  refine G.istore (lv' := [(6, .int s0), (0, .ref (ad 0)), (1, .int x1), (2, .int x2), (3, .int x3), (4, .int x4), (5, .int x5)]) E dX9_ringNow_73 (by decide) rfl ?_
  refine G.iload E dX9_ringNow_75 0 rfl ?_
  refine G.if_eq (tgt := 95) E dX9_ringNow_77 (by decide) (fun q => ?_) (fun q => ?_)
  · have h := ite_t h q
    refine G.sub (lv' := [(0, .ref (ad 0)), (1, .int x1), (2, .int x2), (3, .int x3), (4, .int x4)]) [1, 2, 3, 4, 5] rfl ?_
    exact B_X9_ringNow_b95 E K rec8 hrec8 rec18 hrec18 rec26 hrec26 σ x1 x2 x3 x4 h
  · have h := ite_f h q
    refine G.iload_n E dX9_ringNow_80 rfl 2 rfl ?_
    refine G.if_eq (tgt := 90) E dX9_ringNow_81 (by decide) (fun q => ?_) (fun q => ?_)
    · have h := ite_t h q
      refine G.sub (lv' := [(0, .ref (ad 0)), (2, .int x2), (3, .int x3), (4, .int x4), (5, .int x5)]) [1, 3, 4, 5, 6] rfl ?_
      exact B_X9_ringNow_b90 E K rec8 hrec8 rec18 hrec18 rec26 hrec26 σ x2 x3 x4 x5 h
    · have h := ite_f h q
      refine G.iload E dX9_ringNow_84 6 rfl ?_
      refine G.iload_n E dX9_ringNow_86 rfl 2 rfl ?_
      refine G.icmp_ge (tgt := 95) E dX9_ringNow_87 (by decide) (fun q => ?_) (fun q => ?_)
      · have h := ite_t h q
        refine G.sub (lv' := [(0, .ref (ad 0)), (1, .int x1), (2, .int x2), (3, .int x3), (4, .int x4)]) [1, 2, 3, 4, 5] rfl ?_
        exact B_X9_ringNow_b95 E K rec8 hrec8 rec18 hrec18 rec26 hrec26 σ x1 x2 x3 x4 h
      · have h := ite_f h q
        refine G.sub (lv' := [(0, .ref (ad 0)), (2, .int x2), (3, .int x3), (4, .int x4), (5, .int x5)]) [1, 3, 4, 5, 6] rfl ?_
        exact B_X9_ringNow_b90 E K rec8 hrec8 rec18 hrec18 rec26 hrec26 σ x2 x3 x4 x5 h
noncomputable def D_X9_ringNow_b68 (rec8 : (ST × Int32 × Int32) → Option (Int32 × ST)) (rec18 : (ST × Int32 × Int32 × Int32) → Option (Int32 × ST)) (rec26 : (ST × Int32 × Int32 × Int32 × Int32) → Option (Int32 × ST)) (σ : ST) (x1 : Int32) (x2 : Int32) (x3 : Int32) (x4 : Int32) (x5 : Int32) : Option (Int32 × ST) := D_X9_ringNow_b73 rec8 rec18 rec26 σ x1 x2 x3 x4 x5 (1 : Int32)
set_option maxRecDepth 100000 in
set_option maxHeartbeats 4000000 in
theorem B_X9_ringNow_b68 {x : CX} {cy : Nat → ClassId} {ad : Nat → Nat} {r : (Int32 × ST)} (E : Ev x cy cX9_ringNow RX9 7 6 145) (K : RetI x cX9_ringNow .int r.1 (wM ad cy r.2)) (rec8 : (ST × Int32 × Int32) → Option (Int32 × ST)) (hrec8 : ∀ a, rec8 a = some r → G x 0 0 8 [(0, .ref (ad 0)), (1, .int a.2.1), (2, .int a.2.2)] [] (wM ad cy a.1)) (rec18 : (ST × Int32 × Int32 × Int32) → Option (Int32 × ST)) (hrec18 : ∀ a, rec18 a = some r → G x 0 0 18 [(0, .ref (ad 0)), (1, .int a.2.1), (2, .int a.2.2.1), (3, .int a.2.2.2)] [] (wM ad cy a.1)) (rec26 : (ST × Int32 × Int32 × Int32 × Int32) → Option (Int32 × ST)) (hrec26 : ∀ a, rec26 a = some r → G x 0 0 26 [(0, .ref (ad 0)), (1, .int a.2.1), (2, .int a.2.2.1), (3, .int a.2.2.2.1), (4, .int a.2.2.2.2)] [] (wM ad cy a.1)) (σ : ST) (x1 : Int32) (x2 : Int32) (x3 : Int32) (x4 : Int32) (x5 : Int32) (h : D_X9_ringNow_b68 rec8 rec18 rec26 σ x1 x2 x3 x4 x5 = some r) : G x 0 0 68 [(0, .ref (ad 0)), (1, .int x1), (2, .int x2), (3, .int x3), (4, .int x4), (5, .int x5)] [] (wM ad cy σ) := by
  unfold D_X9_ringNow_b68 at h
  refine G.iconst (v := 1) E dX9_ringNow_68 (by decide) ?_
  refine G.goto (tgt := 73) E dX9_ringNow_69 (by decide) ?_
  refine G.sub (lv' := [(0, .ref (ad 0)), (1, .int x1), (2, .int x2), (3, .int x3), (4, .int x4), (5, .int x5)]) [0, 1, 2, 3, 4, 5] rfl ?_
  exact B_X9_ringNow_b73 E K rec8 hrec8 rec18 hrec18 rec26 hrec26 σ x1 x2 x3 x4 x5 (1 : Int32) h
noncomputable def D_X9_ringNow_L26_body (rec8 : (ST × Int32 × Int32) → Option (Int32 × ST)) (rec18 : (ST × Int32 × Int32 × Int32) → Option (Int32 × ST)) (rec26 : (ST × Int32 × Int32 × Int32 × Int32) → Option (Int32 × ST)) (σ : ST) (x1 : Int32) (x2 : Int32) (x3 : Int32) (x4 : Int32) : Option (Int32 × ST) := if x3 ≤ x4 then (rec18 (σ, x1, x2, (x3 + 1))) else ((D_X9_isRound σ x4 x3 x2).bind fun r15 => if r15 = 0 then ((D_X9_isRound σ x4 x2 x3).bind fun r17 => if r17 = 0 then (D_X9_ringNow_b73 rec8 rec18 rec26 σ x1 x2 x3 x4 ((((1 : Int32) <<< (x4 &&& 31)) ||| ((1 : Int32) <<< (x3 &&& 31))) ||| ((1 : Int32) <<< (x2 &&& 31))) (0 : Int32)) else (D_X9_ringNow_b68 rec8 rec18 rec26 σ x1 x2 x3 x4 ((((1 : Int32) <<< (x4 &&& 31)) ||| ((1 : Int32) <<< (x3 &&& 31))) ||| ((1 : Int32) <<< (x2 &&& 31))))) else (D_X9_ringNow_b68 rec8 rec18 rec26 σ x1 x2 x3 x4 ((((1 : Int32) <<< (x4 &&& 31)) ||| ((1 : Int32) <<< (x3 &&& 31))) ||| ((1 : Int32) <<< (x2 &&& 31)))))
set_option maxRecDepth 100000 in
set_option maxHeartbeats 4000000 in
theorem B_X9_ringNow_L26_body {x : CX} {cy : Nat → ClassId} {ad : Nat → Nat} {r : (Int32 × ST)} (E : Ev x cy cX9_ringNow RX9 7 6 145) (K : RetI x cX9_ringNow .int r.1 (wM ad cy r.2)) (rec8 : (ST × Int32 × Int32) → Option (Int32 × ST)) (hrec8 : ∀ a, rec8 a = some r → G x 0 0 8 [(0, .ref (ad 0)), (1, .int a.2.1), (2, .int a.2.2)] [] (wM ad cy a.1)) (rec18 : (ST × Int32 × Int32 × Int32) → Option (Int32 × ST)) (hrec18 : ∀ a, rec18 a = some r → G x 0 0 18 [(0, .ref (ad 0)), (1, .int a.2.1), (2, .int a.2.2.1), (3, .int a.2.2.2)] [] (wM ad cy a.1)) (rec26 : (ST × Int32 × Int32 × Int32 × Int32) → Option (Int32 × ST)) (hrec26 : ∀ a, rec26 a = some r → G x 0 0 26 [(0, .ref (ad 0)), (1, .int a.2.1), (2, .int a.2.2.1), (3, .int a.2.2.2.1), (4, .int a.2.2.2.2)] [] (wM ad cy a.1)) (σ : ST) (x1 : Int32) (x2 : Int32) (x3 : Int32) (x4 : Int32) (h : D_X9_ringNow_L26_body rec8 rec18 rec26 σ x1 x2 x3 x4 = some r) : G x 0 0 26 [(0, .ref (ad 0)), (1, .int x1), (2, .int x2), (3, .int x3), (4, .int x4)] [] (wM ad cy σ) := by
  unfold D_X9_ringNow_L26_body at h
  refine G.iload E dX9_ringNow_26 4 rfl ?_
  refine G.iload_n E dX9_ringNow_28 rfl 3 rfl ?_
  refine G.icmp_ge (tgt := 103) E dX9_ringNow_29 (by decide) (fun q => ?_) (fun q => ?_)
  · have h := ite_t h q
    refine G.iinc (w := x3 + 1) (lv' := [(3, .int (x3 + 1)), (0, .ref (ad 0)), (1, .int x1), (2, .int x2), (4, .int x4)]) E dX9_ringNow_103 3 rfl rfl (by decide) rfl ?_
    refine G.goto (tgt := 18) E dX9_ringNow_106 (by decide) ?_
    refine G.sub (lv' := [(0, .ref (ad 0)), (1, .int x1), (2, .int x2), (3, .int (x3 + 1))]) [1, 2, 3, 0] rfl ?_
    exact hrec18 (σ, x1, x2, (x3 + 1)) h
  · have h := ite_f h q
    refine G.iconst (v := 1) E dX9_ringNow_32 (by decide) ?_
    refine G.iload E dX9_ringNow_33 4 rfl ?_
    refine G.ishl E dX9_ringNow_35 ?_
    refine G.iconst (v := 1) E dX9_ringNow_36 (by decide) ?_
    refine G.iload_n E dX9_ringNow_37 rfl 3 rfl ?_
    refine G.ishl E dX9_ringNow_38 ?_
    refine G.ior E dX9_ringNow_39 ?_
    refine G.iconst (v := 1) E dX9_ringNow_40 (by decide) ?_
    refine G.iload_n E dX9_ringNow_41 rfl 2 rfl ?_
    refine G.ishl E dX9_ringNow_42 ?_
    refine G.ior E dX9_ringNow_43 ?_
    refine G.istore (lv' := [(5, .int ((((1 : Int32) <<< (x4 &&& 31)) ||| ((1 : Int32) <<< (x3 &&& 31))) ||| ((1 : Int32) <<< (x2 &&& 31)))), (0, .ref (ad 0)), (1, .int x1), (2, .int x2), (3, .int x3), (4, .int x4)]) E dX9_ringNow_44 (by decide) rfl ?_
    refine G.aload_n E dX9_ringNow_46 rfl 1 rfl ?_
    refine G.iload E dX9_ringNow_47 5 rfl ?_
    refine G.iload_n E dX9_ringNow_49 rfl 4 rfl ?_
    refine G.iload_n E dX9_ringNow_50 rfl 3 rfl ?_
    obtain ⟨r15, h16, h⟩ := bind_s h
    refine G.retI E (runV (st := []) (As := [.int x4, .int x3, .int x2]) E (C_X9_isRound h16) ck_X9_isRound (f998 E.fx) (f1000 E.fx) (f54 E.fx) 0 9 rfl rfl rfl (by decide) (by decide) rfl (Nat.le_of_ble_eq_true rfl) dX9_ringNow_51 ⟨Nat.zero_le _, Nat.zero_le _⟩) ?_
    refine G.if_ne (tgt := 68) E dX9_ringNow_54 (by decide) (fun q => ?_) (fun q => ?_)
    · have h := ite_f h q
      refine G.sub (lv' := [(0, .ref (ad 0)), (1, .int x1), (2, .int x2), (3, .int x3), (4, .int x4), (5, .int ((((1 : Int32) <<< (x4 &&& 31)) ||| ((1 : Int32) <<< (x3 &&& 31))) ||| ((1 : Int32) <<< (x2 &&& 31))))]) [1, 2, 3, 4, 5, 0] rfl ?_
      exact B_X9_ringNow_b68 E K rec8 hrec8 rec18 hrec18 rec26 hrec26 σ x1 x2 x3 x4 ((((1 : Int32) <<< (x4 &&& 31)) ||| ((1 : Int32) <<< (x3 &&& 31))) ||| ((1 : Int32) <<< (x2 &&& 31))) h
    · have h := ite_t h q
      refine G.aload_n E dX9_ringNow_57 rfl 1 rfl ?_
      refine G.iload E dX9_ringNow_58 5 rfl ?_
      refine G.iload_n E dX9_ringNow_60 rfl 3 rfl ?_
      refine G.iload_n E dX9_ringNow_61 rfl 4 rfl ?_
      obtain ⟨r17, h18, h⟩ := bind_s h
      refine G.retI E (runV (st := []) (As := [.int x4, .int x2, .int x3]) E (C_X9_isRound h18) ck_X9_isRound (f998 E.fx) (f1000 E.fx) (f54 E.fx) 0 9 rfl rfl rfl (by decide) (by decide) rfl (Nat.le_of_ble_eq_true rfl) dX9_ringNow_62 ⟨Nat.zero_le _, Nat.zero_le _⟩) ?_
      refine G.if_eq (tgt := 72) E dX9_ringNow_65 (by decide) (fun q => ?_) (fun q => ?_)
      · have h := ite_t h q
        refine G.iconst (v := 0) E dX9_ringNow_72 (by decide) ?_
        refine G.sub (lv' := [(0, .ref (ad 0)), (1, .int x1), (2, .int x2), (3, .int x3), (4, .int x4), (5, .int ((((1 : Int32) <<< (x4 &&& 31)) ||| ((1 : Int32) <<< (x3 &&& 31))) ||| ((1 : Int32) <<< (x2 &&& 31))))]) [1, 2, 3, 4, 5, 0] rfl ?_
        exact B_X9_ringNow_b73 E K rec8 hrec8 rec18 hrec18 rec26 hrec26 σ x1 x2 x3 x4 ((((1 : Int32) <<< (x4 &&& 31)) ||| ((1 : Int32) <<< (x3 &&& 31))) ||| ((1 : Int32) <<< (x2 &&& 31))) (0 : Int32) h
      · have h := ite_f h q
        refine G.sub (lv' := [(0, .ref (ad 0)), (1, .int x1), (2, .int x2), (3, .int x3), (4, .int x4), (5, .int ((((1 : Int32) <<< (x4 &&& 31)) ||| ((1 : Int32) <<< (x3 &&& 31))) ||| ((1 : Int32) <<< (x2 &&& 31))))]) [1, 2, 3, 4, 5, 0] rfl ?_
        exact B_X9_ringNow_b68 E K rec8 hrec8 rec18 hrec18 rec26 hrec26 σ x1 x2 x3 x4 ((((1 : Int32) <<< (x4 &&& 31)) ||| ((1 : Int32) <<< (x3 &&& 31))) ||| ((1 : Int32) <<< (x2 &&& 31))) h
noncomputable def D_X9_ringNow_L26 (rec8 : (ST × Int32 × Int32) → Option (Int32 × ST)) (rec18 : (ST × Int32 × Int32 × Int32) → Option (Int32 × ST)) (σ : ST) (x1 : Int32) (x2 : Int32) (x3 : Int32) (x4 : Int32) : Option (Int32 × ST) := itr (fun (rec26 : (ST × Int32 × Int32 × Int32 × Int32) → Option (Int32 × ST)) (a : (ST × Int32 × Int32 × Int32 × Int32)) => D_X9_ringNow_L26_body rec8 rec18 rec26 a.1 a.2.1 a.2.2.1 a.2.2.2.1 a.2.2.2.2) 200 (σ, x1, x2, x3, x4)
set_option maxRecDepth 100000 in
set_option maxHeartbeats 4000000 in
theorem B_X9_ringNow_L26 {x : CX} {cy : Nat → ClassId} {ad : Nat → Nat} {r : (Int32 × ST)} (E : Ev x cy cX9_ringNow RX9 7 6 145) (K : RetI x cX9_ringNow .int r.1 (wM ad cy r.2)) (rec8 : (ST × Int32 × Int32) → Option (Int32 × ST)) (hrec8 : ∀ a, rec8 a = some r → G x 0 0 8 [(0, .ref (ad 0)), (1, .int a.2.1), (2, .int a.2.2)] [] (wM ad cy a.1)) (rec18 : (ST × Int32 × Int32 × Int32) → Option (Int32 × ST)) (hrec18 : ∀ a, rec18 a = some r → G x 0 0 18 [(0, .ref (ad 0)), (1, .int a.2.1), (2, .int a.2.2.1), (3, .int a.2.2.2)] [] (wM ad cy a.1)) (σ : ST) (x1 : Int32) (x2 : Int32) (x3 : Int32) (x4 : Int32) (h : D_X9_ringNow_L26 rec8 rec18 σ x1 x2 x3 x4 = some r) : G x 0 0 26 [(0, .ref (ad 0)), (1, .int x1), (2, .int x2), (3, .int x3), (4, .int x4)] [] (wM ad cy σ) :=
  itr_ind (P := fun a => G x 0 0 26 [(0, .ref (ad 0)), (1, .int a.2.1), (2, .int a.2.2.1), (3, .int a.2.2.2.1), (4, .int a.2.2.2.2)] [] (wM ad cy a.1)) (fun rec26 hrec26 a h => B_X9_ringNow_L26_body E K rec8 hrec8 rec18 hrec18 rec26 hrec26 a.1 a.2.1 a.2.2.1 a.2.2.2.1 a.2.2.2.2 h) 200 (σ, x1, x2, x3, x4) h
noncomputable def D_X9_ringNow_L18_body (rec8 : (ST × Int32 × Int32) → Option (Int32 × ST)) (rec18 : (ST × Int32 × Int32 × Int32) → Option (Int32 × ST)) (σ : ST) (x1 : Int32) (x2 : Int32) (x3 : Int32) : Option (Int32 × ST) := if x2 ≤ x3 then (rec8 (σ, x1, (x2 + 1))) else (D_X9_ringNow_L26 rec8 rec18 σ x1 x2 x3 (0 : Int32))
set_option maxRecDepth 100000 in
set_option maxHeartbeats 4000000 in
theorem B_X9_ringNow_L18_body {x : CX} {cy : Nat → ClassId} {ad : Nat → Nat} {r : (Int32 × ST)} (E : Ev x cy cX9_ringNow RX9 7 6 145) (K : RetI x cX9_ringNow .int r.1 (wM ad cy r.2)) (rec8 : (ST × Int32 × Int32) → Option (Int32 × ST)) (hrec8 : ∀ a, rec8 a = some r → G x 0 0 8 [(0, .ref (ad 0)), (1, .int a.2.1), (2, .int a.2.2)] [] (wM ad cy a.1)) (rec18 : (ST × Int32 × Int32 × Int32) → Option (Int32 × ST)) (hrec18 : ∀ a, rec18 a = some r → G x 0 0 18 [(0, .ref (ad 0)), (1, .int a.2.1), (2, .int a.2.2.1), (3, .int a.2.2.2)] [] (wM ad cy a.1)) (σ : ST) (x1 : Int32) (x2 : Int32) (x3 : Int32) (h : D_X9_ringNow_L18_body rec8 rec18 σ x1 x2 x3 = some r) : G x 0 0 18 [(0, .ref (ad 0)), (1, .int x1), (2, .int x2), (3, .int x3)] [] (wM ad cy σ) := by
  unfold D_X9_ringNow_L18_body at h
  refine G.iload_n E dX9_ringNow_18 rfl 3 rfl ?_
  refine G.iload_n E dX9_ringNow_19 rfl 2 rfl ?_
  refine G.icmp_ge (tgt := 109) E dX9_ringNow_20 (by decide) (fun q => ?_) (fun q => ?_)
  · have h := ite_t h q
    refine G.iinc (w := x2 + 1) (lv' := [(2, .int (x2 + 1)), (0, .ref (ad 0)), (1, .int x1), (3, .int x3)]) E dX9_ringNow_109 2 rfl rfl (by decide) rfl ?_
    refine G.goto (tgt := 8) E dX9_ringNow_112 (by decide) ?_
    refine G.sub (lv' := [(0, .ref (ad 0)), (1, .int x1), (2, .int (x2 + 1))]) [1, 2, 0] rfl ?_
    exact hrec8 (σ, x1, (x2 + 1)) h
  · have h := ite_f h q
    refine G.iconst (v := 0) E dX9_ringNow_23 (by decide) ?_
    refine G.istore (lv' := [(4, .int (0 : Int32)), (0, .ref (ad 0)), (1, .int x1), (2, .int x2), (3, .int x3)]) E dX9_ringNow_24 (by decide) rfl ?_
    refine G.sub (lv' := [(0, .ref (ad 0)), (1, .int x1), (2, .int x2), (3, .int x3), (4, .int (0 : Int32))]) [1, 2, 3, 4, 0] rfl ?_
    exact B_X9_ringNow_L26 E K rec8 hrec8 rec18 hrec18 σ x1 x2 x3 (0 : Int32) h
noncomputable def D_X9_ringNow_L18 (rec8 : (ST × Int32 × Int32) → Option (Int32 × ST)) (σ : ST) (x1 : Int32) (x2 : Int32) (x3 : Int32) : Option (Int32 × ST) := itr (fun (rec18 : (ST × Int32 × Int32 × Int32) → Option (Int32 × ST)) (a : (ST × Int32 × Int32 × Int32)) => D_X9_ringNow_L18_body rec8 rec18 a.1 a.2.1 a.2.2.1 a.2.2.2) 200 (σ, x1, x2, x3)
set_option maxRecDepth 100000 in
set_option maxHeartbeats 4000000 in
theorem B_X9_ringNow_L18 {x : CX} {cy : Nat → ClassId} {ad : Nat → Nat} {r : (Int32 × ST)} (E : Ev x cy cX9_ringNow RX9 7 6 145) (K : RetI x cX9_ringNow .int r.1 (wM ad cy r.2)) (rec8 : (ST × Int32 × Int32) → Option (Int32 × ST)) (hrec8 : ∀ a, rec8 a = some r → G x 0 0 8 [(0, .ref (ad 0)), (1, .int a.2.1), (2, .int a.2.2)] [] (wM ad cy a.1)) (σ : ST) (x1 : Int32) (x2 : Int32) (x3 : Int32) (h : D_X9_ringNow_L18 rec8 σ x1 x2 x3 = some r) : G x 0 0 18 [(0, .ref (ad 0)), (1, .int x1), (2, .int x2), (3, .int x3)] [] (wM ad cy σ) :=
  itr_ind (P := fun a => G x 0 0 18 [(0, .ref (ad 0)), (1, .int a.2.1), (2, .int a.2.2.1), (3, .int a.2.2.2)] [] (wM ad cy a.1)) (fun rec18 hrec18 a h => B_X9_ringNow_L18_body E K rec8 hrec8 rec18 hrec18 a.1 a.2.1 a.2.2.1 a.2.2.2 h) 200 (σ, x1, x2, x3) h
noncomputable def D_X9_ringNow_L8_body (rec8 : (ST × Int32 × Int32) → Option (Int32 × ST)) (σ : ST) (x1 : Int32) (x2 : Int32) : Option (Int32 × ST) := if (gI σ 1) ≤ x2 then (if x1 = 0 then (if (4 : Int32) ≤ (gI σ 1) then ((D_X9_isRoundOfFour σ (0 : Int32) (1 : Int32) (2 : Int32) (3 : Int32)).bind fun r3 => if r3 = 0 then ((D_X9_isRoundOfFour σ (0 : Int32) (1 : Int32) (3 : Int32) (2 : Int32)).bind fun r5 => if r5 = 0 then ((D_X9_isRoundOfFour σ (0 : Int32) (2 : Int32) (1 : Int32) (3 : Int32)).bind fun r7 => if r7 = 0 then ((D_X9_isRoundOfFour σ (0 : Int32) (2 : Int32) (3 : Int32) (1 : Int32)).bind fun r9 => if r9 = 0 then ((D_X9_isRoundOfFour σ (0 : Int32) (3 : Int32) (1 : Int32) (2 : Int32)).bind fun r11 => if r11 = 0 then ((D_X9_isRoundOfFour σ (0 : Int32) (3 : Int32) (2 : Int32) (1 : Int32)).bind fun r13 => if r13 = 0 then (D_X9_ringNow_b200 σ (0 : Int32)) else (D_X9_ringNow_b195 σ)) else (D_X9_ringNow_b195 σ)) else (D_X9_ringNow_b195 σ)) else (D_X9_ringNow_b195 σ)) else (D_X9_ringNow_b195 σ)) else (D_X9_ringNow_b195 σ)) else (some (x1, σ))) else (some (x1, σ))) else (D_X9_ringNow_L18 rec8 σ x1 x2 (1 : Int32))
set_option maxRecDepth 100000 in
set_option maxHeartbeats 4000000 in
theorem B_X9_ringNow_L8_body {x : CX} {cy : Nat → ClassId} {ad : Nat → Nat} {r : (Int32 × ST)} (E : Ev x cy cX9_ringNow RX9 7 6 145) (K : RetI x cX9_ringNow .int r.1 (wM ad cy r.2)) (rec8 : (ST × Int32 × Int32) → Option (Int32 × ST)) (hrec8 : ∀ a, rec8 a = some r → G x 0 0 8 [(0, .ref (ad 0)), (1, .int a.2.1), (2, .int a.2.2)] [] (wM ad cy a.1)) (σ : ST) (x1 : Int32) (x2 : Int32) (h : D_X9_ringNow_L8_body rec8 σ x1 x2 = some r) : G x 0 0 8 [(0, .ref (ad 0)), (1, .int x1), (2, .int x2)] [] (wM ad cy σ) := by
  unfold D_X9_ringNow_L8_body at h
  refine G.iload_n E dX9_ringNow_8 rfl 2 rfl ?_
  refine G.aload_n E dX9_ringNow_9 rfl 0 rfl ?_
  refine G.get E inX9 0 rfl rfl 1 (by decide) (f699 E.fx) rfl dX9_ringNow_10 ?_
  refine G.icmp_ge (tgt := 115) E dX9_ringNow_13 (by decide) (fun q => ?_) (fun q => ?_)
  · have h := ite_t h q
    refine G.iload_n E dX9_ringNow_115 rfl 1 rfl ?_
    refine G.if_ne (tgt := 127) E dX9_ringNow_116 (by decide) (fun q => ?_) (fun q => ?_)
    · have h := ite_f h q
      refine G.iload_n E dX9_ringNow_127 rfl 1 rfl ?_
      obtain rfl := Option.some.inj h
      exact K rfl _ _ dX9_ringNow_128
    · have h := ite_t h q
      refine G.aload_n E dX9_ringNow_119 rfl 0 rfl ?_
      refine G.get E inX9 0 rfl rfl 1 (by decide) (f699 E.fx) rfl dX9_ringNow_120 ?_
      refine G.iconst (v := 4) E dX9_ringNow_123 (by decide) ?_
      refine G.icmp_ge (tgt := 129) E dX9_ringNow_124 (by decide) (fun q => ?_) (fun q => ?_)
      · have h := ite_t h q
        refine G.aload_n E dX9_ringNow_129 rfl 0 rfl ?_
        refine G.iconst (v := 0) E dX9_ringNow_130 (by decide) ?_
        refine G.iconst (v := 1) E dX9_ringNow_131 (by decide) ?_
        refine G.iconst (v := 2) E dX9_ringNow_132 (by decide) ?_
        refine G.iconst (v := 3) E dX9_ringNow_133 (by decide) ?_
        obtain ⟨r3, h4, h⟩ := bind_s h
        refine G.retI E (runV (st := []) (As := [.int (0 : Int32), .int (1 : Int32), .int (2 : Int32), .int (3 : Int32)]) E (C_X9_isRoundOfFour h4) ck_X9_isRoundOfFour (f1002 E.fx) (f1004 E.fx) (f55 E.fx) 0 9 rfl rfl rfl (by decide) (by decide) rfl (Nat.le_of_ble_eq_true rfl) dX9_ringNow_134 ⟨Nat.zero_le _, Nat.zero_le _⟩) ?_
        refine G.if_ne (tgt := 195) E dX9_ringNow_137 (by decide) (fun q => ?_) (fun q => ?_)
        · have h := ite_f h q
          refine G.sub (lv' := []) [] rfl ?_
          exact B_X9_ringNow_b195 E K σ h
        · have h := ite_t h q
          refine G.aload_n E dX9_ringNow_140 rfl 0 rfl ?_
          refine G.iconst (v := 0) E dX9_ringNow_141 (by decide) ?_
          refine G.iconst (v := 1) E dX9_ringNow_142 (by decide) ?_
          refine G.iconst (v := 3) E dX9_ringNow_143 (by decide) ?_
          refine G.iconst (v := 2) E dX9_ringNow_144 (by decide) ?_
          obtain ⟨r5, h6, h⟩ := bind_s h
          refine G.retI E (runV (st := []) (As := [.int (0 : Int32), .int (1 : Int32), .int (3 : Int32), .int (2 : Int32)]) E (C_X9_isRoundOfFour h6) ck_X9_isRoundOfFour (f1002 E.fx) (f1004 E.fx) (f55 E.fx) 0 9 rfl rfl rfl (by decide) (by decide) rfl (Nat.le_of_ble_eq_true rfl) dX9_ringNow_145 ⟨Nat.zero_le _, Nat.zero_le _⟩) ?_
          refine G.if_ne (tgt := 195) E dX9_ringNow_148 (by decide) (fun q => ?_) (fun q => ?_)
          · have h := ite_f h q
            refine G.sub (lv' := []) [] rfl ?_
            exact B_X9_ringNow_b195 E K σ h
          · have h := ite_t h q
            refine G.aload_n E dX9_ringNow_151 rfl 0 rfl ?_
            refine G.iconst (v := 0) E dX9_ringNow_152 (by decide) ?_
            refine G.iconst (v := 2) E dX9_ringNow_153 (by decide) ?_
            refine G.iconst (v := 1) E dX9_ringNow_154 (by decide) ?_
            refine G.iconst (v := 3) E dX9_ringNow_155 (by decide) ?_
            obtain ⟨r7, h8, h⟩ := bind_s h
            refine G.retI E (runV (st := []) (As := [.int (0 : Int32), .int (2 : Int32), .int (1 : Int32), .int (3 : Int32)]) E (C_X9_isRoundOfFour h8) ck_X9_isRoundOfFour (f1002 E.fx) (f1004 E.fx) (f55 E.fx) 0 9 rfl rfl rfl (by decide) (by decide) rfl (Nat.le_of_ble_eq_true rfl) dX9_ringNow_156 ⟨Nat.zero_le _, Nat.zero_le _⟩) ?_
            refine G.if_ne (tgt := 195) E dX9_ringNow_159 (by decide) (fun q => ?_) (fun q => ?_)
            · have h := ite_f h q
              refine G.sub (lv' := []) [] rfl ?_
              exact B_X9_ringNow_b195 E K σ h
            · have h := ite_t h q
              refine G.aload_n E dX9_ringNow_162 rfl 0 rfl ?_
              refine G.iconst (v := 0) E dX9_ringNow_163 (by decide) ?_
              refine G.iconst (v := 2) E dX9_ringNow_164 (by decide) ?_
              refine G.iconst (v := 3) E dX9_ringNow_165 (by decide) ?_
              refine G.iconst (v := 1) E dX9_ringNow_166 (by decide) ?_
              obtain ⟨r9, h10, h⟩ := bind_s h
              refine G.retI E (runV (st := []) (As := [.int (0 : Int32), .int (2 : Int32), .int (3 : Int32), .int (1 : Int32)]) E (C_X9_isRoundOfFour h10) ck_X9_isRoundOfFour (f1002 E.fx) (f1004 E.fx) (f55 E.fx) 0 9 rfl rfl rfl (by decide) (by decide) rfl (Nat.le_of_ble_eq_true rfl) dX9_ringNow_167 ⟨Nat.zero_le _, Nat.zero_le _⟩) ?_
              refine G.if_ne (tgt := 195) E dX9_ringNow_170 (by decide) (fun q => ?_) (fun q => ?_)
              · have h := ite_f h q
                refine G.sub (lv' := []) [] rfl ?_
                exact B_X9_ringNow_b195 E K σ h
              · have h := ite_t h q
                refine G.aload_n E dX9_ringNow_173 rfl 0 rfl ?_
                refine G.iconst (v := 0) E dX9_ringNow_174 (by decide) ?_
                refine G.iconst (v := 3) E dX9_ringNow_175 (by decide) ?_
                refine G.iconst (v := 1) E dX9_ringNow_176 (by decide) ?_
                refine G.iconst (v := 2) E dX9_ringNow_177 (by decide) ?_
                obtain ⟨r11, h12, h⟩ := bind_s h
                refine G.retI E (runV (st := []) (As := [.int (0 : Int32), .int (3 : Int32), .int (1 : Int32), .int (2 : Int32)]) E (C_X9_isRoundOfFour h12) ck_X9_isRoundOfFour (f1002 E.fx) (f1004 E.fx) (f55 E.fx) 0 9 rfl rfl rfl (by decide) (by decide) rfl (Nat.le_of_ble_eq_true rfl) dX9_ringNow_178 ⟨Nat.zero_le _, Nat.zero_le _⟩) ?_
                refine G.if_ne (tgt := 195) E dX9_ringNow_181 (by decide) (fun q => ?_) (fun q => ?_)
                · have h := ite_f h q
                  refine G.sub (lv' := []) [] rfl ?_
                  exact B_X9_ringNow_b195 E K σ h
                · have h := ite_t h q
                  refine G.aload_n E dX9_ringNow_184 rfl 0 rfl ?_
                  refine G.iconst (v := 0) E dX9_ringNow_185 (by decide) ?_
                  refine G.iconst (v := 3) E dX9_ringNow_186 (by decide) ?_
                  refine G.iconst (v := 2) E dX9_ringNow_187 (by decide) ?_
                  refine G.iconst (v := 1) E dX9_ringNow_188 (by decide) ?_
                  obtain ⟨r13, h14, h⟩ := bind_s h
                  refine G.retI E (runV (st := []) (As := [.int (0 : Int32), .int (3 : Int32), .int (2 : Int32), .int (1 : Int32)]) E (C_X9_isRoundOfFour h14) ck_X9_isRoundOfFour (f1002 E.fx) (f1004 E.fx) (f55 E.fx) 0 9 rfl rfl rfl (by decide) (by decide) rfl (Nat.le_of_ble_eq_true rfl) dX9_ringNow_189 ⟨Nat.zero_le _, Nat.zero_le _⟩) ?_
                  refine G.if_eq (tgt := 199) E dX9_ringNow_192 (by decide) (fun q => ?_) (fun q => ?_)
                  · have h := ite_t h q
                    refine G.iconst (v := 0) E dX9_ringNow_199 (by decide) ?_
                    refine G.sub (lv' := []) [] rfl ?_
                    exact B_X9_ringNow_b200 E K σ (0 : Int32) h
                  · have h := ite_f h q
                    refine G.sub (lv' := []) [] rfl ?_
                    exact B_X9_ringNow_b195 E K σ h
      · have h := ite_f h q
        refine G.iload_n E dX9_ringNow_127 rfl 1 rfl ?_
        obtain rfl := Option.some.inj h
        exact K rfl _ _ dX9_ringNow_128
  · have h := ite_f h q
    refine G.iconst (v := 1) E dX9_ringNow_16 (by decide) ?_
    refine G.istore_n (lv' := [(3, .int (1 : Int32)), (0, .ref (ad 0)), (1, .int x1), (2, .int x2)]) E dX9_ringNow_17 rfl (by decide) rfl ?_
    refine G.sub (lv' := [(0, .ref (ad 0)), (1, .int x1), (2, .int x2), (3, .int (1 : Int32))]) [1, 2, 3, 0] rfl ?_
    exact B_X9_ringNow_L18 E K rec8 hrec8 σ x1 x2 (1 : Int32) h
noncomputable def D_X9_ringNow_L8  (σ : ST) (x1 : Int32) (x2 : Int32) : Option (Int32 × ST) := itr (fun (rec8 : (ST × Int32 × Int32) → Option (Int32 × ST)) (a : (ST × Int32 × Int32)) => D_X9_ringNow_L8_body rec8 a.1 a.2.1 a.2.2) 200 (σ, x1, x2)
set_option maxRecDepth 100000 in
set_option maxHeartbeats 4000000 in
theorem B_X9_ringNow_L8 {x : CX} {cy : Nat → ClassId} {ad : Nat → Nat} {r : (Int32 × ST)} (E : Ev x cy cX9_ringNow RX9 7 6 145) (K : RetI x cX9_ringNow .int r.1 (wM ad cy r.2))  (σ : ST) (x1 : Int32) (x2 : Int32) (h : D_X9_ringNow_L8 σ x1 x2 = some r) : G x 0 0 8 [(0, .ref (ad 0)), (1, .int x1), (2, .int x2)] [] (wM ad cy σ) :=
  itr_ind (P := fun a => G x 0 0 8 [(0, .ref (ad 0)), (1, .int a.2.1), (2, .int a.2.2)] [] (wM ad cy a.1)) (fun rec8 hrec8 a h => B_X9_ringNow_L8_body E K rec8 hrec8 a.1 a.2.1 a.2.2 h) 200 (σ, x1, x2) h
noncomputable def D_X9_ringNow (σ : ST)  : Option (Int32 × ST) := (D_X9_layBeats σ).bind fun r1 => D_X9_ringNow_L8 r1 (0 : Int32) (2 : Int32)
set_option maxRecDepth 100000 in
set_option maxHeartbeats 4000000 in
theorem B_X9_ringNow {x : CX} {cy : Nat → ClassId} {ad : Nat → Nat} {r : (Int32 × ST)} (E : Ev x cy cX9_ringNow RX9 7 6 145) (K : RetI x cX9_ringNow .int r.1 (wM ad cy r.2)) (σ : ST)  (h : D_X9_ringNow σ = some r) : G x 0 0 0 [(0, .ref (ad 0))] [] (wM ad cy σ) := by
  unfold D_X9_ringNow at h
  refine G.aload_n E dX9_ringNow_0 rfl 0 rfl ?_
  obtain ⟨r1, h2, h⟩ := bind_s h
  refine G.retV E (runV (st := []) (As := []) E (C_X9_layBeats h2) ck_X9_layBeats (f994 E.fx) (f996 E.fx) (f53 E.fx) 0 9 rfl rfl rfl (by decide) (by decide) rfl (Nat.le_of_ble_eq_true rfl) dX9_ringNow_1 ⟨Nat.zero_le _, Nat.zero_le _⟩) ?_
  refine G.iconst (v := 0) E dX9_ringNow_4 (by decide) ?_
  refine G.istore_n (lv' := [(1, .int (0 : Int32)), (0, .ref (ad 0))]) E dX9_ringNow_5 rfl (by decide) rfl ?_
  refine G.iconst (v := 2) E dX9_ringNow_6 (by decide) ?_
  refine G.istore_n (lv' := [(2, .int (2 : Int32)), (1, .int (0 : Int32)), (0, .ref (ad 0))]) E dX9_ringNow_7 rfl (by decide) rfl ?_
  refine G.sub (lv' := [(0, .ref (ad 0)), (1, .int (0 : Int32)), (2, .int (2 : Int32))]) [2, 1, 0] rfl ?_
  exact B_X9_ringNow_L8 E K r1 (0 : Int32) (2 : Int32) h
set_option maxRecDepth 100000 in
set_option maxHeartbeats 4000000 in
theorem C_X9_ringNow {l : Launch} {D : va_G} {cy : Nat → ClassId} {ad : Nat → Nat} {σ : ST}  {r : (Int32 × ST)} (h : D_X9_ringNow σ = some r) : MI l yX9_ringNow cX9_ringNow 7 (some .int) 6 145 D cy (wM ad cy σ) [.ref (ad 0)] r.1 (wM ad cy r.2) :=
  MI.mk (lv := [(0, .ref (ad 0))]) (by decide) (Nat.le_of_ble_eq_true rfl) rfl (fun x _ _ E K => B_X9_ringNow E K σ h)

noncomputable def D_X9_ring (σ : ST)  : Option (Int32 × ST) := if (gI σ 1) = 0 then (some ((-103 : Int32), σ)) else ((D_X9_ringNow σ).bind fun r1 => some (r1.1, r1.2))
set_option maxRecDepth 100000 in
set_option maxHeartbeats 4000000 in
theorem B_X9_ring {x : CX} {cy : Nat → ClassId} {ad : Nat → Nat} {r : (Int32 × ST)} (E : Ev x cy cX9_ring RX9 1 7 171) (K : RetI x cX9_ring .int r.1 (wM ad cy r.2)) (σ : ST)  (h : D_X9_ring σ = some r) : G x 0 0 0 [(0, .ref (ad 0))] [] (wM ad cy σ) := by
  unfold D_X9_ring at h
  refine G.aload_n E dX9_ring_0 rfl 0 rfl ?_
  refine G.get E inX9 0 rfl rfl 1 (by decide) (f699 E.fx) rfl dX9_ring_1 ?_
  refine G.if_ne (tgt := 12) E dX9_ring_4 (by decide) (fun q => ?_) (fun q => ?_)
  · have h := ite_f h q
    refine G.aload_n E dX9_ring_12 rfl 0 rfl ?_
    obtain ⟨r1, h2, h⟩ := bind_s h
    refine G.retI E (runV (st := []) (As := []) E (C_X9_ringNow h2) ck_X9_ringNow (f990 E.fx) (f992 E.fx) (f52 E.fx) 0 9 rfl rfl rfl (by decide) (by decide) rfl (Nat.le_of_ble_eq_true rfl) dX9_ring_13 ⟨Nat.zero_le _, Nat.zero_le _⟩) ?_
    obtain rfl := Option.some.inj h
    exact K rfl _ _ dX9_ring_16
  · have h := ite_t h q
    refine G.bipush (v := -103) E dX9_ring_7 (by decide) ?_
    refine G.goto (tgt := 16) E dX9_ring_9 (by decide) ?_
    obtain rfl := Option.some.inj h
    exact K rfl _ _ dX9_ring_16
set_option maxRecDepth 100000 in
set_option maxHeartbeats 4000000 in
theorem C_X9_ring {l : Launch} {D : va_G} {cy : Nat → ClassId} {ad : Nat → Nat} {σ : ST}  {r : (Int32 × ST)} (h : D_X9_ring σ = some r) : MI l yX9_ring cX9_ring 1 (some .int) 7 171 D cy (wM ad cy σ) [.ref (ad 0)] r.1 (wM ad cy r.2) :=
  MI.mk (lv := [(0, .ref (ad 0))]) (by decide) (Nat.le_of_ble_eq_true rfl) rfl (fun x _ _ E K => B_X9_ring E K σ h)

noncomputable def D_X9_stateNow_b26  (σ : ST) (s0 : Int32) : Option Int32 := some (((1 : Int32) <<< (s0 &&& 31)) ||| ((gI σ 4) &&& (((1 : Int32) <<< (s0 &&& 31)) - (1 : Int32))))
set_option maxRecDepth 100000 in
set_option maxHeartbeats 4000000 in
theorem B_X9_stateNow_b26 {x : CX} {cy : Nat → ClassId} {ad : Nat → Nat} {r : Int32} {σ : ST} (E : Ev x cy cX9_stateNow RX9 2 0 0) (K : RetI x cX9_stateNow .int r (wM ad cy σ))  (σ9 : ST) (s0 : Int32) (h : D_X9_stateNow_b26 σ s0 = some r) : G x 0 0 26 [(0, .ref (ad 0))] [.int s0] (wM ad cy σ) := by
  unfold D_X9_stateNow_b26 at h
  refine G.istore_n (lv' := [(1, .int s0), (0, .ref (ad 0))]) E dX9_stateNow_26 rfl (by decide) rfl ?_
  refine G.iconst (v := 1) E dX9_stateNow_27 (by decide) ?_
  refine G.iload_n E dX9_stateNow_28 rfl 0 rfl ?_
  refine G.ishl E dX9_stateNow_29 ?_
  refine G.aload_n E dX9_stateNow_30 rfl 1 rfl ?_
  refine G.get E inX9 0 rfl rfl 7 (by decide) (f705 E.fx) rfl dX9_stateNow_31 ?_
  refine G.iconst (v := 1) E dX9_stateNow_34 (by decide) ?_
  refine G.iload_n E dX9_stateNow_35 rfl 0 rfl ?_
  refine G.ishl E dX9_stateNow_36 ?_
  refine G.iconst (v := 1) E dX9_stateNow_37 (by decide) ?_
  refine G.isub E dX9_stateNow_38 ?_
  refine G.iand E dX9_stateNow_39 ?_
  refine G.ior E dX9_stateNow_40 ?_
  obtain rfl := Option.some.inj h
  exact K rfl _ _ dX9_stateNow_41
noncomputable def D_X9_stateNow (σ : ST)  : Option Int32 := if ((gI σ 2) - (1 : Int32)) ≤ (gI σ 3) then (D_X9_stateNow_b26 σ ((gI σ 2) - (1 : Int32))) else (D_X9_stateNow_b26 σ (gI σ 3))
set_option maxRecDepth 100000 in
set_option maxHeartbeats 4000000 in
theorem B_X9_stateNow {x : CX} {cy : Nat → ClassId} {ad : Nat → Nat} {r : Int32} {σ : ST} (E : Ev x cy cX9_stateNow RX9 2 0 0) (K : RetI x cX9_stateNow .int r (wM ad cy σ))  (h : D_X9_stateNow σ = some r) : G x 0 0 0 [(0, .ref (ad 0))] [] (wM ad cy σ) := by
  unfold D_X9_stateNow at h
  refine G.aload_n E dX9_stateNow_0 rfl 0 rfl ?_
  refine G.get E inX9 0 rfl rfl 6 (by decide) (f704 E.fx) rfl dX9_stateNow_1 ?_
  refine G.aload_n E dX9_stateNow_4 rfl 0 rfl ?_
  refine G.get E inX9 0 rfl rfl 2 (by decide) (f700 E.fx) rfl dX9_stateNow_5 ?_
  refine G.iconst (v := 1) E dX9_stateNow_8 (by decide) ?_
  refine G.isub E dX9_stateNow_9 ?_
  refine G.icmp_ge (tgt := 20) E dX9_stateNow_10 (by decide) (fun q => ?_) (fun q => ?_)
  · have h := ite_t h q
    refine G.aload_n E dX9_stateNow_20 rfl 0 rfl ?_
    refine G.get E inX9 0 rfl rfl 2 (by decide) (f700 E.fx) rfl dX9_stateNow_21 ?_
    refine G.iconst (v := 1) E dX9_stateNow_24 (by decide) ?_
    refine G.isub E dX9_stateNow_25 ?_
    refine G.sub (lv' := [(0, .ref (ad 0))]) [0] rfl ?_
    exact B_X9_stateNow_b26 E K σ ((gI σ 2) - (1 : Int32)) h
  · have h := ite_f h q
    refine G.aload_n E dX9_stateNow_13 rfl 0 rfl ?_
    refine G.get E inX9 0 rfl rfl 6 (by decide) (f704 E.fx) rfl dX9_stateNow_14 ?_
    refine G.goto (tgt := 26) E dX9_stateNow_17 (by decide) ?_
    refine G.sub (lv' := [(0, .ref (ad 0))]) [0] rfl ?_
    exact B_X9_stateNow_b26 E K σ (gI σ 3) h
set_option maxRecDepth 100000 in
set_option maxHeartbeats 4000000 in
theorem C_X9_stateNow {l : Launch} {D : va_G} {cy : Nat → ClassId} {ad : Nat → Nat} {σ : ST}  {r : Int32} (h : D_X9_stateNow σ = some r) : MI l yX9_stateNow cX9_stateNow 2 (some .int) 0 0 D cy (wM ad cy σ) [.ref (ad 0)] r (wM ad cy σ) :=
  MI.mk (lv := [(0, .ref (ad 0))]) (by decide) (Nat.le_of_ble_eq_true rfl) rfl (fun x _ _ E K => B_X9_stateNow E K  h)

noncomputable def D_X9_divisor_L4_body (rec4 : (Int32 × Int32) → Option Int32) (x2 : Int32) (x3 : Int32) : Option Int32 := if x3 = 0 then (some x2) else (if x3 = 0 then none else (rec4 (x3, (x2 - x2 / x3 * x3))))
set_option maxRecDepth 100000 in
set_option maxHeartbeats 4000000 in
theorem B_X9_divisor_L4_body {x : CX} {cy : Nat → ClassId} {ws : va_W} {r : Int32} (E : Ev x cy cX9_divisor RX9 5 0 0) (K : RetI x cX9_divisor .int r ws) (rec4 : (Int32 × Int32) → Option Int32) (hrec4 : ∀ a, rec4 a = some r → G x 0 0 4 [(2, .int a.1), (3, .int a.2)] [] ws) (x2 : Int32) (x3 : Int32) (h : D_X9_divisor_L4_body rec4 x2 x3 = some r) : G x 0 0 4 [(2, .int x2), (3, .int x3)] [] ws := by
  unfold D_X9_divisor_L4_body at h
  refine G.iload_n E dX9_divisor_4 rfl 1 rfl ?_
  refine G.if_eq (tgt := 21) E dX9_divisor_5 (by decide) (fun q => ?_) (fun q => ?_)
  · have h := ite_t h q
    refine G.iload_n E dX9_divisor_21 rfl 0 rfl ?_
    obtain rfl := Option.some.inj h
    exact K rfl _ _ dX9_divisor_22
  · have h := ite_f h q
    refine G.iload_n E dX9_divisor_8 rfl 0 rfl ?_
    refine G.iload_n E dX9_divisor_9 rfl 1 rfl ?_
    obtain ⟨hg, h⟩ := ite_n h
    refine G.irem E dX9_divisor_10 hg ?_
    refine G.istore (lv' := [(4, .int (x2 - x2 / x3 * x3)), (2, .int x2), (3, .int x3)]) E dX9_divisor_11 (by decide) rfl ?_
    refine G.iload_n E dX9_divisor_13 rfl 2 rfl ?_
    refine G.istore_n (lv' := [(2, .int x3), (4, .int (x2 - x2 / x3 * x3)), (3, .int x3)]) E dX9_divisor_14 rfl (by decide) rfl ?_
    refine G.iload E dX9_divisor_15 1 rfl ?_
    refine G.istore_n (lv' := [(3, .int (x2 - x2 / x3 * x3)), (2, .int x3), (4, .int (x2 - x2 / x3 * x3))]) E dX9_divisor_17 rfl (by decide) rfl ?_
    refine G.goto (tgt := 4) E dX9_divisor_18 (by decide) ?_
    refine G.sub (lv' := [(2, .int x3), (3, .int (x2 - x2 / x3 * x3))]) [1, 0] rfl ?_
    exact hrec4 (x3, (x2 - x2 / x3 * x3)) h
noncomputable def D_X9_divisor_L4  (x2 : Int32) (x3 : Int32) : Option Int32 := itr (fun (rec4 : (Int32 × Int32) → Option Int32) (a : (Int32 × Int32)) => D_X9_divisor_L4_body rec4 a.1 a.2) 200 (x2, x3)
set_option maxRecDepth 100000 in
set_option maxHeartbeats 4000000 in
theorem B_X9_divisor_L4 {x : CX} {cy : Nat → ClassId} {ws : va_W} {r : Int32} (E : Ev x cy cX9_divisor RX9 5 0 0) (K : RetI x cX9_divisor .int r ws)  (x2 : Int32) (x3 : Int32) (h : D_X9_divisor_L4 x2 x3 = some r) : G x 0 0 4 [(2, .int x2), (3, .int x3)] [] ws :=
  itr_ind (P := fun a => G x 0 0 4 [(2, .int a.1), (3, .int a.2)] [] ws) (fun rec4 hrec4 a h => B_X9_divisor_L4_body E K rec4 hrec4 a.1 a.2 h) 200 (x2, x3) h
noncomputable def D_X9_divisor (p0 : Int32) (p1 : Int32) : Option Int32 := D_X9_divisor_L4 p0 p1
set_option maxRecDepth 100000 in
set_option maxHeartbeats 4000000 in
theorem B_X9_divisor {x : CX} {cy : Nat → ClassId} {ws : va_W} {r : Int32} (E : Ev x cy cX9_divisor RX9 5 0 0) (K : RetI x cX9_divisor .int r ws) (p0 : Int32) (p1 : Int32) (h : D_X9_divisor p0 p1 = some r) : G x 0 0 0 [(0, .int p0), (1, .int p1)] [] ws := by
  unfold D_X9_divisor at h
  refine G.iload_n E dX9_divisor_0 rfl 0 rfl ?_
  refine G.istore_n (lv' := [(2, .int p0), (0, .int p0), (1, .int p1)]) E dX9_divisor_1 rfl (by decide) rfl ?_
  refine G.iload_n E dX9_divisor_2 rfl 2 rfl ?_
  refine G.istore_n (lv' := [(3, .int p1), (2, .int p0), (0, .int p0), (1, .int p1)]) E dX9_divisor_3 rfl (by decide) rfl ?_
  refine G.sub (lv' := [(2, .int p0), (3, .int p1)]) [1, 0] rfl ?_
  exact B_X9_divisor_L4 E K p0 p1 h
set_option maxRecDepth 100000 in
set_option maxHeartbeats 4000000 in
theorem C_X9_divisor {l : Launch} {D : va_G} {cy : Nat → ClassId} {ws : va_W} {p0 : Int32} {p1 : Int32} {r : Int32} (h : D_X9_divisor p0 p1 = some r) : MI l yX9_divisor cX9_divisor 5 (some .int) 0 0 D cy ws [.int p0, .int p1] r ws :=
  MI.mk (lv := [(0, .int p0), (1, .int p1)]) (by decide) (Nat.le_of_ble_eq_true rfl) rfl (fun x _ _ E K => B_X9_divisor E K p0 p1 h)

noncomputable def D_X9_behind (σ : ST) (p1 : Int32) (p2 : Int32) : Option Int32 := (D_X9_rows σ).bind fun r1 => if r1 ≤ (((2 : Int32) * p1) + p2) then ((D_X9_unknowns σ).bind fun r3 => (D_X9_unknowns σ).bind fun r5 => some (((((2 : Int32) * p1) + p2) &&& (r3 - (1 : Int32))) ||| r5)) else (some (((2 : Int32) * p1) + p2))
set_option maxRecDepth 100000 in
set_option maxHeartbeats 4000000 in
theorem B_X9_behind {x : CX} {cy : Nat → ClassId} {ad : Nat → Nat} {r : Int32} {σ : ST} (E : Ev x cy cX9_behind RX9 4 1 20) (K : RetI x cX9_behind .int r (wM ad cy σ)) (p1 : Int32) (p2 : Int32) (h : D_X9_behind σ p1 p2 = some r) : G x 0 0 0 [(0, .ref (ad 0)), (1, .int p1), (2, .int p2)] [] (wM ad cy σ) := by
  unfold D_X9_behind at h
  refine G.iconst (v := 2) E dX9_behind_0 (by decide) ?_
  refine G.iload_n E dX9_behind_1 rfl 1 rfl ?_
  refine G.imul E dX9_behind_2 ?_
  refine G.iload_n E dX9_behind_3 rfl 2 rfl ?_
  refine G.iadd E dX9_behind_4 ?_
  refine G.istore_n (lv' := [(3, .int (((2 : Int32) * p1) + p2)), (0, .ref (ad 0)), (1, .int p1), (2, .int p2)]) E dX9_behind_5 rfl (by decide) rfl ?_
  refine G.iload_n E dX9_behind_6 rfl 0 rfl ?_
  refine G.aload_n E dX9_behind_7 rfl 1 rfl ?_
  obtain ⟨r1, h2, h⟩ := bind_s h
  refine G.retI E (runV (st := [.int (((2 : Int32) * p1) + p2)]) (As := []) E (C_X9_rows h2) ck_X9_rows (f868 E.fx) (f870 E.fx) (f34 E.fx) 0 9 rfl rfl rfl (by decide) (by decide) rfl (Nat.le_of_ble_eq_true rfl) dX9_behind_8 ⟨Nat.zero_le _, Nat.zero_le _⟩) ?_
  refine G.icmp_ge (tgt := 18) E dX9_behind_11 (by decide) (fun q => ?_) (fun q => ?_)
  · have h := ite_t h q
    refine G.iload_n E dX9_behind_18 rfl 0 rfl ?_
    refine G.aload_n E dX9_behind_19 rfl 1 rfl ?_
    obtain ⟨r3, h4, h⟩ := bind_s h
    refine G.retI E (runV (st := [.int (((2 : Int32) * p1) + p2)]) (As := []) E (C_X9_unknowns h4) ck_X9_unknowns (f880 E.fx) (f882 E.fx) (f37 E.fx) 0 9 rfl rfl rfl (by decide) (by decide) rfl (Nat.le_of_ble_eq_true rfl) dX9_behind_20 ⟨Nat.zero_le _, Nat.zero_le _⟩) ?_
    refine G.iconst (v := 1) E dX9_behind_23 (by decide) ?_
    refine G.isub E dX9_behind_24 ?_
    refine G.iand E dX9_behind_25 ?_
    refine G.aload_n E dX9_behind_26 rfl 1 rfl ?_
    obtain ⟨r5, h6, h⟩ := bind_s h
    refine G.retI E (runV (st := [.int ((((2 : Int32) * p1) + p2) &&& (r3 - (1 : Int32)))]) (As := []) E (C_X9_unknowns h6) ck_X9_unknowns (f880 E.fx) (f882 E.fx) (f37 E.fx) 0 9 rfl rfl rfl (by decide) (by decide) rfl (Nat.le_of_ble_eq_true rfl) dX9_behind_27 ⟨Nat.zero_le _, Nat.zero_le _⟩) ?_
    refine G.ior E dX9_behind_30 ?_
    obtain rfl := Option.some.inj h
    exact K rfl _ _ dX9_behind_31
  · have h := ite_f h q
    refine G.iload_n E dX9_behind_14 rfl 0 rfl ?_
    refine G.goto (tgt := 31) E dX9_behind_15 (by decide) ?_
    obtain rfl := Option.some.inj h
    exact K rfl _ _ dX9_behind_31
set_option maxRecDepth 100000 in
set_option maxHeartbeats 4000000 in
theorem C_X9_behind {l : Launch} {D : va_G} {cy : Nat → ClassId} {ad : Nat → Nat} {σ : ST} {p1 : Int32} {p2 : Int32} {r : Int32} (h : D_X9_behind σ p1 p2 = some r) : MI l yX9_behind cX9_behind 4 (some .int) 1 20 D cy (wM ad cy σ) [.ref (ad 0), .int p1, .int p2] r (wM ad cy σ) :=
  MI.mk (lv := [(0, .ref (ad 0)), (1, .int p1), (2, .int p2)]) (by decide) (Nat.le_of_ble_eq_true rfl) rfl (fun x _ _ E K => B_X9_behind E K p1 p2 h)

noncomputable def D_X9_tossWays_b98 (rec5 : (ST × Int32 × Int32 × Int32 × Int32) → Option (Int32 × ST)) (σ : ST) (x1 : Int32) (x2 : Int32) (x3 : Int32) (x4 : Int32) : Option (Int32 × ST) := rec5 (σ, x1, x2, x3, (x4 + 1))
set_option maxRecDepth 100000 in
set_option maxHeartbeats 4000000 in
theorem B_X9_tossWays_b98 {x : CX} {cy : Nat → ClassId} {ad : Nat → Nat} {r : (Int32 × ST)} (E : Ev x cy cX9_tossWays RX9 7 4 93) (K : RetI x cX9_tossWays .int r.1 (wM ad cy r.2)) (rec5 : (ST × Int32 × Int32 × Int32 × Int32) → Option (Int32 × ST)) (hrec5 : ∀ a, rec5 a = some r → G x 0 0 5 [(0, .ref (ad 0)), (1, .int a.2.1), (2, .int a.2.2.1), (3, .int a.2.2.2.1), (4, .int a.2.2.2.2)] [] (wM ad cy a.1)) (σ : ST) (x1 : Int32) (x2 : Int32) (x3 : Int32) (x4 : Int32) (h : D_X9_tossWays_b98 rec5 σ x1 x2 x3 x4 = some r) : G x 0 0 98 [(0, .ref (ad 0)), (1, .int x1), (2, .int x2), (3, .int x3), (4, .int x4)] [] (wM ad cy σ) := by
  unfold D_X9_tossWays_b98 at h
  refine G.iinc (w := x4 + 1) (lv' := [(4, .int (x4 + 1)), (0, .ref (ad 0)), (1, .int x1), (2, .int x2), (3, .int x3)]) E dX9_tossWays_98 4 rfl rfl (by decide) rfl ?_
  refine G.goto (tgt := 5) E dX9_tossWays_101 (by decide) ?_
  refine G.sub (lv' := [(0, .ref (ad 0)), (1, .int x1), (2, .int x2), (3, .int x3), (4, .int (x4 + 1))]) [1, 2, 3, 4, 0] rfl ?_
  exact hrec5 (σ, x1, x2, x3, (x4 + 1)) h
noncomputable def D_X9_tossWays_b42 (rec5 : (ST × Int32 × Int32 × Int32 × Int32) → Option (Int32 × ST)) (σ : ST) (x1 : Int32) (x2 : Int32) (x3 : Int32) (x4 : Int32) (x5 : Int32) (s0 : Int32) : Option (Int32 × ST) := if s0 = 0 then ((D_X9_behind σ x1 x4).bind fun r9 => if r9 < 0 ∨ 16 ≤ r9.toNatClampNeg then none else (if x1 < 0 ∨ 16 ≤ x1.toNatClampNeg then none else (if r9 < 0 ∨ 16 ≤ r9.toNatClampNeg then none else (D_X9_tossWays_b98 rec5 (pA σ 9 r9.toNatClampNeg ((gA σ 9 r9.toNatClampNeg) + (gA σ 8 x1.toNatClampNeg))) x1 x2 x3 x4)))) else ((D_X9_rows σ).bind fun r5 => (D_X9_isIn x2 (x5 &&& (r5 - (1 : Int32)))).bind fun r7 => if r7 = 0 then (D_X9_tossWays_b98 rec5 σ x1 x2 x3 x4) else (if x1 < 0 ∨ 16 ≤ x1.toNatClampNeg then none else (D_X9_tossWays_b98 rec5 σ x1 x2 (x3 + (gA σ 8 x1.toNatClampNeg)) x4)))
set_option maxRecDepth 100000 in
set_option maxHeartbeats 4000000 in
theorem B_X9_tossWays_b42 {x : CX} {cy : Nat → ClassId} {ad : Nat → Nat} {r : (Int32 × ST)} (E : Ev x cy cX9_tossWays RX9 7 4 93) (K : RetI x cX9_tossWays .int r.1 (wM ad cy r.2)) (rec5 : (ST × Int32 × Int32 × Int32 × Int32) → Option (Int32 × ST)) (hrec5 : ∀ a, rec5 a = some r → G x 0 0 5 [(0, .ref (ad 0)), (1, .int a.2.1), (2, .int a.2.2.1), (3, .int a.2.2.2.1), (4, .int a.2.2.2.2)] [] (wM ad cy a.1)) (σ : ST) (x1 : Int32) (x2 : Int32) (x3 : Int32) (x4 : Int32) (x5 : Int32) (s0 : Int32) (h : D_X9_tossWays_b42 rec5 σ x1 x2 x3 x4 x5 s0 = some r) : G x 0 0 42 [(0, .ref (ad 0)), (1, .int x1), (2, .int x2), (3, .int x3), (4, .int x4), (5, .int x5)] [.int s0] (wM ad cy σ) := by
  unfold D_X9_tossWays_b42 at h
  refine G.istore (lv' := [(6, .int s0), (0, .ref (ad 0)), (1, .int x1), (2, .int x2), (3, .int x3), (4, .int x4), (5, .int x5)]) E dX9_tossWays_42 (by decide) rfl ?_
  refine G.iload E dX9_tossWays_44 0 rfl ?_
  refine G.if_ne (tgt := 73) E dX9_tossWays_46 (by decide) (fun q => ?_) (fun q => ?_)
  · have h := ite_f h q
    refine G.iload_n E dX9_tossWays_73 rfl 3 rfl ?_
    refine G.iload E dX9_tossWays_74 6 rfl ?_
    refine G.aload_n E dX9_tossWays_76 rfl 1 rfl ?_
    obtain ⟨r5, h6, h⟩ := bind_s h
    refine G.retI E (runV (st := [.int x5, .int x2]) (As := []) E (C_X9_rows h6) ck_X9_rows (f868 E.fx) (f870 E.fx) (f34 E.fx) 0 9 rfl rfl rfl (by decide) (by decide) rfl (Nat.le_of_ble_eq_true rfl) dX9_tossWays_77 ⟨Nat.zero_le _, Nat.zero_le _⟩) ?_
    refine G.iconst (v := 1) E dX9_tossWays_80 (by decide) ?_
    refine G.isub E dX9_tossWays_81 ?_
    refine G.iand E dX9_tossWays_82 ?_
    obtain ⟨r7, h8, h⟩ := bind_s h
    refine G.retI E (runS (st := []) (As := [.int x2, .int (x5 &&& (r5 - (1 : Int32)))]) E (C_X9_isIn h8) ck_X9_isIn (f889 E.fx) (f890 E.fx) (by decide) (by decide) rfl (Nat.le_of_ble_eq_true rfl) dX9_tossWays_83 ⟨Nat.zero_le _, Nat.zero_le _⟩) ?_
    refine G.if_eq (tgt := 98) E dX9_tossWays_86 (by decide) (fun q => ?_) (fun q => ?_)
    · have h := ite_t h q
      refine G.sub (lv' := [(0, .ref (ad 0)), (1, .int x1), (2, .int x2), (3, .int x3), (4, .int x4)]) [1, 2, 3, 4, 5] rfl ?_
      exact B_X9_tossWays_b98 E K rec5 hrec5 σ x1 x2 x3 x4 h
    · have h := ite_f h q
      refine G.iload_n E dX9_tossWays_89 rfl 4 rfl ?_
      refine G.aload_n E dX9_tossWays_90 rfl 1 rfl ?_
      refine G.get E inX9 0 rfl rfl 20 (by decide) (f718 E.fx) rfl dX9_tossWays_91 ?_
      refine G.iload_n E dX9_tossWays_94 rfl 2 rfl ?_
      obtain ⟨hg, h⟩ := ite_n h
      refine G.iald E 9 0 rfl rfl hg dX9_tossWays_95 ?_
      refine G.iadd E dX9_tossWays_96 ?_
      refine G.istore_n (lv' := [(3, .int (x3 + (gA σ 8 x1.toNatClampNeg))), (6, .int s0), (0, .ref (ad 0)), (1, .int x1), (2, .int x2), (4, .int x4), (5, .int x5)]) E dX9_tossWays_97 rfl (by decide) rfl ?_
      refine G.sub (lv' := [(0, .ref (ad 0)), (1, .int x1), (2, .int x2), (3, .int (x3 + (gA σ 8 x1.toNatClampNeg))), (4, .int x4)]) [2, 3, 4, 0, 5] rfl ?_
      exact B_X9_tossWays_b98 E K rec5 hrec5 σ x1 x2 (x3 + (gA σ 8 x1.toNatClampNeg)) x4 h
  · have h := ite_t h q
    refine G.aload_n E dX9_tossWays_49 rfl 1 rfl ?_
    refine G.get E inX9 0 rfl rfl 21 (by decide) (f719 E.fx) rfl dX9_tossWays_50 ?_
    refine G.aload_n E dX9_tossWays_53 rfl 1 rfl ?_
    refine G.iload_n E dX9_tossWays_54 rfl 2 rfl ?_
    refine G.iload E dX9_tossWays_55 5 rfl ?_
    obtain ⟨r9, h10, h⟩ := bind_s h
    refine G.retI E (runV (st := [.ref (ad 10)]) (As := [.int x1, .int x4]) E (C_X9_behind h10) ck_X9_behind (f1022 E.fx) (f1024 E.fx) (f59 E.fx) 0 9 rfl rfl rfl (by decide) (by decide) rfl (Nat.le_of_ble_eq_true rfl) dX9_tossWays_57 ⟨Nat.zero_le _, Nat.zero_le _⟩) ?_
    refine G.dup2 E dX9_tossWays_60 rfl rfl ?_
    obtain ⟨hg, h⟩ := ite_n h
    refine G.iald E 10 0 rfl rfl hg dX9_tossWays_61 ?_
    refine G.aload_n E dX9_tossWays_62 rfl 1 rfl ?_
    refine G.get E inX9 0 rfl rfl 20 (by decide) (f718 E.fx) rfl dX9_tossWays_63 ?_
    refine G.iload_n E dX9_tossWays_66 rfl 2 rfl ?_
    obtain ⟨hg, h⟩ := ite_n h
    refine G.iald E 9 0 rfl rfl hg dX9_tossWays_67 ?_
    refine G.iadd E dX9_tossWays_68 ?_
    obtain ⟨hg, h⟩ := ite_n h
    refine G.iast (ws' := (wM ad cy (pA σ 9 r9.toNatClampNeg ((gA σ 9 r9.toNatClampNeg) + (gA σ 8 x1.toNatClampNeg))))) E 10 0 rfl rfl hg dX9_tossWays_69 (wM_aI9 ad cy _ _ _) ?_
    refine G.goto (tgt := 98) E dX9_tossWays_70 (by decide) ?_
    refine G.sub (lv' := [(0, .ref (ad 0)), (1, .int x1), (2, .int x2), (3, .int x3), (4, .int x4)]) [1, 2, 3, 4, 5] rfl ?_
    exact B_X9_tossWays_b98 E K rec5 hrec5 (pA σ 9 r9.toNatClampNeg ((gA σ 9 r9.toNatClampNeg) + (gA σ 8 x1.toNatClampNeg))) x1 x2 x3 x4 h
noncomputable def D_X9_tossWays_L5_body (rec5 : (ST × Int32 × Int32 × Int32 × Int32) → Option (Int32 × ST)) (σ : ST) (x1 : Int32) (x2 : Int32) (x3 : Int32) (x4 : Int32) : Option (Int32 × ST) := if (2 : Int32) ≤ x4 then (some (x3, σ)) else ((D_X9_rows σ).bind fun r1 => if r1 ≤ (((2 : Int32) * x1) + x4) then ((D_X9_whoHits σ (gI σ 2) (((2 : Int32) * x1) + x4)).bind fun r3 => D_X9_tossWays_b42 rec5 σ x1 x2 x3 x4 (((2 : Int32) * x1) + x4) r3) else (D_X9_tossWays_b42 rec5 σ x1 x2 x3 x4 (((2 : Int32) * x1) + x4) (0 : Int32)))
set_option maxRecDepth 100000 in
set_option maxHeartbeats 4000000 in
theorem B_X9_tossWays_L5_body {x : CX} {cy : Nat → ClassId} {ad : Nat → Nat} {r : (Int32 × ST)} (E : Ev x cy cX9_tossWays RX9 7 4 93) (K : RetI x cX9_tossWays .int r.1 (wM ad cy r.2)) (rec5 : (ST × Int32 × Int32 × Int32 × Int32) → Option (Int32 × ST)) (hrec5 : ∀ a, rec5 a = some r → G x 0 0 5 [(0, .ref (ad 0)), (1, .int a.2.1), (2, .int a.2.2.1), (3, .int a.2.2.2.1), (4, .int a.2.2.2.2)] [] (wM ad cy a.1)) (σ : ST) (x1 : Int32) (x2 : Int32) (x3 : Int32) (x4 : Int32) (h : D_X9_tossWays_L5_body rec5 σ x1 x2 x3 x4 = some r) : G x 0 0 5 [(0, .ref (ad 0)), (1, .int x1), (2, .int x2), (3, .int x3), (4, .int x4)] [] (wM ad cy σ) := by
  unfold D_X9_tossWays_L5_body at h
  refine G.iload E dX9_tossWays_5 4 rfl ?_
  refine G.iconst (v := 2) E dX9_tossWays_7 (by decide) ?_
  refine G.icmp_ge (tgt := 104) E dX9_tossWays_8 (by decide) (fun q => ?_) (fun q => ?_)
  · have h := ite_t h q
    refine G.iload_n E dX9_tossWays_104 rfl 3 rfl ?_
    obtain rfl := Option.some.inj h
    exact K rfl _ _ dX9_tossWays_105
  · have h := ite_f h q
    refine G.iconst (v := 2) E dX9_tossWays_11 (by decide) ?_
    refine G.iload_n E dX9_tossWays_12 rfl 1 rfl ?_
    refine G.imul E dX9_tossWays_13 ?_
    refine G.iload E dX9_tossWays_14 4 rfl ?_
    refine G.iadd E dX9_tossWays_16 ?_
    refine G.istore (lv' := [(5, .int (((2 : Int32) * x1) + x4)), (0, .ref (ad 0)), (1, .int x1), (2, .int x2), (3, .int x3), (4, .int x4)]) E dX9_tossWays_17 (by decide) rfl ?_
    refine G.iload E dX9_tossWays_19 0 rfl ?_
    refine G.aload_n E dX9_tossWays_21 rfl 1 rfl ?_
    obtain ⟨r1, h2, h⟩ := bind_s h
    refine G.retI E (runV (st := [.int (((2 : Int32) * x1) + x4)]) (As := []) E (C_X9_rows h2) ck_X9_rows (f868 E.fx) (f870 E.fx) (f34 E.fx) 0 9 rfl rfl rfl (by decide) (by decide) rfl (Nat.le_of_ble_eq_true rfl) dX9_tossWays_22 ⟨Nat.zero_le _, Nat.zero_le _⟩) ?_
    refine G.icmp_ge (tgt := 32) E dX9_tossWays_25 (by decide) (fun q => ?_) (fun q => ?_)
    · have h := ite_t h q
      refine G.aload_n E dX9_tossWays_32 rfl 1 rfl ?_
      refine G.aload_n E dX9_tossWays_33 rfl 1 rfl ?_
      refine G.get E inX9 0 rfl rfl 2 (by decide) (f700 E.fx) rfl dX9_tossWays_34 ?_
      refine G.iload E dX9_tossWays_37 0 rfl ?_
      obtain ⟨r3, h4, h⟩ := bind_s h
      refine G.retI E (runV (st := []) (As := [.int (gI σ 2), .int (((2 : Int32) * x1) + x4)]) E (C_X9_whoHits h4) ck_X9_whoHits (f937 E.fx) (f939 E.fx) (f46 E.fx) 0 9 rfl rfl rfl (by decide) (by decide) rfl (Nat.le_of_ble_eq_true rfl) dX9_tossWays_39 ⟨Nat.zero_le _, Nat.zero_le _⟩) ?_
      refine G.sub (lv' := [(0, .ref (ad 0)), (1, .int x1), (2, .int x2), (3, .int x3), (4, .int x4), (5, .int (((2 : Int32) * x1) + x4))]) [1, 2, 3, 4, 5, 0] rfl ?_
      exact B_X9_tossWays_b42 E K rec5 hrec5 σ x1 x2 x3 x4 (((2 : Int32) * x1) + x4) r3 h
    · have h := ite_f h q
      refine G.iconst (v := 0) E dX9_tossWays_28 (by decide) ?_
      refine G.goto (tgt := 42) E dX9_tossWays_29 (by decide) ?_
      refine G.sub (lv' := [(0, .ref (ad 0)), (1, .int x1), (2, .int x2), (3, .int x3), (4, .int x4), (5, .int (((2 : Int32) * x1) + x4))]) [1, 2, 3, 4, 5, 0] rfl ?_
      exact B_X9_tossWays_b42 E K rec5 hrec5 σ x1 x2 x3 x4 (((2 : Int32) * x1) + x4) (0 : Int32) h
noncomputable def D_X9_tossWays_L5  (σ : ST) (x1 : Int32) (x2 : Int32) (x3 : Int32) (x4 : Int32) : Option (Int32 × ST) := itr (fun (rec5 : (ST × Int32 × Int32 × Int32 × Int32) → Option (Int32 × ST)) (a : (ST × Int32 × Int32 × Int32 × Int32)) => D_X9_tossWays_L5_body rec5 a.1 a.2.1 a.2.2.1 a.2.2.2.1 a.2.2.2.2) 200 (σ, x1, x2, x3, x4)
set_option maxRecDepth 100000 in
set_option maxHeartbeats 4000000 in
theorem B_X9_tossWays_L5 {x : CX} {cy : Nat → ClassId} {ad : Nat → Nat} {r : (Int32 × ST)} (E : Ev x cy cX9_tossWays RX9 7 4 93) (K : RetI x cX9_tossWays .int r.1 (wM ad cy r.2))  (σ : ST) (x1 : Int32) (x2 : Int32) (x3 : Int32) (x4 : Int32) (h : D_X9_tossWays_L5 σ x1 x2 x3 x4 = some r) : G x 0 0 5 [(0, .ref (ad 0)), (1, .int x1), (2, .int x2), (3, .int x3), (4, .int x4)] [] (wM ad cy σ) :=
  itr_ind (P := fun a => G x 0 0 5 [(0, .ref (ad 0)), (1, .int a.2.1), (2, .int a.2.2.1), (3, .int a.2.2.2.1), (4, .int a.2.2.2.2)] [] (wM ad cy a.1)) (fun rec5 hrec5 a h => B_X9_tossWays_L5_body E K rec5 hrec5 a.1 a.2.1 a.2.2.1 a.2.2.2.1 a.2.2.2.2 h) 200 (σ, x1, x2, x3, x4) h
noncomputable def D_X9_tossWays (σ : ST) (p1 : Int32) (p2 : Int32) : Option (Int32 × ST) := D_X9_tossWays_L5 σ p1 p2 (0 : Int32) (0 : Int32)
set_option maxRecDepth 100000 in
set_option maxHeartbeats 4000000 in
theorem B_X9_tossWays {x : CX} {cy : Nat → ClassId} {ad : Nat → Nat} {r : (Int32 × ST)} (E : Ev x cy cX9_tossWays RX9 7 4 93) (K : RetI x cX9_tossWays .int r.1 (wM ad cy r.2)) (σ : ST) (p1 : Int32) (p2 : Int32) (h : D_X9_tossWays σ p1 p2 = some r) : G x 0 0 0 [(0, .ref (ad 0)), (1, .int p1), (2, .int p2)] [] (wM ad cy σ) := by
  unfold D_X9_tossWays at h
  refine G.iconst (v := 0) E dX9_tossWays_0 (by decide) ?_
  refine G.istore_n (lv' := [(3, .int (0 : Int32)), (0, .ref (ad 0)), (1, .int p1), (2, .int p2)]) E dX9_tossWays_1 rfl (by decide) rfl ?_
  refine G.iconst (v := 0) E dX9_tossWays_2 (by decide) ?_
  refine G.istore (lv' := [(4, .int (0 : Int32)), (3, .int (0 : Int32)), (0, .ref (ad 0)), (1, .int p1), (2, .int p2)]) E dX9_tossWays_3 (by decide) rfl ?_
  refine G.sub (lv' := [(0, .ref (ad 0)), (1, .int p1), (2, .int p2), (3, .int (0 : Int32)), (4, .int (0 : Int32))]) [2, 3, 4, 1, 0] rfl ?_
  exact B_X9_tossWays_L5 E K σ p1 p2 (0 : Int32) (0 : Int32) h
set_option maxRecDepth 100000 in
set_option maxHeartbeats 4000000 in
theorem C_X9_tossWays {l : Launch} {D : va_G} {cy : Nat → ClassId} {ad : Nat → Nat} {σ : ST} {p1 : Int32} {p2 : Int32} {r : (Int32 × ST)} (h : D_X9_tossWays σ p1 p2 = some r) : MI l yX9_tossWays cX9_tossWays 7 (some .int) 4 93 D cy (wM ad cy σ) [.ref (ad 0), .int p1, .int p2] r.1 (wM ad cy r.2) :=
  MI.mk (lv := [(0, .ref (ad 0)), (1, .int p1), (2, .int p2)]) (by decide) (Nat.le_of_ble_eq_true rfl) rfl (fun x _ _ E K => B_X9_tossWays E K σ p1 p2 h)
