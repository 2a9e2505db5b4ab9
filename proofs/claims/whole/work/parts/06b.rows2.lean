section CL2
variable {x : CX} {cy : Nat → ClassId} {cc : ByteArray} {own : String} {nL fr lo cs sl pc : Nat} {lv : List (Nat × Value)} {st stk : List Value} {ws ws' : va_W}
variable {y : MethodName} {cb : ByteArray} {n fr' lo' idx : Nat} {ret : Option FieldType} {As : List Value} {b : Nat} {Qk : Nat → Array Value → State → Outcome → State → Prop}
/-- invokespecial of the superclass's method -/
theorem runSU (E : Ev x cy cc own nL fr lo) (hM : MX (xL x) y cb n ret fr' lo' (xD x) cy ws (.ref b :: As) Qk) (c : CK y cb n ret As.length) (wl : va_Nw (.methodLink own idx y) (xS x)) (wm : va_Nw (.sameMethod y.cls y.cls y.name y.desc) (xS x)) (wp : va_Nw (.superclass own y.cls) (xS x)) (wi : va_Nw (.instanceMethod y) (xS x)) (hno : y.name ≠ "<init>") (q0 ci : Nat) {qc : vw_C} {fs : List Value} (hc : vwCl[ci]? = some qc) (he : ws[q0]? = some (b, .inr (ci, fs))) (h1 : fr' + 1 ≤ fr) (h2 : 8 + (n + 11) + lo' ≤ lo) (hst : stk = As.reverse ++ .ref b :: st) (hW : (st.map fun v => v.category).sum ≤ 8) (d : decode cc pc = .ok (.invokespecial idx, 3)) (hf : cs ≤ (xR x).cells ∧ sl ≤ (xR x).slots) : RunG x cs sl pc lv stk st ws Qk (Value.ref b :: As).toArray := fun H locs ls hP hD hS hl => by
  have hp := pre_of (As := .ref b :: As) E hP hD hS
  have hb := cb_of (lo' := lo') E c wl h1 h2
  obtain ⟨a1, a2, a3, a4, a5, a6, a7, a8, a9, a10, a11⟩ := hb
  exact va_runSU (C := qc.1) (rest := st) (E.k.1 ci qc hc).2 E.fix (hM H.size) ⟨⟨a1, a2, a3, a4, a5, a6⟩, nw_use wl rfl, nw_use wm rfl, nw_use wp rfl, nw_use wi rfl, a8, a7, hno, a10⟩ ⟨hp.1, va_recv E.k hP hc he, hp.2⟩ rfl rfl (by rw [hl.1]; exact E.2.2.1) hst (lv_room hW) d hf
/-- invokevirtual of x0, where the receiver's class has a method y of its own -/
theorem runU {x0 : MethodName} {c0 : ByteArray} {n0 : Nat} {r0 : Option FieldType} (E : Ev x cy cc own nL fr lo) (hM : MX (xL x) y cb n ret fr' lo' (xD x) cy ws (.ref b :: As) Qk) (c : CK y cb n ret As.length) (cx : CK x0 c0 n0 r0 As.length) (wl : va_Nw (.methodLink own idx x0) (xS x)) (wm : va_Nw (.sameMethod x0.cls x0.cls x0.name x0.desc) (xS x)) (w0 : va_Nw (.instanceMethod x0) (xS x)) {C : String} (wsl : va_Nw (.selects C x0 y) (xS x)) (wi : va_Nw (.instanceMethod y) (xS x)) (q0 ci : Nat) {qc : vw_C} {fs : List Value} (hc : vwCl[ci]? = some qc) (hC : qc.1 = C) (he : ws[q0]? = some (b, .inr (ci, fs))) (h1 : fr' + 1 ≤ fr) (h2 : 8 + (n + 11) + lo' ≤ lo) (hst : stk = As.reverse ++ .ref b :: st) (hW : (st.map fun v => v.category).sum ≤ 8) (d : decode cc pc = .ok (.invokevirtual idx, 3)) (hf : cs ≤ (xR x).cells ∧ sl ≤ (xR x).slots) : RunG x cs sl pc lv stk st ws Qk (Value.ref b :: As).toArray := fun H locs ls hP hD hS hl => by
  have hp := pre_of (As := .ref b :: As) E hP hD hS
  subst hC
  obtain ⟨c1, c2, c3, c4⟩ := c
  obtain ⟨c5, c6⟩ := c1 _ E.fx
  obtain ⟨k1, k2, k3, k4⟩ := cx
  obtain ⟨k5, k6⟩ := k1 _ E.fx
  refine va_runU (C := qc.1) (owner := x0.cls) (rest := st) E.fix (hM H.size) ⟨⟨rfl, rfl, Nat.le_trans h1 E.2.2.2.2.2.2.2.2.1, Nat.le_trans h2 E.2.2.2.2.2.2.2.2.2, ?_, List.mem_cons_self⟩, nw_use c5 rfl, nw_use c6 rfl, ⟨k2, k3⟩, fun sig h => ?_, nw_use wl rfl, nw_use wm rfl, va_Decl.of (args := xa x) (nw_use w0 rfl) (nw_use k5 rfl), nw_use wsl rfl, nw_use wi rfl⟩ ⟨hp.1, va_recv E.k hP hc he, hp.2⟩ rfl rfl (by rw [hl.1]; exact E.2.2.1) hst (lv_room hW) d hf
  · intro w hw a' U hW
    rw [List.mem_singleton] at hw
    subst hw
    exact nw_use (c1 U (FX.warm hW E.fx)).1 rfl
  · rw [h] at k4
    exact (Option.some.inj k4).symm
end CL2
def i_Mirror (k : Nat) : Option Int32 := if k = 0 then some 0 else if k = 1 then some 1 else if k = 2 then some 0 else if k = 3 then some 0 else if k = 4 then some 0 else none
def i_Other (k : Nat) : Option Int32 := if k = 0 then some 0 else if k = 1 then some 0 else if k = 2 then some 1 else if k = 3 then some 0 else if k = 4 then some 0 else none
def i_Either (k : Nat) : Option Int32 := if k = 0 then some 0 else if k = 1 then some 0 else if k = 2 then some 0 else if k = 3 then some 1 else if k = 4 then some 1 else none
def i_Both (k : Nat) : Option Int32 := if k = 0 then some 0 else if k = 1 then some 0 else if k = 2 then some 0 else if k = 3 then some 0 else if k = 4 then some 1 else none
theorem k5 {P : Nat → Prop} {f : Nat → Option Int32} {v : Int32} (hf : ∀ k, 5 ≤ k → f k = none) (h0 : f 0 = some v → P 0) (h1 : f 1 = some v → P 1) (h2 : f 2 = some v → P 2) (h3 : f 3 = some v → P 3) (h4 : f 4 = some v → P 4) {k : Nat} (h : f k = some v) : P k := by
  match k, h with
  | 0, h => exact h0 h
  | 1, h => exact h1 h
  | 2, h => exact h2 h
  | 3, h => exact h3 h
  | 4, h => exact h4 h
  | k + 5, h => rw [hf (k + 5) (by omega)] at h; cases h
section GI
variable {x : CX} {cy : Nat → ClassId} {cc : ByteArray} {own : String} {nL fr lo cs sl pc : Nat} {lv : List (Nat × Value)} {st : List Value} {ad : Nat → Nat} {σ : ST}
theorem inst_same (E : Ev x cy cc own nL fr lo) {index q0 ci a : Nat} {qc : vw_C} {fs : List Value} {ws : va_W} (w : va_Nw (.classLink own index qc.1) (xS x)) (hc : vwCl[ci]? = some qc) (he : ws[q0]? = some (a, .inr (ci, fs))) (d : decode cc pc = .ok (.instanceof index, 3)) (kk : G x cs sl (pc + 3) lv (.int 1 :: st) ws) : G x cs sl pc lv (.ref a :: st) ws := fun H locs ls hP hD hS hl => va_instS E.1 E.2.1 E.2.2.2.1 (nw_use w rfl) (E.k.1 ci qc hc).2 (va_recv E.k hP hc he) d (kk H locs ls hP hD hS hl)
theorem inst_sub (E : Ev x cy cc own nL fr lo) {index q0 ci a : Nat} {nm : String} {qc : vw_C} {fs : List Value} {ws : va_W} (w : va_Nw (.classLink own index nm) (xS x)) (wc : va_Nw (.castable qc.1 nm) (xS x)) (hc : vwCl[ci]? = some qc) (he : ws[q0]? = some (a, .inr (ci, fs))) (d : decode cc pc = .ok (.instanceof index, 3)) (kk : G x cs sl (pc + 3) lv (.int 1 :: st) ws) : G x cs sl pc lv (.ref a :: st) ws := fun H locs ls hP hD hS hl => va_instY E.1 E.2.1 E.2.2.2.1 (nw_use w rfl) wc (va_recv E.k hP hc he) d (kk H locs ls hP hD hS hl)
theorem inst_no (E : Ev x cy cc own nL fr lo) {index q0 ci a : Nat} {nm : String} {qc : vw_C} {fs : List Value} {ws : va_W} (w : va_Nw (.classLink own index nm) (xS x)) (j : Nat) (hj : NCp[j]? = some (qc.1, nm)) (hc : vwCl[ci]? = some qc) (he : ws[q0]? = some (a, .inr (ci, fs))) (d : decode cc pc = .ok (.instanceof index, 3)) (kk : G x cs sl (pc + 3) lv (.int 0 :: st) ws) : G x cs sl pc lv (.ref a :: st) ws := fun H locs ls hP hD hS hl => va_instNo E.1 E.2.1 E.2.2.2.1 (nw_use w rfl) (E.z.1 _ (List.mem_of_getElem? hj)) (va_recv E.k hP hc he) d (kk H locs ls hP hD hS hl)
theorem G.instMirror (E : Ev x cy cc own nL fr lo) {index k : Nat} {v : Int32} (w : va_Nw (.classLink own index "TossRows$Mirror") (xS x)) (h : i_Mirror k = some v) (d : decode cc pc = .ok (.instanceof index, 3)) (kk : G x cs sl (pc + 3) lv (.int v :: st) (wT ad cy σ)) : G x cs sl pc lv (.ref (ad (27 + k)) :: st) (wT ad cy σ) := by
  refine k5 (P := fun k => G x cs sl pc lv (.ref (ad (27 + k)) :: st) (wT ad cy σ)) (f := i_Mirror) (v := v) (fun k hk => ?_) ?_ ?_ ?_ ?_ ?_ h
  · simp only [i_Mirror, show ¬ k = 0 by omega, show ¬ k = 1 by omega, show ¬ k = 2 by omega, show ¬ k = 3 by omega, show ¬ k = 4 by omega, if_false]
  · intro h
    obtain rfl := Option.some.inj h
    exact inst_no (q0 := 27) (ci := 6) E w 0 rfl rfl rfl d kk
  · intro h
    obtain rfl := Option.some.inj h
    exact inst_same (q0 := 28) (ci := 3) E w rfl rfl d kk
  · intro h
    obtain rfl := Option.some.inj h
    exact inst_no (q0 := 29) (ci := 4) E w 1 rfl rfl rfl d kk
  · intro h
    obtain rfl := Option.some.inj h
    exact inst_no (q0 := 30) (ci := 2) E w 2 rfl rfl rfl d kk
  · intro h
    obtain rfl := Option.some.inj h
    exact inst_no (q0 := 31) (ci := 0) E w 3 rfl rfl rfl d kk
theorem G.instOther (E : Ev x cy cc own nL fr lo) {index k : Nat} {v : Int32} (w : va_Nw (.classLink own index "TossRows$Other") (xS x)) (h : i_Other k = some v) (d : decode cc pc = .ok (.instanceof index, 3)) (kk : G x cs sl (pc + 3) lv (.int v :: st) (wT ad cy σ)) : G x cs sl pc lv (.ref (ad (27 + k)) :: st) (wT ad cy σ) := by
  refine k5 (P := fun k => G x cs sl pc lv (.ref (ad (27 + k)) :: st) (wT ad cy σ)) (f := i_Other) (v := v) (fun k hk => ?_) ?_ ?_ ?_ ?_ ?_ h
  · simp only [i_Other, show ¬ k = 0 by omega, show ¬ k = 1 by omega, show ¬ k = 2 by omega, show ¬ k = 3 by omega, show ¬ k = 4 by omega, if_false]
  · intro h
    obtain rfl := Option.some.inj h
    exact inst_no (q0 := 27) (ci := 6) E w 4 rfl rfl rfl d kk
  · intro h
    obtain rfl := Option.some.inj h
    exact inst_no (q0 := 28) (ci := 3) E w 5 rfl rfl rfl d kk
  · intro h
    obtain rfl := Option.some.inj h
    exact inst_same (q0 := 29) (ci := 4) E w rfl rfl d kk
  · intro h
    obtain rfl := Option.some.inj h
    exact inst_no (q0 := 30) (ci := 2) E w 6 rfl rfl rfl d kk
  · intro h
    obtain rfl := Option.some.inj h
    exact inst_no (q0 := 31) (ci := 0) E w 7 rfl rfl rfl d kk
theorem G.instEither (E : Ev x cy cc own nL fr lo) {index k : Nat} {v : Int32} (w : va_Nw (.classLink own index "TossRows$Either") (xS x)) (h : i_Either k = some v) (d : decode cc pc = .ok (.instanceof index, 3)) (kk : G x cs sl (pc + 3) lv (.int v :: st) (wT ad cy σ)) : G x cs sl pc lv (.ref (ad (27 + k)) :: st) (wT ad cy σ) := by
  refine k5 (P := fun k => G x cs sl pc lv (.ref (ad (27 + k)) :: st) (wT ad cy σ)) (f := i_Either) (v := v) (fun k hk => ?_) ?_ ?_ ?_ ?_ ?_ h
  · simp only [i_Either, show ¬ k = 0 by omega, show ¬ k = 1 by omega, show ¬ k = 2 by omega, show ¬ k = 3 by omega, show ¬ k = 4 by omega, if_false]
  · intro h
    obtain rfl := Option.some.inj h
    exact inst_no (q0 := 27) (ci := 6) E w 8 rfl rfl rfl d kk
  · intro h
    obtain rfl := Option.some.inj h
    exact inst_no (q0 := 28) (ci := 3) E w 9 rfl rfl rfl d kk
  · intro h
    obtain rfl := Option.some.inj h
    exact inst_no (q0 := 29) (ci := 4) E w 10 rfl rfl rfl d kk
  · intro h
    obtain rfl := Option.some.inj h
    exact inst_same (q0 := 30) (ci := 2) E w rfl rfl d kk
  · intro h
    obtain rfl := Option.some.inj h
    exact inst_sub (q0 := 31) (ci := 0) E w (E.fx.at 1097 (by decide +kernel) rfl) rfl rfl d kk
theorem G.instBoth (E : Ev x cy cc own nL fr lo) {index k : Nat} {v : Int32} (w : va_Nw (.classLink own index "TossRows$Both") (xS x)) (h : i_Both k = some v) (d : decode cc pc = .ok (.instanceof index, 3)) (kk : G x cs sl (pc + 3) lv (.int v :: st) (wT ad cy σ)) : G x cs sl pc lv (.ref (ad (27 + k)) :: st) (wT ad cy σ) := by
  refine k5 (P := fun k => G x cs sl pc lv (.ref (ad (27 + k)) :: st) (wT ad cy σ)) (f := i_Both) (v := v) (fun k hk => ?_) ?_ ?_ ?_ ?_ ?_ h
  · simp only [i_Both, show ¬ k = 0 by omega, show ¬ k = 1 by omega, show ¬ k = 2 by omega, show ¬ k = 3 by omega, show ¬ k = 4 by omega, if_false]
  · intro h
    obtain rfl := Option.some.inj h
    exact inst_no (q0 := 27) (ci := 6) E w 11 rfl rfl rfl d kk
  · intro h
    obtain rfl := Option.some.inj h
    exact inst_no (q0 := 28) (ci := 3) E w 12 rfl rfl rfl d kk
  · intro h
    obtain rfl := Option.some.inj h
    exact inst_no (q0 := 29) (ci := 4) E w 13 rfl rfl rfl d kk
  · intro h
    obtain rfl := Option.some.inj h
    exact inst_no (q0 := 30) (ci := 2) E w 14 rfl rfl rfl d kk
  · intro h
    obtain rfl := Option.some.inj h
    exact inst_same (q0 := 31) (ci := 0) E w rfl rfl d kk
end GI
def D_indexOf (c : Int32) : Option Int32 := if c = 112 then some 0 else if c = 109 then some 1 else if c = 111 then some 2 else if c = 101 then some 3 else if c = 98 then some 4 else some (-1)
theorem G.ldcS {x : CX} {cy : Nat → ClassId} {cc : ByteArray} {nL fr lo cs sl pc : Nat} {lv : List (Nat × Value)} {st : List Value} {ws : va_W} (E : Ev x cy cc RX5 nL fr lo) (d : decode cc pc = .ok (.ldc 37, 2)) (kk : G x cs sl (pc + 2) lv (.ref (cy 7) :: st) ws) : G x cs sl pc lv st ws := fun H locs ls hP hD hS hl => va_ldcS E.1 E.2.1 E.2.2.2.1 E.z.2.1 d (kk H locs ls hP hD hS hl)
