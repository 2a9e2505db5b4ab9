/-! Contracts over whole worlds, and calls. -/
def Pcx (D : va_G) (cy : Nat → ClassId) (ws : va_W) (sz : Nat) (As : List Value) : Array Value → State → Prop := va_Pc As (fun U => U.heap.size = sz ∧ va_P D vwCl ws U.heap ∧ va_K D vwCl (TY cy) U ∧ va_D (fun _ => True) ws ∧ FX U ∧ ZX cy (va_A ws sz) U U.heap)
def Bx (D : va_G) (A : Nat → Prop) (ws' : va_W) (t : State) : Prop := va_P D vwCl ws' t.heap ∧ va_D A ws'
abbrev RM (fr lo : Nat) : Room := { frames := fr, cells := 0, slots := 0, locals := lo }
/-- method y at launch l, from the world ws with arguments As: its end is told by Qk -/
def MX (l : Launch) (y : MethodName) (cb : ByteArray) (n : Nat) (ret : Option FieldType) (fr lo : Nat) (D : va_G) (cy : Nat → ClassId) (ws : va_W) (As : List Value) (Qk : Nat → Array Value → State → Outcome → State → Prop) : Prop := ∀ sz : Nat, Met l y [.code y cb n ret] (RM fr lo) (Pcx D cy ws sz As) (Qk sz) 0 0 (va_A ws sz)
def QI (D : va_G) (ws ws' : va_W) (v : Int32) (sz : Nat) : Array Value → State → Outcome → State → Prop := va_Qi (fun (r : Int32) (_ : Unit) => r = v) (fun _ t => Bx D (va_A ws sz) ws' t) (va_A ws sz)
def QL (D : va_G) (ws ws' : va_W) (v : Int64) (sz : Nat) : Array Value → State → Outcome → State → Prop := va_Ql (fun (r : Int64) (_ : Unit) => r = v) (fun _ t => Bx D (va_A ws sz) ws' t) (va_A ws sz)
def QV (D : va_G) (ws ws' : va_W) (sz : Nat) : Array Value → State → Outcome → State → Prop := va_Qv (fun (_ : Unit) => True) (fun _ t => Bx D (va_A ws sz) ws' t) (va_A ws sz)
def QR (D : va_G) (ws ws' : va_W) (b : Nat) (sz : Nat) : Array Value → State → Outcome → State → Prop := va_Qr (fun (_ : Unit) => True) (fun _ a t => a = b ∧ Bx D (va_A ws sz) ws' t) (va_A ws sz)
abbrev MI (l : Launch) (y : MethodName) (cb : ByteArray) (n : Nat) (ret : Option FieldType) (fr lo : Nat) (D : va_G) (cy : Nat → ClassId) (ws : va_W) (As : List Value) (v : Int32) (ws' : va_W) : Prop := MX l y cb n ret fr lo D cy ws As (QI D ws ws' v)
abbrev ML (l : Launch) (y : MethodName) (cb : ByteArray) (n : Nat) (ret : Option FieldType) (fr lo : Nat) (D : va_G) (cy : Nat → ClassId) (ws : va_W) (As : List Value) (v : Int64) (ws' : va_W) : Prop := MX l y cb n ret fr lo D cy ws As (QL D ws ws' v)
abbrev MV (l : Launch) (y : MethodName) (cb : ByteArray) (n : Nat) (ret : Option FieldType) (fr lo : Nat) (D : va_G) (cy : Nat → ClassId) (ws : va_W) (As : List Value) (ws' : va_W) : Prop := MX l y cb n ret fr lo D cy ws As (QV D ws ws')
abbrev MR (l : Launch) (y : MethodName) (cb : ByteArray) (n : Nat) (ret : Option FieldType) (fr lo : Nat) (D : va_G) (cy : Nat → ClassId) (ws : va_W) (As : List Value) (b : Nat) (ws' : va_W) : Prop := MX l y cb n ret fr lo D cy ws As (QR D ws ws' b)
/-- the method's end from any place of its code -/
def RetI (x : CX) (cc : ByteArray) (ty : FieldType) (v : Int32) (ws : va_W) : Prop := narrow ty (.int v) = .int v → ∀ (pc : Nat) (lv : List (Nat × Value)), decode cc pc = .ok (.ireturn, 1) → G x 0 0 pc lv [.int v] ws
def RetL (x : CX) (cc : ByteArray) (v : Int64) (ws : va_W) : Prop := ∀ (pc : Nat) (lv : List (Nat × Value)), decode cc pc = .ok (.lreturn, 1) → G x 0 0 pc lv [.long v] ws
def RetV (x : CX) (cc : ByteArray) (ws : va_W) : Prop := ∀ (pc : Nat) (lv : List (Nat × Value)), decode cc pc = .ok (.return_, 1) → G x 0 0 pc lv [] ws
def RetR (x : CX) (cc : ByteArray) (b : Nat) (ws : va_W) : Prop := ∀ (pc : Nat) (lv : List (Nat × Value)), decode cc pc = .ok (.areturn, 1) → G x 0 0 pc lv [.ref b] ws
theorem Pcx.blind {D : va_G} {cy : Nat → ClassId} {ws : va_W} {sz : Nat} {As : List Value} : FrameBlind (Pcx D cy ws sz As) := fun a U g mk h => by
  obtain ⟨h1, h2, h3, h4, h5, h6, h7⟩ := h
  exact ⟨h1, h2, h3, va_K.moved (u := U) (U := U.calling g mk a) (Vm.Alike.refl U.vm) h4, h5, FX.same (s := U) (U := U.calling g mk a) rfl h6, ZX.same (s := U) (U := U.calling g mk a) rfl h7⟩
section MK
variable {l : Launch} {y : MethodName} {cc : ByteArray} {n fr lo : Nat} {D : va_G} {cy : Nat → ClassId} {ws ws' : va_W} {As : List Value} {lv : List (Nat × Value)}
theorem MI.mk {ty : FieldType} {v : Int32} (hy : plainName y.cls = true) (hn : (lg_sl As).length ≤ n) (hlv : lv_args 0 As = lv) (body : ∀ x : CX, xL x = l → xD x = D → Ev x cy cc y.cls n fr lo → RetI x cc ty v ws' → G x 0 0 0 lv [] ws) : MI l y cc n (some ty) fr lo D cy ws As v ws' := by
  intro sz
  refine Met.ofW (cc := cc) (maxL := n) (ret := some ty) hy rfl ?_
  intro p e s m args below meth c s₁ B hml hv
  obtain ⟨rfl, hsz, hP, hK, hD0, hF, hZ⟩ := hv
  subst hsz
  have hx := B.exec
  have hb := B.bytes
  have hr := B.returns
  have hlocks := B.notSynchronized
  have hown : s.vm.findClass y.cls = some m.cls := findClass_of_methodNamed B.named
  have hl := lv_entry As hn
  rw [lg_entry_eq]
  refine body (p, l, e, RM fr lo, s, m, As.toArray, below, meth, c, D, va_A ws s.heap.size, MQ below (QI D ws ws' v s.heap.size) As.toArray s 0 0 (va_A ws s.heap.size)) rfl rfl ⟨hx, hb, hml, hown, hF, hK, fun q h => Or.inr h, hZ, Nat.le_refl _, Nat.le_refl _⟩ ?_ s.heap [] _ hP hD0.self va_S.rf ?_
  · intro hnv pc lv9 d H locs ls hP9 hD9 hS9 _
    exact W.zret (v := v) (ty := ty) hx hb hr hnv (fun t ht hW => ⟨⟨v, (), rfl, rfl, by rw [ht]; exact hP9, hD9⟩, hS9.F ht⟩) hS9.2.2 d
  · show lv_has _ c.maxLocals lv
    rw [hml, ← hlv]
    exact hl
theorem ML.mk {v : Int64} (hy : plainName y.cls = true) (hn : (lg_sl As).length ≤ n) (hlv : lv_args 0 As = lv) (body : ∀ x : CX, xL x = l → xD x = D → Ev x cy cc y.cls n fr lo → RetL x cc v ws' → G x 0 0 0 lv [] ws) : ML l y cc n (some .long) fr lo D cy ws As v ws' := by
  intro sz
  refine Met.ofW (cc := cc) (maxL := n) (ret := some .long) hy rfl ?_
  intro p e s m args below meth c s₁ B hml hv
  obtain ⟨rfl, hsz, hP, hK, hD0, hF, hZ⟩ := hv
  subst hsz
  have hx := B.exec
  have hb := B.bytes
  have hr := B.returns
  have hlocks := B.notSynchronized
  have hown : s.vm.findClass y.cls = some m.cls := findClass_of_methodNamed B.named
  have hl := lv_entry As hn
  rw [lg_entry_eq]
  refine body (p, l, e, RM fr lo, s, m, As.toArray, below, meth, c, D, va_A ws s.heap.size, MQ below (QL D ws ws' v s.heap.size) As.toArray s 0 0 (va_A ws s.heap.size)) rfl rfl ⟨hx, hb, hml, hown, hF, hK, fun q h => Or.inr h, hZ, Nat.le_refl _, Nat.le_refl _⟩ ?_ s.heap [] _ hP hD0.self va_S.rf ?_
  · intro pc lv9 d H locs ls hP9 hD9 hS9 _
    exact W.lret (v := v) hx hb hr (fun t ht hW => ⟨⟨v, (), rfl, rfl, by rw [ht]; exact hP9, hD9⟩, hS9.F ht⟩) hS9.2.2 d
  · show lv_has _ c.maxLocals lv
    rw [hml, ← hlv]
    exact hl
theorem MV.mk (hy : plainName y.cls = true) (hn : (lg_sl As).length ≤ n) (hlv : lv_args 0 As = lv) (body : ∀ x : CX, xL x = l → xD x = D → Ev x cy cc y.cls n fr lo → RetV x cc ws' → G x 0 0 0 lv [] ws) : MV l y cc n none fr lo D cy ws As ws' := by
  intro sz
  refine Met.ofW (cc := cc) (maxL := n) (ret := none) hy rfl ?_
  intro p e s m args below meth c s₁ B hml hv
  obtain ⟨rfl, hsz, hP, hK, hD0, hF, hZ⟩ := hv
  subst hsz
  have hx := B.exec
  have hb := B.bytes
  have hr := B.returns
  have hlocks := B.notSynchronized
  have hown : s.vm.findClass y.cls = some m.cls := findClass_of_methodNamed B.named
  have hl := lv_entry As hn
  rw [lg_entry_eq]
  refine body (p, l, e, RM fr lo, s, m, As.toArray, below, meth, c, D, va_A ws s.heap.size, MQ below (QV D ws ws' s.heap.size) As.toArray s 0 0 (va_A ws s.heap.size)) rfl rfl ⟨hx, hb, hml, hown, hF, hK, fun q h => Or.inr h, hZ, Nat.le_refl _, Nat.le_refl _⟩ ?_ s.heap [] _ hP hD0.self va_S.rf ?_
  · intro pc lv9 d H locs ls hP9 hD9 hS9 _
    exact W.vret hx hb hr (fun t ht hW => ⟨⟨(), rfl, trivial, by rw [ht]; exact hP9, hD9⟩, hS9.F ht⟩) hS9.2.2 d
  · show lv_has _ c.maxLocals lv
    rw [hml, ← hlv]
    exact hl
theorem MR.mk {C : String} {b : Nat} (hy : plainName y.cls = true) (hn : (lg_sl As).length ≤ n) (hlv : lv_args 0 As = lv) (body : ∀ x : CX, xL x = l → xD x = D → Ev x cy cc y.cls n fr lo → RetR x cc b ws' → G x 0 0 0 lv [] ws) : MR l y cc n (some (.object C)) fr lo D cy ws As b ws' := by
  intro sz
  refine Met.ofW (cc := cc) (maxL := n) (ret := some (.object C)) hy rfl ?_
  intro p e s m args below meth c s₁ B hml hv
  obtain ⟨rfl, hsz, hP, hK, hD0, hF, hZ⟩ := hv
  subst hsz
  have hx := B.exec
  have hb := B.bytes
  have hr := B.returns
  have hlocks := B.notSynchronized
  have hown : s.vm.findClass y.cls = some m.cls := findClass_of_methodNamed B.named
  have hl := lv_entry As hn
  rw [lg_entry_eq]
  refine body (p, l, e, RM fr lo, s, m, As.toArray, below, meth, c, D, va_A ws s.heap.size, MQ below (QR D ws ws' b s.heap.size) As.toArray s 0 0 (va_A ws s.heap.size)) rfl rfl ⟨hx, hb, hml, hown, hF, hK, fun q h => Or.inr h, hZ, Nat.le_refl _, Nat.le_refl _⟩ ?_ s.heap [] _ hP hD0.self va_S.rf ?_
  · intro pc lv9 d H locs ls hP9 hD9 hS9 _
    exact W.aret (v := .ref b) hx hb hr (Or.inl ⟨_, rfl⟩) (Or.inr ⟨_, rfl⟩) (fun t ht hW => ⟨⟨(), b, rfl, trivial, rfl, by rw [ht]; exact hP9, hD9⟩, hS9.F ht⟩) hS9.2.2 d
  · show lv_has _ c.maxLocals lv
    rw [hml, ← hlv]
    exact hl
end MK
section CL
variable {x : CX} {cy : Nat → ClassId} {cc : ByteArray} {own : String} {nL fr lo cs sl pc : Nat} {lv : List (Nat × Value)} {st stk : List Value} {ws ws' : va_W}
/-- a call's run, from any heap that holds the world -/
def RunG (x : CX) (cs sl pc : Nat) (lv : List (Nat × Value)) (stk st : List Value) (ws : va_W) (Qk : Nat → Array Value → State → Outcome → State → Prop) (av : Array Value) : Prop := ∀ (H : Heap) (locs : List Loc) (ls : Array Slot), va_P (xD x) vwCl ws H → va_D (xA x) ws → va_S (xA x) (xS x).heap H locs → lv_has ls (xc x).maxLocals lv → va_Run (xP x) (xL x) (xE x) (xR x) (xS x) (xM x) (xa x) (xb x) (xm x) (xc x) H locs cs sl 0 0 (F0 (xM x) pc ls stk) st (Qk H.size av) (va_A ws H.size)
theorem va_Afree {A : Nat → Prop} {ws : va_W} {H0 H : Heap} {locs : List Loc} (hD : va_D A ws) (hS : va_S A H0 H locs) (hA : ∀ q, H0.size ≤ q → A q) : ∀ q, va_A ws H.size q → A q := fun q h => by
  rcases h with ⟨k, e, hk⟩ | h
  · exact hD.2 k _ hk
  · exact hA q (Nat.le_trans hS.1 h)
theorem pre_of (E : Ev x cy cc own nL fr lo) {As : List Value} {H : Heap} {locs : List Loc} (hP : va_P (xD x) vwCl ws H) (hD : va_D (xA x) ws) (hS : va_S (xA x) (xS x).heap H locs) : PreS (xS x) H (Pcx (xD x) cy ws H.size As) As := by
  refine ⟨Pcx.blind, fun U hU hW => ⟨rfl, by rw [hU], by rw [hU]; exact hP, va_K.moved hW.alike E.k, hD.weaken (fun _ _ _ _ => trivial), FX.warm hW E.fx, ?_⟩⟩
  rw [hU]
  exact ((ZX.warm hW E.z).kept (fun a h1 h2 => hS.2.1 a h1 h2)).narrow (va_Afree hD hS E.2.2.2.2.2.2.1)
theorem G.retI {v : Int32} {av : Array Value} (E : Ev x cy cc own nL fr lo) (hr : RunG x cs sl pc lv stk st ws (QI (xD x) ws ws' v) av) (k : G x cs sl (pc + 3) lv (.int v :: st) ws') : G x cs sl pc lv stk ws := fun H locs ls hP hD hS hl => by
  have hF := va_Afree hD hS E.2.2.2.2.2.2.1
  refine va_calli (hr H locs ls hP hD hS hl) hS (fun q _ h => hF q h) hF (fun r u t H1 locs1 ht hvm hw hB hz hk hS1 => ?_)
  obtain ⟨hP1, hD1⟩ := hB
  subst hw
  rw [ht] at hP1
  exact k H1 locs1 ls hP1 (hD1.weaken (fun _ _ _ h => hF _ h)) hS1 hl
theorem G.retL {v : Int64} {av : Array Value} (E : Ev x cy cc own nL fr lo) (hr : RunG x cs sl pc lv stk st ws (QL (xD x) ws ws' v) av) (k : G x cs sl (pc + 3) lv (.long v :: st) ws') : G x cs sl pc lv stk ws := fun H locs ls hP hD hS hl => by
  have hF := va_Afree hD hS E.2.2.2.2.2.2.1
  refine va_calll (hr H locs ls hP hD hS hl) hS (fun q _ h => hF q h) hF (fun r u t H1 locs1 ht hvm hw hB hz hk hS1 => ?_)
  obtain ⟨hP1, hD1⟩ := hB
  subst hw
  rw [ht] at hP1
  exact k H1 locs1 ls hP1 (hD1.weaken (fun _ _ _ h => hF _ h)) hS1 hl
theorem G.retV {av : Array Value} (E : Ev x cy cc own nL fr lo) (hr : RunG x cs sl pc lv stk st ws (QV (xD x) ws ws') av) (k : G x cs sl (pc + 3) lv st ws') : G x cs sl pc lv stk ws := fun H locs ls hP hD hS hl => by
  have hF := va_Afree hD hS E.2.2.2.2.2.2.1
  refine va_callv (hr H locs ls hP hD hS hl) hS (fun q _ h => hF q h) hF (fun u t H1 locs1 ht hvm hw hB hz hk hS1 => ?_)
  obtain ⟨hP1, hD1⟩ := hB
  rw [ht] at hP1
  exact k H1 locs1 ls hP1 (hD1.weaken (fun _ _ _ h => hF _ h)) hS1 hl
theorem G.retR {b : Nat} {av : Array Value} (E : Ev x cy cc own nL fr lo) (hr : RunG x cs sl pc lv stk st ws (QR (xD x) ws ws' b) av) (k : G x cs sl (pc + 3) lv (.ref b :: st) ws') : G x cs sl pc lv stk ws := fun H locs ls hP hD hS hl => by
  have hF := va_Afree hD hS E.2.2.2.2.2.2.1
  refine va_callr (hr H locs ls hP hD hS hl) hS (fun q _ h => hF q h) hF (fun u ra t H1 locs1 ht hvm hw hB hz hk hS1 => ?_)
  obtain ⟨rfl, hP1, hD1⟩ := hB
  rw [ht] at hP1
  exact k H1 locs1 ls hP1 (hD1.weaken (fun _ _ _ h => hF _ h)) hS1 hl
variable {y : MethodName} {cb : ByteArray} {n fr' lo' idx : Nat} {ret : Option FieldType} {As : List Value} {b : Nat} {Qk : Nat → Array Value → State → Outcome → State → Prop}
/-- what a call needs of the callee's words -/
def CK (y : MethodName) (cb : ByteArray) (n : Nat) (ret : Option FieldType) (k : Nat) : Prop := (∀ U : State, FX U → va_Nw (.code y cb n ret) U ∧ va_Nw (.initialized y.cls) U) ∧ (y.cls ≠ "java/lang/invoke/MethodHandle" ∧ y.cls ≠ "java/lang/invoke/VarHandle" ∧ (parseMethodDescriptor y.desc).map (fun d => d.parameters.length) = some k)
theorem cb_of (E : Ev x cy cc own nL fr lo) (c : CK y cb n ret As.length) (wl : va_Nw (.methodLink own idx y) (xS x)) (h1 : fr' + 1 ≤ fr) (h2 : 8 + (n + 11) + lo' ≤ lo) : CallB (xR x) (xS x) (xa x) own idx y cb n ret [.code y cb n ret] (RM fr' lo') 0 0 As.length := by
  obtain ⟨c1, c2, c3, c4⟩ := c
  obtain ⟨c5, c6⟩ := c1 _ E.fx
  refine ⟨rfl, rfl, Nat.le_trans h1 E.2.2.2.2.2.2.2.2.1, Nat.le_trans h2 E.2.2.2.2.2.2.2.2.2, ?_, List.mem_cons_self, nw_use c5 rfl, nw_use c6 rfl, ⟨c2, c3⟩, fun sig h => ?_, nw_use wl rfl⟩
  · intro w hw a' U hW
    rw [List.mem_singleton] at hw
    subst hw
    exact nw_use (c1 U (FX.warm hW E.fx)).1 rfl
  · rw [h] at c4
    exact (Option.some.inj c4).symm
theorem cn_of {host : String} (E : Ev x cy cc own nL fr lo) (c : CK y cb n ret As.length) (wl : va_Nw (.methodLinkNest own idx y host) (xS x)) (h1 : fr' + 1 ≤ fr) (h2 : 8 + (n + 11) + lo' ≤ lo) : va_CN (xR x) (xS x) (xa x) own idx y host cb n ret [.code y cb n ret] (RM fr' lo') 0 0 As.length := by
  obtain ⟨c1, c2, c3, c4⟩ := c
  obtain ⟨c5, c6⟩ := c1 _ E.fx
  refine ⟨⟨rfl, rfl, Nat.le_trans h1 E.2.2.2.2.2.2.2.2.1, Nat.le_trans h2 E.2.2.2.2.2.2.2.2.2, ?_, List.mem_cons_self⟩, nw_use c5 rfl, nw_use c6 rfl, ⟨c2, c3⟩, fun sig h => ?_, nw_use wl rfl⟩
  · intro w hw a' U hW
    rw [List.mem_singleton] at hw
    subst hw
    exact nw_use (c1 U (FX.warm hW E.fx)).1 rfl
  · rw [h] at c4
    exact (Option.some.inj c4).symm
theorem Ev.fix (E : Ev x cy cc own nL fr lo) : CallFix (xP x) (xM x) (xc x) cc nL (xS x) (xa x) [] own := ⟨E.1, E.2.1, E.2.2.1, E.2.2.2.1, fun _ h => absurd h List.not_mem_nil⟩
/-- invokevirtual of a method of the receiver's own class -/
theorem runV (E : Ev x cy cc own nL fr lo) (hM : MX (xL x) y cb n ret fr' lo' (xD x) cy ws (.ref b :: As) Qk) (c : CK y cb n ret As.length) (wl : va_Nw (.methodLink own idx y) (xS x)) (wi : va_Nw (.instanceMethod y) (xS x)) {C : String} (wsl : va_Nw (.selects C y y) (xS x)) (q0 ci : Nat) {qc : vw_C} {fs : List Value} (hc : vwCl[ci]? = some qc) (hC : qc.1 = C) (he : ws[q0]? = some (b, .inr (ci, fs))) (h1 : fr' + 1 ≤ fr) (h2 : 8 + (n + 11) + lo' ≤ lo) (hst : stk = As.reverse ++ .ref b :: st) (hW : (st.map fun v => v.category).sum ≤ 8) (d : decode cc pc = .ok (.invokevirtual idx, 3)) (hf : cs ≤ (xR x).cells ∧ sl ≤ (xR x).slots) : RunG x cs sl pc lv stk st ws Qk (Value.ref b :: As).toArray := fun H locs ls hP hD hS hl => by
  have hp := pre_of (As := .ref b :: As) E hP hD hS
  subst hC
  exact va_runV (C := qc.1) (rest := st) E.fix (hM H.size) ⟨cb_of (lo' := lo') E c wl h1 h2, nw_use wi rfl, nw_use wsl rfl⟩ ⟨hp.1, va_recv E.k hP hc he, hp.2⟩ rfl rfl (by rw [hl.1]; exact E.2.2.1) hst (lv_room hW) d hf
/-- invokestatic in the same class, or of a class that may be called -/
theorem runS (E : Ev x cy cc own nL fr lo) (hM : MX (xL x) y cb n ret fr' lo' (xD x) cy ws As Qk) (c : CK y cb n ret As.length) (wl : va_Nw (.methodLink own idx y) (xS x)) (wi : va_Nw (.static y) (xS x)) (h1 : fr' + 1 ≤ fr) (h2 : 8 + (n + 11) + lo' ≤ lo) (hst : stk = As.reverse ++ st) (hW : (st.map fun v => v.category).sum ≤ 8) (d : decode cc pc = .ok (.invokestatic idx, 3)) (hf : cs ≤ (xR x).cells ∧ sl ≤ (xR x).slots) : RunG x cs sl pc lv stk st ws Qk As.toArray := fun H locs ls hP hD hS hl => by
  have hp := pre_of (As := As) E hP hD hS
  exact va_runS (rest := st) E.fix (hM H.size) ⟨cb_of (lo' := lo') E c wl h1 h2, nw_use wi rfl⟩ hp rfl rfl (by rw [hl.1]; exact E.2.2.1) hst (lv_room hW) d hf
/-- invokestatic of a nest mate's private method -/
theorem runSN {host : String} (E : Ev x cy cc own nL fr lo) (hM : MX (xL x) y cb n ret fr' lo' (xD x) cy ws As Qk) (c : CK y cb n ret As.length) (wl : va_Nw (.methodLinkNest own idx y host) (xS x)) (wi : va_Nw (.static y) (xS x)) (h1 : fr' + 1 ≤ fr) (h2 : 8 + (n + 11) + lo' ≤ lo) (hst : stk = As.reverse ++ st) (hW : (st.map fun v => v.category).sum ≤ 8) (d : decode cc pc = .ok (.invokestatic idx, 3)) (hf : cs ≤ (xR x).cells ∧ sl ≤ (xR x).slots) : RunG x cs sl pc lv stk st ws Qk As.toArray := fun H locs ls hP hD hS hl => by
  have hp := pre_of (As := As) E hP hD hS
  exact va_runSN (rest := st) E.fix (hM H.size) ⟨cn_of (lo' := lo') E c wl h1 h2, nw_use wi rfl, trivial⟩ hp rfl rfl (by rw [hl.1]; exact E.2.2.1) hst (lv_room hW) d hf
end CL
