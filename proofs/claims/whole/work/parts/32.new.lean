/-! Making objects and arrays. -/
theorem ao_spec {s : State} {t : FieldType} (h : va_AOA t s) : ∃ comp c k, s.vm.findClass (FieldType.array t).toString = some comp ∧ (s.vm.classes.findIdx? fun (x : Class) => match x.kind with | .array component _ => component == comp | _ => false) = some c ∧ s.vm.classes[c]? = some k ∧ k.kind = .array comp (.array t) ∧ s.vm.findClass ("[" ++ (FieldType.array t).toString) = some c := by
  unfold va_AOA Cond.before at h
  simp only [Cond.holds, Cond.value, beq_iff_eq] at h
  cases hc : s.vm.findClass (FieldType.array t).toString with
  | none => simp [hc] at h
  | some comp =>
    simp only [hc, Option.bind_some, Option.bind_eq_some_iff, Option.map_eq_some_iff] at h
    obtain ⟨c, hi, k, hk, hb⟩ := h
    obtain ⟨hlt, hp, -⟩ := Array.findIdx?_eq_some_iff_getElem.mp hi
    have hkk : s.vm.classes[c] = k := (Array.getElem?_eq_some_iff.mp hk).2
    rw [hkk] at hp
    cases hkind : k.kind with
    | array component ty =>
      rw [hkind] at hb hp
      simp at hb hp
      exact ⟨comp, c, k, rfl, hi, hk, by rw [hkind, hp, hb.1], hb.2⟩
    | _ => rw [hkind] at hb; simp at hb
theorem va_AOA.moved {t : FieldType} {u U : State} (hvm : u.vm.Alike U.vm) (h : va_AOA t u) : va_AOA t U := by
  obtain ⟨comp, c, k, h1, h2, h3, h4, h5⟩ := ao_spec h
  obtain ⟨k', hk', he⟩ := hvm.2.2 _ _ h3
  have hi : (U.vm.classes.findIdx? fun (x : Class) => match x.kind with | .array component _ => component == comp | _ => false) = some c := by
    refine Eq.trans (va_idx_bare U.vm comp).symm ?_
    first | rw [hvm.bare_eq] | rw [← hvm.bare_eq]
    refine Eq.trans (va_idx_bare u.vm comp) ?_
    exact h2
  have hkind : k'.kind = .array comp (.array t) := by rw [he]; exact h4
  have f1 : U.vm.findClass (FieldType.array t).toString = some comp := by rw [hvm.findClass]; exact h1
  have f2 : U.vm.findClass ("[" ++ (FieldType.array t).toString) = some c := by rw [hvm.findClass]; exact h5
  unfold va_AOA Cond.before Cond.holds
  simp only [Cond.value]
  rw [f1, Option.bind_some]
  refine (congrArg (fun o : Option Nat => (o.bind (fun c => (U.vm.classes[c]?).map fun (k : Class) => match k.kind with | .array _ ty => decide (ty = FieldType.array t) && decide (U.vm.findClass ("[" ++ (FieldType.array t).toString) = some c) | _ => false) == some true)) hi).trans ?_
  simp [hk', hkind, f2]
def AX (U : State) : Prop := (∀ ty ∈ [FieldType.int, .char, .boolean, .long, .byte], (Cond.arrayClass ty).before #[] U = true) ∧ va_AO "TossRows$Plain" U ∧ va_AOA .long U
theorem AX.warm {s U : State} (hW : s.WarmedH U.vm) (h : AX s) : AX U := ⟨fun ty ht => word_at (args := #[]) (a' := #[]) hW (Or.inr ⟨ty, rfl⟩) (h.1 ty ht), h.2.1.moved hW.alike, h.2.2.moved hW.alike⟩
theorem AX.calling {U : State} {g : JFrame} {mk : MethodId} {a : Array Value} (h : AX U) : AX (U.calling g mk a) := ⟨fun ty ht => h.1 ty ht, va_AO.moved (u := U) (U := U.calling g mk a) (Vm.Alike.refl U.vm) h.2.1, va_AOA.moved (u := U) (U := U.calling g mk a) (Vm.Alike.refl U.vm) h.2.2⟩
theorem va_RA.uniq {U : State} {c1 c2 : ClassId} {ty : FieldType} (h1 : va_RA U c1 ty) (h2 : va_RA U c2 ty) : c1 = c2 := by
  cases ty <;> first | (exact Option.some.inj (Eq.trans (Eq.symm h1) h2)) | (obtain ⟨_, _, _, _, _, a⟩ := h1; obtain ⟨_, _, _, _, _, b⟩ := h2; exact Option.some.inj (a.symm.trans b))
def Pcn (D : va_G) (cy : Nat → ClassId) (ws : va_W) (sz : Nat) (As : List Value) : Array Value → State → Prop := va_Pc As (fun U => U.heap.size = sz ∧ va_P D vwCl ws U.heap ∧ va_K D vwCl (TY cy) U ∧ va_D (fun _ => True) ws ∧ FX U ∧ ZX cy (va_A ws sz) U U.heap ∧ AX U)
theorem Pcn.blind {D : va_G} {cy : Nat → ClassId} {ws : va_W} {sz : Nat} {As : List Value} : FrameBlind (Pcn D cy ws sz As) := fun a U g mk h => by
  obtain ⟨h1, h2, h3, h4, h5, h6, h7, h8⟩ := h
  exact ⟨h1, h2, h3, va_K.moved (u := U) (U := U.calling g mk a) (Vm.Alike.refl U.vm) h4, h5, FX.same (s := U) (U := U.calling g mk a) rfl h6, ZX.same (s := U) (U := U.calling g mk a) rfl h7, h8.calling⟩
/-- a constructor: from the world ws it comes to the world ws' f, f the new addresses; mc cells of ms slots are new -/
def MN (l : Launch) (y : MethodName) (cb : ByteArray) (n fr lo mc ms : Nat) (D : va_G) (cy : Nat → ClassId) (ws : va_W) (As : List Value) (ws' : (Nat → Nat) → va_W) : Prop := ∀ sz : Nat, Met l y [.code y cb n none] { frames := fr, cells := mc, slots := ms, locals := lo } (Pcn D cy ws sz As) (va_Qv (fun (_ : Nat → Nat) => True) (fun f t => Bx D (va_A ws sz) (ws' f) t) (va_A ws sz)) mc ms (va_A ws sz)
theorem MN.mk {l : Launch} {y : MethodName} {cc : ByteArray} {n fr lo mc ms : Nat} {D : va_G} {cy : Nat → ClassId} {ws : va_W} {ws' : (Nat → Nat) → va_W} {As : List Value} {lv : List (Nat × Value)} (hy : plainName y.cls = true) (hn : (lg_sl As).length ≤ n) (hlv : lv_args 0 As = lv) (body : ∀ x : CX, xL x = l → xD x = D → Ev x cy cc y.cls n fr lo → AX (xS x) → (xm x).name = y.name → (mc ≤ (xR x).cells ∧ ms ≤ (xR x).slots) → (∀ (f : Nat → Nat) (pc : Nat) (lv : List (Nat × Value)), decode cc pc = .ok (.return_, 1) → G x mc ms pc lv [] (ws' f)) → G x 0 0 0 lv [] ws) : MN l y cc n fr lo mc ms D cy ws As ws' := by
  intro sz
  refine Met.ofW (cc := cc) (maxL := n) (ret := none) hy rfl ?_
  intro p e s m args below meth c s₁ B hml hv
  obtain ⟨rfl, hsz, hP, hK, hD0, hF, hZ, hAx⟩ := hv
  subst hsz
  have hx := B.exec
  have hb := B.bytes
  have hr := B.returns
  have hlocks := B.notSynchronized
  have hown : s.vm.findClass y.cls = some m.cls := findClass_of_methodNamed B.named
  have hin : meth.name = y.name := (name_of_methodNamed B.named B.method).1
  have hl := lv_entry As hn
  rw [lg_entry_eq]
  refine body (p, l, e, { frames := fr, cells := mc, slots := ms, locals := lo }, s, m, As.toArray, below, meth, c, D, va_A ws s.heap.size, MQ below (va_Qv (fun (_ : Nat → Nat) => True) (fun f t => Bx D (va_A ws s.heap.size) (ws' f) t) (va_A ws s.heap.size)) As.toArray s mc ms (va_A ws s.heap.size)) rfl rfl ⟨hx, hb, hml, hown, hF, hK, fun q h => Or.inr h, hZ, Nat.le_refl _, Nat.le_refl _⟩ hAx hin ⟨Nat.le_refl _, Nat.le_refl _⟩ ?_ s.heap [] _ hP hD0.self va_S.rf ?_
  · intro f pc lv9 d H locs ls hP9 hD9 hS9 _
    exact W.vret hx hb hr (fun t ht hW => ⟨⟨f, rfl, trivial, by rw [ht]; exact hP9, hD9⟩, hS9.F ht⟩) hS9.2.2 d
  · show lv_has _ c.maxLocals lv
    rw [hml, ← hlv]
    exact hl
section GN
variable {x : CX} {cy : Nat → ClassId} {cc : ByteArray} {own : String} {nL fr lo cs sl pc : Nat} {lv : List (Nat × Value)} {st stk : List Value} {ws w1 w2 : va_W}
theorem G.objInit (E : Ev x cy cc own nL fr lo) {idx a : Nat} (w1 : va_Nw (.methodLink own idx Lib.objectInit) (xS x)) (w2 : va_Nw (.instanceMethod Lib.objectInit) (xS x)) (w3 : va_Nw (.code Lib.objectInit ⟨#[0xb1]⟩ 1 none) (xS x)) (hfr : 1 ≤ fr) (hlo : 20 ≤ lo) (hW : (st.map fun v => v.category).sum ≤ 8) (d : decode cc pc = .ok (.invokespecial idx, 3)) (k : G x cs sl (pc + 3) lv st ws) : G x cs sl pc lv (.ref a :: st) ws := fun H locs ls hP hD hS hl => by
  have h1 := E.2.2.2.2.2.2.2.2.1
  have h2 := E.2.2.2.2.2.2.2.2.2
  have hr := lv_room (m := xM x) (pc := pc) (ls := ls) (rest := .ref a :: st) (st := st) hW
  refine W.objInit E.1 E.2.1 E.2.2.2.1 (nw_use w1 rfl) (nw_use w2 rfl) (nw_use w3 rfl) rfl hl.1 rfl d (Nat.le_trans hfr h1) (by omega) ?_
  exact W.eq rfl (k H locs ls hP hD hS hl)
theorem G.new (E : Ev x cy cc own nL fr lo) {C : String} {T : u_T} {N ci index : Nat} {fs : List Value} (hin : ∀ w ∈ u_ws C T N, w ∈ lw_tbl ∧ keepW w = true) (ty0 : Nat → FieldType) (hty : ∀ k, k < N → parseFieldDescriptor (T k).2.2.1 = some (ty0 k)) (wc : va_Nw (.classLink own index C) (xS x)) (wi : va_Nw (.instantiable C N) (xS x)) (wn : va_Nw (.initialized C) (xS x)) (hc : vwCl[ci]? = some (C, T, N)) (hfs : ∀ j, j < N → defaultValue (ty0 j) = vp_V fs j) (hR : cs + 1 ≤ (xR x).cells ∧ sl + N ≤ (xR x).slots) (d : decode cc pc = .ok (.new index, 3)) (kk : ∀ q : Nat, G x (cs + 1) (sl + N) (pc + 3) lv (.ref q :: st) (ws ++ [(q, .inr (ci, fs))])) : G x cs sl pc lv st ws := fun H locs ls hP hD hS hl => va_new (Ts := u_ws C T N) E.1 E.2.1 (fun w h => nw_use (E.fx w (hin w h).1 (hin w h).2) (keepW_on (hin w h).2)) (fun _ h => h) ty0 hty E.2.2.2.1 (nw_use wc rfl) (nw_use wi rfl) (nw_use wn rfl) E.k hP hD hS E.2.2.2.2.2.2.1 hc hfs hR.1 hR.2 d (fun q H1 hP1 hD1 hS1 => kk q H1 locs ls hP1 hD1 hS1 hl)
theorem G.newa (E : Ev x cy cc own nL fr lo) (hax : AX (xS x)) {atype : ArrayType} {ty : FieldType} {cA0 : ClassId} {n : Int32} {N' : Nat} {a0 : vp_A} (hty : newarray.typeOf atype = ty) (hm : ty ∈ [FieldType.int, .char, .boolean, .long, .byte]) (t0 : Nat) (ht : (TY cy)[t0]? = some (cA0, ty)) (ha : ∀ cA : ClassId, vp_cell cA a0 = arrV cA N' (fun _ => defaultValue ty)) (hn : ¬ n < 0) (hN : n.toNatClampNeg = N') (hbytes : N' * componentBytes ty ≤ 536870912) (hR : cs + 1 ≤ (xR x).cells ∧ sl + N' ≤ (xR x).slots) (d : decode cc pc = .ok (.newarray atype, 2)) (kk : ∀ q : Nat, G x (cs + 1) (sl + N') (pc + 2) lv (.ref q :: st) (ws ++ [(q, .inl (cA0, a0))])) : G x cs sl pc lv (.int n :: st) ws := fun H locs ls hP hD hS hl => by
  have harr : (Cond.arrayClass (newarray.typeOf atype)).before (xa x) (xS x) = true := by
    rw [hty]
    exact hax.1 ty hm
  refine va_newa (ty := ty) E.1 E.2.1 harr hty E.k hP hD hS E.2.2.2.2.2.2.1 ha hn hN hbytes hR.1 hR.2 d (fun q cA H1 hK1 hP1 hD1 hS1 => ?_)
  have e : cA = cA0 := va_RA.uniq (hK1.2 7 _ rfl).2 (E.k.2 t0 _ ht).2
  subst e
  exact kk q H1 locs ls hP1 hD1 hS1 hl
theorem G.newq (E : Ev x cy cc own nL fr lo) (hax : AX (xS x)) {index : Nat} {n : Int32} {N' : Nat} (wc : va_Nw (.classLink own index "TossRows$Plain") (xS x)) (hn : ¬ n < 0) (hN : n.toNatClampNeg = N') (hbytes : N' * 4 ≤ 536870912) (hR : cs + 1 ≤ (xR x).cells ∧ sl + N' ≤ (xR x).slots) (d : decode cc pc = .ok (.anewarray index, 3)) (kk : ∀ q : Nat, G x (cs + 1) (sl + N') (pc + 3) lv (.ref q :: st) (ws ++ [(q, .inl (cy 5, N', .inr (.inr (.inr (.inr (fun _ => none))))))])) : G x cs sl pc lv (.int n :: st) ws := fun H locs ls hP hD hS hl => by
  refine va_newq E.1 E.2.1 E.2.2.2.1 (nw_use wc rfl) hax.2.1 E.k hP hD hS E.2.2.2.2.2.2.1 hn hN hbytes hR.1 hR.2 d (fun q cA H1 hK1 hP1 hD1 hS1 => ?_)
  have e : cA = cy 5 := va_RA.uniq (hK1.2 7 _ rfl).2 (E.k.2 5 _ rfl).2
  subst e
  exact kk q H1 locs ls hP1 hD1 hS1 hl
theorem G.putF (E : Ev x cy cc own nL fr lo) (hnm0 : (xm x).name = "<init>") {a ci N index : Nat} {C : String} {T : u_T} {fs : List Value} {v : Value} {ty : FieldType} {ws' : va_W} (hin : ∀ w ∈ u_ws C T N, w ∈ lw_tbl ∧ keepW w = true) (ty0 : Nat → FieldType) (hty : ∀ k, k < N → parseFieldDescriptor (T k).2.2.1 = some (ty0 k)) (hnm : ∀ a, a < N → ∀ b, b < N → a ≠ b → (T a).2.1 ≠ (T b).2.1) (q0 : Nat) (he : ws[q0]? = some (a, .inr (ci, fs))) (hc : vwCl[ci]? = some (C, T, N)) (k : Nat) (hk : k < N) (w : va_Nw (.fieldLink own index (T k).1 (T k).2.1 (T k).2.2.1) (xS x)) (hfin : (T k).2.2.2 = true) (hdecl : (T k).1 = own) (hd : ty0 k = ty) (hn : narrow ty v = v) (hfit : fits ty v = true) (hl0 : k < fs.length) (d : decode cc pc = .ok (.putfield index, 3)) (hw : ws.set q0 (a, .inr (ci, fs.set k v)) = ws') (kk : G x cs sl (pc + 3) lv st ws') : G x cs sl pc lv (v :: .ref a :: st) ws := fun H locs ls hP hD hS hl => va_putF (Ts := u_ws C T N) E.1 E.2.1 (fun w h => nw_use (E.fx w (hin w h).1 (hin w h).2) (keepW_on (hin w h).2)) (fun _ h => h) ty0 hty hnm E.2.2.2.1 E.k hP hD hS q0 he hc k hk (nw_use w rfl) (fun _ h => h) hfin hnm0 hdecl (by rw [hty k hk, hd]) hn hfit hl0 d (fun H1 locs1 hP1 hD1 hS1 => kk H1 locs1 ls (hw ▸ hP1) (hw ▸ hD1) hS1 hl)
theorem G.astq (E : Ev x cy cc own nL fr lo) (q0 qk ci : Nat) {a v n : Nat} {T : u_T} {N : Nat} {vs : List Value} {f : Nat → Option Nat} {ws' : va_W} (ha : ws[q0]? = some (a, .inl (cy 5, n, .inr (.inr (.inr (.inr f)))))) (hv : ws[qk]? = some (v, .inr (ci, vs))) (hc : vwCl[ci]? = some ("TossRows$Plain", T, N)) {i : Int32} (hin : vp_in i n) (d : decode cc pc = .ok (.aastore, 1)) (hw : ws.set q0 (a, .inl (cy 5, n, .inr (.inr (.inr (.inr (va_up f i.toNatClampNeg (some v))))))) = ws') (kk : G x cs sl (pc + 1) lv st ws') : G x cs sl pc lv (.ref v :: .int i :: .ref a :: st) ws := fun H locs ls hP hD hS hl => va_astq E.1 E.2.1 E.k hP hD hS q0 5 qk ci ha rfl hv hc hin d (fun H1 locs1 hP1 hD1 hS1 => kk H1 locs1 ls (hw ▸ hP1) (hw ▸ hD1) hS1 hl)
theorem G.astqO (E : Ev x cy cc own nL fr lo) (q0 qk ci : Nat) {a v n : Nat} {r : vw_C} {vs : List Value} {f : Nat → Option Nat} {ws' : va_W} (ha : ws[q0]? = some (a, .inl (cy 5, n, .inr (.inr (.inr (.inr f)))))) (wc : va_Nw (.castable r.1 "TossRows$Plain") (xS x)) (hv : ws[qk]? = some (v, .inr (ci, vs))) (hc : vwCl[ci]? = some r) {i : Int32} (hin : vp_in i n) (d : decode cc pc = .ok (.aastore, 1)) (hw : ws.set q0 (a, .inl (cy 5, n, .inr (.inr (.inr (.inr (va_up f i.toNatClampNeg (some v))))))) = ws') (kk : G x cs sl (pc + 1) lv st ws') : G x cs sl pc lv (.ref v :: .int i :: .ref a :: st) ws := fun H locs ls hP hD hS hl => va_astqO (E := "TossRows$Plain") E.1 E.2.1 E.k hP hD hS q0 5 qk ci ha rfl wc hv hc hin d (fun H1 locs1 hP1 hD1 hS1 => kk H1 locs1 ls (hw ▸ hP1) (hw ▸ hD1) hS1 hl)
theorem vl_6 (r : Nat → Nat) (e : va_E) : va_pl ([] ++ (List.range 6).map r) (vr_up (fun _ => .inr (0, [])) ((List.range 6).map r) e) = [(r 0, e), (r 1, e), (r 2, e), (r 3, e), (r 4, e), (r 5, e)] := by
  have h : ∀ a, a ∈ (List.range 6).map r → vr_up (fun _ => (.inr (0, []) : va_E)) ((List.range 6).map r) e a = e := fun a ha => vr_up_in ha
  show List.map (fun a => (a, vr_up (fun _ => (.inr (0, []) : va_E)) ((List.range 6).map r) e a)) ((List.range 6).map r) = _
  rw [List.map_congr_left (g := fun a => (a, e)) (fun a ha => by rw [h a ha])]
  rfl
theorem G.mna (E : Ev x cy cc own nL fr lo) (hax : AX (xS x)) {index : Nat} (wc : va_Nw (.classLink own index ("[" ++ (FieldType.array .long).toString)) (xS x)) (hR : cs + 7 ≤ (xR x).cells ∧ sl + 48 ≤ (xR x).slots) (d : decode cc pc = .ok (.multianewarray index 2, 4)) (kk : ∀ (q : Nat) (r : Nat → Nat), G x (cs + 1 + 6) (sl + 6 + 6 * 7) (pc + 4) lv (.ref q :: st) ((ws ++ [(q, .inl (cy 6, 6, .inr (.inr (.inr (.inr (fun i => if i < 6 then some (r i) else none))))))]) ++ [(r 0, .inl (cy 3, 7, .inr (.inl (fun _ => 0)))), (r 1, .inl (cy 3, 7, .inr (.inl (fun _ => 0)))), (r 2, .inl (cy 3, 7, .inr (.inl (fun _ => 0)))), (r 3, .inl (cy 3, 7, .inr (.inl (fun _ => 0)))), (r 4, .inl (cy 3, 7, .inr (.inl (fun _ => 0)))), (r 5, .inl (cy 3, 7, .inr (.inl (fun _ => 0))))])) : G x cs sl pc lv (.int 7 :: .int 6 :: st) ws := fun H locs ls hP hD hS hl => by
  have hP0 : va_P (xD x) vwCl (ws ++ va_pl [] (fun _ => .inr (0, []))) H := by
    show va_P (xD x) vwCl (ws ++ []) H
    rw [List.append_nil]; exact hP
  have hD0 : va_D (xA x) (ws ++ va_pl [] (fun _ => .inr (0, []))) := by
    show va_D (xA x) (ws ++ [])
    rw [List.append_nil]; exact hD
  refine va_mna (z := (7, .inr (.inl (fun _ => 0)))) (n := 6) (k := 7) (N' := 6) (K' := 7) E.1 E.2.1 E.2.2.2.1 (nw_use wc rfl) hax.2.2 (show (Cond.arrayClass .long).before (xa x) (xS x) = true from hax.1 .long (by decide)) (E.k.2 3 _ rfl).2 E.k hP0 hD0 hS E.2.2.2.2.2.2.1 (by decide) (by decide) rfl rfl (by decide) (by decide) (by decide) rfl rfl hR.1 hR.2 (fun c => ?_) d (fun q r cA H1 hi hL hK1 hP1 hD1 hS1 => ?_)
  · show ({ cls := c, slots := Array.replicate 7 (.long 0), vm := .none } : Cell) = arrV c 7 (fun _ => .long 0)
    exact arrV_new c 7 (.long 0)
  · have e : cA = cy 6 := va_RA.uniq (hK1.2 7 _ rfl).2 (E.k.2 6 _ rfl).2
    subst e
    rw [vl_6] at hP1 hD1
    exact kk q r H1 locs ls hP1 hD1 hS1 hl
/-- a constructor's call: the made cells come behind -/
theorem G.retN {mc ms : Nat} {w2' : (Nat → Nat) → va_W} {av : Array Value} (E : Ev x cy cc own nL fr lo) (hr : ∀ (H : Heap) (locs : List Loc) (ls : Array Slot), va_P (xD x) vwCl w2 H → va_D (xA x) w2 → va_S (xA x) (xS x).heap H locs → lv_has ls (xc x).maxLocals lv → va_Run (xP x) (xL x) (xE x) (xR x) (xS x) (xM x) (xa x) (xb x) (xm x) (xc x) H locs cs sl mc ms (F0 (xM x) pc ls stk) st (va_Qv (fun (_ : Nat → Nat) => True) (fun f t => Bx (xD x) (va_A w2 H.size) (w2' f) t) (va_A w2 H.size) av) (va_A w2 H.size)) (k : ∀ f : Nat → Nat, G x (cs + mc) (sl + ms) (pc + 3) lv st (w1 ++ w2' f)) : G x cs sl pc lv stk (w1 ++ w2) := fun H locs ls hP hD hS hl => by
  have hF := va_Afree hD.appR hS E.2.2.2.2.2.2.1
  refine va_callv (hr H locs ls hP.appR hD.appR hS hl) hS (fun q _ h => hF q h) hF (fun f t H1 locs1 ht hvm hw hB hz hk hS1 => ?_)
  obtain ⟨hP1, hD1⟩ := hB
  rw [ht] at hP1
  obtain ⟨a, b⟩ := frame2 hP hD hk hP1 hD1 hF
  exact k f H1 locs1 ls a b hS1 hl
theorem pre_n (E : Ev x cy cc own nL fr lo) (hax : AX (xS x)) {As : List Value} {H : Heap} {locs : List Loc} (hP : va_P (xD x) vwCl ws H) (hD : va_D (xA x) ws) (hS : va_S (xA x) (xS x).heap H locs) : PreS (xS x) H (Pcn (xD x) cy ws H.size As) As := by
  refine ⟨Pcn.blind, fun U hU hW => ⟨rfl, by rw [hU], by rw [hU]; exact hP, va_K.moved hW.alike E.k, hD.weaken (fun _ _ _ _ => trivial), FX.warm hW E.fx, ?_, hax.warm hW⟩⟩
  rw [hU]
  exact ((ZX.warm hW E.z).kept (fun a h1 h2 => hS.2.1 a h1 h2)).narrow (va_Afree hD hS E.2.2.2.2.2.2.1)
variable {y : MethodName} {cb : ByteArray} {n fr' lo' idx mc ms b : Nat} {w2' : (Nat → Nat) → va_W}
theorem runNN {host : String} (E : Ev x cy cc own nL fr lo) (hax : AX (xS x)) (hM : MN (xL x) y cb n fr' lo' mc ms (xD x) cy w2 [.ref b] w2') (c : CK y cb n none 0) (wl : va_Nw (.methodLinkNest own idx y host) (xS x)) (wi : va_Nw (.instanceMethod y) (xS x)) (hy : y.name = "<init>") (h1 : fr' + 1 ≤ fr) (h2 : 8 + (n + 11) + lo' ≤ lo) (hst : stk = .ref b :: st) (hW : (st.map fun v => v.category).sum ≤ 8) (d : decode cc pc = .ok (.invokespecial idx, 3)) (hf : cs + mc ≤ (xR x).cells ∧ sl + ms ≤ (xR x).slots) : ∀ (H : Heap) (locs : List Loc) (ls : Array Slot), va_P (xD x) vwCl w2 H → va_D (xA x) w2 → va_S (xA x) (xS x).heap H locs → lv_has ls (xc x).maxLocals lv → va_Run (xP x) (xL x) (xE x) (xR x) (xS x) (xM x) (xa x) (xb x) (xm x) (xc x) H locs cs sl mc ms (F0 (xM x) pc ls stk) st (va_Qv (fun (_ : Nat → Nat) => True) (fun f t => Bx (xD x) (va_A w2 H.size) (w2' f) t) (va_A w2 H.size) (Value.ref b :: []).toArray) (va_A w2 H.size) := fun H locs ls hP hD hS hl => by
  have hp := pre_n (As := [.ref b]) E hax hP hD hS
  have hb := cn_of (As := []) (lo' := lo') E c wl h1 h2
  obtain ⟨⟨a1, a2, a3, a4, a5, a6⟩, a7⟩ := hb
  exact va_runIN (As := []) (rest := st) E.fix (hM H.size) ⟨⟨⟨rfl, rfl, a3, a4, a5, a6⟩, a7⟩, hy, nw_use wi rfl⟩ hp rfl rfl (by rw [hl.1]; exact E.2.2.1) hst (lv_room hW) d hf
theorem runN (E : Ev x cy cc own nL fr lo) (hax : AX (xS x)) (hM : MN (xL x) y cb n fr' lo' mc ms (xD x) cy w2 [.ref b] w2') (c : CK y cb n none 0) (wl : va_Nw (.methodLink own idx y) (xS x)) (wi : va_Nw (.instanceMethod y) (xS x)) (hy : y.name = "<init>") (h1 : fr' + 1 ≤ fr) (h2 : 8 + (n + 11) + lo' ≤ lo) (hst : stk = .ref b :: st) (hW : (st.map fun v => v.category).sum ≤ 8) (d : decode cc pc = .ok (.invokespecial idx, 3)) (hf : cs + mc ≤ (xR x).cells ∧ sl + ms ≤ (xR x).slots) : ∀ (H : Heap) (locs : List Loc) (ls : Array Slot), va_P (xD x) vwCl w2 H → va_D (xA x) w2 → va_S (xA x) (xS x).heap H locs → lv_has ls (xc x).maxLocals lv → va_Run (xP x) (xL x) (xE x) (xR x) (xS x) (xM x) (xa x) (xb x) (xm x) (xc x) H locs cs sl mc ms (F0 (xM x) pc ls stk) st (va_Qv (fun (_ : Nat → Nat) => True) (fun f t => Bx (xD x) (va_A w2 H.size) (w2' f) t) (va_A w2 H.size) (Value.ref b :: []).toArray) (va_A w2 H.size) := fun H locs ls hP hD hS hl => by
  have hp := pre_n (As := [.ref b]) E hax hP hD hS
  have hb := cb_of (As := []) (lo' := lo') E c wl h1 h2
  obtain ⟨a1, a2, a3, a4, a5, a6, a7⟩ := hb
  exact va_runI (As := []) (rest := st) E.fix (hM H.size) ⟨⟨rfl, rfl, a3, a4, a5, a6, a7⟩, hy, nw_use wi rfl⟩ hp rfl rfl (by rw [hl.1]; exact E.2.2.1) hst (lv_room hW) d hf
/-- a nest mate's constructor that makes nothing -/
theorem runIN {host : String} {As : List Value} {Qk : Nat → Array Value → State → Outcome → State → Prop} (E : Ev x cy cc own nL fr lo) (hM : MX (xL x) y cb n none fr' lo' (xD x) cy ws (.ref b :: As) Qk) (c : CK y cb n none As.length) (wl : va_Nw (.methodLinkNest own idx y host) (xS x)) (wi : va_Nw (.instanceMethod y) (xS x)) (hy : y.name = "<init>") (h1 : fr' + 1 ≤ fr) (h2 : 8 + (n + 11) + lo' ≤ lo) (hst : stk = As.reverse ++ .ref b :: st) (hW : (st.map fun v => v.category).sum ≤ 8) (d : decode cc pc = .ok (.invokespecial idx, 3)) (hf : cs ≤ (xR x).cells ∧ sl ≤ (xR x).slots) : RunG x cs sl pc lv stk st ws Qk (Value.ref b :: As).toArray := fun H locs ls hP hD hS hl => by
  have hp := pre_of (As := .ref b :: As) E hP hD hS
  exact va_runIN (rest := st) E.fix (hM H.size) ⟨cn_of (lo' := lo') E c wl h1 h2, hy, nw_use wi rfl⟩ hp rfl rfl (by rw [hl.1]; exact E.2.2.1) hst (lv_room hW) d hf
end GN
