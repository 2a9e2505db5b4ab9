def va_AOA (ty : FieldType) (U : State) : Prop := (Cond.arrayOver (.array ty)).before #[] U = true
theorem va_AOA.use {ty : FieldType} {A : Array Value} {U : State} (h : va_AOA ty U) : (Cond.arrayOver (.array ty)).before A U = true := h
/-! ===== BEGIN new T[n][m]: the outer array a place, the inner ones among the pooled ===== -/
/-- f, but v at every address of l -/
def vr_up {α : Type} (f : Nat → α) (l : List Nat) (v : α) : Nat → α := fun a => if a ∈ l then v else f a
theorem vr_up_in {α : Type} {f : Nat → α} {l : List Nat} {v : α} {a : Nat} (h : a ∈ l) : vr_up f l v a = v := if_pos h
theorem vr_up_ne {α : Type} {f : Nat → α} {l : List Nat} {v : α} {a : Nat} (h : a ∉ l) : vr_up f l v a = f a := if_neg h
theorem vr_rows {L l : List Nat} {f : Nat → va_E} {e : va_E} (h : ∀ a, a ∈ l → a ∉ L) : va_pl L f ++ l.map (fun a => (a, e)) = va_pl (L ++ l) (vr_up f l e) := by
  unfold va_pl
  rw [List.map_append]
  congr 1
  · apply List.map_congr_left
    intro a ha
    rw [vr_up_ne (fun q => h a q ha)]
  · apply List.map_congr_left
    intro a ha
    rw [vr_up_in ha]
theorem vr_lay {X rows : va_W} {x : Nat × va_E} {pl : va_W} {D : va_G} {cl : List vw_C} {H : Heap} (hP : va_P D cl (((X ++ pl) ++ [x]) ++ rows) H) : va_P D cl ((X ++ [x]) ++ (pl ++ rows)) H := by
  rw [List.append_assoc (X ++ pl)] at hP
  have h := va_P.swap hP
  rw [← List.append_assoc X] at h
  have h2 := va_P.swap h
  rw [List.append_assoc (X ++ [x])] at h2
  exact h2
theorem vr_layD {X rows : va_W} {x : Nat × va_E} {pl : va_W} {A : Nat → Prop} (hD : va_D A (((X ++ pl) ++ [x]) ++ rows)) : va_D A ((X ++ [x]) ++ (pl ++ rows)) := by
  rw [List.append_assoc (X ++ pl)] at hD
  have h := va_D.swap hD
  rw [← List.append_assoc X] at h
  have h2 := va_D.swap h
  rw [List.append_assoc (X ++ [x])] at h2
  exact h2
theorem vr_outer (c : ClassId) (N h0 : Nat) : ∀ i : Nat, Jvm.Free.Multi.outerC c N h0 i = arrV c N (fun j => va_rf (if j < i then some (h0 + 1 + j) else none))
  | 0 => by
    show ({ cls := c, slots := Array.replicate N .null, vm := .none } : Cell) = _
    rw [arrV_new]
    refine congrArg (arrV c N) (funext fun j => ?_)
    simp [va_rf]
  | i + 1 => by
    show (Jvm.Free.Multi.outerC c N h0 i).setSlot i (.ref (h0 + 1 + i)) = _
    rw [vr_outer c N h0 i, arrV_store]
    refine congrArg (arrV c N) (funext fun j => ?_)
    by_cases e : j = i
    · subst e
      simp [updV, va_rf]
    · by_cases h : j < i
      · simp [updV, e, h, Nat.lt_succ_of_lt h]
      · simp [updV, e, h, show ¬ j < i + 1 by omega]
section VGM
variable {p : Program} {l : Launch} {e : Env} {R : Room} {s : State} {m : MethodId} {args : Array Value} {below : List Frame} {meth : Method} {c : Code} {H : Heap} {locs : List Loc} {cells slots : Nat} {Q : State → Prop}
variable {cc : ByteArray} {pc : Nat} {ls : Array Slot} {rest : List Value} {D : va_G} {cl : List vw_C} {A : Nat → Prop} {a : Nat} {tys : List (ClassId × FieldType)} {ws : va_W} {H0 : Heap}
theorem va_mna {X : va_W} {L : List Nat} {f : Nat → va_E} {cc : ByteArray} (hexec : p.tables.exec = Jvm.exec) (hb : c.code = cc) {own : String} {index : Nat} {ty : FieldType} {cy : ClassId} (hown : s.vm.findClass own = some m.cls) (hclink : (Cond.classLink own index ("[" ++ (FieldType.array ty).toString)).before args s = true) (hover : va_AOA ty s) (harr : (Cond.arrayClass ty).before args s = true) (hcy : s.vm.findClass (FieldType.array ty).toString = some cy)
    (hK : va_K D cl tys s) (hP : va_P D cl (X ++ va_pl L f) H) (hD : va_D A (X ++ va_pl L f)) (hS : va_S A H0 H locs) (hA : ∀ q, H0.size ≤ q → A q) {n k : Int32} {N' K' : Nat} {z : vp_A} (hn : ¬ n < 0) (hk : ¬ k < 0) (hN : n.toNatClampNeg = N') (hM : k.toNatClampNeg = K')
    (hb1 : N' * 4 ≤ 536870912) (hb2 : K' * componentBytes ty ≤ 536870912) (hb3 : K' ≤ 536870912) (hdf : fits ty (defaultValue ty) = true) (hdd : (defaultValue ty).isDefault = true) (hcells : cells + (1 + N') ≤ R.cells) (hslots : slots + (N' + N' * K') ≤ R.slots) (hz : ∀ c : ClassId, Jvm.Free.Multi.innerC c K' (defaultValue ty) = vp_cell c z) (hdg : decode cc pc = .ok (.multianewarray index 2, 4))
    (kk : ∀ (q : Nat) (r : Nat → Nat) (cA : ClassId) (H1 : Heap), (∀ i j : Nat, i < N' → j < N' → r i = r j → i = j) → (∀ i : Nat, i < N' → r i ∉ L) → va_K D cl (tys ++ [(cA, .array ty)]) s →
      va_P D cl ((X ++ [(q, .inl (cA, N', .inr (.inr (.inr (.inr (fun i => if i < N' then some (r i) else none))))))]) ++ va_pl (L ++ (List.range N').map r) (vr_up f ((List.range N').map r) (.inl (cy, z)))) H1 → va_D A ((X ++ [(q, .inl (cA, N', .inr (.inr (.inr (.inr (fun i => if i < N' then some (r i) else none))))))]) ++ va_pl (L ++ (List.range N').map r) (vr_up f ((List.range N').map r) (.inl (cy, z)))) → va_S A H0 H1 locs →
      W p l e R s m args below meth c H1 locs (cells + 1 + N') (slots + N' + N' * K') Q (F0 m (pc + 4) ls (.ref q :: rest))) : W p l e R s m args below meth c H locs cells slots Q (F0 m pc ls (.int k :: .int n :: rest)) := by
  subst hN
  subst hM
  intro T hT Xs
  obtain ⟨vm₁, cA, comp, -, fA, fC, hO, -, X', step⟩ := Xs.multianewarray2F hexec hown hclink (va_AOA.use hover) harr (g := F0 m pc ls (.int k :: .int n :: rest)) rfl (by rw [hb]; exact hdg) rfl hn hk hb1 hb2 hb3 hdf hdd hcells hslots
  have ec : some cy = some comp := hcy.symm.trans fC
  cases ec
  generalize hF : Jvm.Free.Multi.fill (T.setVm vm₁) cA cy n.toNatClampNeg k.toNatClampNeg (defaultValue ty) n.toNatClampNeg = F at X' step
  have hTh : (T.setVm vm₁).heap = H := hT
  obtain ⟨f1, f2, -, -⟩ := Jvm.Free.Multi.fill_facts (T.setVm vm₁) cA cy n.toNatClampNeg k.toNatClampNeg (defaultValue ty) n.toNatClampNeg
  rw [hF, hTh] at f1 f2
  have hold : ∀ x : Nat, x < H.size → F.heap[x]? = H[x]? := fun x hx => by
    have := Jvm.Free.Multi.fill_old (T.setVm vm₁) cA cy n.toNatClampNeg k.toNatClampNeg (defaultValue ty) (a := x) (by rw [hTh]; exact hx) n.toNatClampNeg
    rw [hF, hTh] at this
    exact this
  have hrow : ∀ j : Nat, j < n.toNatClampNeg → F.heap[H.size + 1 + j]? = some (vp_cell cy z) := fun j hj => by
    have := Jvm.Free.Multi.fill_inner (T.setVm vm₁) cA cy n.toNatClampNeg k.toNatClampNeg (defaultValue ty) n.toNatClampNeg j hj
    rw [hF, hTh, hz] at this
    exact this
  have hout : Jvm.Free.Multi.outerC cA n.toNatClampNeg H.size n.toNatClampNeg = vp_cell cA (n.toNatClampNeg, .inr (.inr (.inr (.inr (fun i => if i < n.toNatClampNeg then some (H.size + 1 + i) else none))))) := by
    rw [vp_cell_q]
    exact vr_outer cA n.toNatClampNeg H.size n.toNatClampNeg
  rw [hout] at f2
  have hlt : ∀ a, a ∈ L → a < H.size := fun a ha => by
    obtain ⟨k9, hk9⟩ := va_pl_get (X := X) (f := f) ha
    exact (hP k9 _ hk9).lt
  have hnl : ∀ i : Nat, i < n.toNatClampNeg → H.size + 1 + i ∉ L := fun i _ h => by
    have := hlt _ h
    omega
  have hnm : ∀ a, a ∈ (List.range n.toNatClampNeg).map (fun i => H.size + 1 + i) → a ∉ L := fun a ha h => by
    obtain ⟨i, -, rfl⟩ := List.mem_map.mp ha
    have := hlt _ h
    omega
  have hP0 : va_P D cl (X ++ va_pl L f) F.heap := hP.kept (fun k9 x hx => hold x.1 ((hP k9 x hx).lt))
  have hP1 : va_P D cl ((X ++ va_pl L f) ++ [(H.size, .inl (cA, n.toNatClampNeg, .inr (.inr (.inr (.inr (fun i => if i < n.toNatClampNeg then some (H.size + 1 + i) else none))))))]) F.heap := hP0.app (fun k9 x hx => by
    have h0 : k9 < 1 := (List.getElem?_eq_some_iff.mp hx).1
    rw [show k9 = 0 by omega] at hx
    cases hx
    exact f2)
  have hP2 : va_P D cl (((X ++ va_pl L f) ++ [(H.size, .inl (cA, n.toNatClampNeg, .inr (.inr (.inr (.inr (fun i => if i < n.toNatClampNeg then some (H.size + 1 + i) else none))))))]) ++ ((List.range n.toNatClampNeg).map (fun i => H.size + 1 + i)).map (fun a => (a, .inl (cy, z)))) F.heap := hP1.app (fun k9 x hx => by
    obtain ⟨a, ha, rfl⟩ := List.mem_map.mp (List.mem_of_getElem? hx)
    obtain ⟨i, hi, rfl⟩ := List.mem_map.mp ha
    exact hrow i (List.mem_range.mp hi))
  have hD2 : va_D A (((X ++ va_pl L f) ++ [(H.size, .inl (cA, n.toNatClampNeg, .inr (.inr (.inr (.inr (fun i => if i < n.toNatClampNeg then some (H.size + 1 + i) else none))))))]) ++ ((List.range n.toNatClampNeg).map (fun i => H.size + 1 + i)).map (fun a => (a, .inl (cy, z)))) := by
    have hD1 := hD.push (e := .inl (cA, n.toNatClampNeg, .inr (.inr (.inr (.inr (fun i => if i < n.toNatClampNeg then some (H.size + 1 + i) else none)))))) hP rfl (hA _ hS.1)
    generalize hW1 : (X ++ va_pl L f) ++ [(H.size, .inl (cA, n.toNatClampNeg, .inr (.inr (.inr (.inr (fun i => if i < n.toNatClampNeg then some (H.size + 1 + i) else none))))))] = W1 at hD1 hP1 ⊢
    have hle : ∀ (k9 : Nat) (x : Nat × va_E), W1[k9]? = some x → x.1 ≤ H.size := fun k9 x hx => by
      rw [← hW1] at hx
      by_cases hl : k9 < (X ++ va_pl L f).length
      · rw [List.getElem?_append_left hl] at hx
        exact Nat.le_of_lt ((hP k9 x hx).lt)
      · rw [List.getElem?_append_right (by omega)] at hx
        have h0 : k9 - (X ++ va_pl L f).length < 1 := (List.getElem?_eq_some_iff.mp hx).1
        rw [show k9 - (X ++ va_pl L f).length = 0 by omega] at hx
        cases hx
        exact Nat.le_refl _
    have hr : ∀ (k9 : Nat) (x : Nat × va_E), (((List.range n.toNatClampNeg).map (fun i => H.size + 1 + i)).map (fun a => ((a, .inl (cy, z)) : Nat × va_E)))[k9]? = some x → x.1 = H.size + 1 + k9 := fun k9 x hx => by
      rw [List.getElem?_map, List.getElem?_map] at hx
      by_cases h9 : k9 < n.toNatClampNeg
      · rw [List.getElem?_range h9] at hx
        cases hx
        rfl
      · have hn0 : (List.range n.toNatClampNeg)[k9]? = none := List.getElem?_eq_none (by rw [List.length_range]; omega)
        rw [hn0] at hx
        cases hx
    refine ⟨fun i j x y hi hj hxy => ?_, fun k9 x hx => ?_⟩
    · by_cases h1 : i < W1.length <;> by_cases h2 : j < W1.length
      · rw [List.getElem?_append_left h1] at hi
        rw [List.getElem?_append_left h2] at hj
        exact hD1.1 i j x y hi hj hxy
      · rw [List.getElem?_append_left h1] at hi
        rw [List.getElem?_append_right (by omega)] at hj
        have := hle _ _ hi
        have := hr _ _ hj
        omega
      · rw [List.getElem?_append_right (by omega)] at hi
        rw [List.getElem?_append_left h2] at hj
        have := hle _ _ hj
        have := hr _ _ hi
        omega
      · rw [List.getElem?_append_right (by omega)] at hi hj
        have := hr _ _ hi
        have := hr _ _ hj
        omega
    · by_cases h1 : k9 < W1.length
      · rw [List.getElem?_append_left h1] at hx
        exact hD1.2 k9 x hx
      · rw [List.getElem?_append_right (by omega)] at hx
        have := hr _ _ hx
        exact hA _ (by have := hS.1; omega)
  have hAr : ArrOfT s cA (.array ty) := fun N9 z9 => by
    obtain ⟨-, k9, hk9, cm9, hkk9⟩ := (hO 0 0 0).1
    exact ⟨(fun q hq => by cases hq), k9, hk9, cm9, hkk9⟩
  have hK2 : va_K D cl (tys ++ [(cA, .array ty)]) s := ⟨hK.1, fun k9 x hx => by
    by_cases hl : k9 < tys.length
    · rw [List.getElem?_append_left hl] at hx
      exact hK.2 k9 x hx
    · rw [List.getElem?_append_right (by omega)] at hx
      have h0 : k9 - tys.length < 1 := (List.getElem?_eq_some_iff.mp hx).1
      rw [show k9 - tys.length = 0 by omega] at hx
      cases hx
      exact ⟨hAr, fA⟩⟩
  obtain ⟨t, a1, b1⟩ := kk H.size (fun i => H.size + 1 + i) cA F.heap (fun i j _ _ h => by have h9 : H.size + 1 + i = H.size + 1 + j := h; omega) hnl hK2 (by rw [← vr_rows hnm]; exact vr_lay hP2) (by rw [← vr_rows hnm]; exact vr_layD hD2) ⟨by rw [f1]; have := hS.1; omega, fun x h1 h2 => (hold x (Nat.lt_of_lt_of_le h1 hS.1)).trans (hS.2.1 x h1 h2), hS.2.2⟩ F rfl X'
  refine ⟨t, step t ?_, b1⟩
  have e : T.heap.size = H.size := by rw [hT]
  rw [e]
  exact a1
end VGM
/-! ===== END ===== -/
def RX0 : String := "TossRows$Both"
def TX0 : u_T := fun k => match k with
  | _ => ("", "", "", false)
def tyX0 : Nat → FieldType := fun k => match k with
  | _ => .int
theorem nmX0 : ∀ a, a < 0 → ∀ b, b < 0 → a ≠ b → (TX0 a).2.1 ≠ (TX0 b).2.1 := by decide +kernel
theorem tyX0_ok : ∀ k, k < 0 → parseFieldDescriptor (TX0 k).2.2.1 = some (tyX0 k) := by decide +kernel
abbrev cX0_init : ByteArray := prog_2_method_1_code
def yX0_init : MethodName := ⟨RX0, "<init>", "()V"⟩
abbrev cX0_rowsHitWith : ByteArray := prog_2_method_2_code
def yX0_rowsHitWith : MethodName := ⟨RX0, "rowsHitWith", "(II)I"⟩
def RX1 : String := "TossRows$Course"
def TX1 : u_T := fun k => match k with
  | 0 => ("TossRows$Course", "kind", "[I", true)
  | 1 => ("TossRows$Course", "row", "[I", true)
  | 2 => ("TossRows$Course", "won", "[I", true)
  | 3 => ("TossRows$Course", "seenPlayer", "[I", true)
  | 4 => ("TossRows$Course", "seenTail", "[I", true)
  | 5 => ("TossRows$Course", "seenHit", "[Z", true)
  | 6 => ("TossRows$Course", "seen", "I", false)
  | 7 => ("TossRows$Course", "tosses", "I", false)
  | 8 => ("TossRows$Course", "tossesOfGame", "I", false)
  | _ => ("TossRows$Course", "track", "I", false)
def tyX1 : Nat → FieldType := fun k => match k with
  | 0 => .array .int
  | 1 => .array .int
  | 2 => .array .int
  | 3 => .array .int
  | 4 => .array .int
  | 5 => .array .boolean
  | 6 => .int
  | 7 => .int
  | 8 => .int
  | _ => .int
theorem nmX1 : ∀ a, a < 10 → ∀ b, b < 10 → a ≠ b → (TX1 a).2.1 ≠ (TX1 b).2.1 := by decide +kernel
theorem tyX1_ok : ∀ k, k < 10 → parseFieldDescriptor (TX1 k).2.2.1 = some (tyX1 k) := by decide +kernel
abbrev cX1_init : ByteArray := prog_3_method_1_code
def yX1_init : MethodName := ⟨RX1, "<init>", "()V"⟩
abbrev cX1_clear : ByteArray := prog_3_method_2_code
def yX1_clear : MethodName := ⟨RX1, "clear", "()V"⟩
abbrev cX1_beginGame : ByteArray := prog_3_method_3_code
def yX1_beginGame : MethodName := ⟨RX1, "beginGame", "()V"⟩
abbrev cX1_addSeen : ByteArray := prog_3_method_4_code
def yX1_addSeen : MethodName := ⟨RX1, "addSeen", "(IIZ)V"⟩
abbrev cX1_wonByAll : ByteArray := prog_3_method_5_code
def yX1_wonByAll : MethodName := ⟨RX1, "wonByAll", "()I"⟩
abbrev cX1_take : ByteArray := prog_3_method_6_code
def yX1_take : MethodName := ⟨RX1, "take", "(LTossRows$Course;)V"⟩
def RX2 : String := "TossRows$Either"
def TX2 : u_T := fun k => match k with
  | _ => ("", "", "", false)
def tyX2 : Nat → FieldType := fun k => match k with
  | _ => .int
theorem nmX2 : ∀ a, a < 0 → ∀ b, b < 0 → a ≠ b → (TX2 a).2.1 ≠ (TX2 b).2.1 := by decide +kernel
theorem tyX2_ok : ∀ k, k < 0 → parseFieldDescriptor (TX2 k).2.2.1 = some (tyX2 k) := by decide +kernel
abbrev cX2_init : ByteArray := prog_4_method_1_code
def yX2_init : MethodName := ⟨RX2, "<init>", "()V"⟩
abbrev cX2_rowsHitWith : ByteArray := prog_4_method_2_code
def yX2_rowsHitWith : MethodName := ⟨RX2, "rowsHitWith", "(II)I"⟩
def RX3 : String := "TossRows$Mirror"
def TX3 : u_T := fun k => match k with
  | _ => ("", "", "", false)
def tyX3 : Nat → FieldType := fun k => match k with
  | _ => .int
theorem nmX3 : ∀ a, a < 0 → ∀ b, b < 0 → a ≠ b → (TX3 a).2.1 ≠ (TX3 b).2.1 := by decide +kernel
theorem tyX3_ok : ∀ k, k < 0 → parseFieldDescriptor (TX3 k).2.2.1 = some (tyX3 k) := by decide +kernel
abbrev cX3_init : ByteArray := prog_5_method_1_code
def yX3_init : MethodName := ⟨RX3, "<init>", "()V"⟩
abbrev cX3_rowsHitWith : ByteArray := prog_5_method_2_code
def yX3_rowsHitWith : MethodName := ⟨RX3, "rowsHitWith", "(II)I"⟩
def RX4 : String := "TossRows$Other"
def TX4 : u_T := fun k => match k with
  | _ => ("", "", "", false)
def tyX4 : Nat → FieldType := fun k => match k with
  | _ => .int
theorem nmX4 : ∀ a, a < 0 → ∀ b, b < 0 → a ≠ b → (TX4 a).2.1 ≠ (TX4 b).2.1 := by decide +kernel
theorem tyX4_ok : ∀ k, k < 0 → parseFieldDescriptor (TX4 k).2.2.1 = some (tyX4 k) := by decide +kernel
abbrev cX4_init : ByteArray := prog_6_method_1_code
def yX4_init : MethodName := ⟨RX4, "<init>", "()V"⟩
abbrev cX4_rowsHitWith : ByteArray := prog_6_method_2_code
def yX4_rowsHitWith : MethodName := ⟨RX4, "rowsHitWith", "(II)I"⟩
def RX5 : String := "TossRows$Page"
def TX5 : u_T := fun k => match k with
  | 0 => ("TossRows$Page", "letters", "[C", true)
  | _ => ("TossRows$Page", "length", "I", false)
def tyX5 : Nat → FieldType := fun k => match k with
  | 0 => .array .char
  | _ => .int
theorem nmX5 : ∀ a, a < 2 → ∀ b, b < 2 → a ≠ b → (TX5 a).2.1 ≠ (TX5 b).2.1 := by decide +kernel
theorem tyX5_ok : ∀ k, k < 2 → parseFieldDescriptor (TX5 k).2.2.1 = some (tyX5 k) := by decide +kernel
abbrev cX5_init : ByteArray := prog_7_method_1_code
def yX5_init : MethodName := ⟨RX5, "<init>", "()V"⟩
abbrev cX5_length : ByteArray := prog_7_method_2_code
def yX5_length : MethodName := ⟨RX5, "length", "()I"⟩
abbrev cX5_isFull : ByteArray := prog_7_method_3_code
def yX5_isFull : MethodName := ⟨RX5, "isFull", "()Z"⟩
abbrev cX5_append : ByteArray := prog_7_method_4_code
def yX5_append : MethodName := ⟨RX5, "append", "(C)V"⟩
abbrev cX5_clear : ByteArray := prog_7_method_5_code
def yX5_clear : MethodName := ⟨RX5, "clear", "()V"⟩
abbrev cX5_at : ByteArray := prog_7_method_6_code
def yX5_at : MethodName := ⟨RX5, "at", "(I)C"⟩
abbrev cX5_size : ByteArray := prog_7_method_7_code
def yX5_size : MethodName := ⟨RX5, "size", "()I"⟩
abbrev cX5_firstWrong : ByteArray := prog_7_method_8_code
def yX5_firstWrong : MethodName := ⟨RX5, "firstWrong", "()I"⟩
abbrev cX5_playersOfTable : ByteArray := prog_7_method_9_code
def yX5_playersOfTable : MethodName := ⟨RX5, "playersOfTable", "()I"⟩
abbrev cX5_kindOf : ByteArray := prog_7_method_10_code
def yX5_kindOf : MethodName := ⟨RX5, "kindOf", "(I)I"⟩
abbrev cX5_rowOf : ByteArray := prog_7_method_11_code
def yX5_rowOf : MethodName := ⟨RX5, "rowOf", "(I)I"⟩
abbrev cX5_placeOf : ByteArray := prog_7_method_12_code
def yX5_placeOf : MethodName := ⟨RX5, "placeOf", "(I)I"⟩
abbrev cX5_step : ByteArray := prog_7_method_13_code
def yX5_step : MethodName := ⟨RX5, "step", "()I"⟩
abbrev cX5_canStand : ByteArray := prog_7_method_14_code
def yX5_canStand : MethodName := ⟨RX5, "canStand", "(I)Z"⟩
def RX6 : String := "TossRows$Plain"
def TX6 : u_T := fun k => match k with
  | _ => ("", "", "", false)
def tyX6 : Nat → FieldType := fun k => match k with
  | _ => .int
theorem nmX6 : ∀ a, a < 0 → ∀ b, b < 0 → a ≠ b → (TX6 a).2.1 ≠ (TX6 b).2.1 := by decide +kernel
theorem tyX6_ok : ∀ k, k < 0 → parseFieldDescriptor (TX6 k).2.2.1 = some (tyX6 k) := by decide +kernel
abbrev cX6_init : ByteArray := prog_8_method_1_code
def yX6_init : MethodName := ⟨RX6, "<init>", "()V"⟩
abbrev cX6_rowsHitWith : ByteArray := prog_8_method_2_code
def yX6_rowsHitWith : MethodName := ⟨RX6, "rowsHitWith", "(II)I"⟩
def RX7 : String := "TossRows$Race"
def TX7 : u_T := fun k => match k with
  | 0 => ("TossRows$Race", "rows", "[I", true)
  | 1 => ("TossRows$Race", "sums", "[[J", true)
  | _ => ("TossRows$Race", "many", "I", false)
def tyX7 : Nat → FieldType := fun k => match k with
  | 0 => .array .int
  | 1 => .array (.array .long)
  | _ => .int
theorem nmX7 : ∀ a, a < 3 → ∀ b, b < 3 → a ≠ b → (TX7 a).2.1 ≠ (TX7 b).2.1 := by decide +kernel
theorem tyX7_ok : ∀ k, k < 3 → parseFieldDescriptor (TX7 k).2.2.1 = some (tyX7 k) := by decide +kernel
abbrev cX7_init : ByteArray := prog_9_method_1_code
def yX7_init : MethodName := ⟨RX7, "<init>", "()V"⟩
abbrev cX7_waitFor : ByteArray := prog_9_method_2_code
def yX7_waitFor : MethodName := ⟨RX7, "waitFor", "(II)I"⟩
abbrev cX7_chance : ByteArray := prog_9_method_3_code
def yX7_chance : MethodName := ⟨RX7, "chance", "(III)I"⟩
abbrev cX7_run : ByteArray := prog_9_method_4_code
def yX7_run : MethodName := ⟨RX7, "run", "(II)J"⟩
abbrev cX7_eliminate : ByteArray := prog_9_method_5_code
def yX7_eliminate : MethodName := ⟨RX7, "eliminate", "([J[JIJ)V"⟩
abbrev cX7_setRows : ByteArray := prog_9_method_6_code
def yX7_setRows : MethodName := ⟨RX7, "setRows", "(II)V"⟩
abbrev cX7_setSums : ByteArray := prog_9_method_7_code
def yX7_setSums : MethodName := ⟨RX7, "setSums", "(I)V"⟩
abbrev cX7_overlap : ByteArray := prog_9_method_8_code
def yX7_overlap : MethodName := ⟨RX7, "overlap", "(III)I"⟩
abbrev cX7_sharesOf : ByteArray := prog_9_method_9_code
def yX7_sharesOf : MethodName := ⟨RX7, "sharesOf", "(I)J"⟩
def RX8 : String := "TossRows"
def TX8 : u_T := fun k => match k with
  | 0 => ("TossRows", "page", "LTossRows$Page;", true)
  | 1 => ("TossRows", "now", "LTossRows$Course;", true)
  | 2 => ("TossRows", "kept", "LTossRows$Course;", true)
  | 3 => ("TossRows", "race", "LTossRows$Race;", true)
  | 4 => ("TossRows", "kinds", "[LTossRows$Plain;", true)
  | 5 => ("TossRows", "wins", "[I", true)
  | 6 => ("TossRows", "ways", "[I", true)
  | 7 => ("TossRows", "waysThen", "[I", true)
  | 8 => ("TossRows", "isKept", "Z", false)
  | 9 => ("TossRows", "players", "I", false)
  | 10 => ("TossRows", "size", "I", false)
  | _ => ("TossRows", "reads", "I", false)
def tyX8 : Nat → FieldType := fun k => match k with
  | 0 => .object "TossRows$Page"
  | 1 => .object "TossRows$Course"
  | 2 => .object "TossRows$Course"
  | 3 => .object "TossRows$Race"
  | 4 => .array (.object "TossRows$Plain")
  | 5 => .array .int
  | 6 => .array .int
  | 7 => .array .int
  | 8 => .boolean
  | 9 => .int
  | 10 => .int
  | _ => .int
theorem nmX8 : ∀ a, a < 12 → ∀ b, b < 12 → a ≠ b → (TX8 a).2.1 ≠ (TX8 b).2.1 := by decide +kernel
theorem tyX8_ok : ∀ k, k < 12 → parseFieldDescriptor (TX8 k).2.2.1 = some (tyX8 k) := by decide +kernel
abbrev cX8_init : ByteArray := prog_1_method_1_code
def yX8_init : MethodName := ⟨RX8, "<init>", "()V"⟩
abbrev cX8_letter : ByteArray := prog_1_method_2_code
def yX8_letter : MethodName := ⟨RX8, "letter", "(I)I"⟩
abbrev cX8_blank : ByteArray := prog_1_method_3_code
def yX8_blank : MethodName := ⟨RX8, "blank", "()I"⟩
abbrev cX8_fault : ByteArray := prog_1_method_4_code
def yX8_fault : MethodName := ⟨RX8, "fault", "()I"⟩
abbrev cX8_table : ByteArray := prog_1_method_5_code
def yX8_table : MethodName := ⟨RX8, "table", "()I"⟩
abbrev cX8_player : ByteArray := prog_1_method_6_code
def yX8_player : MethodName := ⟨RX8, "player", "(II)I"⟩
abbrev cX8_as : ByteArray := prog_1_method_7_code
def yX8_as : MethodName := ⟨RX8, "as", "(II)I"⟩
abbrev cX8_hits : ByteArray := prog_1_method_8_code
def yX8_hits : MethodName := ⟨RX8, "hits", "(II)I"⟩
abbrev cX8_toss : ByteArray := prog_1_method_9_code
def yX8_toss : MethodName := ⟨RX8, "toss", "(I)I"⟩
abbrev cX8_anew : ByteArray := prog_1_method_10_code
def yX8_anew : MethodName := ⟨RX8, "anew", "()I"⟩
abbrev cX8_bet : ByteArray := prog_1_method_11_code
def yX8_bet : MethodName := ⟨RX8, "bet", "(II)I"⟩
abbrev cX8_be : ByteArray := prog_1_method_12_code
def yX8_be : MethodName := ⟨RX8, "be", "(II)I"⟩
abbrev cX8_duel : ByteArray := prog_1_method_13_code
def yX8_duel : MethodName := ⟨RX8, "duel", "(II)I"⟩
abbrev cX8_answer : ByteArray := prog_1_method_14_code
def yX8_answer : MethodName := ⟨RX8, "answer", "(II)I"⟩
abbrev cX8_open : ByteArray := prog_1_method_15_code
def yX8_open : MethodName := ⟨RX8, "open", "(I)I"⟩
abbrev cX8_ring : ByteArray := prog_1_method_16_code
def yX8_ring : MethodName := ⟨RX8, "ring", "()I"⟩
abbrev cX8_odds : ByteArray := prog_1_method_17_code
def yX8_odds : MethodName := ⟨RX8, "odds", "(III)I"⟩
abbrev cX8_see : ByteArray := prog_1_method_18_code
def yX8_see : MethodName := ⟨RX8, "see", "(IIZ)I"⟩
abbrev cX8_forget : ByteArray := prog_1_method_19_code
def yX8_forget : MethodName := ⟨RX8, "forget", "()I"⟩
abbrev cX8_games : ByteArray := prog_1_method_20_code
def yX8_games : MethodName := ⟨RX8, "games", "(III)I"⟩
abbrev cX8_image : ByteArray := prog_1_method_21_code
def yX8_image : MethodName := ⟨RX8, "image", "()I"⟩
abbrev cX8_restore : ByteArray := prog_1_method_22_code
def yX8_restore : MethodName := ⟨RX8, "restore", "()I"⟩
abbrev cX8_count : ByteArray := prog_1_method_23_code
def yX8_count : MethodName := ⟨RX8, "count", "(I)I"⟩
abbrev cX8_digest : ByteArray := prog_1_method_24_code
def yX8_digest : MethodName := ⟨RX8, "digest", "()J"⟩
abbrev cX8_with : ByteArray := prog_1_method_25_code
def yX8_with : MethodName := ⟨RX8, "with", "(JJ)J"⟩
abbrev cX8_isPlayer : ByteArray := prog_1_method_26_code
def yX8_isPlayer : MethodName := ⟨RX8, "isPlayer", "(I)Z"⟩
abbrev cX8_isRow : ByteArray := prog_1_method_27_code
def yX8_isRow : MethodName := ⟨RX8, "isRow", "(I)Z"⟩
abbrev cX8_isKind : ByteArray := prog_1_method_28_code
def yX8_isKind : MethodName := ⟨RX8, "isKind", "(I)Z"⟩
abbrev cX8_kindAt : ByteArray := prog_1_method_29_code
def yX8_kindAt : MethodName := ⟨RX8, "kindAt", "(I)LTossRows$Plain;"⟩
abbrev cX8_isSuch : ByteArray := prog_1_method_30_code
def yX8_isSuch : MethodName := ⟨RX8, "isSuch", "(LTossRows$Plain;I)Z"⟩
abbrev cX8_rowsHitBy : ByteArray := prog_1_method_31_code
def yX8_rowsHitBy : MethodName := ⟨RX8, "rowsHitBy", "(I)I"⟩
abbrev cX8_has : ByteArray := prog_1_method_32_code
def yX8_has : MethodName := ⟨RX8, "has", "(II)Z"⟩
abbrev cX8_trackBehind : ByteArray := prog_1_method_33_code
def yX8_trackBehind : MethodName := ⟨RX8, "trackBehind", "(II)I"⟩
abbrev cX8_tailOf : ByteArray := prog_1_method_34_code
def yX8_tailOf : MethodName := ⟨RX8, "tailOf", "(I)I"⟩
abbrev cX8_hittersAt : ByteArray := prog_1_method_35_code
def yX8_hittersAt : MethodName := ⟨RX8, "hittersAt", "(I)I"⟩
abbrev cX8_addWins : ByteArray := prog_1_method_36_code
def yX8_addWins : MethodName := ⟨RX8, "addWins", "(I[I)V"⟩
abbrev cX8_mostWins : ByteArray := prog_1_method_37_code
def yX8_mostWins : MethodName := ⟨RX8, "mostWins", "()I"⟩
abbrev cX8_nextSeed : ByteArray := prog_1_method_38_code
def yX8_nextSeed : MethodName := ⟨RX8, "nextSeed", "(I)I"⟩
abbrev cX8_bestAgainst : ByteArray := prog_1_method_39_code
def yX8_bestAgainst : MethodName := ⟨RX8, "bestAgainst", "(I)I"⟩
abbrev cX8_dangerOf : ByteArray := prog_1_method_40_code
def yX8_dangerOf : MethodName := ⟨RX8, "dangerOf", "(I)I"⟩
abbrev cX8_bestToOpen : ByteArray := prog_1_method_41_code
def yX8_bestToOpen : MethodName := ⟨RX8, "bestToOpen", "()I"⟩
abbrev cX8_beatBit : ByteArray := prog_1_method_42_code
def yX8_beatBit : MethodName := ⟨RX8, "beatBit", "(II)I"⟩
abbrev cX8_whoBeatsWhom : ByteArray := prog_1_method_43_code
def yX8_whoBeatsWhom : MethodName := ⟨RX8, "whoBeatsWhom", "()I"⟩
abbrev cX8_isRing : ByteArray := prog_1_method_44_code
def yX8_isRing : MethodName := ⟨RX8, "isRing", "(II)Z"⟩
abbrev cX8_closes : ByteArray := prog_1_method_45_code
def yX8_closes : MethodName := ⟨RX8, "closes", "(IIIII)Z"⟩
abbrev cX8_waysToWin : ByteArray := prog_1_method_46_code
def yX8_waysToWin : MethodName := ⟨RX8, "waysToWin", "(II)I"⟩
abbrev cX8_winsByToss : ByteArray := prog_1_method_47_code
def yX8_winsByToss : MethodName := ⟨RX8, "winsByToss", "(II)I"⟩
abbrev cX8_betsThatHit : ByteArray := prog_1_method_48_code
def yX8_betsThatHit : MethodName := ⟨RX8, "betsThatHit", "(LTossRows$Plain;I)I"⟩
abbrev cX8_rowsLeft : ByteArray := prog_1_method_49_code
def yX8_rowsLeft : MethodName := ⟨RX8, "rowsLeft", "(I)I"⟩
abbrev cX8_nextTry : ByteArray := prog_1_method_50_code
def yX8_nextTry : MethodName := ⟨RX8, "nextTry", "(I)I"⟩
abbrev cX8_fromItsEnd : ByteArray := prog_1_method_51_code
def yX8_fromItsEnd : MethodName := ⟨RX8, "fromItsEnd", "(II)I"⟩
abbrev cX8_withOtherSigns : ByteArray := prog_1_method_52_code
def yX8_withOtherSigns : MethodName := ⟨RX8, "withOtherSigns", "(II)I"⟩
def RX9 : String := "TossRowsModel"
def TX9 : u_T := fun k => match k with
  | 0 => ("TossRowsModel", "tables", "I", false)
  | 1 => ("TossRowsModel", "players", "I", false)
  | 2 => ("TossRowsModel", "length", "I", false)
  | 3 => ("TossRowsModel", "kindOf", "[I", true)
  | 4 => ("TossRowsModel", "rowOf", "[I", true)
  | 5 => ("TossRowsModel", "wonBy", "[I", true)
  | 6 => ("TossRowsModel", "tossed", "I", false)
  | 7 => ("TossRowsModel", "latest", "I", false)
  | 8 => ("TossRowsModel", "tosses", "I", false)
  | 9 => ("TossRowsModel", "seen", "I", false)
  | 10 => ("TossRowsModel", "seenPlayer", "[I", true)
  | 11 => ("TossRowsModel", "seenTail", "[I", true)
  | 12 => ("TossRowsModel", "seenHits", "[I", true)
  | 13 => ("TossRowsModel", "pageLength", "I", false)
  | 14 => ("TossRowsModel", "page", "[B", true)
  | 15 => ("TossRowsModel", "isWhole", "Z", false)
  | 16 => ("TossRowsModel", "newLength", "I", false)
  | 17 => ("TossRowsModel", "newPlayers", "I", false)
  | 18 => ("TossRowsModel", "by", "[J", true)
  | 19 => ("TossRowsModel", "beats", "[I", true)
  | 20 => ("TossRowsModel", "waysOf", "[I", true)
  | 21 => ("TossRowsModel", "waysNext", "[I", true)
  | 22 => ("TossRowsModel", "seedNow", "J", false)
  | 23 => ("TossRowsModel", "wonNow", "[I", true)
  | 24 => ("TossRowsModel", "isKept", "Z", false)
  | 25 => ("TossRowsModel", "keptTable", "I", false)
  | 26 => ("TossRowsModel", "keptTossed", "I", false)
  | 27 => ("TossRowsModel", "keptLatest", "I", false)
  | 28 => ("TossRowsModel", "keptTosses", "I", false)
  | 29 => ("TossRowsModel", "keptSeen", "I", false)
  | 30 => ("TossRowsModel", "keptKind", "[I", true)
  | 31 => ("TossRowsModel", "keptRow", "[I", true)
  | 32 => ("TossRowsModel", "keptWon", "[I", true)
  | 33 => ("TossRowsModel", "keptPlayer", "[I", true)
  | 34 => ("TossRowsModel", "keptTail", "[I", true)
  | 35 => ("TossRowsModel", "keptHits", "[I", true)
  | _ => ("TossRowsModel", "h", "J", false)
def tyX9 : Nat → FieldType := fun k => match k with
  | 0 => .int
  | 1 => .int
  | 2 => .int
  | 3 => .array .int
  | 4 => .array .int
  | 5 => .array .int
  | 6 => .int
  | 7 => .int
  | 8 => .int
  | 9 => .int
  | 10 => .array .int
  | 11 => .array .int
  | 12 => .array .int
  | 13 => .int
  | 14 => .array .byte
  | 15 => .boolean
  | 16 => .int
  | 17 => .int
  | 18 => .array .long
  | 19 => .array .int
  | 20 => .array .int
  | 21 => .array .int
  | 22 => .long
  | 23 => .array .int
  | 24 => .boolean
  | 25 => .int
  | 26 => .int
  | 27 => .int
  | 28 => .int
  | 29 => .int
  | 30 => .array .int
  | 31 => .array .int
  | 32 => .array .int
  | 33 => .array .int
  | 34 => .array .int
  | 35 => .array .int
  | _ => .long
theorem nmX9 : ∀ a, a < 37 → ∀ b, b < 37 → a ≠ b → (TX9 a).2.1 ≠ (TX9 b).2.1 := by decide +kernel
theorem tyX9_ok : ∀ k, k < 37 → parseFieldDescriptor (TX9 k).2.2.1 = some (tyX9 k) := by decide +kernel
abbrev cX9_init : ByteArray := prog_11_method_1_code
def yX9_init : MethodName := ⟨RX9, "<init>", "()V"⟩
abbrev cX9_within : ByteArray := prog_11_method_3_code
def yX9_within : MethodName := ⟨RX9, "within", "(III)Z"⟩
abbrev cX9_isIn : ByteArray := prog_11_method_4_code
def yX9_isIn : MethodName := ⟨RX9, "isIn", "(II)Z"⟩
abbrev cX9_size : ByteArray := prog_11_method_5_code
def yX9_size : MethodName := ⟨RX9, "size", "(I)I"⟩
abbrev cX9_divisor : ByteArray := prog_11_method_6_code
def yX9_divisor : MethodName := ⟨RX9, "divisor", "(II)I"⟩
abbrev cX9_letter : ByteArray := prog_11_method_7_code
def yX9_letter : MethodName := ⟨RX9, "letter", "(I)I"⟩
abbrev cX9_blank : ByteArray := prog_11_method_8_code
def yX9_blank : MethodName := ⟨RX9, "blank", "()I"⟩
abbrev cX9_kindBy : ByteArray := prog_11_method_9_code
def yX9_kindBy : MethodName := ⟨RX9, "kindBy", "(I)I"⟩
abbrev cX9_at : ByteArray := prog_11_method_10_code
def yX9_at : MethodName := ⟨RX9, "at", "(I)I"⟩
abbrev cX9_readPlayer : ByteArray := prog_11_method_11_code
def yX9_readPlayer : MethodName := ⟨RX9, "readPlayer", "(I)I"⟩
abbrev cX9_read : ByteArray := prog_11_method_12_code
def yX9_read : MethodName := ⟨RX9, "read", "()I"⟩
abbrev cX9_fault : ByteArray := prog_11_method_13_code
def yX9_fault : MethodName := ⟨RX9, "fault", "()I"⟩
abbrev cX9_rowAt : ByteArray := prog_11_method_14_code
def yX9_rowAt : MethodName := ⟨RX9, "rowAt", "(I)I"⟩
abbrev cX9_table : ByteArray := prog_11_method_15_code
def yX9_table : MethodName := ⟨RX9, "table", "()I"⟩
abbrev cX9_isPlayer : ByteArray := prog_11_method_16_code
def yX9_isPlayer : MethodName := ⟨RX9, "isPlayer", "(I)Z"⟩
abbrev cX9_rows : ByteArray := prog_11_method_17_code
def yX9_rows : MethodName := ⟨RX9, "rows", "()I"⟩
abbrev cX9_isRow : ByteArray := prog_11_method_18_code
def yX9_isRow : MethodName := ⟨RX9, "isRow", "(I)Z"⟩
abbrev cX9_turned : ByteArray := prog_11_method_19_code
def yX9_turned : MethodName := ⟨RX9, "turned", "(I)I"⟩
abbrev cX9_hitsBy : ByteArray := prog_11_method_20_code
def yX9_hitsBy : MethodName := ⟨RX9, "hitsBy", "(II)I"⟩
abbrev cX9_hitsOf : ByteArray := prog_11_method_21_code
def yX9_hitsOf : MethodName := ⟨RX9, "hitsOf", "(I)I"⟩
abbrev cX9_playerNow : ByteArray := prog_11_method_22_code
def yX9_playerNow : MethodName := ⟨RX9, "playerNow", "(II)I"⟩
abbrev cX9_player : ByteArray := prog_11_method_23_code
def yX9_player : MethodName := ⟨RX9, "player", "(II)I"⟩
abbrev cX9_as : ByteArray := prog_11_method_24_code
def yX9_as : MethodName := ⟨RX9, "as", "(II)I"⟩
abbrev cX9_hits : ByteArray := prog_11_method_25_code
def yX9_hits : MethodName := ⟨RX9, "hits", "(II)I"⟩
abbrev cX9_whoHits : ByteArray := prog_11_method_26_code
def yX9_whoHits : MethodName := ⟨RX9, "whoHits", "(II)I"⟩
abbrev cX9_toss : ByteArray := prog_11_method_27_code
def yX9_toss : MethodName := ⟨RX9, "toss", "(I)I"⟩
abbrev cX9_anew : ByteArray := prog_11_method_28_code
def yX9_anew : MethodName := ⟨RX9, "anew", "()I"⟩
abbrev cX9_bet : ByteArray := prog_11_method_29_code
def yX9_bet : MethodName := ⟨RX9, "bet", "(II)I"⟩
abbrev cX9_be : ByteArray := prog_11_method_30_code
def yX9_be : MethodName := ⟨RX9, "be", "(II)I"⟩
abbrev cX9_unknowns : ByteArray := prog_11_method_31_code
def yX9_unknowns : MethodName := ⟨RX9, "unknowns", "()I"⟩
abbrev cX9_clear : ByteArray := prog_11_method_32_code
def yX9_clear : MethodName := ⟨RX9, "clear", "()V"⟩
abbrev cX9_exchange : ByteArray := prog_11_method_33_code
def yX9_exchange : MethodName := ⟨RX9, "exchange", "(II)V"⟩
abbrev cX9_eliminate : ByteArray := prog_11_method_34_code
def yX9_eliminate : MethodName := ⟨RX9, "eliminate", "(IJ)V"⟩
abbrev cX9_solve : ByteArray := prog_11_method_35_code
def yX9_solve : MethodName := ⟨RX9, "solve", "()V"⟩
abbrev cX9_middle : ByteArray := prog_11_method_36_code
def yX9_middle : MethodName := ⟨RX9, "middle", "(J)J"⟩
abbrev cX9_waitOf : ByteArray := prog_11_method_37_code
def yX9_waitOf : MethodName := ⟨RX9, "waitOf", "(I)I"⟩
abbrev cX9_duelOf : ByteArray := prog_11_method_38_code
def yX9_duelOf : MethodName := ⟨RX9, "duelOf", "(II)I"⟩
abbrev cX9_duelNow : ByteArray := prog_11_method_39_code
def yX9_duelNow : MethodName := ⟨RX9, "duelNow", "(II)I"⟩
abbrev cX9_duel : ByteArray := prog_11_method_40_code
def yX9_duel : MethodName := ⟨RX9, "duel", "(II)I"⟩
abbrev cX9_answerNow : ByteArray := prog_11_method_41_code
def yX9_answerNow : MethodName := ⟨RX9, "answerNow", "(II)I"⟩
abbrev cX9_answer : ByteArray := prog_11_method_42_code
def yX9_answer : MethodName := ⟨RX9, "answer", "(II)I"⟩
abbrev cX9_mostAgainst : ByteArray := prog_11_method_43_code
def yX9_mostAgainst : MethodName := ⟨RX9, "mostAgainst", "(I)I"⟩
abbrev cX9_openNow : ByteArray := prog_11_method_44_code
def yX9_openNow : MethodName := ⟨RX9, "openNow", "(I)I"⟩
abbrev cX9_open : ByteArray := prog_11_method_45_code
def yX9_open : MethodName := ⟨RX9, "open", "(I)I"⟩
abbrev cX9_layBeats : ByteArray := prog_11_method_46_code
def yX9_layBeats : MethodName := ⟨RX9, "layBeats", "()V"⟩
abbrev cX9_isRound : ByteArray := prog_11_method_47_code
def yX9_isRound : MethodName := ⟨RX9, "isRound", "(III)Z"⟩
abbrev cX9_isRoundOfFour : ByteArray := prog_11_method_48_code
def yX9_isRoundOfFour : MethodName := ⟨RX9, "isRoundOfFour", "(IIII)Z"⟩
abbrev cX9_ringNow : ByteArray := prog_11_method_49_code
def yX9_ringNow : MethodName := ⟨RX9, "ringNow", "()I"⟩
abbrev cX9_ring : ByteArray := prog_11_method_50_code
def yX9_ring : MethodName := ⟨RX9, "ring", "()I"⟩
abbrev cX9_behind : ByteArray := prog_11_method_51_code
def yX9_behind : MethodName := ⟨RX9, "behind", "(II)I"⟩
abbrev cX9_tossWays : ByteArray := prog_11_method_52_code
def yX9_tossWays : MethodName := ⟨RX9, "tossWays", "(II)I"⟩
abbrev cX9_stateNow : ByteArray := prog_11_method_53_code
def yX9_stateNow : MethodName := ⟨RX9, "stateNow", "()I"⟩
abbrev cX9_oddsNow : ByteArray := prog_11_method_54_code
def yX9_oddsNow : MethodName := ⟨RX9, "oddsNow", "(III)I"⟩
abbrev cX9_odds : ByteArray := prog_11_method_55_code
def yX9_odds : MethodName := ⟨RX9, "odds", "(III)I"⟩
abbrev cX9_see : ByteArray := prog_11_method_56_code
def yX9_see : MethodName := ⟨RX9, "see", "(IIZ)I"⟩
abbrev cX9_forget : ByteArray := prog_11_method_57_code
def yX9_forget : MethodName := ⟨RX9, "forget", "()I"⟩
abbrev cX9_rowsOf : ByteArray := prog_11_method_58_code
def yX9_rowsOf : MethodName := ⟨RX9, "rowsOf", "(I)I"⟩
abbrev cX9_tryFor : ByteArray := prog_11_method_59_code
def yX9_tryFor : MethodName := ⟨RX9, "tryFor", "(I)I"⟩
abbrev cX9_draw : ByteArray := prog_11_method_60_code
def yX9_draw : MethodName := ⟨RX9, "draw", "(I)I"⟩
abbrev cX9_mostWon : ByteArray := prog_11_method_61_code
def yX9_mostWon : MethodName := ⟨RX9, "mostWon", "()I"⟩
abbrev cX9_gamesNow : ByteArray := prog_11_method_62_code
def yX9_gamesNow : MethodName := ⟨RX9, "gamesNow", "(III)I"⟩
abbrev cX9_games : ByteArray := prog_11_method_63_code
def yX9_games : MethodName := ⟨RX9, "games", "(III)I"⟩
abbrev cX9_image : ByteArray := prog_11_method_64_code
def yX9_image : MethodName := ⟨RX9, "image", "()I"⟩
abbrev cX9_restore : ByteArray := prog_11_method_65_code
def yX9_restore : MethodName := ⟨RX9, "restore", "()I"⟩
abbrev cX9_wonByAll : ByteArray := prog_11_method_66_code
def yX9_wonByAll : MethodName := ⟨RX9, "wonByAll", "()I"⟩
abbrev cX9_tailNow : ByteArray := prog_11_method_67_code
def yX9_tailNow : MethodName := ⟨RX9, "tailNow", "()I"⟩
abbrev cX9_howMany : ByteArray := prog_11_method_68_code
def yX9_howMany : MethodName := ⟨RX9, "howMany", "(I)I"⟩
abbrev cX9_count : ByteArray := prog_11_method_69_code
def yX9_count : MethodName := ⟨RX9, "count", "(I)I"⟩
abbrev cX9_mix : ByteArray := prog_11_method_70_code
def yX9_mix : MethodName := ⟨RX9, "mix", "(J)V"⟩
abbrev cX9_mixPlayer : ByteArray := prog_11_method_71_code
def yX9_mixPlayer : MethodName := ⟨RX9, "mixPlayer", "(I)V"⟩
abbrev cX9_digest : ByteArray := prog_11_method_72_code
def yX9_digest : MethodName := ⟨RX9, "digest", "()J"⟩
def RJx145de : String := "java/io/Serializable"
def TJx145de : u_T := fun k => match k with
  | _ => ("", "", "", false)
def tyJx145de : Nat → FieldType := fun k => match k with
  | _ => .int
def RJx9f9b0 : String := "java/lang/CharSequence"
def TJx9f9b0 : u_T := fun k => match k with
  | _ => ("", "", "", false)
def tyJx9f9b0 : Nat → FieldType := fun k => match k with
  | _ => .int
def RJ11 : String := "java/lang/Character"
def TJ11 : u_T := fun k => match k with
  | _ => ("", "", "", false)
def tyJ11 : Nat → FieldType := fun k => match k with
  | _ => .int
theorem nmJ11 : ∀ a, a < 0 → ∀ b, b < 0 → a ≠ b → (TJ11 a).2.1 ≠ (TJ11 b).2.1 := by decide +kernel
theorem tyJ11_ok : ∀ k, k < 0 → parseFieldDescriptor (TJ11 k).2.2.1 = some (tyJ11 k) := by decide +kernel
abbrev cJ11_isValidCodePoint_9a6ad : ByteArray := prog_12_method_11_code
def yJ11_isValidCodePoint_9a6ad : MethodName := ⟨RJ11, "isValidCodePoint", "(I)Z"⟩
abbrev cJ11_highSurrogate_5068e : ByteArray := prog_12_method_28_code
def yJ11_highSurrogate_5068e : MethodName := ⟨RJ11, "highSurrogate", "(I)C"⟩
abbrev cJ11_lowSurrogate_5068e : ByteArray := prog_12_method_29_code
def yJ11_lowSurrogate_5068e : MethodName := ⟨RJ11, "lowSurrogate", "(I)C"⟩
def RJxb160c : String := "java/lang/Comparable"
def TJxb160c : u_T := fun k => match k with
  | _ => ("", "", "", false)
def tyJxb160c : Nat → FieldType := fun k => match k with
  | _ => .int
def RJ6 : String := "java/lang/Integer"
def TJ6 : u_T := fun k => match k with
  | _ => ("", "", "", false)
def tyJ6 : Nat → FieldType := fun k => match k with
  | _ => .int
theorem nmJ6 : ∀ a, a < 0 → ∀ b, b < 0 → a ≠ b → (TJ6 a).2.1 ≠ (TJ6 b).2.1 := by decide +kernel
theorem tyJ6_ok : ∀ k, k < 0 → parseFieldDescriptor (TJ6 k).2.2.1 = some (tyJ6 k) := by decide +kernel
abbrev cJ6_bitCount_0f7a4 : ByteArray := prog_13_method_49_code
def yJ6_bitCount_0f7a4 : MethodName := ⟨RJ6, "bitCount", "(I)I"⟩
def RJ9 : String := "java/lang/Math"
def TJ9 : u_T := fun k => match k with
  | _ => ("", "", "", false)
def tyJ9 : Nat → FieldType := fun k => match k with
  | _ => .int
theorem nmJ9 : ∀ a, a < 0 → ∀ b, b < 0 → a ≠ b → (TJ9 a).2.1 ≠ (TJ9 b).2.1 := by decide +kernel
theorem tyJ9_ok : ∀ k, k < 0 → parseFieldDescriptor (TJ9 k).2.2.1 = some (tyJ9 k) := by decide +kernel
abbrev cJ9_max_7cf53 : ByteArray := prog_14_method_65_code
def yJ9_max_7cf53 : MethodName := ⟨RJ9, "max", "(II)I"⟩
abbrev cJ9_min_7cf53 : ByteArray := prog_14_method_69_code
def yJ9_min_7cf53 : MethodName := ⟨RJ9, "min", "(II)I"⟩
def RJ0 : String := "java/lang/String"
def TJ0 : u_T := fun k => match k with
  | _ => ("", "", "", false)
def tyJ0 : Nat → FieldType := fun k => match k with
  | _ => .int
theorem nmJ0 : ∀ a, a < 0 → ∀ b, b < 0 → a ≠ b → (TJ0 a).2.1 ≠ (TJ0 b).2.1 := by decide +kernel
theorem tyJ0_ok : ∀ k, k < 0 → parseFieldDescriptor (TJ0 k).2.2.1 = some (tyJ0 k) := by decide +kernel
abbrev cJ0_length_8abf5 : ByteArray := prog_15_method_54_code
def yJ0_length_8abf5 : MethodName := ⟨RJ0, "length", "()I"⟩
abbrev cJ0_indexOf_0f7a4 : ByteArray := prog_15_method_79_code
def yJ0_indexOf_0f7a4 : MethodName := ⟨RJ0, "indexOf", "(I)I"⟩
abbrev cJ0_indexOf_7cf53 : ByteArray := prog_15_method_80_code
def yJ0_indexOf_7cf53 : MethodName := ⟨RJ0, "indexOf", "(II)I"⟩
abbrev cJ0_coder_7d493 : ByteArray := prog_15_method_152_code
def yJ0_coder_7d493 : MethodName := ⟨RJ0, "coder", "()B"⟩
abbrev cJ0_isLatin1_aae02 : ByteArray := prog_15_method_154_code
def yJ0_isLatin1_aae02 : MethodName := ⟨RJ0, "isLatin1", "()Z"⟩
abbrev cJ0_checkBoundsBeginEnd_23922 : ByteArray := prog_15_method_158_code
def yJ0_checkBoundsBeginEnd_23922 : MethodName := ⟨RJ0, "checkBoundsBeginEnd", "(III)V"⟩
def RJ1 : String := "java/lang/StringLatin1"
def TJ1 : u_T := fun k => match k with
  | _ => ("", "", "", false)
def tyJ1 : Nat → FieldType := fun k => match k with
  | _ => .int
theorem nmJ1 : ∀ a, a < 0 → ∀ b, b < 0 → a ≠ b → (TJ1 a).2.1 ≠ (TJ1 b).2.1 := by decide +kernel
theorem tyJ1_ok : ∀ k, k < 0 → parseFieldDescriptor (TJ1 k).2.2.1 = some (tyJ1 k) := by decide +kernel
abbrev cJ1_canEncode_9a6ad : ByteArray := prog_16_method_4_code
def yJ1_canEncode_9a6ad : MethodName := ⟨RJ1, "canEncode", "(I)Z"⟩
abbrev cJ1_indexOf_4cfef : ByteArray := prog_16_method_22_code
def yJ1_indexOf_4cfef : MethodName := ⟨RJ1, "indexOf", "([BIII)I"⟩
abbrev cJ1_indexOfChar_4cfef : ByteArray := prog_16_method_23_code
def yJ1_indexOfChar_4cfef : MethodName := ⟨RJ1, "indexOfChar", "([BIII)I"⟩
def RJ2 : String := "java/lang/StringUTF16"
def TJ2 : u_T := fun k => match k with
  | _ => ("", "", "", false)
def tyJ2 : Nat → FieldType := fun k => match k with
  | _ => .int
theorem nmJ2 : ∀ a, a < 0 → ∀ b, b < 0 → a ≠ b → (TJ2 a).2.1 ≠ (TJ2 b).2.1 := by decide +kernel
theorem tyJ2_ok : ∀ k, k < 0 → parseFieldDescriptor (TJ2 k).2.2.1 = some (tyJ2 k) := by decide +kernel
abbrev cJ2_getChar_3b067 : ByteArray := prog_17_method_5_code
def yJ2_getChar_3b067 : MethodName := ⟨RJ2, "getChar", "([BI)C"⟩
abbrev cJ2_length_9d52b : ByteArray := prog_17_method_6_code
def yJ2_length_9d52b : MethodName := ⟨RJ2, "length", "([B)I"⟩
abbrev cJ2_indexOf_4cfef : ByteArray := prog_17_method_40_code
def yJ2_indexOf_4cfef : MethodName := ⟨RJ2, "indexOf", "([BIII)I"⟩
abbrev cJ2_indexOfChar_4cfef : ByteArray := prog_17_method_47_code
def yJ2_indexOfChar_4cfef : MethodName := ⟨RJ2, "indexOfChar", "([BIII)I"⟩
abbrev cJ2_indexOfCharUnsafe_4cfef : ByteArray := prog_17_method_48_code
def yJ2_indexOfCharUnsafe_4cfef : MethodName := ⟨RJ2, "indexOfCharUnsafe", "([BIII)I"⟩
abbrev cJ2_indexOfSupplementary_4cfef : ByteArray := prog_17_method_49_code
def yJ2_indexOfSupplementary_4cfef : MethodName := ⟨RJ2, "indexOfSupplementary", "([BIII)I"⟩
abbrev cJ2_checkBoundsBeginEnd_d044e : ByteArray := prog_17_method_93_code
def yJ2_checkBoundsBeginEnd_d044e : MethodName := ⟨RJ2, "checkBoundsBeginEnd", "(II[B)V"⟩
def RJ10 : String := "java/lang/System"
def TJ10 : u_T := fun k => match k with
  | _ => ("", "", "", false)
def tyJ10 : Nat → FieldType := fun k => match k with
  | _ => .int
theorem nmJ10 : ∀ a, a < 0 → ∀ b, b < 0 → a ≠ b → (TJ10 a).2.1 ≠ (TJ10 b).2.1 := by decide +kernel
theorem tyJ10_ok : ∀ k, k < 0 → parseFieldDescriptor (TJ10 k).2.2.1 = some (tyJ10 k) := by decide +kernel
def RJxfd54e : String := "java/lang/constant/Constable"
def TJxfd54e : u_T := fun k => match k with
  | _ => ("", "", "", false)
def tyJxfd54e : Nat → FieldType := fun k => match k with
  | _ => .int
def RJx3cf43 : String := "java/lang/constant/ConstantDesc"
def TJx3cf43 : u_T := fun k => match k with
  | _ => ("", "", "", false)
def tyJx3cf43 : Nat → FieldType := fun k => match k with
  | _ => .int
def RJ7 : String := "java/util/Arrays"
def TJ7 : u_T := fun k => match k with
  | _ => ("", "", "", false)
def tyJ7 : Nat → FieldType := fun k => match k with
  | _ => .int
theorem nmJ7 : ∀ a, a < 0 → ∀ b, b < 0 → a ≠ b → (TJ7 a).2.1 ≠ (TJ7 b).2.1 := by decide +kernel
theorem tyJ7_ok : ∀ k, k < 0 → parseFieldDescriptor (TJ7 k).2.2.1 = some (tyJ7 k) := by decide +kernel
abbrev cJ7_fill_53178 : ByteArray := prog_19_method_103_code
def yJ7_fill_53178 : MethodName := ⟨RJ7, "fill", "([II)V"⟩
def RJ3 : String := "jdk/internal/util/Preconditions"
def TJ3 : u_T := fun k => match k with
  | _ => ("", "", "", false)
def tyJ3 : Nat → FieldType := fun k => match k with
  | _ => .int
theorem nmJ3 : ∀ a, a < 0 → ∀ b, b < 0 → a ≠ b → (TJ3 a).2.1 ≠ (TJ3 b).2.1 := by decide +kernel
theorem tyJ3_ok : ∀ k, k < 0 → parseFieldDescriptor (TJ3 k).2.2.1 = some (tyJ3 k) := by decide +kernel
abbrev cJ3_checkFromToIndex_8c36e : ByteArray := prog_20_method_12_code
def yJ3_checkFromToIndex_8c36e : MethodName := ⟨RJ3, "checkFromToIndex", "(IIILjava/util/function/BiFunction;)I"⟩
def RL : String := "TossRowsLaw"
abbrev cL_law : ByteArray := code
def yL_law : MethodName := ⟨RL, "law", "([I)Z"⟩
abbrev vwCl : List vw_C := [(RX0, TX0, 0), (RX1, TX1, 10), (RX2, TX2, 0), (RX3, TX3, 0), (RX4, TX4, 0), (RX5, TX5, 2), (RX6, TX6, 0), (RX7, TX7, 3), (RX8, TX8, 12), (RX9, TX9, 37)]
