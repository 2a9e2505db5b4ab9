noncomputable def σ0 : ST := (fun k => if k = 8 then 1 else if k = 12 then 1 else 0, fun _ => 0, fun _ _ => 0, fun _ _ => 0)
noncomputable def τ0 : ST := (fun _ => 0, fun _ => 0, fun _ _ => 0, fun _ _ => 0)
def adOf (a : Nat) (f : Nat → Nat) : Nat → Nat := fun k => match k with
  | 0 => a
  | k + 1 => f k
theorem wT_0 (cy : Nat → ClassId) (a0 : Nat) (f : Nat → Nat) : [(a0, .inr (8, [.ref (f 0), .ref (f 2), .ref (f 9), .ref (f 16), .ref (f 25), .ref (f 31), .ref (f 32), .ref (f 33), .int 0, .int 0, .int 0, .int 0])), ((f 0), .inr (5, [.ref (f 1), .int 0])), ((f 1), .inl (cy 1, 28, .inl (fun _ => 0))), ((f 2), .inr (1, [.ref (f 3), .ref (f 4), .ref (f 5), .ref (f 6), .ref (f 7), .ref (f 8), .int 0, .int 0, .int 0, .int 1])), ((f 3), .inl (cy 0, 4, .inl (fun _ => 0))), ((f 4), .inl (cy 0, 4, .inl (fun _ => 0))), ((f 5), .inl (cy 0, 4, .inl (fun _ => 0))), ((f 6), .inl (cy 0, 6, .inl (fun _ => 0))), ((f 7), .inl (cy 0, 6, .inl (fun _ => 0))), ((f 8), .inl (cy 2, 6, .inl (fun _ => 0))), ((f 9), .inr (1, [.ref (f 10), .ref (f 11), .ref (f 12), .ref (f 13), .ref (f 14), .ref (f 15), .int 0, .int 0, .int 0, .int 1])), ((f 10), .inl (cy 0, 4, .inl (fun _ => 0))), ((f 11), .inl (cy 0, 4, .inl (fun _ => 0))), ((f 12), .inl (cy 0, 4, .inl (fun _ => 0))), ((f 13), .inl (cy 0, 6, .inl (fun _ => 0))), ((f 14), .inl (cy 0, 6, .inl (fun _ => 0))), ((f 15), .inl (cy 2, 6, .inl (fun _ => 0))), ((f 16), .inr (7, [.ref (f 17), .ref (f 18), .int 0])), ((f 17), .inl (cy 0, 6, .inl (fun _ => 0))), ((f 18), .inl (cy 6, 6, .inr (.inr (.inr (.inr (fun i => if i < 6 then some (f (19 + i)) else none)))))), ((f 19), .inl (cy 3, 7, .inr (.inl (fun _ => 0)))), ((f 20), .inl (cy 3, 7, .inr (.inl (fun _ => 0)))), ((f 21), .inl (cy 3, 7, .inr (.inl (fun _ => 0)))), ((f 22), .inl (cy 3, 7, .inr (.inl (fun _ => 0)))), ((f 23), .inl (cy 3, 7, .inr (.inl (fun _ => 0)))), ((f 24), .inl (cy 3, 7, .inr (.inl (fun _ => 0)))), ((f 25), .inl (cy 5, 5, .inr (.inr (.inr (.inr (va_up (va_up (va_up (va_up (va_up (fun _ => none) (0 : Int32).toNatClampNeg (some (f 26))) (1 : Int32).toNatClampNeg (some (f 27))) (2 : Int32).toNatClampNeg (some (f 28))) (3 : Int32).toNatClampNeg (some (f 29))) (4 : Int32).toNatClampNeg (some (f 30)))))))), ((f 26), .inr (6, [])), ((f 27), .inr (3, [])), ((f 28), .inr (4, [])), ((f 29), .inr (2, [])), ((f 30), .inr (0, [])), ((f 31), .inl (cy 0, 4, .inl (fun _ => 0))), ((f 32), .inl (cy 0, 32, .inl (fun _ => 0))), ((f 33), .inl (cy 0, 32, .inl (fun _ => 0)))] = wT (adOf a0 f) cy σ0 := by
  have e1 : (fun i => if i < 6 then some (f (19 + i)) else none) = (fun i => if i < 6 then some (adOf a0 f (20 + i)) else none) := by
    funext i
    rw [show 20 + i = (19 + i) + 1 by omega]
    rfl
  have e2 : (va_up (va_up (va_up (va_up (va_up (fun _ => none) (0 : Int32).toNatClampNeg (some (f 26))) (1 : Int32).toNatClampNeg (some (f 27))) (2 : Int32).toNatClampNeg (some (f 28))) (3 : Int32).toNatClampNeg (some (f 29))) (4 : Int32).toNatClampNeg (some (f 30))) = (fun i => if i < 5 then some (adOf a0 f (27 + i)) else none) := by
    funext i
    match i with
    | 0 => rfl
    | 1 => rfl
    | 2 => rfl
    | 3 => rfl
    | 4 => rfl
    | n + 5 =>
      rw [if_neg (by omega)]
      simp [va_up, show ((0 : Int32).toNatClampNeg) = 0 from rfl, show ((1 : Int32).toNatClampNeg) = 1 from rfl, show ((2 : Int32).toNatClampNeg) = 2 from rfl, show ((3 : Int32).toNatClampNeg) = 3 from rfl, show ((4 : Int32).toNatClampNeg) = 4 from rfl]
  rw [e1, e2]
  rfl
theorem G.permR {x : CX} {cs sl pc : Nat} {lv : List (Nat × Value)} {st : List Value} {w1 w2 w3 : va_W} (is : List Nat) (hn : va_nd is = true) (hs : is.map (fun i => w2[i]?) = w3.map some) (hs2 : is.filterMap (fun i => w2[i]?) = w3) (k : G x cs sl pc lv st (w1 ++ w3)) : G x cs sl pc lv st (w1 ++ w2) := fun H locs ls hP hD hS hl => by
  refine k H locs ls (hP.appL.app (hP.appR.sub is hs2)) (hD.appL.app (hD.appR.sub is hn hs) (fun i j p q hi hj e => ?_)) hS hl
  have h1 : (w3.map some)[j]? = some (some q) := by rw [List.getElem?_map, hj]; rfl
  rw [← hs, List.getElem?_map] at h1
  cases h2 : is[j]? with
  | none => rw [h2] at h1; cases h1
  | some t =>
    rw [h2] at h1
    have h3 : w2[t]? = some q := Option.some.inj h1
    exact hD.apart i t p q hi h3 e
def adM (a : Nat) (f : Nat → Nat) : Nat → Nat := adOf a (fun k => if k = 17 then f 7 else if 7 ≤ k then f (k + 1) else f k)
theorem arrOf {s : State} {c : ClassId} {k : Class} {comp : ClassId} {ty : FieldType} (h1 : s.vm.classes[c]? = some k) (h2 : k.kind = .array comp ty) : ArrOfT s c ty := fun N z => ⟨fun q hq => (by cases hq), k, h1, comp, h2⟩
set_option maxHeartbeats 8000000 in
set_option maxRecDepth 100000 in
theorem whole_of {Rel : Nat → ST → ST → Prop} (hR0 : Rel 0 σ0 τ0) (hm : ∀ n σ τ, Rel n σ τ → Rel (n + 1) σ τ) (h_letter : S_letter Rel) (h_blank : S_blank Rel) (h_fault : S_fault Rel) (h_table : S_table Rel) (h_player : S_player Rel) (h_as : S_as Rel) (h_hits : S_hits Rel) (h_toss : S_toss Rel) (h_anew : S_anew Rel) (h_bet : S_bet Rel) (h_be : S_be Rel) (h_duel : S_duel Rel) (h_answer : S_answer Rel) (h_open : S_open Rel) (h_ring : S_ring Rel) (h_odds : S_odds Rel) (h_see : S_see Rel) (h_forget : S_forget Rel) (h_games : S_games Rel) (h_image : S_image Rel) (h_restore : S_restore Rel) (h_count : S_count Rel) (h_digest : S_digest Rel) {p : Program} {e : Env} {s : State} {m : MethodId} {below : List Frame} {meth : Method} {c : Code} (l : Launch) {b L : Nat} {xs : Nat → Int32} (hL : L ≤ 2048) (C0 : lw_At p s m meth c b L xs) : W p l e room_1 s m #[Value.ref b] below meth c s.heap [] 0 0 (lw_Z below #[Value.ref b] s) (entryFrame m ([Value.ref b] : List Value).toArray 4) := by
  obtain ⟨hx, hb, hr, hml, hown, hts, hX, hbl, hlocks, hgv⟩ := id C0
  have hFX : FX s := fun w hw hk => va_Nw.of (keepW_on hk) (hts w hw)
  have hAC : ∀ ty : FieldType, Cond.arrayClass ty ∈ lw_tbl → (Cond.arrayClass ty).before #[] s = true := fun ty h => hts _ h
  have hAX : AX s := ⟨fun ty ht => by
    simp only [List.mem_cons, List.not_mem_nil, or_false] at ht
    rcases ht with rfl | rfl | rfl | rfl | rfl
    · exact hAC _ (List.mem_of_getElem? (i := 157) (by decide +kernel))
    · exact hAC _ (List.mem_of_getElem? (i := 109) (by decide +kernel))
    · exact hAC _ (List.mem_of_getElem? (i := 158) (by decide +kernel))
    · exact hAC _ (List.mem_of_getElem? (i := 177) (by decide +kernel))
    · exact hAC _ (List.mem_of_getElem? (i := 386) (by decide +kernel)), va_AO.of (A := #[Value.ref b]) (hts (.arrayOver (.object "TossRows$Plain")) (List.mem_of_getElem? (i := 179) (by decide +kernel))), (show va_AOA .long s from hts (.arrayOver (.array .long)) (List.mem_of_getElem? (i := 166) (by decide +kernel)))⟩
  have hA : ∀ q : Nat, s.heap.size ≤ q → (fun q : Nat => s.heap.size ≤ q) q := fun _ h => h
  have hnA : ∀ a : Nat, a < s.heap.size → ¬ (fun q : Nat => s.heap.size ≤ q) a := fun a h h2 => absurd h (Nat.not_lt.mpr h2)
  have hflat := flat_of_before _ hgv
  obtain ⟨c0, iS0, hKn0⟩ := u_known (C := RX0) (T := TX0) (N := 0) (n := 0) hts (fun w h => absurd h List.not_mem_nil) (hts (.instantiable RX0 0) (List.mem_of_getElem? (i := 208) (by decide +kernel)))
  obtain ⟨c1, iS1, hKn1⟩ := u_known (C := RX1) (T := TX1) (N := 10) (n := 10) hts (fun w h => (inX1 w h).1) (hts (.instantiable RX1 10) (List.mem_of_getElem? (i := 111) (by decide +kernel)))
  obtain ⟨c2, iS2, hKn2⟩ := u_known (C := RX2) (T := TX2) (N := 0) (n := 0) hts (fun w h => absurd h List.not_mem_nil) (hts (.instantiable RX2 0) (List.mem_of_getElem? (i := 201) (by decide +kernel)))
  obtain ⟨c3, iS3, hKn3⟩ := u_known (C := RX3) (T := TX3) (N := 0) (n := 0) hts (fun w h => absurd h List.not_mem_nil) (hts (.instantiable RX3 0) (List.mem_of_getElem? (i := 187) (by decide +kernel)))
  obtain ⟨c4, iS4, hKn4⟩ := u_known (C := RX4) (T := TX4) (N := 0) (n := 0) hts (fun w h => absurd h List.not_mem_nil) (hts (.instantiable RX4 0) (List.mem_of_getElem? (i := 194) (by decide +kernel)))
  obtain ⟨c5, iS5, hKn5⟩ := u_known (C := RX5) (T := TX5) (N := 2) (n := 2) hts (fun w h => (inX5 w h).1) (hts (.instantiable RX5 2) (List.mem_of_getElem? (i := 97) (by decide +kernel)))
  obtain ⟨c6, iS6, hKn6⟩ := u_known (C := RX6) (T := TX6) (N := 0) (n := 0) hts (fun w h => absurd h List.not_mem_nil) (hts (.instantiable RX6 0) (List.mem_of_getElem? (i := 180) (by decide +kernel)))
  obtain ⟨c7, iS7, hKn7⟩ := u_known (C := RX7) (T := TX7) (N := 3) (n := 3) hts (fun w h => (inX7 w h).1) (hts (.instantiable RX7 3) (List.mem_of_getElem? (i := 160) (by decide +kernel)))
  obtain ⟨c8, iS8, hKn8⟩ := u_known (C := RX8) (T := TX8) (N := 12) (n := 12) hts (fun w h => (inX8 w h).1) (hts (.instantiable RX8 12) (List.mem_of_getElem? (i := 89) (by decide +kernel)))
  obtain ⟨c9, iS9, hKn9⟩ := u_known (C := RX9) (T := TX9) (N := 37) (n := 37) hts (fun w h => (inX9 w h).1) (hts (.instantiable RX9 37) (List.mem_of_getElem? (i := 693) (by decide +kernel)))
  obtain ⟨dC, dI, hKc⟩ : ∃ (dC : Nat → ClassId) (dI : Nat → Nat → Nat), ∀ (k : Nat) (q : vw_C), vwCl[k]? = some q → u_Kn s q.1 q.2.1 q.2.2 (dC k) (dI k) := by
    refine ⟨fun k => [c0, c1, c2, c3, c4, c5, c6, c7, c8, c9].getD k 0, fun k => [iS0, iS1, iS2, iS3, iS4, iS5, iS6, iS7, iS8, iS9].getD k (fun _ => 0), ?_⟩
    intro k q hq
    match k, hq with
    | 0, hq => cases hq; exact hKn0
    | 1, hq => cases hq; exact hKn1
    | 2, hq => cases hq; exact hKn2
    | 3, hq => cases hq; exact hKn3
    | 4, hq => cases hq; exact hKn4
    | 5, hq => cases hq; exact hKn5
    | 6, hq => cases hq; exact hKn6
    | 7, hq => cases hq; exact hKn7
    | 8, hq => cases hq; exact hKn8
    | 9, hq => cases hq; exact hKn9
    | k + 10, hq => simp [vwCl] at hq
  obtain ⟨y0, k0, m0, a0, b0, d0⟩ := Cond.arrayClass_spec (hAX.1 .int (by decide))
  obtain ⟨y1, k1, m1, a1, b1, d1⟩ := Cond.arrayClass_spec (hAX.1 .char (by decide))
  obtain ⟨y2, k2, m2, a2, b2, d2⟩ := Cond.arrayClass_spec (hAX.1 .boolean (by decide))
  obtain ⟨y3, k3, m3, a3, b3, d3⟩ := Cond.arrayClass_spec (hAX.1 .long (by decide))
  obtain ⟨y4, k4, m4, a4, b4, d4⟩ := Cond.arrayClass_spec (hAX.1 .byte (by decide))
  obtain ⟨m5, y5, k5, e5, _, b5, d5, a5⟩ := Cond.arrayOver_spec hAX.2.1
  obtain ⟨m6, y6, k6, e6, _, b6, d6, a6⟩ := ao_spec hAX.2.2
  obtain ⟨adK, adV, hvS, hvE⟩ := vk_Sof (args := #[Value.ref b]) (s := s) (N := 1) (tm := fun _ => Term.string "TossRows$Page" 37) (len := [5]) (byt := [[112, 109, 111, 101, 98]]) (A := fun q : Nat => s.heap.size ≤ q) (by decide) (fun i hi => hflat _ (by decide +kernel)) (fun i hi => hflat _ (by decide +kernel)) (fun i hi => hflat _ (by decide +kernel)) (fun i hi => by
      have h0 : i = 0 := by omega
      subst h0
      exact hflat _ (by decide +kernel)) (fun i hi j hj => by
      have h0 : i = 0 := by omega
      subst h0
      have hj : j < 5 := hj
      match j, hj with
      | 0, _ => exact hflat _ (by decide +kernel)
      | 1, _ => exact hflat _ (by decide +kernel)
      | 2, _ => exact hflat _ (by decide +kernel)
      | 3, _ => exact hflat _ (by decide +kernel)
      | 4, _ => exact hflat _ (by decide +kernel)) (fun i j hi hj h => by omega) hnA
  obtain ⟨cy, hcy⟩ : ∃ cy : Nat → ClassId, cy = fun k => [y0, y1, y2, y3, y4, y5, y6, adK 0, adV 0].getD k 0 := ⟨_, rfl⟩
  have hK : va_K (dC, dI) vwCl (TY cy) s := by
    subst hcy
    refine ⟨hKc, fun k q hq => ?_⟩
    match k, hq with
    | 0, hq => cases hq; exact ⟨arrOf b0 d0, a0⟩
    | 1, hq => cases hq; exact ⟨arrOf b1 d1, a1⟩
    | 2, hq => cases hq; exact ⟨arrOf b2 d2, a2⟩
    | 3, hq => cases hq; exact ⟨arrOf b3 d3, a3⟩
    | 4, hq => cases hq; exact ⟨arrOf b4 d4, a4⟩
    | 5, hq => cases hq; exact ⟨arrOf b5 d5, k5, m5, b5, d5, e5, a5⟩
    | 6, hq => cases hq; exact ⟨arrOf b6 d6, a6⟩
    | k + 7, hq => simp [TY] at hq
  have hZ : ZX cy (fun q : Nat => s.heap.size ≤ q) s s.heap := by
    subst hcy
    refine ⟨fun q hq => va_Nc.of (args := #[Value.ref b]) ?_, vk_R.of (A := #[Value.ref b]) (hts _ (List.mem_of_getElem? (i := 299) (by decide +kernel))) (hvE 0 (by decide)), ⟨fun i hi => ?_, fun i j hi hj _ => by omega⟩, va_Zof (args := #[Value.ref b]) (hts _ (List.mem_of_getElem? (i := 313) (by decide +kernel))) (nw_use (hFX.at 79 (by decide +kernel) rfl) rfl) (va_eqi (hflat _ (by decide +kernel))) hnA⟩
    · simp only [NCp, List.mem_cons, List.not_mem_nil, or_false] at hq
      rcases hq with rfl | rfl | rfl | rfl | rfl | rfl | rfl | rfl | rfl | rfl | rfl | rfl | rfl | rfl | rfl
      all_goals exact hflat _ (by decide +kernel)
    · have h0 : i = 0 := by omega
      subst h0
      exact hvS.1 0 hi
  obtain ⟨x, hxe⟩ : ∃ x : CX, x = (p, l, e, room_1, s, m, #[Value.ref b], below, meth, c, (dC, dI), (fun q : Nat => s.heap.size ≤ q), lw_Z below #[Value.ref b] s) := ⟨_, rfl⟩
  have E : Ev x cy cL_law RL 4 2000 80000 := by
    subst hxe
    exact ⟨hx, hb, hml, hown, hFX, hK, hA, hZ, (by show 2000 ≤ 2048; decide), (by show 80000 ≤ 84000; decide)⟩
  have hax : AX (xS x) := by subst hxe; exact hAX
  have hXX : va_X b L xs (xS x) (xS x).heap ∧ b < (xS x).heap.size ∧ ¬ xA x b := by subst hxe; exact ⟨hX, hbl, hnA b hbl⟩
  have hRc : (xR x).cells = 600000 ∧ (xR x).slots = 7302250 := by subst hxe; exact ⟨rfl, rfl⟩
  have Kend : ∀ (lv : List (Nat × Value)) (ws : va_W), G x 54 501 732 lv [] ws := fun lv ws => by
    refine G.iconst (v := 1) E dL_law_732 (by decide) ?_
    subst hxe
    intro H locs ls hP hD hS hl
    refine va_forget (fun q hq => hS.2.2 q hq) ?_
    refine W.widen (k := 600000) (n := 7302250) (by decide) (by decide) ?_
    exact lw_ret hx hb hr hlocks dL_law_733
  have main : G x 0 0 0 [(0, .ref b)] [] [] := by
    refine G.new (fs := [.null, .null, .null, .null, .null, .null, .null, .null, .int 0, .int 0, .int 0, .int 0]) E inX8 tyX8 tyX8_ok (f88 E.fx) (f89 E.fx) (f69 E.fx) (ci := 8) rfl (fun j hj => by rcases (show j = 0 ∨ j = 1 ∨ j = 2 ∨ j = 3 ∨ j = 4 ∨ j = 5 ∨ j = 6 ∨ j = 7 ∨ j = 8 ∨ j = 9 ∨ j = 10 ∨ j = 11 by omega) with rfl | rfl | rfl | rfl | rfl | rfl | rfl | rfl | rfl | rfl | rfl | rfl <;> rfl) (by rw [hRc.1, hRc.2]; decide) dL_law_0 (fun qT => ?_)
    refine G.dup E dL_law_3 rfl ?_
    refine G.retN (w1 := []) E (runN (st := [.ref qT]) E hax C_X8_init ck_X8_init (f90 E.fx) (f91 E.fx) rfl (by decide) (by decide) rfl (Nat.le_of_ble_eq_true rfl) dL_law_4 (by rw [hRc.1, hRc.2]; decide)) (fun fT => ?_)
    refine G.eqw (wT_0 cy qT fT) ?_
    refine G.astore_n (lv' := [(1, .ref qT), (0, .ref b)]) E dL_law_7 rfl (by decide) rfl ?_
    refine G.new (fs := [.int 0, .int 0, .int 0, .null, .null, .null, .int 0, .int 0, .int 0, .int 0, .null, .null, .null, .int 0, .null, .int 0, .int 0, .int 0, .null, .null, .null, .null, .long 0, .null, .int 0, .int 0, .int 0, .int 0, .int 0, .int 0, .null, .null, .null, .null, .null, .null, .long 0]) E inX9 tyX9 tyX9_ok (f692 E.fx) (f693 E.fx) (f78 E.fx) (ci := 9) rfl (fun j hj => by rcases (show j = 0 ∨ j = 1 ∨ j = 2 ∨ j = 3 ∨ j = 4 ∨ j = 5 ∨ j = 6 ∨ j = 7 ∨ j = 8 ∨ j = 9 ∨ j = 10 ∨ j = 11 ∨ j = 12 ∨ j = 13 ∨ j = 14 ∨ j = 15 ∨ j = 16 ∨ j = 17 ∨ j = 18 ∨ j = 19 ∨ j = 20 ∨ j = 21 ∨ j = 22 ∨ j = 23 ∨ j = 24 ∨ j = 25 ∨ j = 26 ∨ j = 27 ∨ j = 28 ∨ j = 29 ∨ j = 30 ∨ j = 31 ∨ j = 32 ∨ j = 33 ∨ j = 34 ∨ j = 35 ∨ j = 36 by omega) with rfl | rfl | rfl | rfl | rfl | rfl | rfl | rfl | rfl | rfl | rfl | rfl | rfl | rfl | rfl | rfl | rfl | rfl | rfl | rfl | rfl | rfl | rfl | rfl | rfl | rfl | rfl | rfl | rfl | rfl | rfl | rfl | rfl | rfl | rfl | rfl | rfl <;> rfl) (by rw [hRc.1, hRc.2]; decide) dL_law_8 (fun qM => ?_)
    refine G.dup E dL_law_11 rfl ?_
    refine G.retN (w1 := wT (adOf qT fT) cy σ0) E (runN (st := [.ref qM]) E hax C_X9_init ck_X9_init (f694 E.fx) (f695 E.fx) rfl (by decide) (by decide) rfl (Nat.le_of_ble_eq_true rfl) dL_law_12 (by rw [hRc.1, hRc.2]; decide)) (fun fM => ?_)
    refine G.permR (w3 := wM (adM qM fM) cy τ0) [0, 1, 2, 3, 4, 5, 6, 7, 9, 10, 11, 12, 13, 14, 15, 16, 17, 18, 8] (by decide) rfl rfl ?_
    refine G.astore_n (lv' := [(2, .ref qM), (1, .ref qT), (0, .ref b)]) E dL_law_15 rfl (by decide) rfl ?_
    refine G.iconst (v := 0) E dL_law_16 (by decide) ?_
    refine G.istore_n (lv' := [(3, .int 0), (2, .ref qM), (1, .ref qT), (0, .ref b)]) E dL_law_17 rfl (by decide) rfl ?_
    refine G.sub (lv' := [(0, .ref b), (1, .ref (adOf qT fT 0)), (2, .ref (adM qM fM 0)), (3, .int (nI (4 * 0)))]) [3, 2, 1, 0] rfl ?_
    exact law_loop E hXX (by rw [hRc.1, hRc.2]; decide) hL hm h_letter h_blank h_fault h_table h_player h_as h_hits h_toss h_anew h_bet h_be h_duel h_answer h_open h_ring h_odds h_see h_forget h_games h_image h_restore h_count h_digest Kend (L + 4) 0 σ0 τ0 (by omega) (by omega) hR0
  have hl := lv_entry ([.ref b]) (n := 4) (Nat.le_of_ble_eq_true rfl)
  rw [lg_entry_eq]
  subst hxe
  exact main s.heap [] _ (fun k q h => by simp at h) ⟨fun i j p q h => by simp at h, fun k q h => by simp at h⟩ va_S.rf (by show lv_has _ c.maxLocals _; rw [hml]; exact hl)
