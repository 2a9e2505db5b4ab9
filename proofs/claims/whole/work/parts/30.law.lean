def S_letter (Rel : Nat → ST → ST → Prop) : Prop := ∀ (n : Nat) (σ τ : ST) (a : Int32), Rel n σ τ → n < 512 → ∃ (v : Int32) (σ' : ST) (τ' : ST), D_X8_letter σ a = some (v, σ') ∧ D_X9_letter τ a = some (v, τ') ∧ Rel (n + 1) σ' τ'
def S_blank (Rel : Nat → ST → ST → Prop) : Prop := ∀ (n : Nat) (σ τ : ST), Rel n σ τ → n < 512 → ∃ (v : Int32) (σ' : ST) (τ' : ST), D_X8_blank σ = some (v, σ') ∧ D_X9_blank τ = some (v, τ') ∧ Rel (n + 1) σ' τ'
def S_fault (Rel : Nat → ST → ST → Prop) : Prop := ∀ (n : Nat) (σ τ : ST), Rel n σ τ → n < 512 → ∃ (v : Int32) (τ' : ST), D_X8_fault σ = some v ∧ D_X9_fault τ = some (v, τ') ∧ Rel (n + 1) σ τ'
def S_table (Rel : Nat → ST → ST → Prop) : Prop := ∀ (n : Nat) (σ τ : ST), Rel n σ τ → n < 512 → ∃ (v : Int32) (σ' : ST) (τ' : ST), D_X8_table σ = some (v, σ') ∧ D_X9_table τ = some (v, τ') ∧ Rel (n + 1) σ' τ'
def S_player (Rel : Nat → ST → ST → Prop) : Prop := ∀ (n : Nat) (σ τ : ST) (a b : Int32), Rel n σ τ → n < 512 → ∃ (v : Int32) (σ' : ST) (τ' : ST), D_X8_player σ a b = some (v, σ') ∧ D_X9_player τ a b = some (v, τ') ∧ Rel (n + 1) σ' τ'
def S_as (Rel : Nat → ST → ST → Prop) : Prop := ∀ (n : Nat) (σ τ : ST) (a b : Int32), Rel n σ τ → n < 512 → ∃ (v : Int32), D_X8_as σ a b = some v ∧ D_X9_as τ a b = some v ∧ Rel (n + 1) σ τ
def S_hits (Rel : Nat → ST → ST → Prop) : Prop := ∀ (n : Nat) (σ τ : ST) (a b : Int32), Rel n σ τ → n < 512 → ∃ (v : Int32), D_X8_hits σ a b = some v ∧ D_X9_hits τ a b = some v ∧ Rel (n + 1) σ τ
def S_toss (Rel : Nat → ST → ST → Prop) : Prop := ∀ (n : Nat) (σ τ : ST) (a : Int32), Rel n σ τ → n < 512 → ∃ (v : Int32) (σ' : ST) (τ' : ST), D_X8_toss σ a = some (v, σ') ∧ D_X9_toss τ a = some (v, τ') ∧ Rel (n + 1) σ' τ'
def S_anew (Rel : Nat → ST → ST → Prop) : Prop := ∀ (n : Nat) (σ τ : ST), Rel n σ τ → n < 512 → ∃ (v : Int32) (σ' : ST) (τ' : ST), D_X8_anew σ = some (v, σ') ∧ D_X9_anew τ = some (v, τ') ∧ Rel (n + 1) σ' τ'
def S_bet (Rel : Nat → ST → ST → Prop) : Prop := ∀ (n : Nat) (σ τ : ST) (a b : Int32), Rel n σ τ → n < 512 → ∃ (v : Int32) (σ' : ST) (τ' : ST), D_X8_bet σ a b = some (v, σ') ∧ D_X9_bet τ a b = some (v, τ') ∧ Rel (n + 1) σ' τ'
def S_be (Rel : Nat → ST → ST → Prop) : Prop := ∀ (n : Nat) (σ τ : ST) (a b : Int32), Rel n σ τ → n < 512 → ∃ (v : Int32) (σ' : ST) (τ' : ST), D_X8_be σ a b = some (v, σ') ∧ D_X9_be τ a b = some (v, τ') ∧ Rel (n + 1) σ' τ'
def S_duel (Rel : Nat → ST → ST → Prop) : Prop := ∀ (n : Nat) (σ τ : ST) (a b : Int32), Rel n σ τ → n < 512 → ∃ (v : Int32) (σ' : ST) (τ' : ST), D_X8_duel σ a b = some (v, σ') ∧ D_X9_duel τ a b = some (v, τ') ∧ Rel (n + 1) σ' τ'
def S_answer (Rel : Nat → ST → ST → Prop) : Prop := ∀ (n : Nat) (σ τ : ST) (a b : Int32), Rel n σ τ → n < 512 → ∃ (v : Int32) (σ' : ST) (τ' : ST), D_X8_answer σ a b = some (v, σ') ∧ D_X9_answer τ a b = some (v, τ') ∧ Rel (n + 1) σ' τ'
def S_open (Rel : Nat → ST → ST → Prop) : Prop := ∀ (n : Nat) (σ τ : ST) (a : Int32), Rel n σ τ → n < 512 → ∃ (v : Int32) (σ' : ST) (τ' : ST), D_X8_open σ a = some (v, σ') ∧ D_X9_open τ a = some (v, τ') ∧ Rel (n + 1) σ' τ'
def S_ring (Rel : Nat → ST → ST → Prop) : Prop := ∀ (n : Nat) (σ τ : ST), Rel n σ τ → n < 512 → ∃ (v : Int32) (σ' : ST) (τ' : ST), D_X8_ring σ = some (v, σ') ∧ D_X9_ring τ = some (v, τ') ∧ Rel (n + 1) σ' τ'
def S_odds (Rel : Nat → ST → ST → Prop) : Prop := ∀ (n : Nat) (σ τ : ST) (a b c : Int32), Rel n σ τ → n < 512 → ∃ (v : Int32) (σ' : ST) (τ' : ST), D_X8_odds σ a b c = some (v, σ') ∧ D_X9_odds τ a b c = some (v, τ') ∧ Rel (n + 1) σ' τ'
def S_see (Rel : Nat → ST → ST → Prop) : Prop := ∀ (n : Nat) (σ τ : ST) (a b c : Int32), Rel n σ τ → n < 512 → (c = 0 ∨ c = 1) → ∃ (v : Int32) (σ' : ST) (τ' : ST), D_X8_see σ a b c = some (v, σ') ∧ D_X9_see τ a b c = some (v, τ') ∧ Rel (n + 1) σ' τ'
def S_forget (Rel : Nat → ST → ST → Prop) : Prop := ∀ (n : Nat) (σ τ : ST), Rel n σ τ → n < 512 → ∃ (v : Int32) (σ' : ST) (τ' : ST), D_X8_forget σ = some (v, σ') ∧ D_X9_forget τ = some (v, τ') ∧ Rel (n + 1) σ' τ'
def S_games (Rel : Nat → ST → ST → Prop) : Prop := ∀ (n : Nat) (σ τ : ST) (a b c : Int32), Rel n σ τ → n < 512 → ∃ (v : Int32) (σ' : ST) (τ' : ST), D_X8_games σ a b c = some (v, σ') ∧ D_X9_games τ a b c = some (v, τ') ∧ Rel (n + 1) σ' τ'
def S_image (Rel : Nat → ST → ST → Prop) : Prop := ∀ (n : Nat) (σ τ : ST), Rel n σ τ → n < 512 → ∃ (v : Int32) (σ' : ST) (τ' : ST), D_X8_image σ = some (v, σ') ∧ D_X9_image τ = some (v, τ') ∧ Rel (n + 1) σ' τ'
def S_restore (Rel : Nat → ST → ST → Prop) : Prop := ∀ (n : Nat) (σ τ : ST), Rel n σ τ → n < 512 → ∃ (v : Int32) (σ' : ST) (τ' : ST), D_X8_restore σ = some (v, σ') ∧ D_X9_restore τ = some (v, τ') ∧ Rel (n + 1) σ' τ'
def S_count (Rel : Nat → ST → ST → Prop) : Prop := ∀ (n : Nat) (σ τ : ST) (a : Int32), Rel n σ τ → n < 512 → ∃ (v : Int32), D_X8_count σ a = some v ∧ D_X9_count τ a = some v ∧ Rel (n + 1) σ τ
def S_digest (Rel : Nat → ST → ST → Prop) : Prop := ∀ (n : Nat) (σ τ : ST), Rel n σ τ → n < 512 → ∃ (v : Int64) (σ' : ST) (τ' : ST), D_X8_digest σ = some (v, σ') ∧ D_X9_digest τ = some (v, τ') ∧ Rel (n + 1) σ' τ'
theorem va_P.appL {D : va_G} {cl : List vw_C} {w1 w2 : va_W} {H : Heap} (h : va_P D cl (w1 ++ w2) H) : va_P D cl w1 H := fun k q hq => h k q (by rw [List.getElem?_append_left (List.getElem?_eq_some_iff.mp hq).1]; exact hq)
theorem va_P.appR {D : va_G} {cl : List vw_C} {w1 w2 : va_W} {H : Heap} (h : va_P D cl (w1 ++ w2) H) : va_P D cl w2 H := fun k q hq => h (w1.length + k) q (by rw [List.getElem?_append_right (by omega)]; rw [show w1.length + k - w1.length = k by omega]; exact hq)
theorem app_at {w1 w2 : va_W} {k : Nat} {q : Nat × va_E} (h : w2[k]? = some q) : (w1 ++ w2)[w1.length + k]? = some q := by rw [List.getElem?_append_right (by omega)]; rw [show w1.length + k - w1.length = k by omega]; exact h
theorem app_al {w1 w2 : va_W} {k : Nat} {q : Nat × va_E} (h : w1[k]? = some q) : (w1 ++ w2)[k]? = some q := by rw [List.getElem?_append_left (List.getElem?_eq_some_iff.mp h).1]; exact h
theorem va_D.appL {A : Nat → Prop} {w1 w2 : va_W} (h : va_D A (w1 ++ w2)) : va_D A w1 := ⟨fun i j p q hi hj e => h.1 i j p q (app_al hi) (app_al hj) e, fun k q hk => h.2 k q (app_al hk)⟩
theorem va_D.appR {A : Nat → Prop} {w1 w2 : va_W} (h : va_D A (w1 ++ w2)) : va_D A w2 := ⟨fun i j p q hi hj e => by have := h.1 _ _ p q (app_at hi) (app_at hj) e; omega, fun k q hk => h.2 _ q (app_at hk)⟩
theorem va_D.apart {A : Nat → Prop} {w1 w2 : va_W} (h : va_D A (w1 ++ w2)) : ∀ (i j : Nat) (p q : Nat × va_E), w1[i]? = some p → w2[j]? = some q → p.1 ≠ q.1 := fun i j p q hi hj e => by
  have h1 := h.1 _ _ p q (app_al hi) (app_at hj) e
  have h2 := (List.getElem?_eq_some_iff.mp hi).1
  omega
/-- the frame rule: the first part is called, the second stays -/
theorem frame1 {D : va_G} {cl : List vw_C} {A : Nat → Prop} {w1 w2 w1' : va_W} {H H1 : Heap} (hP : va_P D cl (w1 ++ w2) H) (hD : va_D A (w1 ++ w2)) (hk : ∀ q : Nat, q < H.size → ¬ va_A w1 H.size q → H1[q]? = H[q]?) (hP1 : va_P D cl w1' H1) (hD1 : va_D (va_A w1 H.size) w1') (hF : ∀ q, va_A w1 H.size q → A q) : va_P D cl (w1' ++ w2) H1 ∧ va_D A (w1' ++ w2) := by
  have hn : ∀ (j : Nat) (q : Nat × va_E), w2[j]? = some q → ¬ va_A w1 H.size q.1 := fun j q hj h => by
    rcases h with ⟨k, e, hk⟩ | h
    · exact hD.apart k j _ q hk hj rfl
    · have := (hP.appR j q hj).lt
      omega
  refine ⟨hP1.app (hP.appR.kept (fun j q hj => hk q.1 ((hP.appR j q hj).lt) (hn j q hj))), (hD1.weaken (fun _ _ _ h => hF _ h)).app hD.appR (fun i j p q hi hj e => hn j q hj (e ▸ hD1.2 i p hi))⟩
theorem frame2 {D : va_G} {cl : List vw_C} {A : Nat → Prop} {w1 w2 w2' : va_W} {H H1 : Heap} (hP : va_P D cl (w1 ++ w2) H) (hD : va_D A (w1 ++ w2)) (hk : ∀ q : Nat, q < H.size → ¬ va_A w2 H.size q → H1[q]? = H[q]?) (hP1 : va_P D cl w2' H1) (hD1 : va_D (va_A w2 H.size) w2') (hF : ∀ q, va_A w2 H.size q → A q) : va_P D cl (w1 ++ w2') H1 ∧ va_D A (w1 ++ w2') := by
  have hn : ∀ (j : Nat) (q : Nat × va_E), w1[j]? = some q → ¬ va_A w2 H.size q.1 := fun j q hj h => by
    rcases h with ⟨k, e, hk⟩ | h
    · exact hD.apart j k q _ hj hk rfl
    · have := (hP.appL j q hj).lt
      omega
  refine ⟨(hP.appL.kept (fun j q hj => hk q.1 ((hP.appL j q hj).lt) (hn j q hj))).app hP1, hD.appL.app (hD1.weaken (fun _ _ _ h => hF _ h)) (fun i j p q hi hj e => hn i p hi (e ▸ hD1.2 j q hj))⟩
section LR
variable {x : CX} {cy : Nat → ClassId} {cc : ByteArray} {own : String} {nL fr lo cs sl pc : Nat} {lv : List (Nat × Value)} {st stk : List Value} {w1 w2 w1' w2' : va_W} {av : Array Value}
theorem G.retI1 {v : Int32} (E : Ev x cy cc own nL fr lo) (hr : RunG x cs sl pc lv stk st w1 (QI (xD x) w1 w1' v) av) (k : G x cs sl (pc + 3) lv (.int v :: st) (w1' ++ w2)) : G x cs sl pc lv stk (w1 ++ w2) := fun H locs ls hP hD hS hl => by
  have hF := va_Afree hD.appL hS E.2.2.2.2.2.2.1
  refine va_calli (hr H locs ls hP.appL hD.appL hS hl) hS (fun q _ h => hF q h) hF (fun r u t H1 locs1 ht hvm hw hB hz hk hS1 => ?_)
  obtain ⟨hP1, hD1⟩ := hB
  subst hw
  rw [ht] at hP1
  obtain ⟨a, b⟩ := frame1 hP hD hk hP1 hD1 hF
  exact k H1 locs1 ls a b hS1 hl
theorem G.retI2 {v : Int32} (E : Ev x cy cc own nL fr lo) (hr : RunG x cs sl pc lv stk st w2 (QI (xD x) w2 w2' v) av) (k : G x cs sl (pc + 3) lv (.int v :: st) (w1 ++ w2')) : G x cs sl pc lv stk (w1 ++ w2) := fun H locs ls hP hD hS hl => by
  have hF := va_Afree hD.appR hS E.2.2.2.2.2.2.1
  refine va_calli (hr H locs ls hP.appR hD.appR hS hl) hS (fun q _ h => hF q h) hF (fun r u t H1 locs1 ht hvm hw hB hz hk hS1 => ?_)
  obtain ⟨hP1, hD1⟩ := hB
  subst hw
  rw [ht] at hP1
  obtain ⟨a, b⟩ := frame2 hP hD hk hP1 hD1 hF
  exact k H1 locs1 ls a b hS1 hl
theorem G.retL1 {v : Int64} (E : Ev x cy cc own nL fr lo) (hr : RunG x cs sl pc lv stk st w1 (QL (xD x) w1 w1' v) av) (k : G x cs sl (pc + 3) lv (.long v :: st) (w1' ++ w2)) : G x cs sl pc lv stk (w1 ++ w2) := fun H locs ls hP hD hS hl => by
  have hF := va_Afree hD.appL hS E.2.2.2.2.2.2.1
  refine va_calll (hr H locs ls hP.appL hD.appL hS hl) hS (fun q _ h => hF q h) hF (fun r u t H1 locs1 ht hvm hw hB hz hk hS1 => ?_)
  obtain ⟨hP1, hD1⟩ := hB
  subst hw
  rw [ht] at hP1
  obtain ⟨a, b⟩ := frame1 hP hD hk hP1 hD1 hF
  exact k H1 locs1 ls a b hS1 hl
theorem G.retL2 {v : Int64} (E : Ev x cy cc own nL fr lo) (hr : RunG x cs sl pc lv stk st w2 (QL (xD x) w2 w2' v) av) (k : G x cs sl (pc + 3) lv (.long v :: st) (w1 ++ w2')) : G x cs sl pc lv stk (w1 ++ w2) := fun H locs ls hP hD hS hl => by
  have hF := va_Afree hD.appR hS E.2.2.2.2.2.2.1
  refine va_calll (hr H locs ls hP.appR hD.appR hS hl) hS (fun q _ h => hF q h) hF (fun r u t H1 locs1 ht hvm hw hB hz hk hS1 => ?_)
  obtain ⟨hP1, hD1⟩ := hB
  subst hw
  rw [ht] at hP1
  obtain ⟨a, b⟩ := frame2 hP hD hk hP1 hD1 hF
  exact k H1 locs1 ls a b hS1 hl
theorem G.sld {ws : va_W} {b L : Nat} {xs : Nat → Int32} (E : Ev x cy cc own nL fr lo) (hX : va_X b L xs (xS x) (xS x).heap ∧ b < (xS x).heap.size ∧ ¬ xA x b) {i : Int32} (hin : vp_in i L) (d : decode cc pc = .ok (.iaload, 1)) (kk : G x cs sl (pc + 1) lv (.int (xs i.toNatClampNeg) :: st) ws) : G x cs sl pc lv (.int i :: .ref b :: st) ws := fun H locs ls hP hD hS hl => va_sld E.1 E.2.1 hX.1 hX.2.1 hX.2.2 hS hin d (kk H locs ls hP hD hS hl)
theorem G.slen {ws : va_W} {b L : Nat} {xs : Nat → Int32} (E : Ev x cy cc own nL fr lo) (hX : va_X b L xs (xS x) (xS x).heap ∧ b < (xS x).heap.size ∧ ¬ xA x b) (d : decode cc pc = .ok (.arraylength, 1)) (kk : G x cs sl (pc + 1) lv (.int (Int32.ofNat L) :: st) ws) : G x cs sl pc lv (.ref b :: st) ws := fun H locs ls hP hD hS hl => va_slen E.1 E.2.1 hX.1 hX.2.1 hX.2.2 hS d (kk H locs ls hP hD hS hl)
end LR
theorem lcmp_self (v : Int64) : lg_cmp v v = 0 := by
  unfold lg_cmp
  simp
set_option maxHeartbeats 4000000 in
set_option maxRecDepth 100000 in
theorem L_letter {x : CX} {cy : Nat → ClassId} {ad a2 : Nat → Nat} {cs sl b L n : Nat} {xs : Nat → Int32} {i : Int32} {Rel : Nat → ST → ST → Prop} {σ τ : ST} (E : Ev x cy cL_law RL 4 2000 80000) (hX : va_X b L xs (xS x) (xS x).heap ∧ b < (xS x).heap.size ∧ ¬ xA x b) (hf : cs ≤ (xR x).cells ∧ sl ≤ (xR x).slots) (hi1 : vp_in (i + 1) L) (hi2 : vp_in (i + 2) L) (hi3 : vp_in (i + 3) L) (hs : S_letter Rel) (hR0 : Rel n σ τ) (hn : n < 512) (KK : ∀ σ' τ' : ST, Rel (n + 1) σ' τ' → G x cs sl 726 [(0, .ref b), (1, .ref (ad 0)), (2, .ref (a2 0)), (3, .int i)] [] (wT ad cy σ' ++ wM a2 cy τ')) : G x cs sl 140 [(0, .ref b), (1, .ref (ad 0)), (2, .ref (a2 0)), (3, .int i)] [] (wT ad cy σ ++ wM a2 cy τ) := by
  obtain ⟨v, σ', τ', hT, hM, hR⟩ := hs n σ τ (xs (i + 1).toNatClampNeg) hR0 hn
  refine G.aload_n E dL_law_140 rfl 1 rfl ?_
  refine G.aload_n E dL_law_141 rfl 0 rfl ?_
  refine G.iload_n E dL_law_142 rfl 3 rfl ?_
  refine G.iconst (v := 1) E dL_law_143 (by decide) ?_
  refine G.iadd E dL_law_144 ?_
  refine G.sld E hX hi1 dL_law_145 ?_
  refine G.retI1 E (runV (st := []) (As := [.int (xs (i + 1).toNatClampNeg)]) E (C_X8_letter hT) ck_X8_letter (f251 E.fx) (f252 E.fx) (f253 E.fx) 0 8 rfl rfl rfl (by decide) (by decide) rfl (Nat.le_of_ble_eq_true rfl) dL_law_146 hf) ?_
  refine G.aload_n E dL_law_149 rfl 2 rfl ?_
  refine G.aload_n E dL_law_150 rfl 0 rfl ?_
  refine G.iload_n E dL_law_151 rfl 3 rfl ?_
  refine G.iconst (v := 1) E dL_law_152 (by decide) ?_
  refine G.iadd E dL_law_153 ?_
  refine G.sld E hX hi1 dL_law_154 ?_
  refine G.retI2 E (runV (st := [.int v]) (As := [.int (xs (i + 1).toNatClampNeg)]) E (C_X9_letter hM) ck_X9_letter (f810 E.fx) (f811 E.fx) (f812 E.fx) 0 9 rfl rfl rfl (by decide) (by decide) rfl (Nat.le_of_ble_eq_true rfl) dL_law_155 hf) ?_
  refine G.icmp_eq (tgt := 726) E dL_law_158 (by decide) (fun _ => ?_) (fun q => absurd rfl q)
  exact KK σ' τ' hR

set_option maxHeartbeats 4000000 in
set_option maxRecDepth 100000 in
theorem L_blank {x : CX} {cy : Nat → ClassId} {ad a2 : Nat → Nat} {cs sl b L n : Nat} {xs : Nat → Int32} {i : Int32} {Rel : Nat → ST → ST → Prop} {σ τ : ST} (E : Ev x cy cL_law RL 4 2000 80000) (hX : va_X b L xs (xS x) (xS x).heap ∧ b < (xS x).heap.size ∧ ¬ xA x b) (hf : cs ≤ (xR x).cells ∧ sl ≤ (xR x).slots) (hi1 : vp_in (i + 1) L) (hi2 : vp_in (i + 2) L) (hi3 : vp_in (i + 3) L) (hs : S_blank Rel) (hR0 : Rel n σ τ) (hn : n < 512) (KK : ∀ σ' τ' : ST, Rel (n + 1) σ' τ' → G x cs sl 726 [(0, .ref b), (1, .ref (ad 0)), (2, .ref (a2 0)), (3, .int i)] [] (wT ad cy σ' ++ wM a2 cy τ')) : G x cs sl 163 [(0, .ref b), (1, .ref (ad 0)), (2, .ref (a2 0)), (3, .int i)] [] (wT ad cy σ ++ wM a2 cy τ) := by
  obtain ⟨v, σ', τ', hT, hM, hR⟩ := hs n σ τ hR0 hn
  refine G.aload_n E dL_law_163 rfl 1 rfl ?_
  refine G.retI1 E (runV (st := []) (As := []) E (C_X8_blank hT) ck_X8_blank (f267 E.fx) (f268 E.fx) (f269 E.fx) 0 8 rfl rfl rfl (by decide) (by decide) rfl (Nat.le_of_ble_eq_true rfl) dL_law_164 hf) ?_
  refine G.aload_n E dL_law_167 rfl 2 rfl ?_
  refine G.retI2 E (runV (st := [.int v]) (As := []) E (C_X9_blank hM) ck_X9_blank (f817 E.fx) (f818 E.fx) (f819 E.fx) 0 9 rfl rfl rfl (by decide) (by decide) rfl (Nat.le_of_ble_eq_true rfl) dL_law_168 hf) ?_
  refine G.icmp_eq (tgt := 726) E dL_law_171 (by decide) (fun _ => ?_) (fun q => absurd rfl q)
  exact KK σ' τ' hR

set_option maxHeartbeats 4000000 in
set_option maxRecDepth 100000 in
theorem L_fault {x : CX} {cy : Nat → ClassId} {ad a2 : Nat → Nat} {cs sl b L n : Nat} {xs : Nat → Int32} {i : Int32} {Rel : Nat → ST → ST → Prop} {σ τ : ST} (E : Ev x cy cL_law RL 4 2000 80000) (hX : va_X b L xs (xS x) (xS x).heap ∧ b < (xS x).heap.size ∧ ¬ xA x b) (hf : cs ≤ (xR x).cells ∧ sl ≤ (xR x).slots) (hi1 : vp_in (i + 1) L) (hi2 : vp_in (i + 2) L) (hi3 : vp_in (i + 3) L) (hs : S_fault Rel) (hR0 : Rel n σ τ) (hn : n < 512) (KK : ∀ σ' τ' : ST, Rel (n + 1) σ' τ' → G x cs sl 726 [(0, .ref b), (1, .ref (ad 0)), (2, .ref (a2 0)), (3, .int i)] [] (wT ad cy σ' ++ wM a2 cy τ')) : G x cs sl 176 [(0, .ref b), (1, .ref (ad 0)), (2, .ref (a2 0)), (3, .int i)] [] (wT ad cy σ ++ wM a2 cy τ) := by
  obtain ⟨v, τ', hT, hM, hR⟩ := hs n σ τ hR0 hn
  refine G.aload_n E dL_law_176 rfl 1 rfl ?_
  refine G.retI1 E (runV (st := []) (As := []) E (C_X8_fault hT) ck_X8_fault (f275 E.fx) (f276 E.fx) (f277 E.fx) 0 8 rfl rfl rfl (by decide) (by decide) rfl (Nat.le_of_ble_eq_true rfl) dL_law_177 hf) ?_
  refine G.aload_n E dL_law_180 rfl 2 rfl ?_
  refine G.retI2 E (runV (st := [.int v]) (As := []) E (C_X9_fault hM) ck_X9_fault (f821 E.fx) (f822 E.fx) (f823 E.fx) 0 9 rfl rfl rfl (by decide) (by decide) rfl (Nat.le_of_ble_eq_true rfl) dL_law_181 hf) ?_
  refine G.icmp_eq (tgt := 726) E dL_law_184 (by decide) (fun _ => ?_) (fun q => absurd rfl q)
  exact KK σ τ' hR

set_option maxHeartbeats 4000000 in
set_option maxRecDepth 100000 in
theorem L_table {x : CX} {cy : Nat → ClassId} {ad a2 : Nat → Nat} {cs sl b L n : Nat} {xs : Nat → Int32} {i : Int32} {Rel : Nat → ST → ST → Prop} {σ τ : ST} (E : Ev x cy cL_law RL 4 2000 80000) (hX : va_X b L xs (xS x) (xS x).heap ∧ b < (xS x).heap.size ∧ ¬ xA x b) (hf : cs ≤ (xR x).cells ∧ sl ≤ (xR x).slots) (hi1 : vp_in (i + 1) L) (hi2 : vp_in (i + 2) L) (hi3 : vp_in (i + 3) L) (hs : S_table Rel) (hR0 : Rel n σ τ) (hn : n < 512) (KK : ∀ σ' τ' : ST, Rel (n + 1) σ' τ' → G x cs sl 726 [(0, .ref b), (1, .ref (ad 0)), (2, .ref (a2 0)), (3, .int i)] [] (wT ad cy σ' ++ wM a2 cy τ')) : G x cs sl 189 [(0, .ref b), (1, .ref (ad 0)), (2, .ref (a2 0)), (3, .int i)] [] (wT ad cy σ ++ wM a2 cy τ) := by
  obtain ⟨v, σ', τ', hT, hM, hR⟩ := hs n σ τ hR0 hn
  refine G.aload_n E dL_law_189 rfl 1 rfl ?_
  refine G.retI1 E (runV (st := []) (As := []) E (C_X8_table hT) ck_X8_table (f387 E.fx) (f388 E.fx) (f389 E.fx) 0 8 rfl rfl rfl (by decide) (by decide) rfl (Nat.le_of_ble_eq_true rfl) dL_law_190 hf) ?_
  refine G.aload_n E dL_law_193 rfl 2 rfl ?_
  refine G.retI2 E (runV (st := [.int v]) (As := []) E (C_X9_table hM) ck_X9_table (f840 E.fx) (f841 E.fx) (f842 E.fx) 0 9 rfl rfl rfl (by decide) (by decide) rfl (Nat.le_of_ble_eq_true rfl) dL_law_194 hf) ?_
  refine G.icmp_eq (tgt := 726) E dL_law_197 (by decide) (fun _ => ?_) (fun q => absurd rfl q)
  exact KK σ' τ' hR

set_option maxHeartbeats 4000000 in
set_option maxRecDepth 100000 in
theorem L_player {x : CX} {cy : Nat → ClassId} {ad a2 : Nat → Nat} {cs sl b L n : Nat} {xs : Nat → Int32} {i : Int32} {Rel : Nat → ST → ST → Prop} {σ τ : ST} (E : Ev x cy cL_law RL 4 2000 80000) (hX : va_X b L xs (xS x) (xS x).heap ∧ b < (xS x).heap.size ∧ ¬ xA x b) (hf : cs ≤ (xR x).cells ∧ sl ≤ (xR x).slots) (hi1 : vp_in (i + 1) L) (hi2 : vp_in (i + 2) L) (hi3 : vp_in (i + 3) L) (hs : S_player Rel) (hR0 : Rel n σ τ) (hn : n < 512) (KK : ∀ σ' τ' : ST, Rel (n + 1) σ' τ' → G x cs sl 726 [(0, .ref b), (1, .ref (ad 0)), (2, .ref (a2 0)), (3, .int i)] [] (wT ad cy σ' ++ wM a2 cy τ')) : G x cs sl 202 [(0, .ref b), (1, .ref (ad 0)), (2, .ref (a2 0)), (3, .int i)] [] (wT ad cy σ ++ wM a2 cy τ) := by
  obtain ⟨v, σ', τ', hT, hM, hR⟩ := hs n σ τ (xs (i + 1).toNatClampNeg) (xs (i + 2).toNatClampNeg) hR0 hn
  refine G.aload_n E dL_law_202 rfl 1 rfl ?_
  refine G.aload_n E dL_law_203 rfl 0 rfl ?_
  refine G.iload_n E dL_law_204 rfl 3 rfl ?_
  refine G.iconst (v := 1) E dL_law_205 (by decide) ?_
  refine G.iadd E dL_law_206 ?_
  refine G.sld E hX hi1 dL_law_207 ?_
  refine G.aload_n E dL_law_208 rfl 0 rfl ?_
  refine G.iload_n E dL_law_209 rfl 3 rfl ?_
  refine G.iconst (v := 2) E dL_law_210 (by decide) ?_
  refine G.iadd E dL_law_211 ?_
  refine G.sld E hX hi2 dL_law_212 ?_
  refine G.retI1 E (runV (st := []) (As := [.int (xs (i + 1).toNatClampNeg), .int (xs (i + 2).toNatClampNeg)]) E (C_X8_player hT) ck_X8_player (f421 E.fx) (f422 E.fx) (f423 E.fx) 0 8 rfl rfl rfl (by decide) (by decide) rfl (Nat.le_of_ble_eq_true rfl) dL_law_213 hf) ?_
  refine G.aload_n E dL_law_216 rfl 2 rfl ?_
  refine G.aload_n E dL_law_217 rfl 0 rfl ?_
  refine G.iload_n E dL_law_218 rfl 3 rfl ?_
  refine G.iconst (v := 1) E dL_law_219 (by decide) ?_
  refine G.iadd E dL_law_220 ?_
  refine G.sld E hX hi1 dL_law_221 ?_
  refine G.aload_n E dL_law_222 rfl 0 rfl ?_
  refine G.iload_n E dL_law_223 rfl 3 rfl ?_
  refine G.iconst (v := 2) E dL_law_224 (by decide) ?_
  refine G.iadd E dL_law_225 ?_
  refine G.sld E hX hi2 dL_law_226 ?_
  refine G.retI2 E (runV (st := [.int v]) (As := [.int (xs (i + 1).toNatClampNeg), .int (xs (i + 2).toNatClampNeg)]) E (C_X9_player hM) ck_X9_player (f848 E.fx) (f849 E.fx) (f850 E.fx) 0 9 rfl rfl rfl (by decide) (by decide) rfl (Nat.le_of_ble_eq_true rfl) dL_law_227 hf) ?_
  refine G.icmp_eq (tgt := 726) E dL_law_230 (by decide) (fun _ => ?_) (fun q => absurd rfl q)
  exact KK σ' τ' hR

set_option maxHeartbeats 4000000 in
set_option maxRecDepth 100000 in
theorem L_as {x : CX} {cy : Nat → ClassId} {ad a2 : Nat → Nat} {cs sl b L n : Nat} {xs : Nat → Int32} {i : Int32} {Rel : Nat → ST → ST → Prop} {σ τ : ST} (E : Ev x cy cL_law RL 4 2000 80000) (hX : va_X b L xs (xS x) (xS x).heap ∧ b < (xS x).heap.size ∧ ¬ xA x b) (hf : cs ≤ (xR x).cells ∧ sl ≤ (xR x).slots) (hi1 : vp_in (i + 1) L) (hi2 : vp_in (i + 2) L) (hi3 : vp_in (i + 3) L) (hs : S_as Rel) (hR0 : Rel n σ τ) (hn : n < 512) (KK : ∀ σ' τ' : ST, Rel (n + 1) σ' τ' → G x cs sl 726 [(0, .ref b), (1, .ref (ad 0)), (2, .ref (a2 0)), (3, .int i)] [] (wT ad cy σ' ++ wM a2 cy τ')) : G x cs sl 235 [(0, .ref b), (1, .ref (ad 0)), (2, .ref (a2 0)), (3, .int i)] [] (wT ad cy σ ++ wM a2 cy τ) := by
  obtain ⟨v, hT, hM, hR⟩ := hs n σ τ (xs (i + 1).toNatClampNeg) (xs (i + 2).toNatClampNeg) hR0 hn
  refine G.aload_n E dL_law_235 rfl 1 rfl ?_
  refine G.aload_n E dL_law_236 rfl 0 rfl ?_
  refine G.iload_n E dL_law_237 rfl 3 rfl ?_
  refine G.iconst (v := 1) E dL_law_238 (by decide) ?_
  refine G.iadd E dL_law_239 ?_
  refine G.sld E hX hi1 dL_law_240 ?_
  refine G.aload_n E dL_law_241 rfl 0 rfl ?_
  refine G.iload_n E dL_law_242 rfl 3 rfl ?_
  refine G.iconst (v := 2) E dL_law_243 (by decide) ?_
  refine G.iadd E dL_law_244 ?_
  refine G.sld E hX hi2 dL_law_245 ?_
  refine G.retI1 E (runV (st := []) (As := [.int (xs (i + 1).toNatClampNeg), .int (xs (i + 2).toNatClampNeg)]) E (C_X8_as hT) ck_X8_as (f518 E.fx) (f519 E.fx) (f520 E.fx) 0 8 rfl rfl rfl (by decide) (by decide) rfl (Nat.le_of_ble_eq_true rfl) dL_law_246 hf) ?_
  refine G.aload_n E dL_law_249 rfl 2 rfl ?_
  refine G.aload_n E dL_law_250 rfl 0 rfl ?_
  refine G.iload_n E dL_law_251 rfl 3 rfl ?_
  refine G.iconst (v := 1) E dL_law_252 (by decide) ?_
  refine G.iadd E dL_law_253 ?_
  refine G.sld E hX hi1 dL_law_254 ?_
  refine G.aload_n E dL_law_255 rfl 0 rfl ?_
  refine G.iload_n E dL_law_256 rfl 3 rfl ?_
  refine G.iconst (v := 2) E dL_law_257 (by decide) ?_
  refine G.iadd E dL_law_258 ?_
  refine G.sld E hX hi2 dL_law_259 ?_
  refine G.retI2 E (runV (st := [.int v]) (As := [.int (xs (i + 1).toNatClampNeg), .int (xs (i + 2).toNatClampNeg)]) E (C_X9_as hM) ck_X9_as (f921 E.fx) (f922 E.fx) (f923 E.fx) 0 9 rfl rfl rfl (by decide) (by decide) rfl (Nat.le_of_ble_eq_true rfl) dL_law_260 hf) ?_
  refine G.icmp_eq (tgt := 726) E dL_law_263 (by decide) (fun _ => ?_) (fun q => absurd rfl q)
  exact KK σ τ hR

set_option maxHeartbeats 4000000 in
set_option maxRecDepth 100000 in
theorem L_hits {x : CX} {cy : Nat → ClassId} {ad a2 : Nat → Nat} {cs sl b L n : Nat} {xs : Nat → Int32} {i : Int32} {Rel : Nat → ST → ST → Prop} {σ τ : ST} (E : Ev x cy cL_law RL 4 2000 80000) (hX : va_X b L xs (xS x) (xS x).heap ∧ b < (xS x).heap.size ∧ ¬ xA x b) (hf : cs ≤ (xR x).cells ∧ sl ≤ (xR x).slots) (hi1 : vp_in (i + 1) L) (hi2 : vp_in (i + 2) L) (hi3 : vp_in (i + 3) L) (hs : S_hits Rel) (hR0 : Rel n σ τ) (hn : n < 512) (KK : ∀ σ' τ' : ST, Rel (n + 1) σ' τ' → G x cs sl 726 [(0, .ref b), (1, .ref (ad 0)), (2, .ref (a2 0)), (3, .int i)] [] (wT ad cy σ' ++ wM a2 cy τ')) : G x cs sl 268 [(0, .ref b), (1, .ref (ad 0)), (2, .ref (a2 0)), (3, .int i)] [] (wT ad cy σ ++ wM a2 cy τ) := by
  obtain ⟨v, hT, hM, hR⟩ := hs n σ τ (xs (i + 1).toNatClampNeg) (xs (i + 2).toNatClampNeg) hR0 hn
  refine G.aload_n E dL_law_268 rfl 1 rfl ?_
  refine G.aload_n E dL_law_269 rfl 0 rfl ?_
  refine G.iload_n E dL_law_270 rfl 3 rfl ?_
  refine G.iconst (v := 1) E dL_law_271 (by decide) ?_
  refine G.iadd E dL_law_272 ?_
  refine G.sld E hX hi1 dL_law_273 ?_
  refine G.aload_n E dL_law_274 rfl 0 rfl ?_
  refine G.iload_n E dL_law_275 rfl 3 rfl ?_
  refine G.iconst (v := 2) E dL_law_276 (by decide) ?_
  refine G.iadd E dL_law_277 ?_
  refine G.sld E hX hi2 dL_law_278 ?_
  refine G.retI1 E (runV (st := []) (As := [.int (xs (i + 1).toNatClampNeg), .int (xs (i + 2).toNatClampNeg)]) E (C_X8_hits hT) ck_X8_hits (f525 E.fx) (f526 E.fx) (f527 E.fx) 0 8 rfl rfl rfl (by decide) (by decide) rfl (Nat.le_of_ble_eq_true rfl) dL_law_279 hf) ?_
  refine G.aload_n E dL_law_282 rfl 2 rfl ?_
  refine G.aload_n E dL_law_283 rfl 0 rfl ?_
  refine G.iload_n E dL_law_284 rfl 3 rfl ?_
  refine G.iconst (v := 1) E dL_law_285 (by decide) ?_
  refine G.iadd E dL_law_286 ?_
  refine G.sld E hX hi1 dL_law_287 ?_
  refine G.aload_n E dL_law_288 rfl 0 rfl ?_
  refine G.iload_n E dL_law_289 rfl 3 rfl ?_
  refine G.iconst (v := 2) E dL_law_290 (by decide) ?_
  refine G.iadd E dL_law_291 ?_
  refine G.sld E hX hi2 dL_law_292 ?_
  refine G.retI2 E (runV (st := [.int v]) (As := [.int (xs (i + 1).toNatClampNeg), .int (xs (i + 2).toNatClampNeg)]) E (C_X9_hits hM) ck_X9_hits (f925 E.fx) (f926 E.fx) (f927 E.fx) 0 9 rfl rfl rfl (by decide) (by decide) rfl (Nat.le_of_ble_eq_true rfl) dL_law_293 hf) ?_
  refine G.icmp_eq (tgt := 726) E dL_law_296 (by decide) (fun _ => ?_) (fun q => absurd rfl q)
  exact KK σ τ hR

set_option maxHeartbeats 4000000 in
set_option maxRecDepth 100000 in
theorem L_toss {x : CX} {cy : Nat → ClassId} {ad a2 : Nat → Nat} {cs sl b L n : Nat} {xs : Nat → Int32} {i : Int32} {Rel : Nat → ST → ST → Prop} {σ τ : ST} (E : Ev x cy cL_law RL 4 2000 80000) (hX : va_X b L xs (xS x) (xS x).heap ∧ b < (xS x).heap.size ∧ ¬ xA x b) (hf : cs ≤ (xR x).cells ∧ sl ≤ (xR x).slots) (hi1 : vp_in (i + 1) L) (hi2 : vp_in (i + 2) L) (hi3 : vp_in (i + 3) L) (hs : S_toss Rel) (hR0 : Rel n σ τ) (hn : n < 512) (KK : ∀ σ' τ' : ST, Rel (n + 1) σ' τ' → G x cs sl 726 [(0, .ref b), (1, .ref (ad 0)), (2, .ref (a2 0)), (3, .int i)] [] (wT ad cy σ' ++ wM a2 cy τ')) : G x cs sl 301 [(0, .ref b), (1, .ref (ad 0)), (2, .ref (a2 0)), (3, .int i)] [] (wT ad cy σ ++ wM a2 cy τ) := by
  obtain ⟨v, σ', τ', hT, hM, hR⟩ := hs n σ τ (xs (i + 1).toNatClampNeg) hR0 hn
  refine G.aload_n E dL_law_301 rfl 1 rfl ?_
  refine G.aload_n E dL_law_302 rfl 0 rfl ?_
  refine G.iload_n E dL_law_303 rfl 3 rfl ?_
  refine G.iconst (v := 1) E dL_law_304 (by decide) ?_
  refine G.iadd E dL_law_305 ?_
  refine G.sld E hX hi1 dL_law_306 ?_
  refine G.retI1 E (runV (st := []) (As := [.int (xs (i + 1).toNatClampNeg)]) E (C_X8_toss hT) ck_X8_toss (f533 E.fx) (f534 E.fx) (f535 E.fx) 0 8 rfl rfl rfl (by decide) (by decide) rfl (Nat.le_of_ble_eq_true rfl) dL_law_307 hf) ?_
  refine G.aload_n E dL_law_310 rfl 2 rfl ?_
  refine G.aload_n E dL_law_311 rfl 0 rfl ?_
  refine G.iload_n E dL_law_312 rfl 3 rfl ?_
  refine G.iconst (v := 1) E dL_law_313 (by decide) ?_
  refine G.iadd E dL_law_314 ?_
  refine G.sld E hX hi1 dL_law_315 ?_
  refine G.retI2 E (runV (st := [.int v]) (As := [.int (xs (i + 1).toNatClampNeg)]) E (C_X9_toss hM) ck_X9_toss (f933 E.fx) (f934 E.fx) (f935 E.fx) 0 9 rfl rfl rfl (by decide) (by decide) rfl (Nat.le_of_ble_eq_true rfl) dL_law_316 hf) ?_
  refine G.icmp_eq (tgt := 726) E dL_law_319 (by decide) (fun _ => ?_) (fun q => absurd rfl q)
  exact KK σ' τ' hR

set_option maxHeartbeats 4000000 in
set_option maxRecDepth 100000 in
theorem L_anew {x : CX} {cy : Nat → ClassId} {ad a2 : Nat → Nat} {cs sl b L n : Nat} {xs : Nat → Int32} {i : Int32} {Rel : Nat → ST → ST → Prop} {σ τ : ST} (E : Ev x cy cL_law RL 4 2000 80000) (hX : va_X b L xs (xS x) (xS x).heap ∧ b < (xS x).heap.size ∧ ¬ xA x b) (hf : cs ≤ (xR x).cells ∧ sl ≤ (xR x).slots) (hi1 : vp_in (i + 1) L) (hi2 : vp_in (i + 2) L) (hi3 : vp_in (i + 3) L) (hs : S_anew Rel) (hR0 : Rel n σ τ) (hn : n < 512) (KK : ∀ σ' τ' : ST, Rel (n + 1) σ' τ' → G x cs sl 726 [(0, .ref b), (1, .ref (ad 0)), (2, .ref (a2 0)), (3, .int i)] [] (wT ad cy σ' ++ wM a2 cy τ')) : G x cs sl 324 [(0, .ref b), (1, .ref (ad 0)), (2, .ref (a2 0)), (3, .int i)] [] (wT ad cy σ ++ wM a2 cy τ) := by
  obtain ⟨v, σ', τ', hT, hM, hR⟩ := hs n σ τ hR0 hn
  refine G.aload_n E dL_law_324 rfl 1 rfl ?_
  refine G.retI1 E (runV (st := []) (As := []) E (C_X8_anew hT) ck_X8_anew (f553 E.fx) (f554 E.fx) (f555 E.fx) 0 8 rfl rfl rfl (by decide) (by decide) rfl (Nat.le_of_ble_eq_true rfl) dL_law_325 hf) ?_
  refine G.aload_n E dL_law_328 rfl 2 rfl ?_
  refine G.retI2 E (runV (st := [.int v]) (As := []) E (C_X9_anew hM) ck_X9_anew (f941 E.fx) (f942 E.fx) (f943 E.fx) 0 9 rfl rfl rfl (by decide) (by decide) rfl (Nat.le_of_ble_eq_true rfl) dL_law_329 hf) ?_
  refine G.icmp_eq (tgt := 726) E dL_law_332 (by decide) (fun _ => ?_) (fun q => absurd rfl q)
  exact KK σ' τ' hR

set_option maxHeartbeats 4000000 in
set_option maxRecDepth 100000 in
theorem L_bet {x : CX} {cy : Nat → ClassId} {ad a2 : Nat → Nat} {cs sl b L n : Nat} {xs : Nat → Int32} {i : Int32} {Rel : Nat → ST → ST → Prop} {σ τ : ST} (E : Ev x cy cL_law RL 4 2000 80000) (hX : va_X b L xs (xS x) (xS x).heap ∧ b < (xS x).heap.size ∧ ¬ xA x b) (hf : cs ≤ (xR x).cells ∧ sl ≤ (xR x).slots) (hi1 : vp_in (i + 1) L) (hi2 : vp_in (i + 2) L) (hi3 : vp_in (i + 3) L) (hs : S_bet Rel) (hR0 : Rel n σ τ) (hn : n < 512) (KK : ∀ σ' τ' : ST, Rel (n + 1) σ' τ' → G x cs sl 726 [(0, .ref b), (1, .ref (ad 0)), (2, .ref (a2 0)), (3, .int i)] [] (wT ad cy σ' ++ wM a2 cy τ')) : G x cs sl 337 [(0, .ref b), (1, .ref (ad 0)), (2, .ref (a2 0)), (3, .int i)] [] (wT ad cy σ ++ wM a2 cy τ) := by
  obtain ⟨v, σ', τ', hT, hM, hR⟩ := hs n σ τ (xs (i + 1).toNatClampNeg) (xs (i + 2).toNatClampNeg) hR0 hn
  refine G.aload_n E dL_law_337 rfl 1 rfl ?_
  refine G.aload_n E dL_law_338 rfl 0 rfl ?_
  refine G.iload_n E dL_law_339 rfl 3 rfl ?_
  refine G.iconst (v := 1) E dL_law_340 (by decide) ?_
  refine G.iadd E dL_law_341 ?_
  refine G.sld E hX hi1 dL_law_342 ?_
  refine G.aload_n E dL_law_343 rfl 0 rfl ?_
  refine G.iload_n E dL_law_344 rfl 3 rfl ?_
  refine G.iconst (v := 2) E dL_law_345 (by decide) ?_
  refine G.iadd E dL_law_346 ?_
  refine G.sld E hX hi2 dL_law_347 ?_
  refine G.retI1 E (runV (st := []) (As := [.int (xs (i + 1).toNatClampNeg), .int (xs (i + 2).toNatClampNeg)]) E (C_X8_bet hT) ck_X8_bet (f557 E.fx) (f558 E.fx) (f559 E.fx) 0 8 rfl rfl rfl (by decide) (by decide) rfl (Nat.le_of_ble_eq_true rfl) dL_law_348 hf) ?_
  refine G.aload_n E dL_law_351 rfl 2 rfl ?_
  refine G.aload_n E dL_law_352 rfl 0 rfl ?_
  refine G.iload_n E dL_law_353 rfl 3 rfl ?_
  refine G.iconst (v := 1) E dL_law_354 (by decide) ?_
  refine G.iadd E dL_law_355 ?_
  refine G.sld E hX hi1 dL_law_356 ?_
  refine G.aload_n E dL_law_357 rfl 0 rfl ?_
  refine G.iload_n E dL_law_358 rfl 3 rfl ?_
  refine G.iconst (v := 2) E dL_law_359 (by decide) ?_
  refine G.iadd E dL_law_360 ?_
  refine G.sld E hX hi2 dL_law_361 ?_
  refine G.retI2 E (runV (st := [.int v]) (As := [.int (xs (i + 1).toNatClampNeg), .int (xs (i + 2).toNatClampNeg)]) E (C_X9_bet hM) ck_X9_bet (f945 E.fx) (f946 E.fx) (f947 E.fx) 0 9 rfl rfl rfl (by decide) (by decide) rfl (Nat.le_of_ble_eq_true rfl) dL_law_362 hf) ?_
  refine G.icmp_eq (tgt := 726) E dL_law_365 (by decide) (fun _ => ?_) (fun q => absurd rfl q)
  exact KK σ' τ' hR

set_option maxHeartbeats 4000000 in
set_option maxRecDepth 100000 in
theorem L_be {x : CX} {cy : Nat → ClassId} {ad a2 : Nat → Nat} {cs sl b L n : Nat} {xs : Nat → Int32} {i : Int32} {Rel : Nat → ST → ST → Prop} {σ τ : ST} (E : Ev x cy cL_law RL 4 2000 80000) (hX : va_X b L xs (xS x) (xS x).heap ∧ b < (xS x).heap.size ∧ ¬ xA x b) (hf : cs ≤ (xR x).cells ∧ sl ≤ (xR x).slots) (hi1 : vp_in (i + 1) L) (hi2 : vp_in (i + 2) L) (hi3 : vp_in (i + 3) L) (hs : S_be Rel) (hR0 : Rel n σ τ) (hn : n < 512) (KK : ∀ σ' τ' : ST, Rel (n + 1) σ' τ' → G x cs sl 726 [(0, .ref b), (1, .ref (ad 0)), (2, .ref (a2 0)), (3, .int i)] [] (wT ad cy σ' ++ wM a2 cy τ')) : G x cs sl 370 [(0, .ref b), (1, .ref (ad 0)), (2, .ref (a2 0)), (3, .int i)] [] (wT ad cy σ ++ wM a2 cy τ) := by
  obtain ⟨v, σ', τ', hT, hM, hR⟩ := hs n σ τ (xs (i + 1).toNatClampNeg) (xs (i + 2).toNatClampNeg) hR0 hn
  refine G.aload_n E dL_law_370 rfl 1 rfl ?_
  refine G.aload_n E dL_law_371 rfl 0 rfl ?_
  refine G.iload_n E dL_law_372 rfl 3 rfl ?_
  refine G.iconst (v := 1) E dL_law_373 (by decide) ?_
  refine G.iadd E dL_law_374 ?_
  refine G.sld E hX hi1 dL_law_375 ?_
  refine G.aload_n E dL_law_376 rfl 0 rfl ?_
  refine G.iload_n E dL_law_377 rfl 3 rfl ?_
  refine G.iconst (v := 2) E dL_law_378 (by decide) ?_
  refine G.iadd E dL_law_379 ?_
  refine G.sld E hX hi2 dL_law_380 ?_
  refine G.retI1 E (runV (st := []) (As := [.int (xs (i + 1).toNatClampNeg), .int (xs (i + 2).toNatClampNeg)]) E (C_X8_be hT) ck_X8_be (f561 E.fx) (f562 E.fx) (f563 E.fx) 0 8 rfl rfl rfl (by decide) (by decide) rfl (Nat.le_of_ble_eq_true rfl) dL_law_381 hf) ?_
  refine G.aload_n E dL_law_384 rfl 2 rfl ?_
  refine G.aload_n E dL_law_385 rfl 0 rfl ?_
  refine G.iload_n E dL_law_386 rfl 3 rfl ?_
  refine G.iconst (v := 1) E dL_law_387 (by decide) ?_
  refine G.iadd E dL_law_388 ?_
  refine G.sld E hX hi1 dL_law_389 ?_
  refine G.aload_n E dL_law_390 rfl 0 rfl ?_
  refine G.iload_n E dL_law_391 rfl 3 rfl ?_
  refine G.iconst (v := 2) E dL_law_392 (by decide) ?_
  refine G.iadd E dL_law_393 ?_
  refine G.sld E hX hi2 dL_law_394 ?_
  refine G.retI2 E (runV (st := [.int v]) (As := [.int (xs (i + 1).toNatClampNeg), .int (xs (i + 2).toNatClampNeg)]) E (C_X9_be hM) ck_X9_be (f949 E.fx) (f950 E.fx) (f951 E.fx) 0 9 rfl rfl rfl (by decide) (by decide) rfl (Nat.le_of_ble_eq_true rfl) dL_law_395 hf) ?_
  refine G.icmp_eq (tgt := 726) E dL_law_398 (by decide) (fun _ => ?_) (fun q => absurd rfl q)
  exact KK σ' τ' hR

set_option maxHeartbeats 4000000 in
set_option maxRecDepth 100000 in
theorem L_duel {x : CX} {cy : Nat → ClassId} {ad a2 : Nat → Nat} {cs sl b L n : Nat} {xs : Nat → Int32} {i : Int32} {Rel : Nat → ST → ST → Prop} {σ τ : ST} (E : Ev x cy cL_law RL 4 2000 80000) (hX : va_X b L xs (xS x) (xS x).heap ∧ b < (xS x).heap.size ∧ ¬ xA x b) (hf : cs ≤ (xR x).cells ∧ sl ≤ (xR x).slots) (hi1 : vp_in (i + 1) L) (hi2 : vp_in (i + 2) L) (hi3 : vp_in (i + 3) L) (hs : S_duel Rel) (hR0 : Rel n σ τ) (hn : n < 512) (KK : ∀ σ' τ' : ST, Rel (n + 1) σ' τ' → G x cs sl 726 [(0, .ref b), (1, .ref (ad 0)), (2, .ref (a2 0)), (3, .int i)] [] (wT ad cy σ' ++ wM a2 cy τ')) : G x cs sl 403 [(0, .ref b), (1, .ref (ad 0)), (2, .ref (a2 0)), (3, .int i)] [] (wT ad cy σ ++ wM a2 cy τ) := by
  obtain ⟨v, σ', τ', hT, hM, hR⟩ := hs n σ τ (xs (i + 1).toNatClampNeg) (xs (i + 2).toNatClampNeg) hR0 hn
  refine G.aload_n E dL_law_403 rfl 1 rfl ?_
  refine G.aload_n E dL_law_404 rfl 0 rfl ?_
  refine G.iload_n E dL_law_405 rfl 3 rfl ?_
  refine G.iconst (v := 1) E dL_law_406 (by decide) ?_
  refine G.iadd E dL_law_407 ?_
  refine G.sld E hX hi1 dL_law_408 ?_
  refine G.aload_n E dL_law_409 rfl 0 rfl ?_
  refine G.iload_n E dL_law_410 rfl 3 rfl ?_
  refine G.iconst (v := 2) E dL_law_411 (by decide) ?_
  refine G.iadd E dL_law_412 ?_
  refine G.sld E hX hi2 dL_law_413 ?_
  refine G.retI1 E (runV (st := []) (As := [.int (xs (i + 1).toNatClampNeg), .int (xs (i + 2).toNatClampNeg)]) E (C_X8_duel hT) ck_X8_duel (f565 E.fx) (f566 E.fx) (f567 E.fx) 0 8 rfl rfl rfl (by decide) (by decide) rfl (Nat.le_of_ble_eq_true rfl) dL_law_414 hf) ?_
  refine G.aload_n E dL_law_417 rfl 2 rfl ?_
  refine G.aload_n E dL_law_418 rfl 0 rfl ?_
  refine G.iload_n E dL_law_419 rfl 3 rfl ?_
  refine G.iconst (v := 1) E dL_law_420 (by decide) ?_
  refine G.iadd E dL_law_421 ?_
  refine G.sld E hX hi1 dL_law_422 ?_
  refine G.aload_n E dL_law_423 rfl 0 rfl ?_
  refine G.iload_n E dL_law_424 rfl 3 rfl ?_
  refine G.iconst (v := 2) E dL_law_425 (by decide) ?_
  refine G.iadd E dL_law_426 ?_
  refine G.sld E hX hi2 dL_law_427 ?_
  refine G.retI2 E (runV (st := [.int v]) (As := [.int (xs (i + 1).toNatClampNeg), .int (xs (i + 2).toNatClampNeg)]) E (C_X9_duel hM) ck_X9_duel (f953 E.fx) (f954 E.fx) (f955 E.fx) 0 9 rfl rfl rfl (by decide) (by decide) rfl (Nat.le_of_ble_eq_true rfl) dL_law_428 hf) ?_
  refine G.icmp_eq (tgt := 726) E dL_law_431 (by decide) (fun _ => ?_) (fun q => absurd rfl q)
  exact KK σ' τ' hR

set_option maxHeartbeats 4000000 in
set_option maxRecDepth 100000 in
theorem L_answer {x : CX} {cy : Nat → ClassId} {ad a2 : Nat → Nat} {cs sl b L n : Nat} {xs : Nat → Int32} {i : Int32} {Rel : Nat → ST → ST → Prop} {σ τ : ST} (E : Ev x cy cL_law RL 4 2000 80000) (hX : va_X b L xs (xS x) (xS x).heap ∧ b < (xS x).heap.size ∧ ¬ xA x b) (hf : cs ≤ (xR x).cells ∧ sl ≤ (xR x).slots) (hi1 : vp_in (i + 1) L) (hi2 : vp_in (i + 2) L) (hi3 : vp_in (i + 3) L) (hs : S_answer Rel) (hR0 : Rel n σ τ) (hn : n < 512) (KK : ∀ σ' τ' : ST, Rel (n + 1) σ' τ' → G x cs sl 726 [(0, .ref b), (1, .ref (ad 0)), (2, .ref (a2 0)), (3, .int i)] [] (wT ad cy σ' ++ wM a2 cy τ')) : G x cs sl 436 [(0, .ref b), (1, .ref (ad 0)), (2, .ref (a2 0)), (3, .int i)] [] (wT ad cy σ ++ wM a2 cy τ) := by
  obtain ⟨v, σ', τ', hT, hM, hR⟩ := hs n σ τ (xs (i + 1).toNatClampNeg) (xs (i + 2).toNatClampNeg) hR0 hn
  refine G.aload_n E dL_law_436 rfl 1 rfl ?_
  refine G.aload_n E dL_law_437 rfl 0 rfl ?_
  refine G.iload_n E dL_law_438 rfl 3 rfl ?_
  refine G.iconst (v := 1) E dL_law_439 (by decide) ?_
  refine G.iadd E dL_law_440 ?_
  refine G.sld E hX hi1 dL_law_441 ?_
  refine G.aload_n E dL_law_442 rfl 0 rfl ?_
  refine G.iload_n E dL_law_443 rfl 3 rfl ?_
  refine G.iconst (v := 2) E dL_law_444 (by decide) ?_
  refine G.iadd E dL_law_445 ?_
  refine G.sld E hX hi2 dL_law_446 ?_
  refine G.retI1 E (runV (st := []) (As := [.int (xs (i + 1).toNatClampNeg), .int (xs (i + 2).toNatClampNeg)]) E (C_X8_answer hT) ck_X8_answer (f574 E.fx) (f575 E.fx) (f576 E.fx) 0 8 rfl rfl rfl (by decide) (by decide) rfl (Nat.le_of_ble_eq_true rfl) dL_law_447 hf) ?_
  refine G.aload_n E dL_law_450 rfl 2 rfl ?_
  refine G.aload_n E dL_law_451 rfl 0 rfl ?_
  refine G.iload_n E dL_law_452 rfl 3 rfl ?_
  refine G.iconst (v := 1) E dL_law_453 (by decide) ?_
  refine G.iadd E dL_law_454 ?_
  refine G.sld E hX hi1 dL_law_455 ?_
  refine G.aload_n E dL_law_456 rfl 0 rfl ?_
  refine G.iload_n E dL_law_457 rfl 3 rfl ?_
  refine G.iconst (v := 2) E dL_law_458 (by decide) ?_
  refine G.iadd E dL_law_459 ?_
  refine G.sld E hX hi2 dL_law_460 ?_
  refine G.retI2 E (runV (st := [.int v]) (As := [.int (xs (i + 1).toNatClampNeg), .int (xs (i + 2).toNatClampNeg)]) E (C_X9_answer hM) ck_X9_answer (f966 E.fx) (f967 E.fx) (f968 E.fx) 0 9 rfl rfl rfl (by decide) (by decide) rfl (Nat.le_of_ble_eq_true rfl) dL_law_461 hf) ?_
  refine G.icmp_eq (tgt := 726) E dL_law_464 (by decide) (fun _ => ?_) (fun q => absurd rfl q)
  exact KK σ' τ' hR

set_option maxHeartbeats 4000000 in
set_option maxRecDepth 100000 in
theorem L_open {x : CX} {cy : Nat → ClassId} {ad a2 : Nat → Nat} {cs sl b L n : Nat} {xs : Nat → Int32} {i : Int32} {Rel : Nat → ST → ST → Prop} {σ τ : ST} (E : Ev x cy cL_law RL 4 2000 80000) (hX : va_X b L xs (xS x) (xS x).heap ∧ b < (xS x).heap.size ∧ ¬ xA x b) (hf : cs ≤ (xR x).cells ∧ sl ≤ (xR x).slots) (hi1 : vp_in (i + 1) L) (hi2 : vp_in (i + 2) L) (hi3 : vp_in (i + 3) L) (hs : S_open Rel) (hR0 : Rel n σ τ) (hn : n < 512) (KK : ∀ σ' τ' : ST, Rel (n + 1) σ' τ' → G x cs sl 726 [(0, .ref b), (1, .ref (ad 0)), (2, .ref (a2 0)), (3, .int i)] [] (wT ad cy σ' ++ wM a2 cy τ')) : G x cs sl 469 [(0, .ref b), (1, .ref (ad 0)), (2, .ref (a2 0)), (3, .int i)] [] (wT ad cy σ ++ wM a2 cy τ) := by
  obtain ⟨v, σ', τ', hT, hM, hR⟩ := hs n σ τ (xs (i + 1).toNatClampNeg) hR0 hn
  refine G.aload_n E dL_law_469 rfl 1 rfl ?_
  refine G.aload_n E dL_law_470 rfl 0 rfl ?_
  refine G.iload_n E dL_law_471 rfl 3 rfl ?_
  refine G.iconst (v := 1) E dL_law_472 (by decide) ?_
  refine G.iadd E dL_law_473 ?_
  refine G.sld E hX hi1 dL_law_474 ?_
  refine G.retI1 E (runV (st := []) (As := [.int (xs (i + 1).toNatClampNeg)]) E (C_X8_open hT) ck_X8_open (f582 E.fx) (f583 E.fx) (f584 E.fx) 0 8 rfl rfl rfl (by decide) (by decide) rfl (Nat.le_of_ble_eq_true rfl) dL_law_475 hf) ?_
  refine G.aload_n E dL_law_478 rfl 2 rfl ?_
  refine G.aload_n E dL_law_479 rfl 0 rfl ?_
  refine G.iload_n E dL_law_480 rfl 3 rfl ?_
  refine G.iconst (v := 1) E dL_law_481 (by decide) ?_
  refine G.iadd E dL_law_482 ?_
  refine G.sld E hX hi1 dL_law_483 ?_
  refine G.retI2 E (runV (st := [.int v]) (As := [.int (xs (i + 1).toNatClampNeg)]) E (C_X9_open hM) ck_X9_open (f974 E.fx) (f975 E.fx) (f976 E.fx) 0 9 rfl rfl rfl (by decide) (by decide) rfl (Nat.le_of_ble_eq_true rfl) dL_law_484 hf) ?_
  refine G.icmp_eq (tgt := 726) E dL_law_487 (by decide) (fun _ => ?_) (fun q => absurd rfl q)
  exact KK σ' τ' hR

set_option maxHeartbeats 4000000 in
set_option maxRecDepth 100000 in
theorem L_ring {x : CX} {cy : Nat → ClassId} {ad a2 : Nat → Nat} {cs sl b L n : Nat} {xs : Nat → Int32} {i : Int32} {Rel : Nat → ST → ST → Prop} {σ τ : ST} (E : Ev x cy cL_law RL 4 2000 80000) (hX : va_X b L xs (xS x) (xS x).heap ∧ b < (xS x).heap.size ∧ ¬ xA x b) (hf : cs ≤ (xR x).cells ∧ sl ≤ (xR x).slots) (hi1 : vp_in (i + 1) L) (hi2 : vp_in (i + 2) L) (hi3 : vp_in (i + 3) L) (hs : S_ring Rel) (hR0 : Rel n σ τ) (hn : n < 512) (KK : ∀ σ' τ' : ST, Rel (n + 1) σ' τ' → G x cs sl 726 [(0, .ref b), (1, .ref (ad 0)), (2, .ref (a2 0)), (3, .int i)] [] (wT ad cy σ' ++ wM a2 cy τ')) : G x cs sl 492 [(0, .ref b), (1, .ref (ad 0)), (2, .ref (a2 0)), (3, .int i)] [] (wT ad cy σ ++ wM a2 cy τ) := by
  obtain ⟨v, σ', τ', hT, hM, hR⟩ := hs n σ τ hR0 hn
  refine G.aload_n E dL_law_492 rfl 1 rfl ?_
  refine G.retI1 E (runV (st := []) (As := []) E (C_X8_ring hT) ck_X8_ring (f595 E.fx) (f596 E.fx) (f597 E.fx) 0 8 rfl rfl rfl (by decide) (by decide) rfl (Nat.le_of_ble_eq_true rfl) dL_law_493 hf) ?_
  refine G.aload_n E dL_law_496 rfl 2 rfl ?_
  refine G.retI2 E (runV (st := [.int v]) (As := []) E (C_X9_ring hM) ck_X9_ring (f986 E.fx) (f987 E.fx) (f988 E.fx) 0 9 rfl rfl rfl (by decide) (by decide) rfl (Nat.le_of_ble_eq_true rfl) dL_law_497 hf) ?_
  refine G.icmp_eq (tgt := 726) E dL_law_500 (by decide) (fun _ => ?_) (fun q => absurd rfl q)
  exact KK σ' τ' hR

set_option maxHeartbeats 4000000 in
set_option maxRecDepth 100000 in
theorem L_odds {x : CX} {cy : Nat → ClassId} {ad a2 : Nat → Nat} {cs sl b L n : Nat} {xs : Nat → Int32} {i : Int32} {Rel : Nat → ST → ST → Prop} {σ τ : ST} (E : Ev x cy cL_law RL 4 2000 80000) (hX : va_X b L xs (xS x) (xS x).heap ∧ b < (xS x).heap.size ∧ ¬ xA x b) (hf : cs ≤ (xR x).cells ∧ sl ≤ (xR x).slots) (hi1 : vp_in (i + 1) L) (hi2 : vp_in (i + 2) L) (hi3 : vp_in (i + 3) L) (hs : S_odds Rel) (hR0 : Rel n σ τ) (hn : n < 512) (KK : ∀ σ' τ' : ST, Rel (n + 1) σ' τ' → G x cs sl 726 [(0, .ref b), (1, .ref (ad 0)), (2, .ref (a2 0)), (3, .int i)] [] (wT ad cy σ' ++ wM a2 cy τ')) : G x cs sl 505 [(0, .ref b), (1, .ref (ad 0)), (2, .ref (a2 0)), (3, .int i)] [] (wT ad cy σ ++ wM a2 cy τ) := by
  obtain ⟨v, σ', τ', hT, hM, hR⟩ := hs n σ τ (xs (i + 1).toNatClampNeg) (xs (i + 2).toNatClampNeg) (xs (i + 3).toNatClampNeg) hR0 hn
  refine G.aload_n E dL_law_505 rfl 1 rfl ?_
  refine G.aload_n E dL_law_506 rfl 0 rfl ?_
  refine G.iload_n E dL_law_507 rfl 3 rfl ?_
  refine G.iconst (v := 1) E dL_law_508 (by decide) ?_
  refine G.iadd E dL_law_509 ?_
  refine G.sld E hX hi1 dL_law_510 ?_
  refine G.aload_n E dL_law_511 rfl 0 rfl ?_
  refine G.iload_n E dL_law_512 rfl 3 rfl ?_
  refine G.iconst (v := 2) E dL_law_513 (by decide) ?_
  refine G.iadd E dL_law_514 ?_
  refine G.sld E hX hi2 dL_law_515 ?_
  refine G.aload_n E dL_law_516 rfl 0 rfl ?_
  refine G.iload_n E dL_law_517 rfl 3 rfl ?_
  refine G.iconst (v := 3) E dL_law_518 (by decide) ?_
  refine G.iadd E dL_law_519 ?_
  refine G.sld E hX hi3 dL_law_520 ?_
  refine G.retI1 E (runV (st := []) (As := [.int (xs (i + 1).toNatClampNeg), .int (xs (i + 2).toNatClampNeg), .int (xs (i + 3).toNatClampNeg)]) E (C_X8_odds hT) ck_X8_odds (f612 E.fx) (f613 E.fx) (f614 E.fx) 0 8 rfl rfl rfl (by decide) (by decide) rfl (Nat.le_of_ble_eq_true rfl) dL_law_521 hf) ?_
  refine G.aload_n E dL_law_524 rfl 2 rfl ?_
  refine G.aload_n E dL_law_525 rfl 0 rfl ?_
  refine G.iload_n E dL_law_526 rfl 3 rfl ?_
  refine G.iconst (v := 1) E dL_law_527 (by decide) ?_
  refine G.iadd E dL_law_528 ?_
  refine G.sld E hX hi1 dL_law_529 ?_
  refine G.aload_n E dL_law_530 rfl 0 rfl ?_
  refine G.iload_n E dL_law_531 rfl 3 rfl ?_
  refine G.iconst (v := 2) E dL_law_532 (by decide) ?_
  refine G.iadd E dL_law_533 ?_
  refine G.sld E hX hi2 dL_law_534 ?_
  refine G.aload_n E dL_law_535 rfl 0 rfl ?_
  refine G.iload_n E dL_law_536 rfl 3 rfl ?_
  refine G.iconst (v := 3) E dL_law_537 (by decide) ?_
  refine G.iadd E dL_law_538 ?_
  refine G.sld E hX hi3 dL_law_539 ?_
  refine G.retI2 E (runV (st := [.int v]) (As := [.int (xs (i + 1).toNatClampNeg), .int (xs (i + 2).toNatClampNeg), .int (xs (i + 3).toNatClampNeg)]) E (C_X9_odds hM) ck_X9_odds (f1006 E.fx) (f1007 E.fx) (f1008 E.fx) 0 9 rfl rfl rfl (by decide) (by decide) rfl (Nat.le_of_ble_eq_true rfl) dL_law_540 hf) ?_
  refine G.icmp_eq (tgt := 726) E dL_law_543 (by decide) (fun _ => ?_) (fun q => absurd rfl q)
  exact KK σ' τ' hR

set_option maxHeartbeats 4000000 in
set_option maxRecDepth 100000 in
theorem L_see {x : CX} {cy : Nat → ClassId} {ad a2 : Nat → Nat} {cs sl b L n : Nat} {xs : Nat → Int32} {i : Int32} {Rel : Nat → ST → ST → Prop} {σ τ : ST} (E : Ev x cy cL_law RL 4 2000 80000) (hX : va_X b L xs (xS x) (xS x).heap ∧ b < (xS x).heap.size ∧ ¬ xA x b) (hf : cs ≤ (xR x).cells ∧ sl ≤ (xR x).slots) (hi1 : vp_in (i + 1) L) (hi2 : vp_in (i + 2) L) (hi3 : vp_in (i + 3) L) (hs : S_see Rel) (hR0 : Rel n σ τ) (hn : n < 512) (KK : ∀ σ' τ' : ST, Rel (n + 1) σ' τ' → G x cs sl 726 [(0, .ref b), (1, .ref (ad 0)), (2, .ref (a2 0)), (3, .int i)] [] (wT ad cy σ' ++ wM a2 cy τ')) : G x cs sl 548 [(0, .ref b), (1, .ref (ad 0)), (2, .ref (a2 0)), (3, .int i)] [] (wT ad cy σ ++ wM a2 cy τ) := by
  refine G.aload_n E dL_law_548 rfl 1 rfl ?_
  refine G.aload_n E dL_law_549 rfl 0 rfl ?_
  refine G.iload_n E dL_law_550 rfl 3 rfl ?_
  refine G.iconst (v := 1) E dL_law_551 (by decide) ?_
  refine G.iadd E dL_law_552 ?_
  refine G.sld E hX hi1 dL_law_553 ?_
  refine G.aload_n E dL_law_554 rfl 0 rfl ?_
  refine G.iload_n E dL_law_555 rfl 3 rfl ?_
  refine G.iconst (v := 2) E dL_law_556 (by decide) ?_
  refine G.iadd E dL_law_557 ?_
  refine G.sld E hX hi2 dL_law_558 ?_
  refine G.aload_n E dL_law_559 rfl 0 rfl ?_
  refine G.iload_n E dL_law_560 rfl 3 rfl ?_
  refine G.iconst (v := 3) E dL_law_561 (by decide) ?_
  refine G.iadd E dL_law_562 ?_
  refine G.sld E hX hi3 dL_law_563 ?_
  refine G.if_eq (tgt := 571) E dL_law_564 (by decide) (fun q => ?_) (fun q => ?_)
  · skip
    obtain ⟨v, σ', τ', hT, hM, hR⟩ := hs n σ τ (xs (i + 1).toNatClampNeg) (xs (i + 2).toNatClampNeg) 0 hR0 hn (Or.inl rfl)
    have qc := q
    refine G.iconst (v := 0) E dL_law_571 (by decide) ?_
    refine G.retI1 E (runV (st := []) (As := [.int (xs (i + 1).toNatClampNeg), .int (xs (i + 2).toNatClampNeg), .int (0 : Int32)]) E (C_X8_see hT) ck_X8_see (f628 E.fx) (f629 E.fx) (f630 E.fx) 0 8 rfl rfl rfl (by decide) (by decide) rfl (Nat.le_of_ble_eq_true rfl) dL_law_572 hf) ?_
    refine G.aload_n E dL_law_575 rfl 2 rfl ?_
    refine G.aload_n E dL_law_576 rfl 0 rfl ?_
    refine G.iload_n E dL_law_577 rfl 3 rfl ?_
    refine G.iconst (v := 1) E dL_law_578 (by decide) ?_
    refine G.iadd E dL_law_579 ?_
    refine G.sld E hX hi1 dL_law_580 ?_
    refine G.aload_n E dL_law_581 rfl 0 rfl ?_
    refine G.iload_n E dL_law_582 rfl 3 rfl ?_
    refine G.iconst (v := 2) E dL_law_583 (by decide) ?_
    refine G.iadd E dL_law_584 ?_
    refine G.sld E hX hi2 dL_law_585 ?_
    refine G.aload_n E dL_law_586 rfl 0 rfl ?_
    refine G.iload_n E dL_law_587 rfl 3 rfl ?_
    refine G.iconst (v := 3) E dL_law_588 (by decide) ?_
    refine G.iadd E dL_law_589 ?_
    refine G.sld E hX hi3 dL_law_590 ?_
    refine G.if_eq (tgt := 598) E dL_law_591 (by decide) (fun q => ?_) (fun q => ?_)
    · skip
      refine G.iconst (v := 0) E dL_law_598 (by decide) ?_
      refine G.retI2 E (runV (st := [.int v]) (As := [.int (xs (i + 1).toNatClampNeg), .int (xs (i + 2).toNatClampNeg), .int (0 : Int32)]) E (C_X9_see hM) ck_X9_see (f1029 E.fx) (f1030 E.fx) (f1031 E.fx) 0 9 rfl rfl rfl (by decide) (by decide) rfl (Nat.le_of_ble_eq_true rfl) dL_law_599 hf) ?_
      refine G.icmp_eq (tgt := 726) E dL_law_602 (by decide) (fun _ => ?_) (fun q => absurd rfl q)
      exact KK σ' τ' hR
    · exact absurd qc q
  · skip
    obtain ⟨v, σ', τ', hT, hM, hR⟩ := hs n σ τ (xs (i + 1).toNatClampNeg) (xs (i + 2).toNatClampNeg) 1 hR0 hn (Or.inr rfl)
    have qc := q
    refine G.iconst (v := 1) E dL_law_567 (by decide) ?_
    refine G.goto (tgt := 572) E dL_law_568 (by decide) ?_
    refine G.retI1 E (runV (st := []) (As := [.int (xs (i + 1).toNatClampNeg), .int (xs (i + 2).toNatClampNeg), .int (1 : Int32)]) E (C_X8_see hT) ck_X8_see (f628 E.fx) (f629 E.fx) (f630 E.fx) 0 8 rfl rfl rfl (by decide) (by decide) rfl (Nat.le_of_ble_eq_true rfl) dL_law_572 hf) ?_
    refine G.aload_n E dL_law_575 rfl 2 rfl ?_
    refine G.aload_n E dL_law_576 rfl 0 rfl ?_
    refine G.iload_n E dL_law_577 rfl 3 rfl ?_
    refine G.iconst (v := 1) E dL_law_578 (by decide) ?_
    refine G.iadd E dL_law_579 ?_
    refine G.sld E hX hi1 dL_law_580 ?_
    refine G.aload_n E dL_law_581 rfl 0 rfl ?_
    refine G.iload_n E dL_law_582 rfl 3 rfl ?_
    refine G.iconst (v := 2) E dL_law_583 (by decide) ?_
    refine G.iadd E dL_law_584 ?_
    refine G.sld E hX hi2 dL_law_585 ?_
    refine G.aload_n E dL_law_586 rfl 0 rfl ?_
    refine G.iload_n E dL_law_587 rfl 3 rfl ?_
    refine G.iconst (v := 3) E dL_law_588 (by decide) ?_
    refine G.iadd E dL_law_589 ?_
    refine G.sld E hX hi3 dL_law_590 ?_
    refine G.if_eq (tgt := 598) E dL_law_591 (by decide) (fun q => ?_) (fun q => ?_)
    · exact absurd q qc
    · skip
      refine G.iconst (v := 1) E dL_law_594 (by decide) ?_
      refine G.goto (tgt := 599) E dL_law_595 (by decide) ?_
      refine G.retI2 E (runV (st := [.int v]) (As := [.int (xs (i + 1).toNatClampNeg), .int (xs (i + 2).toNatClampNeg), .int (1 : Int32)]) E (C_X9_see hM) ck_X9_see (f1029 E.fx) (f1030 E.fx) (f1031 E.fx) 0 9 rfl rfl rfl (by decide) (by decide) rfl (Nat.le_of_ble_eq_true rfl) dL_law_599 hf) ?_
      refine G.icmp_eq (tgt := 726) E dL_law_602 (by decide) (fun _ => ?_) (fun q => absurd rfl q)
      exact KK σ' τ' hR

set_option maxHeartbeats 4000000 in
set_option maxRecDepth 100000 in
theorem L_forget {x : CX} {cy : Nat → ClassId} {ad a2 : Nat → Nat} {cs sl b L n : Nat} {xs : Nat → Int32} {i : Int32} {Rel : Nat → ST → ST → Prop} {σ τ : ST} (E : Ev x cy cL_law RL 4 2000 80000) (hX : va_X b L xs (xS x) (xS x).heap ∧ b < (xS x).heap.size ∧ ¬ xA x b) (hf : cs ≤ (xR x).cells ∧ sl ≤ (xR x).slots) (hi1 : vp_in (i + 1) L) (hi2 : vp_in (i + 2) L) (hi3 : vp_in (i + 3) L) (hs : S_forget Rel) (hR0 : Rel n σ τ) (hn : n < 512) (KK : ∀ σ' τ' : ST, Rel (n + 1) σ' τ' → G x cs sl 726 [(0, .ref b), (1, .ref (ad 0)), (2, .ref (a2 0)), (3, .int i)] [] (wT ad cy σ' ++ wM a2 cy τ')) : G x cs sl 607 [(0, .ref b), (1, .ref (ad 0)), (2, .ref (a2 0)), (3, .int i)] [] (wT ad cy σ ++ wM a2 cy τ) := by
  obtain ⟨v, σ', τ', hT, hM, hR⟩ := hs n σ τ hR0 hn
  refine G.aload_n E dL_law_607 rfl 1 rfl ?_
  refine G.retI1 E (runV (st := []) (As := []) E (C_X8_forget hT) ck_X8_forget (f636 E.fx) (f637 E.fx) (f638 E.fx) 0 8 rfl rfl rfl (by decide) (by decide) rfl (Nat.le_of_ble_eq_true rfl) dL_law_608 hf) ?_
  refine G.aload_n E dL_law_611 rfl 2 rfl ?_
  refine G.retI2 E (runV (st := [.int v]) (As := []) E (C_X9_forget hM) ck_X9_forget (f1033 E.fx) (f1034 E.fx) (f1035 E.fx) 0 9 rfl rfl rfl (by decide) (by decide) rfl (Nat.le_of_ble_eq_true rfl) dL_law_612 hf) ?_
  refine G.icmp_eq (tgt := 726) E dL_law_615 (by decide) (fun _ => ?_) (fun q => absurd rfl q)
  exact KK σ' τ' hR

set_option maxHeartbeats 4000000 in
set_option maxRecDepth 100000 in
theorem L_games {x : CX} {cy : Nat → ClassId} {ad a2 : Nat → Nat} {cs sl b L n : Nat} {xs : Nat → Int32} {i : Int32} {Rel : Nat → ST → ST → Prop} {σ τ : ST} (E : Ev x cy cL_law RL 4 2000 80000) (hX : va_X b L xs (xS x) (xS x).heap ∧ b < (xS x).heap.size ∧ ¬ xA x b) (hf : cs ≤ (xR x).cells ∧ sl ≤ (xR x).slots) (hi1 : vp_in (i + 1) L) (hi2 : vp_in (i + 2) L) (hi3 : vp_in (i + 3) L) (hs : S_games Rel) (hR0 : Rel n σ τ) (hn : n < 512) (KK : ∀ σ' τ' : ST, Rel (n + 1) σ' τ' → G x cs sl 726 [(0, .ref b), (1, .ref (ad 0)), (2, .ref (a2 0)), (3, .int i)] [] (wT ad cy σ' ++ wM a2 cy τ')) : G x cs sl 620 [(0, .ref b), (1, .ref (ad 0)), (2, .ref (a2 0)), (3, .int i)] [] (wT ad cy σ ++ wM a2 cy τ) := by
  obtain ⟨v, σ', τ', hT, hM, hR⟩ := hs n σ τ (xs (i + 1).toNatClampNeg) (xs (i + 2).toNatClampNeg) (xs (i + 3).toNatClampNeg) hR0 hn
  refine G.aload_n E dL_law_620 rfl 1 rfl ?_
  refine G.aload_n E dL_law_621 rfl 0 rfl ?_
  refine G.iload_n E dL_law_622 rfl 3 rfl ?_
  refine G.iconst (v := 1) E dL_law_623 (by decide) ?_
  refine G.iadd E dL_law_624 ?_
  refine G.sld E hX hi1 dL_law_625 ?_
  refine G.aload_n E dL_law_626 rfl 0 rfl ?_
  refine G.iload_n E dL_law_627 rfl 3 rfl ?_
  refine G.iconst (v := 2) E dL_law_628 (by decide) ?_
  refine G.iadd E dL_law_629 ?_
  refine G.sld E hX hi2 dL_law_630 ?_
  refine G.aload_n E dL_law_631 rfl 0 rfl ?_
  refine G.iload_n E dL_law_632 rfl 3 rfl ?_
  refine G.iconst (v := 3) E dL_law_633 (by decide) ?_
  refine G.iadd E dL_law_634 ?_
  refine G.sld E hX hi3 dL_law_635 ?_
  refine G.retI1 E (runV (st := []) (As := [.int (xs (i + 1).toNatClampNeg), .int (xs (i + 2).toNatClampNeg), .int (xs (i + 3).toNatClampNeg)]) E (C_X8_games hT) ck_X8_games (f640 E.fx) (f641 E.fx) (f642 E.fx) 0 8 rfl rfl rfl (by decide) (by decide) rfl (Nat.le_of_ble_eq_true rfl) dL_law_636 hf) ?_
  refine G.aload_n E dL_law_639 rfl 2 rfl ?_
  refine G.aload_n E dL_law_640 rfl 0 rfl ?_
  refine G.iload_n E dL_law_641 rfl 3 rfl ?_
  refine G.iconst (v := 1) E dL_law_642 (by decide) ?_
  refine G.iadd E dL_law_643 ?_
  refine G.sld E hX hi1 dL_law_644 ?_
  refine G.aload_n E dL_law_645 rfl 0 rfl ?_
  refine G.iload_n E dL_law_646 rfl 3 rfl ?_
  refine G.iconst (v := 2) E dL_law_647 (by decide) ?_
  refine G.iadd E dL_law_648 ?_
  refine G.sld E hX hi2 dL_law_649 ?_
  refine G.aload_n E dL_law_650 rfl 0 rfl ?_
  refine G.iload_n E dL_law_651 rfl 3 rfl ?_
  refine G.iconst (v := 3) E dL_law_652 (by decide) ?_
  refine G.iadd E dL_law_653 ?_
  refine G.sld E hX hi3 dL_law_654 ?_
  refine G.retI2 E (runV (st := [.int v]) (As := [.int (xs (i + 1).toNatClampNeg), .int (xs (i + 2).toNatClampNeg), .int (xs (i + 3).toNatClampNeg)]) E (C_X9_games hM) ck_X9_games (f1037 E.fx) (f1038 E.fx) (f1039 E.fx) 0 9 rfl rfl rfl (by decide) (by decide) rfl (Nat.le_of_ble_eq_true rfl) dL_law_655 hf) ?_
  refine G.icmp_eq (tgt := 726) E dL_law_658 (by decide) (fun _ => ?_) (fun q => absurd rfl q)
  exact KK σ' τ' hR

set_option maxHeartbeats 4000000 in
set_option maxRecDepth 100000 in
theorem L_image {x : CX} {cy : Nat → ClassId} {ad a2 : Nat → Nat} {cs sl b L n : Nat} {xs : Nat → Int32} {i : Int32} {Rel : Nat → ST → ST → Prop} {σ τ : ST} (E : Ev x cy cL_law RL 4 2000 80000) (hX : va_X b L xs (xS x) (xS x).heap ∧ b < (xS x).heap.size ∧ ¬ xA x b) (hf : cs ≤ (xR x).cells ∧ sl ≤ (xR x).slots) (hi1 : vp_in (i + 1) L) (hi2 : vp_in (i + 2) L) (hi3 : vp_in (i + 3) L) (hs : S_image Rel) (hR0 : Rel n σ τ) (hn : n < 512) (KK : ∀ σ' τ' : ST, Rel (n + 1) σ' τ' → G x cs sl 726 [(0, .ref b), (1, .ref (ad 0)), (2, .ref (a2 0)), (3, .int i)] [] (wT ad cy σ' ++ wM a2 cy τ')) : G x cs sl 663 [(0, .ref b), (1, .ref (ad 0)), (2, .ref (a2 0)), (3, .int i)] [] (wT ad cy σ ++ wM a2 cy τ) := by
  obtain ⟨v, σ', τ', hT, hM, hR⟩ := hs n σ τ hR0 hn
  refine G.aload_n E dL_law_663 rfl 1 rfl ?_
  refine G.retI1 E (runV (st := []) (As := []) E (C_X8_image hT) ck_X8_image (f655 E.fx) (f656 E.fx) (f657 E.fx) 0 8 rfl rfl rfl (by decide) (by decide) rfl (Nat.le_of_ble_eq_true rfl) dL_law_664 hf) ?_
  refine G.aload_n E dL_law_667 rfl 2 rfl ?_
  refine G.retI2 E (runV (st := [.int v]) (As := []) E (C_X9_image hM) ck_X9_image (f1057 E.fx) (f1058 E.fx) (f1059 E.fx) 0 9 rfl rfl rfl (by decide) (by decide) rfl (Nat.le_of_ble_eq_true rfl) dL_law_668 hf) ?_
  refine G.icmp_eq (tgt := 726) E dL_law_671 (by decide) (fun _ => ?_) (fun q => absurd rfl q)
  exact KK σ' τ' hR

set_option maxHeartbeats 4000000 in
set_option maxRecDepth 100000 in
theorem L_restore {x : CX} {cy : Nat → ClassId} {ad a2 : Nat → Nat} {cs sl b L n : Nat} {xs : Nat → Int32} {i : Int32} {Rel : Nat → ST → ST → Prop} {σ τ : ST} (E : Ev x cy cL_law RL 4 2000 80000) (hX : va_X b L xs (xS x) (xS x).heap ∧ b < (xS x).heap.size ∧ ¬ xA x b) (hf : cs ≤ (xR x).cells ∧ sl ≤ (xR x).slots) (hi1 : vp_in (i + 1) L) (hi2 : vp_in (i + 2) L) (hi3 : vp_in (i + 3) L) (hs : S_restore Rel) (hR0 : Rel n σ τ) (hn : n < 512) (KK : ∀ σ' τ' : ST, Rel (n + 1) σ' τ' → G x cs sl 726 [(0, .ref b), (1, .ref (ad 0)), (2, .ref (a2 0)), (3, .int i)] [] (wT ad cy σ' ++ wM a2 cy τ')) : G x cs sl 676 [(0, .ref b), (1, .ref (ad 0)), (2, .ref (a2 0)), (3, .int i)] [] (wT ad cy σ ++ wM a2 cy τ) := by
  obtain ⟨v, σ', τ', hT, hM, hR⟩ := hs n σ τ hR0 hn
  refine G.aload_n E dL_law_676 rfl 1 rfl ?_
  refine G.retI1 E (runV (st := []) (As := []) E (C_X8_restore hT) ck_X8_restore (f664 E.fx) (f665 E.fx) (f666 E.fx) 0 8 rfl rfl rfl (by decide) (by decide) rfl (Nat.le_of_ble_eq_true rfl) dL_law_677 hf) ?_
  refine G.aload_n E dL_law_680 rfl 2 rfl ?_
  refine G.retI2 E (runV (st := [.int v]) (As := []) E (C_X9_restore hM) ck_X9_restore (f1061 E.fx) (f1062 E.fx) (f1063 E.fx) 0 9 rfl rfl rfl (by decide) (by decide) rfl (Nat.le_of_ble_eq_true rfl) dL_law_681 hf) ?_
  refine G.icmp_eq (tgt := 726) E dL_law_684 (by decide) (fun _ => ?_) (fun q => absurd rfl q)
  exact KK σ' τ' hR

set_option maxHeartbeats 4000000 in
set_option maxRecDepth 100000 in
theorem L_count {x : CX} {cy : Nat → ClassId} {ad a2 : Nat → Nat} {cs sl b L n : Nat} {xs : Nat → Int32} {i : Int32} {Rel : Nat → ST → ST → Prop} {σ τ : ST} (E : Ev x cy cL_law RL 4 2000 80000) (hX : va_X b L xs (xS x) (xS x).heap ∧ b < (xS x).heap.size ∧ ¬ xA x b) (hf : cs ≤ (xR x).cells ∧ sl ≤ (xR x).slots) (hi1 : vp_in (i + 1) L) (hi2 : vp_in (i + 2) L) (hi3 : vp_in (i + 3) L) (hs : S_count Rel) (hR0 : Rel n σ τ) (hn : n < 512) (KK : ∀ σ' τ' : ST, Rel (n + 1) σ' τ' → G x cs sl 726 [(0, .ref b), (1, .ref (ad 0)), (2, .ref (a2 0)), (3, .int i)] [] (wT ad cy σ' ++ wM a2 cy τ')) : G x cs sl 689 [(0, .ref b), (1, .ref (ad 0)), (2, .ref (a2 0)), (3, .int i)] [] (wT ad cy σ ++ wM a2 cy τ) := by
  obtain ⟨v, hT, hM, hR⟩ := hs n σ τ (xs (i + 1).toNatClampNeg) hR0 hn
  refine G.aload_n E dL_law_689 rfl 1 rfl ?_
  refine G.aload_n E dL_law_690 rfl 0 rfl ?_
  refine G.iload_n E dL_law_691 rfl 3 rfl ?_
  refine G.iconst (v := 1) E dL_law_692 (by decide) ?_
  refine G.iadd E dL_law_693 ?_
  refine G.sld E hX hi1 dL_law_694 ?_
  refine G.retI1 E (runV (st := []) (As := [.int (xs (i + 1).toNatClampNeg)]) E (C_X8_count hT) ck_X8_count (f668 E.fx) (f669 E.fx) (f670 E.fx) 0 8 rfl rfl rfl (by decide) (by decide) rfl (Nat.le_of_ble_eq_true rfl) dL_law_695 hf) ?_
  refine G.aload_n E dL_law_698 rfl 2 rfl ?_
  refine G.aload_n E dL_law_699 rfl 0 rfl ?_
  refine G.iload_n E dL_law_700 rfl 3 rfl ?_
  refine G.iconst (v := 1) E dL_law_701 (by decide) ?_
  refine G.iadd E dL_law_702 ?_
  refine G.sld E hX hi1 dL_law_703 ?_
  refine G.retI2 E (runV (st := [.int v]) (As := [.int (xs (i + 1).toNatClampNeg)]) E (C_X9_count hM) ck_X9_count (f1065 E.fx) (f1066 E.fx) (f1067 E.fx) 0 9 rfl rfl rfl (by decide) (by decide) rfl (Nat.le_of_ble_eq_true rfl) dL_law_704 hf) ?_
  refine G.icmp_eq (tgt := 726) E dL_law_707 (by decide) (fun _ => ?_) (fun q => absurd rfl q)
  exact KK σ τ hR

set_option maxHeartbeats 4000000 in
set_option maxRecDepth 100000 in
theorem L_digest {x : CX} {cy : Nat → ClassId} {ad a2 : Nat → Nat} {cs sl b L n : Nat} {xs : Nat → Int32} {i : Int32} {Rel : Nat → ST → ST → Prop} {σ τ : ST} (E : Ev x cy cL_law RL 4 2000 80000) (hX : va_X b L xs (xS x) (xS x).heap ∧ b < (xS x).heap.size ∧ ¬ xA x b) (hf : cs ≤ (xR x).cells ∧ sl ≤ (xR x).slots) (hi1 : vp_in (i + 1) L) (hi2 : vp_in (i + 2) L) (hi3 : vp_in (i + 3) L) (hs : S_digest Rel) (hR0 : Rel n σ τ) (hn : n < 512) (KK : ∀ σ' τ' : ST, Rel (n + 1) σ' τ' → G x cs sl 726 [(0, .ref b), (1, .ref (ad 0)), (2, .ref (a2 0)), (3, .int i)] [] (wT ad cy σ' ++ wM a2 cy τ')) : G x cs sl 712 [(0, .ref b), (1, .ref (ad 0)), (2, .ref (a2 0)), (3, .int i)] [] (wT ad cy σ ++ wM a2 cy τ) := by
  obtain ⟨v, σ', τ', hT, hM, hR⟩ := hs n σ τ hR0 hn
  refine G.aload_n E dL_law_712 rfl 1 rfl ?_
  refine G.retL1 E (runV (st := []) (As := []) E (C_X8_digest hT) ck_X8_digest (f676 E.fx) (f677 E.fx) (f678 E.fx) 0 8 rfl rfl rfl (by decide) (by decide) rfl (Nat.le_of_ble_eq_true rfl) dL_law_713 hf) ?_
  refine G.aload_n E dL_law_716 rfl 2 rfl ?_
  refine G.retL2 E (runV (st := [.long v]) (As := []) E (C_X9_digest hM) ck_X9_digest (f1081 E.fx) (f1082 E.fx) (f1083 E.fx) 0 9 rfl rfl rfl (by decide) (by decide) rfl (Nat.le_of_ble_eq_true rfl) dL_law_717 hf) ?_
  refine G.lcmp E dL_law_720 ?_
  rw [lcmp_self]
  refine G.if_eq (tgt := 726) E dL_law_721 (by decide) (fun _ => ?_) (fun q => absurd rfl q)
  exact KK σ' τ' hR
