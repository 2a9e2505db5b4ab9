/-! Small facts, and the calls that need no more. -/
theorem i10 : ((1 : Int32) = 0) = False := by decide
theorem i00 : ((0 : Int32) = 0) = True := by decide
theorem i01 : ((0 : Int32) = 1) = False := by decide
theorem i11 : ((1 : Int32) = 1) = True := by decide
theorem gin {j N : Nat} (h : j < N) (hN : N < 2 ^ 31) : (nI j < 0 ∨ N ≤ j) = False := eq_false (fun q => q.elim (fun q => nI_pos (by omega) q) (fun q => absurd q (by omega)))
theorem cl {j : Nat} (h : j < 2 ^ 31) : (nI j).toNatClampNeg = j := nI_clamp h
theorem sh1 : ∀ s : Fin 31, (1 : Int32) <<< (nI s.val &&& 31) = nI (2 ^ s.val) := by decide +kernel
theorem sh1' {s : Nat} (h : s < 31) : (1 : Int32) <<< (nI s &&& 31) = nI (2 ^ s) := sh1 ⟨s, h⟩
theorem p2s {sz : Nat} (h : sz ≤ 4) : 2 ^ sz ≤ 16 := Nat.pow_le_pow_right (n := 2) (by omega) h
theorem NS.np {np sz : Nat} (h : NS np sz) : np ≤ 4 := by rcases h with ⟨h, _⟩ | ⟨_, h, _⟩ <;> omega
theorem NS.sz {np sz : Nat} (h : NS np sz) : sz ≤ 4 := by rcases h with ⟨_, h⟩ | ⟨_, _, _, h⟩ <;> omega
theorem NS.pos {np sz : Nat} (h : NS np sz) (hp : 0 < np) : 2 ≤ np ∧ 2 ≤ sz := by rcases h with ⟨h, _⟩ | ⟨h1, _, h2, _⟩ <;> omega
theorem win_in {j m : Nat} (h : j ≤ m) (hm : m < 2 ^ 31) : D_X9_within (nI j) 0 (nI m) = some 1 := by
  unfold D_X9_within
  rw [if_neg (nI_pos (by omega)), if_neg (nI_nlt (a := m) (b := j) h hm)]
theorem win_neg {p q : Int32} (h : p < 0) : D_X9_within p 0 q = some 0 := by
  unfold D_X9_within
  rw [if_pos h]
theorem win_big {p : Int32} {m : Nat} (h : nI (m + 1) ≤ p) (hm : m + 1 < 2 ^ 31) : D_X9_within p 0 (nI m) = some 0 := by
  unfold D_X9_within
  by_cases hp : p < 0
  · rw [if_pos hp]
  · rw [if_neg hp, if_pos ?_]
    rw [Int32.lt_iff_toInt_lt, nI_toInt (by omega)]
    rw [Int32.le_iff_toInt_le, nI_toInt hm] at h
    omega
theorem ge_of {p : Int32} {m : Nat} (h : nI m ≤ p) (hm : m < 2 ^ 31) : ¬ p < 0 := by
  rw [Int32.lt_iff_toInt_lt, Int32.toInt_zero]
  rw [Int32.le_iff_toInt_le, nI_toInt hm] at h
  omega
theorem le_of {p : Int32} {m k : Nat} (h : nI m ≤ p) (hk : k ≤ m) (hm : m < 2 ^ 31) : nI k ≤ p := by
  rw [Int32.le_iff_toInt_le, nI_toInt (by omega)]
  rw [Int32.le_iff_toInt_le, nI_toInt hm] at h
  omega
/-- a number names a player, or none, for both -/
theorem plr {n np sz rd : Nat} {σ τ : ST} (h : HD n np sz rd σ τ) (p : Int32) : (∃ j, j < np ∧ p = nI j ∧ D_X8_isPlayer σ p = some 1 ∧ D_X9_isPlayer τ p = some 1) ∨ (D_X8_isPlayer σ p = some 0 ∧ D_X9_isPlayer τ p = some 0) := by
  obtain ⟨hN, h1, h2, -⟩ := h
  have h4 := hN.np
  have nz : vp_nar .boolean 0 = 0 := by decide
  have no : vp_nar .boolean 1 = 1 := by decide
  rcases pk_ix p (n := np) (by omega) with hp | hp | ⟨j, hj, rfl⟩
  · refine Or.inr ⟨?_, ?_⟩
    · unfold D_X8_isPlayer; rw [if_pos hp]
    · unfold D_X9_isPlayer
      rw [win_neg hp, Option.bind_some, nz, if_neg (fun q => q rfl)]
  · refine Or.inr ⟨?_, ?_⟩
    · unfold D_X8_isPlayer; rw [if_neg (ge_of hp (by omega)), h1, if_pos hp]
    · unfold D_X9_isPlayer
      rw [h2]
      have e : D_X9_within p 0 (nI np - 1) = some 0 := by
        rcases Nat.eq_zero_or_pos np with h0 | h0
        · subst h0
          unfold D_X9_within
          rw [if_neg (ge_of hp (by omega)), if_pos]
          rw [Int32.lt_iff_toInt_lt]
          rw [Int32.le_iff_toInt_le] at hp
          have e1 : (nI 0 - 1).toInt = -1 := by decide
          have e2 : (nI 0).toInt = 0 := by decide
          omega
        · obtain ⟨m, rfl⟩ : ∃ m, np = m + 1 := ⟨np - 1, by omega⟩
          rw [nI_pred]
          exact win_big hp (by omega)
      rw [e, Option.bind_some, nz, if_neg (fun q => q rfl)]
  · refine Or.inl ⟨j, hj, rfl, ?_, ?_⟩
    · unfold D_X8_isPlayer
      rw [if_neg (nI_pos (by omega)), h1, if_neg (nI_ge hj (by omega)), if_neg (show ¬ (4 : Int32) ≤ nI j from nI_ge (b := 4) (by omega) (by omega))]
    · unfold D_X9_isPlayer
      obtain ⟨m, rfl⟩ : ∃ m, np = m + 1 := ⟨np - 1, by omega⟩
      rw [h2, nI_pred, win_in (by omega) (by omega), Option.bind_some, no, if_neg (fun q => q rfl)]
theorem rowc {n np sz rd : Nat} {σ τ : ST} (h : HD n np sz rd σ τ) (h0 : 0 < np) (p : Int32) : (∃ r, r < 2 ^ sz ∧ p = nI r ∧ D_X8_isRow σ p = some 1 ∧ D_X9_isRow τ p = some 1) ∨ (D_X8_isRow σ p = some 0 ∧ D_X9_isRow τ p = some 0) := by
  obtain ⟨hN, h1, h2, h3, h4, -⟩ := h
  have hz := hN.sz
  have h16 := p2s hz
  have hpos : 0 < 2 ^ sz := Nat.pos_of_ne_zero (by simp)
  have hnp : ¬ gI τ 1 ≤ 0 := by rw [h2]; exact nI_nle h0 (by have := hN.np; omega)
  obtain ⟨m, hm⟩ : ∃ m, 2 ^ sz = m + 1 := ⟨2 ^ sz - 1, by omega⟩
  have hr : D_X9_rows τ = some (nI (m + 1)) := by unfold D_X9_rows; rw [h4, sh1' (by omega), hm]
  rcases pk_ix p (n := 2 ^ sz) (by omega) with hp | hp | ⟨j, hj, rfl⟩
  · refine Or.inr ⟨?_, ?_⟩
    · unfold D_X8_isRow; rw [if_pos hp]
    · unfold D_X9_isRow
      rw [if_neg hnp, hr, Option.bind_some, win_neg hp, Option.bind_some, if_pos rfl]
  · refine Or.inr ⟨?_, ?_⟩
    · unfold D_X8_isRow; rw [if_neg (ge_of hp (by omega)), h3, sh1' (by omega), if_pos hp]
    · unfold D_X9_isRow
      rw [if_neg hnp, hr, Option.bind_some, nI_pred, win_big (by rw [← hm]; exact hp) (by omega), Option.bind_some, if_pos rfl]
  · refine Or.inl ⟨j, hj, rfl, ?_, ?_⟩
    · unfold D_X8_isRow
      rw [if_neg (nI_pos (by omega)), h3, sh1' (by omega), if_neg (nI_ge hj (by omega))]
    · unfold D_X9_isRow
      rw [if_neg hnp, hr, Option.bind_some, nI_pred, win_in (by omega) (by omega), Option.bind_some, if_neg (by decide)]
theorem kindc (σ : ST) (p : Int32) : (∃ r, r < 5 ∧ p = nI r ∧ D_X8_isKind σ p = some 1 ∧ D_X9_within p 0 4 = some 1) ∨ (D_X8_isKind σ p = some 0 ∧ D_X9_within p 0 4 = some 0) := by
  rcases pk_ix p (n := 5) (by omega) with hp | hp | ⟨j, hj, rfl⟩
  · exact Or.inr ⟨by unfold D_X8_isKind; rw [if_pos hp], win_neg hp⟩
  · exact Or.inr ⟨by unfold D_X8_isKind; rw [if_neg (ge_of hp (by omega)), if_pos (show (5 : Int32) ≤ p from hp)], win_big (m := 4) hp (by omega)⟩
  · exact Or.inl ⟨j, hj, rfl, by unfold D_X8_isKind; rw [if_neg (nI_pos (by omega)), if_neg (show ¬ (5 : Int32) ≤ nI j from nI_ge (b := 5) (by omega) (by omega))], win_in (m := 4) (by omega) (by omega)⟩
theorem upN (f : Nat → Int32) (g : Nat → Nat) (j v : Nat) {N : Nat} (h : ∀ p, p < N → f p = nI (g p)) : ∀ p, p < N → upd f j (nI v) p = nI (if p = j then v else g p) := fun p hp => by
  unfold upd
  by_cases e : p = j
  · rw [if_pos e, if_pos e]
  · rw [if_neg e, if_neg e, h p hp]
theorem S_blank_ok : S_blank Rel := by
  intro n σ τ hR hn
  obtain ⟨np, sz, pl, rd, pg, c, k, hH, hP, hC⟩ := hR (by omega)
  refine ⟨nI pl, pI σ 4 0, pI τ 7 0, ?_, ?_, fun _ => ⟨np, sz, 0, rd, pg, c, k, hH.up hn, ⟨fun j hj => absurd hj (Nat.not_lt_zero j), rfl, rfl, by omega⟩, hC⟩⟩
  · unfold D_X8_blank D_X5_length D_X5_clear
    rw [hP.2.1]; rfl
  · unfold D_X9_blank
    rw [hP.2.2.1]
theorem S_forget_ok : S_forget Rel := by
  intro n σ τ hR hn
  obtain ⟨np, sz, pl, rd, pg, c, k, hH, hP, hT, hM, hV, hK⟩ := hR (by omega)
  refine ⟨nI (sn c), pI σ 5 0, pI τ 6 0, ?_, ?_, fun _ => ⟨np, sz, pl, rd, pg, (kd c, ro c, wo c, sp c, stl c, sh c, 0, ts c, tg c, la c), k, hH.up hn, hP, ?_, ?_, ?_, hK⟩⟩
  · unfold D_X8_forget; rw [hT.2.2.2.2.2.2.1]
  · unfold D_X9_forget; rw [hM.2.2.2.2.2.2.1]
  · exact ⟨hT.1, hT.2.1, hT.2.2.1, fun j hj => absurd hj (Nat.not_lt_zero j), fun j hj => absurd hj (Nat.not_lt_zero j), fun j hj => absurd hj (Nat.not_lt_zero j), rfl, hT.2.2.2.2.2.2.2.1, hT.2.2.2.2.2.2.2.2.1, hT.2.2.2.2.2.2.2.2.2⟩
  · exact ⟨hM.1, hM.2.1, hM.2.2.1, fun j hj => absurd hj (Nat.not_lt_zero j), fun j hj => absurd hj (Nat.not_lt_zero j), fun j hj => absurd hj (Nat.not_lt_zero j), rfl, hM.2.2.2.2.2.2.2.1, hM.2.2.2.2.2.2.2.2.1, hM.2.2.2.2.2.2.2.2.2⟩
  · exact ⟨hV.1, Nat.zero_le _, fun j hj => absurd hj (Nat.not_lt_zero j), hV.2.2.2.1, hV.2.2.2.2.1, hV.2.2.2.2.2⟩
theorem trk0 (sz : Nat) : trk sz 0 0 = 1 := by unfold trk; simp
theorem S_anew_ok : S_anew Rel := by
  intro n σ τ hR hn
  have hR' := hR
  obtain ⟨np, sz, pl, rd, pg, c, k, hH, hP, hT, hM, hV, hK⟩ := hR (by omega)
  by_cases h0 : np = 0
  · refine ⟨-103, σ, τ, ?_, ?_, Rel.query hR' hn EqT.rfl' EqM.rfl'⟩
    · unfold D_X8_anew; rw [hH.2.1, h0, if_pos (show nI 0 = 0 from rfl)]
    · unfold D_X9_anew; rw [hH.2.2.1, h0, if_pos (show nI 0 = 0 from rfl)]
  · have hnp := hH.1.np
    have n0 : ¬ nI np = 0 := nI_ne0 (by omega) (by omega)
    refine ⟨nI (tg c), pI (pI σ 7 0) 8 1, pI (pI τ 3 0) 4 0, ?_, ?_, fun _ => ⟨np, sz, pl, rd, pg, (kd c, ro c, wo c, sp c, stl c, sh c, sn c, ts c, 0, 0), k, hH.up hn, hP, ?_, ?_, ?_, hK⟩⟩
    · unfold D_X8_anew D_X1_beginGame; rw [hH.2.1, if_neg n0, hT.2.2.2.2.2.2.2.2.1]; rfl
    · unfold D_X9_anew; rw [hH.2.2.1, if_neg n0, hM.2.2.2.2.2.2.2.2.1]
    · exact ⟨hT.1, hT.2.1, hT.2.2.1, hT.2.2.2.1, hT.2.2.2.2.1, hT.2.2.2.2.2.1, hT.2.2.2.2.2.2.1, hT.2.2.2.2.2.2.2.1, rfl, by show (1 : Int32) = nI (trk sz 0 0); rw [trk0]; rfl⟩
    · exact ⟨hM.1, hM.2.1, hM.2.2.1, hM.2.2.2.1, hM.2.2.2.2.1, hM.2.2.2.2.2.1, hM.2.2.2.2.2.2.1, hM.2.2.2.2.2.2.2.1, rfl, rfl⟩
    · exact ⟨hV.1, hV.2.1, hV.2.2.1, hV.2.2.2.1, Nat.zero_le _, by show 0 < 16; omega⟩
theorem S_bet_ok : S_bet Rel := by
  intro n σ τ a b hR hn
  have hR' := hR
  obtain ⟨np, sz, pl, rd, pg, c, k, hH, hP, hT, hM, hV, hK⟩ := hR (by omega)
  rcases plr hH a with ⟨j, hj, rfl, e1, e2⟩ | ⟨e1, e2⟩
  · have hnp := hH.1.np
    rcases rowc hH (by omega) b with ⟨r, hr, rfl, f1, f2⟩ | ⟨f1, f2⟩
    · refine ⟨nI (ro c j), pA σ 2 j (nI r), pA τ 1 j (nI r), ?_, ?_, fun _ => ⟨np, sz, pl, rd, pg, (kd c, (fun p => if p = j then r else ro c p), wo c, sp c, stl c, sh c, sn c, ts c, tg c, la c), k, hH.up hn, hP, ?_, ?_, ?_, hK⟩⟩
      · simp only [D_X8_bet, e1, f1, Option.bind_some, i10, if_false, gin (show j < 4 by omega) (by omega), cl (show j < 2 ^ 31 by omega), hT.2.1 j hj]
      · simp only [D_X9_bet, e2, f2, Option.bind_some, i10, if_false, gin (show j < 4 by omega) (by omega), cl (show j < 2 ^ 31 by omega), hM.2.1 j hj]
      · exact ⟨hT.1, upN _ _ j r hT.2.1, hT.2.2⟩
      · exact ⟨hM.1, upN _ _ j r hM.2.1, hM.2.2⟩
      · refine ⟨fun p hp => ⟨(hV.1 p hp).1, ?_⟩, hV.2⟩
        show (if p = j then r else ro c p) < 2 ^ sz
        by_cases e : p = j
        · rw [if_pos e]; exact hr
        · rw [if_neg e]; exact (hV.1 p hp).2
    · refine ⟨-102, σ, τ, ?_, ?_, Rel.query hR' hn EqT.rfl' EqM.rfl'⟩
      · simp only [D_X8_bet, e1, f1, Option.bind_some, i10, i00, if_false, if_true]
      · simp only [D_X9_bet, e2, f2, Option.bind_some, i10, i00, if_false, if_true]
  · refine ⟨-101, σ, τ, ?_, ?_, Rel.query hR' hn EqT.rfl' EqM.rfl'⟩
    · simp only [D_X8_bet, e1, Option.bind_some, i00, if_true]
    · simp only [D_X9_bet, e2, Option.bind_some, i00, if_true]
theorem S_be_ok : S_be Rel := by
  intro n σ τ a b hR hn
  have hR' := hR
  obtain ⟨np, sz, pl, rd, pg, c, k, hH, hP, hT, hM, hV, hK⟩ := hR (by omega)
  rcases plr hH a with ⟨j, hj, rfl, e1, e2⟩ | ⟨e1, e2⟩
  · have hnp := hH.1.np
    rcases kindc σ b with ⟨r, hr, rfl, f1, f2⟩ | ⟨f1, f2⟩
    · refine ⟨nI (kd c j), pA σ 1 j (nI r), pA τ 0 j (nI r), ?_, ?_, fun _ => ⟨np, sz, pl, rd, pg, ((fun p => if p = j then r else kd c p), ro c, wo c, sp c, stl c, sh c, sn c, ts c, tg c, la c), k, hH.up hn, hP, ?_, ?_, ?_, hK⟩⟩
      · simp only [D_X8_be, e1, f1, Option.bind_some, i10, if_false, gin (show j < 4 by omega) (by omega), cl (show j < 2 ^ 31 by omega), hT.1 j hj]
      · simp only [D_X9_be, e2, f2, Option.bind_some, i10, if_false, gin (show j < 4 by omega) (by omega), cl (show j < 2 ^ 31 by omega), hM.1 j hj]
      · exact ⟨upN _ _ j r hT.1, hT.2⟩
      · exact ⟨upN _ _ j r hM.1, hM.2⟩
      · refine ⟨fun p hp => ⟨?_, (hV.1 p hp).2⟩, hV.2⟩
        show (if p = j then r else kd c p) < 5
        by_cases e : p = j
        · rw [if_pos e]; exact hr
        · rw [if_neg e]; exact (hV.1 p hp).1
    · refine ⟨-102, σ, τ, ?_, ?_, Rel.query hR' hn EqT.rfl' EqM.rfl'⟩
      · simp only [D_X8_be, e1, f1, Option.bind_some, i10, i00, if_false, if_true]
      · simp only [D_X9_be, e2, f2, Option.bind_some, i10, i00, if_false, if_true]
  · refine ⟨-101, σ, τ, ?_, ?_, Rel.query hR' hn EqT.rfl' EqM.rfl'⟩
    · simp only [D_X8_be, e1, Option.bind_some, i00, if_true]
    · simp only [D_X9_be, e2, Option.bind_some, i00, if_true]
