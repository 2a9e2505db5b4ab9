/-! duel, answer, open. -/
theorem itr_i {α ρ : Type} {F : (α → Option ρ) → α → Option ρ} (P : Nat → α → Prop) (Q : Option ρ → Prop) {N fuel : Nat} {a0 : α} (hN : N < fuel) (h0 : P 0 a0) (hs : ∀ i, i < N → ∀ a, P i a → ∃ a', P (i + 1) a' ∧ ∀ rec, F rec a = rec a') (he : ∀ a, P N a → ∃ r, Q r ∧ ∀ rec, F rec a = r) : Q (itr F fuel a0) := by
  have : ∀ k i, i + k = N → ∀ m, k < m → ∀ a, P i a → Q (itr F m a) := by
    intro k
    induction k with
    | zero =>
      intro i hi m hm a ha
      obtain ⟨m, rfl⟩ : ∃ q, m = q + 1 := ⟨m - 1, by omega⟩
      obtain ⟨r, hr, hf⟩ := he a (by rw [show N = i by omega]; exact ha)
      rw [itr_s, hf]
      exact hr
    | succ k ih =>
      intro i hi m hm a ha
      obtain ⟨m, rfl⟩ : ∃ q, m = q + 1 := ⟨m - 1, by omega⟩
      obtain ⟨a', ha', hf⟩ := hs i (by omega) a ha
      rw [itr_s, hf]
      exact ih (i + 1) (by omega) m (by omega) a' ha'
  exact this N 0 (by omega) fuel hN a0 h0
theorem PT.eq {np sz : Nat} {c : CO} {σ σ' : ST} (h : PT np sz c σ) (hE : EqT σ σ') : PT np sz c σ' := by
  refine ⟨(hE.1 1 (by decide)).trans h.1, (hE.1 2 (by decide)).trans h.2.1, fun p hp => ?_, fun p hp => ?_⟩
  · rw [hE.2 1 (by decide)]; exact h.2.2.1 p hp
  · rw [hE.2 2 (by decide)]; exact h.2.2.2 p hp
theorem PM.eq {np sz : Nat} {c : CO} {σ σ' : ST} (h : PM np sz c σ) (hE : EqM σ σ') : PM np sz c σ' := by
  refine ⟨(hE.1 1 (by decide) (by decide) (by decide)).trans h.1, (hE.1 2 (by decide) (by decide) (by decide)).trans h.2.1, fun p hp => ?_, fun p hp => ?_⟩
  · rw [hE.2.1 0 (by decide)]; exact h.2.2.1 p hp
  · rw [hE.2.1 1 (by decide)]; exact h.2.2.2 p hp
theorem EqM.pG (τ : ST) (k : Nat) (f : Nat → Int64) : EqM τ (pG τ k f) := ⟨fun _ _ _ _ => rfl, fun _ _ => rfl, rfl⟩
theorem hp_in {np sz : Nat} {c : CO} (hN : NS np sz) (hV : VC np sz c) {p : Nat} (hp0 : p < np) : hp sz c p ∈ HS sz := HS_in (hN.pos (by omega)).2 hN.sz (hV.1 p hp0).1 (hV.1 p hp0).2
theorem pw_in {sz r : Nat} (h2 : 2 ≤ sz) (h4 : sz ≤ 4) (hr : r < 2 ^ sz) : 2 ^ r ∈ HS sz := HS_in (k := 0) h2 h4 (by omega) hr
theorem rHT {np sz : Nat} {c : CO} {σ : ST} (hN : NS np sz) (hP : PT np sz c σ) (hV : VC np sz c) {p : Nat} (hp0 : p < np) : D_X8_rowsHitBy σ (nI p) = some (nI (hp sz c p)) := rowsHitByT hN hP.1 hP.2.1 hP.2.2.1 hP.2.2.2 hV hp0
theorem hOM {np sz : Nat} {c : CO} {τ : ST} (hN : NS np sz) (hP : PM np sz c τ) (hV : VC np sz c) {p : Nat} (hp0 : p < np) : D_X9_hitsOf τ (nI p) = some (nI (hp sz c p)) := hitsOfM hN hP.2.1 hP.2.2.1 hP.2.2.2 hV hp0
theorem S_duel_ok : S_duel Rel := by
  intro n σ τ a b hR hn
  have hR' := hR
  obtain ⟨np, sz, pl, rd, pg, c, k, hH, hP, hT, hM, hV, hK⟩ := hR (by omega)
  have hPT : PT np sz c σ := ⟨hH.2.1, hH.2.2.2.1, hT.1, hT.2.1⟩
  have hPM : PM np sz c τ := ⟨hH.2.2.1, hH.2.2.2.2.1, hM.1, hM.2.1⟩
  rcases plr hH a with ⟨j, hj, rfl, e1, e2⟩ | ⟨e1, e2⟩
  · have hnp := hH.1.np
    rcases plr hH b with ⟨i, hi, rfl, f1, f2⟩ | ⟨f1, f2⟩
    · by_cases e : j = i
      · subst e
        refine ⟨-101, σ, τ, ?_, ?_, Rel.query hR' hn EqT.rfl' EqM.rfl'⟩
        · simp only [D_X8_duel, e1, Option.bind_some, i10, if_false, if_true]
        · simp only [D_X9_duel, e2, Option.bind_some, i10, if_false, if_true]
      · obtain ⟨n2, n3⟩ := hH.1.pos (show 0 < np by omega)
        obtain ⟨σ', g1, gE⟩ := dlT σ n3 hH.1.sz (hp_in hH.1 hV hj) (hp_in hH.1 hV hi)
        obtain ⟨f, g2⟩ := dlM hPM.2.1 n3 hH.1.sz (hp_in hH.1 hV hj) (hp_in hH.1 hV hi)
        refine ⟨nI (dl sz (hp sz c j) (hp sz c i)), σ', pG τ 0 f, ?_, ?_, Rel.query hR' hn gE (EqM.pG τ 0 f)⟩
        · simp only [D_X8_duel, e1, f1, Option.bind_some, i10, if_false, ieq e (show j < 2 ^ 31 by omega) (by omega), rHT hH.1 hPT hV hj, rHT hH.1 hPT hV hi, hPT.2.1, g1]
        · simp only [D_X9_duel, e2, f2, Option.bind_some, i10, if_false, ieq e (show j < 2 ^ 31 by omega) (by omega), D_X9_duelNow, hOM hH.1 hPM hV hj, hOM hH.1 hPM hV hi, g2]
    · refine ⟨-101, σ, τ, ?_, ?_, Rel.query hR' hn EqT.rfl' EqM.rfl'⟩
      · simp only [D_X8_duel, e1, f1, Option.bind_some, i10, i00, if_false, if_true]
      · simp only [D_X9_duel, e2, f2, Option.bind_some, i10, i00, if_false, if_true]
  · refine ⟨-101, σ, τ, ?_, ?_, Rel.query hR' hn EqT.rfl' EqM.rfl'⟩
    · simp only [D_X8_duel, e1, Option.bind_some, i00, if_true]
    · simp only [D_X9_duel, e2, Option.bind_some, i00, if_true]
/-- the best answer among the first rows: which, and one more than how good; 0 for none -/
noncomputable def bs (sz his : Nat) : Nat → Nat × Nat
  | 0 => (0, 0)
  | i + 1 => if his / 2 ^ i % 2 = 0 ∧ (bs sz his i).2 < dl sz (2 ^ i) his + 1 then (i, dl sz (2 ^ i) his + 1) else bs sz his i
theorem bs_s (sz his i : Nat) : bs sz his (i + 1) = if his / 2 ^ i % 2 = 0 ∧ (bs sz his i).2 < dl sz (2 ^ i) his + 1 then (i, dl sz (2 ^ i) his + 1) else bs sz his i := rfl
theorem bs_ok (sz his : Nat) : ∀ i, ((bs sz his i).2 = 0 ∧ (bs sz his i).1 = 0) ∨ ((bs sz his i).2 = dl sz (2 ^ (bs sz his i).1) his + 1 ∧ (bs sz his i).1 < i)
  | 0 => Or.inl ⟨rfl, rfl⟩
  | i + 1 => by
    rw [bs_s]
    by_cases e : his / 2 ^ i % 2 = 0 ∧ (bs sz his i).2 < dl sz (2 ^ i) his + 1
    · rw [if_pos e]; exact Or.inr ⟨rfl, Nat.lt_succ_self i⟩
    · rw [if_neg e]
      rcases bs_ok sz his i with h | h
      · exact Or.inl h
      · exact Or.inr ⟨h.1, by omega⟩
theorem bs_pos (sz his : Nat) {j : Nat} (hj : his / 2 ^ j % 2 = 0) : ∀ i, j < i → 0 < (bs sz his i).2
  | 0, h => absurd h (Nat.not_lt_zero j)
  | i + 1, h => by
    rw [bs_s]
    by_cases e : his / 2 ^ i % 2 = 0 ∧ (bs sz his i).2 < dl sz (2 ^ i) his + 1
    · rw [if_pos e]; exact Nat.succ_pos _
    · rw [if_neg e]
      by_cases q : j = i
      · subst q
        rcases Nat.eq_zero_or_pos (bs sz his j).2 with z | z
        · exact absurd ⟨hj, by omega⟩ e
        · exact z
      · exact bs_pos sz his hj i (by omega)
theorem free_all : ∀ s : Fin 3, (HS (s.val + 2)).all (fun a => (List.range (2 ^ (s.val + 2))).any fun j => Nat.beq (a / 2 ^ j % 2) 0) = true := by decide +kernel
theorem free {sz a : Nat} (h2 : 2 ≤ sz) (h4 : sz ≤ 4) (ha : a ∈ HS sz) : ∃ j, j < 2 ^ sz ∧ a / 2 ^ j % 2 = 0 := by
  obtain ⟨s, rfl⟩ : ∃ s, sz = s + 2 := ⟨sz - 2, by omega⟩
  have := List.all_eq_true.mp (free_all ⟨s, by omega⟩) a ha
  obtain ⟨j, hj, hb⟩ := List.any_eq_true.mp this
  exact ⟨j, List.mem_range.mp hj, Nat.eq_of_beq_eq_true hb⟩
def eN (w : Nat) : Int32 := if w = 0 then -1 else nI (w - 1)
theorem eN_le {v w : Nat} (hv : v < 2 ^ 30) (hw : w < 2 ^ 30) : (nI v ≤ eN w) = (v + 1 ≤ w) := by
  unfold eN
  by_cases e : w = 0
  · subst e
    rw [if_pos rfl]
    refine propext ⟨fun q => ?_, fun q => absurd q (by omega)⟩
    rw [Int32.le_iff_toInt_le, nI_toInt (by omega), show (-1 : Int32).toInt = -1 by decide] at q
    omega
  · rw [if_neg e]
    refine propext ⟨fun q => ?_, fun q => nI_le (by omega) (by omega)⟩
    have := (nI_leI (by omega) (by omega)).mp q
    omega
theorem bs_lt {sz his : Nat} (h2 : 2 ≤ sz) (h4 : sz ≤ 4) (hh : his ∈ HS sz) : ∀ i, i ≤ 2 ^ sz → (bs sz his i).2 ≤ 1000001
  | 0, _ => Nat.zero_le _
  | i + 1, hi => by
    rw [bs_s]
    by_cases e : his / 2 ^ i % 2 = 0 ∧ (bs sz his i).2 < dl sz (2 ^ i) his + 1
    · rw [if_pos e]
      have := dl_le h2 h4 (pw_in h2 h4 (show i < 2 ^ sz by omega)) hh
      show dl sz (2 ^ i) his + 1 ≤ _
      omega
    · rw [if_neg e]; exact bs_lt h2 h4 hh i (by omega)
theorem bestT {σ : ST} {sz his : Nat} (hz : gI σ 2 = nI sz) (h2 : 2 ≤ sz) (h4 : sz ≤ 4) (hh : his ∈ HS sz) : ∃ σ', D_X8_bestAgainst σ (nI his) = some (nI (bs sz his (2 ^ sz)).1, σ') ∧ EqT σ σ' := by
  have h16 := p2s h4
  have h65 := HS_16 h2 h4 hh
  unfold D_X8_bestAgainst D_X8_bestAgainst_L7
  refine itr_i (P := fun i a => ∃ σ', a = (σ', nI his, nI (bs sz his i).1, eN (bs sz his i).2, nI i) ∧ EqT σ σ') (Q := fun r => ∃ σ', r = some (nI (bs sz his (2 ^ sz)).1, σ') ∧ EqT σ σ') (N := 2 ^ sz) (by omega) ⟨σ, rfl, EqT.rfl'⟩ ?_ ?_
  · rintro i hi a ⟨σ1, rfl, hE⟩
    have hz1 : gI σ1 2 = nI sz := (hE.1 2 (by decide)).trans hz
    have hl := bs_lt h2 h4 hh i (by omega)
    by_cases hb : his / 2 ^ i % 2 = 0
    · obtain ⟨σ2, g1, gE⟩ := dlT σ1 h2 h4 (pw_in h2 h4 hi) hh
      have hd := dl_le h2 h4 (pw_in h2 h4 hi) hh
      refine ⟨(σ2, nI his, nI (bs sz his (i + 1)).1, eN (bs sz his (i + 1)).2, nI (i + 1)), ⟨σ2, rfl, hE.trans gE⟩, fun rec => ?_⟩
      show D_X8_bestAgainst_L7_body rec σ1 (nI his) (nI (bs sz his i).1) (eN (bs sz his i).2) (nI i) = _
      simp only [D_X8_bestAgainst_L7_body, hz1, sh1' (show sz < 31 by omega), inle hi (by omega), if_false, hasT (show his < 2 ^ 31 by omega) (show i < 32 by omega), Option.bind_some, hb, show (nI 0 = 0) = True from eq_true rfl, if_true, sh1' (show i < 31 by omega), g1, D_X8_bestAgainst_b57, nI_1, eN_le (show dl sz (2 ^ i) his < 2 ^ 30 by omega) (show (bs sz his i).2 < 2 ^ 30 by omega)]
      rw [bs_s]
      by_cases e : dl sz (2 ^ i) his + 1 ≤ (bs sz his i).2
      · rw [if_pos e, if_neg (fun q => by omega)]
      · rw [if_neg e, if_pos ⟨hb, by omega⟩]; rfl
    · have hb1 : his / 2 ^ i % 2 = 1 := by omega
      refine ⟨(σ1, nI his, nI (bs sz his (i + 1)).1, eN (bs sz his (i + 1)).2, nI (i + 1)), ⟨σ1, rfl, hE⟩, fun rec => ?_⟩
      show D_X8_bestAgainst_L7_body rec σ1 (nI his) (nI (bs sz his i).1) (eN (bs sz his i).2) (nI i) = _
      simp only [D_X8_bestAgainst_L7_body, hz1, sh1' (show sz < 31 by omega), inle hi (by omega), if_false, hasT (show his < 2 ^ 31 by omega) (show i < 32 by omega), Option.bind_some, hb1, in0 (show 0 < 1 by omega) (by omega), D_X8_bestAgainst_b57, nI_1]
      rw [bs_s, if_neg (fun q => hb q.1)]
  · rintro a ⟨σ1, rfl, hE⟩
    have hz1 : gI σ1 2 = nI sz := (hE.1 2 (by decide)).trans hz
    refine ⟨_, ⟨σ1, rfl, hE⟩, fun rec => ?_⟩
    show D_X8_bestAgainst_L7_body rec σ1 (nI his) (nI (bs sz his (2 ^ sz)).1) (eN (bs sz his (2 ^ sz)).2) (nI (2 ^ sz)) = _
    simp only [D_X8_bestAgainst_L7_body, hz1, sh1' (show sz < 31 by omega), ile (Nat.le_refl (2 ^ sz)) (by omega), if_true]
theorem rowsM {τ : ST} {sz : Nat} (h : gI τ 2 = nI sz) (h4 : sz ≤ 4) : D_X9_rows τ = some (nI (2 ^ sz)) := by unfold D_X9_rows; rw [h, sh1' (by omega)]
noncomputable def bM (sz his i : Nat) : Int32 := if (bs sz his i).2 = 0 then -1 else nI (bs sz his i).1
theorem ansM {τ : ST} {sz his : Nat} {w : Int32} (hz : gI τ 2 = nI sz) (h2 : 2 ≤ sz) (h4 : sz ≤ 4) (hh : his ∈ HS sz) : ∃ τ', D_X9_answerNow_L15 τ w (nI his) (-1) (-1) 0 = some (if w = 0 then nI (bs sz his (2 ^ sz)).1 else nI (dl sz (2 ^ (bs sz his (2 ^ sz)).1) his), τ') ∧ EqM τ τ' := by
  have h16 := p2s h4
  have h65 := HS_16 h2 h4 hh
  obtain ⟨j0, hj0, hb0⟩ := free h2 h4 hh
  have hpos := bs_pos sz his hb0 (2 ^ sz) hj0
  have hok := bs_ok sz his (2 ^ sz)
  unfold D_X9_answerNow_L15
  refine itr_i (P := fun i a => ∃ τ', a = (τ', w, nI his, bM sz his i, eN (bs sz his i).2, nI i) ∧ EqM τ τ') (Q := fun r => ∃ τ', r = some (if w = 0 then nI (bs sz his (2 ^ sz)).1 else nI (dl sz (2 ^ (bs sz his (2 ^ sz)).1) his), τ') ∧ EqM τ τ') (N := 2 ^ sz) (by omega) ⟨τ, rfl, EqM.rfl'⟩ ?_ ?_
  · rintro i hi a ⟨τ1, rfl, hE⟩
    have hz1 : gI τ1 2 = nI sz := (hE.1 2 (by decide) (by decide) (by decide)).trans hz
    have hl := bs_lt h2 h4 hh i (by omega)
    by_cases hb : his / 2 ^ i % 2 = 0
    · obtain ⟨f, g1⟩ := dlM hz1 h2 h4 (pw_in h2 h4 hi) hh
      have hd := dl_le h2 h4 (pw_in h2 h4 hi) hh
      refine ⟨(pG τ1 0 f, w, nI his, bM sz his (i + 1), eN (bs sz his (i + 1)).2, nI (i + 1)), ⟨pG τ1 0 f, rfl, hE.trans (EqM.pG _ _ _)⟩, fun rec => ?_⟩
      show D_X9_answerNow_L15_body rec τ1 w (nI his) _ (eN (bs sz his i).2) (nI i) = _
      simp only [D_X9_answerNow_L15_body, rowsM hz1 h4, inle hi (by omega), if_false, isInM (show his < 2 ^ 31 by omega) (show i < 32 by omega), Option.bind_some, hb, show (nI 0 = 0) = True from eq_true rfl, if_true, sh1' (show i < 31 by omega), g1, D_X9_answerNow_b46, D_X9_answerNow_b62, D_X9_answerNow_b78, nI_1, eN_le (show dl sz (2 ^ i) his < 2 ^ 30 by omega) (show (bs sz his i).2 < 2 ^ 30 by omega)]
      by_cases e : dl sz (2 ^ i) his + 1 ≤ (bs sz his i).2
      · have eq : bs sz his (i + 1) = bs sz his i := by rw [bs_s, if_neg (fun q => by omega)]
        unfold bM
        rw [if_pos e, if_pos e, eq]
      · have eq : bs sz his (i + 1) = (i, dl sz (2 ^ i) his + 1) := by rw [bs_s, if_pos ⟨hb, by omega⟩]
        unfold bM
        rw [if_neg e, if_neg e, eq]; rfl
    · have hb1 : his / 2 ^ i % 2 = 1 := by omega
      have m1 : ∀ w : Nat, w < 2 ^ 30 → ((-1 : Int32) ≤ eN w) = True := fun w hw => eq_true (by
        unfold eN
        by_cases e : w = 0
        · rw [if_pos e]; decide
        · rw [if_neg e, Int32.le_iff_toInt_le, nI_toInt (by omega), show (-1 : Int32).toInt = -1 by decide]; omega)
      refine ⟨(τ1, w, nI his, bM sz his (i + 1), eN (bs sz his (i + 1)).2, nI (i + 1)), ⟨τ1, rfl, hE⟩, fun rec => ?_⟩
      show D_X9_answerNow_L15_body rec τ1 w (nI his) _ (eN (bs sz his i).2) (nI i) = _
      simp only [D_X9_answerNow_L15_body, rowsM hz1 h4, inle hi (by omega), if_false, isInM (show his < 2 ^ 31 by omega) (show i < 32 by omega), Option.bind_some, hb1, in0 (show 0 < 1 by omega) (by omega), D_X9_answerNow_b46, D_X9_answerNow_b62, D_X9_answerNow_b78, nI_1, m1 (bs sz his i).2 (by omega), if_true]
      have eq : bs sz his (i + 1) = bs sz his i := by rw [bs_s, if_neg (fun q => hb q.1)]
      unfold bM
      rw [eq]
  · rintro a ⟨τ1, rfl, hE⟩
    have hz1 : gI τ1 2 = nI sz := (hE.1 2 (by decide) (by decide) (by decide)).trans hz
    refine ⟨_, ⟨τ1, rfl, hE⟩, fun rec => ?_⟩
    show D_X9_answerNow_L15_body rec τ1 w (nI his) _ (eN (bs sz his (2 ^ sz)).2) (nI (2 ^ sz)) = _
    simp only [D_X9_answerNow_L15_body, rowsM hz1 h4, Option.bind_some, ile (Nat.le_refl (2 ^ sz)) (by omega), if_true]
    have n0 : ¬ (bs sz his (2 ^ sz)).2 = 0 := by omega
    rw [show bM sz his (2 ^ sz) = nI (bs sz his (2 ^ sz)).1 from if_neg n0]
    by_cases hw : w = 0
    · rw [if_pos hw, if_pos hw]
    · rw [if_neg hw, if_neg hw]
      unfold eN
      rw [if_neg n0]
      rcases hok with h | h
      · exact absurd h.1 n0
      · rw [h.1, Nat.add_sub_cancel]
theorem bs_row {sz his : Nat} (h2 : 2 ≤ sz) (h4 : sz ≤ 4) (hh : his ∈ HS sz) : (bs sz his (2 ^ sz)).1 < 2 ^ sz := by
  obtain ⟨j0, hj0, hb0⟩ := free h2 h4 hh
  have hpos := bs_pos sz his hb0 (2 ^ sz) hj0
  rcases bs_ok sz his (2 ^ sz) with h | h
  · omega
  · exact h.2
/-- answer, of a player, for both; what is 0 or 1 -/
theorem answerT {np sz : Nat} {c : CO} {σ : ST} {w : Int32} (hN : NS np sz) (hP : PT np sz c σ) (hV : VC np sz c) {p : Nat} (hp0 : p < np) : ∃ σ', D_X8_answer_b23 σ (nI p) w = some (if w = 0 then nI (bs sz (hp sz c p) (2 ^ sz)).1 else nI (dl sz (2 ^ (bs sz (hp sz c p) (2 ^ sz)).1) (hp sz c p)), σ') ∧ EqT σ σ' := by
  obtain ⟨n2, n3⟩ := hN.pos (show 0 < np by omega)
  have hh := hp_in hN hV hp0
  have h16 := p2s hN.sz
  obtain ⟨σ1, g1, gE⟩ := bestT hP.2.1 n3 hN.sz hh
  have hb := bs_row n3 hN.sz hh
  by_cases hw : w = 0
  · refine ⟨σ1, ?_, gE⟩
    simp only [D_X8_answer_b23, rHT hN hP hV hp0, Option.bind_some, g1, hw, if_true]
  · obtain ⟨σ2, g2, gE2⟩ := dlT σ1 n3 hN.sz (pw_in n3 hN.sz hb) hh
    refine ⟨σ2, ?_, gE.trans gE2⟩
    have hz1 : gI σ1 2 = nI sz := (gE.1 2 (by decide)).trans hP.2.1
    simp only [D_X8_answer_b23, rHT hN hP hV hp0, Option.bind_some, g1, hw, if_false, sh1' (show (bs sz (hp sz c p) (2 ^ sz)).1 < 31 by omega), hz1, g2]
theorem answerM {np sz : Nat} {c : CO} {τ : ST} {w : Int32} (hN : NS np sz) (hP : PM np sz c τ) (hV : VC np sz c) {p : Nat} (hp0 : p < np) : ∃ τ', D_X9_answerNow τ (nI p) w = some (if w = 0 then nI (bs sz (hp sz c p) (2 ^ sz)).1 else nI (dl sz (2 ^ (bs sz (hp sz c p) (2 ^ sz)).1) (hp sz c p)), τ') ∧ EqM τ τ' := by
  obtain ⟨n2, n3⟩ := hN.pos (show 0 < np by omega)
  obtain ⟨τ1, g1, gE⟩ := ansM (w := w) hP.2.1 n3 hN.sz (hp_in hN hV hp0)
  refine ⟨τ1, ?_, gE⟩
  unfold D_X9_answerNow
  rw [hOM hN hP hV hp0, Option.bind_some, g1]
theorem w01 (p : Int32) : (p = 0 ∧ D_X9_within p 0 1 = some 1) ∨ (p = 1 ∧ D_X9_within p 0 1 = some 1) ∨ (p ≠ 0 ∧ p ≠ 1 ∧ D_X9_within p 0 1 = some 0) := by
  rcases pk_ix p (n := 2) (by omega) with h | h | ⟨j, hj, rfl⟩
  · refine Or.inr (Or.inr ⟨fun e => ?_, fun e => ?_, win_neg h⟩)
    · subst e; exact absurd h (by decide)
    · subst e; exact absurd h (by decide)
  · refine Or.inr (Or.inr ⟨fun e => ?_, fun e => ?_, win_big (m := 1) h (by omega)⟩)
    · subst e; exact absurd h (by decide)
    · subst e; exact absurd h (by decide)
  · rcases (show j = 0 ∨ j = 1 by omega) with rfl | rfl
    · exact Or.inl ⟨rfl, win_in (m := 1) (by omega) (by omega)⟩
    · exact Or.inr (Or.inl ⟨rfl, win_in (m := 1) (by omega) (by omega)⟩)
theorem S_answer_ok : S_answer Rel := by
  intro n σ τ a b hR hn
  have hR' := hR
  obtain ⟨np, sz, pl, rd, pg, c, k, hH, hP, hT, hM, hV, hK⟩ := hR (by omega)
  have hPT : PT np sz c σ := ⟨hH.2.1, hH.2.2.2.1, hT.1, hT.2.1⟩
  have hPM : PM np sz c τ := ⟨hH.2.2.1, hH.2.2.2.2.1, hM.1, hM.2.1⟩
  rcases plr hH a with ⟨j, hj, rfl, e1, e2⟩ | ⟨e1, e2⟩
  · obtain ⟨σ', g1, gE⟩ := answerT (w := b) hH.1 hPT hV hj
    obtain ⟨τ', g2, gM⟩ := answerM (w := b) hH.1 hPM hV hj
    rcases w01 b with ⟨rfl, f⟩ | ⟨rfl, f⟩ | ⟨q0, q1, f⟩
    · refine ⟨nI (bs sz (hp sz c j) (2 ^ sz)).1, σ', τ', ?_, ?_, Rel.query hR' hn gE gM⟩
      · simp only [D_X8_answer, e1, Option.bind_some, i10, i00, if_false, if_true, g1]
      · simp only [D_X9_answer, e2, f, Option.bind_some, i10, i00, if_false, if_true, g2]
    · refine ⟨nI (dl sz (2 ^ (bs sz (hp sz c j) (2 ^ sz)).1) (hp sz c j)), σ', τ', ?_, ?_, Rel.query hR' hn gE gM⟩
      · simp only [D_X8_answer, e1, Option.bind_some, i10, i00, if_false, if_true, g1]
      · simp only [D_X9_answer, e2, f, Option.bind_some, i10, i00, if_false, if_true, g2]
    · refine ⟨-102, σ, τ, ?_, ?_, Rel.query hR' hn EqT.rfl' EqM.rfl'⟩
      · simp only [D_X8_answer, e1, Option.bind_some, i10, if_false, q0, q1]
      · simp only [D_X9_answer, e2, f, Option.bind_some, i10, i00, if_false, if_true]
  · refine ⟨-101, σ, τ, ?_, ?_, Rel.query hR' hn EqT.rfl' EqM.rfl'⟩
    · simp only [D_X8_answer, e1, Option.bind_some, i00, if_true]
    · simp only [D_X9_answer, e2, Option.bind_some, i00, if_true]
