/-! open. -/
/-- the most that is bet against a row -/
noncomputable def dg (sz r : Nat) : Nat := (bs sz (2 ^ r) (2 ^ sz)).2 - 1
theorem dg_eq {sz r : Nat} (h2 : 2 ≤ sz) (h4 : sz ≤ 4) (hr : r < 2 ^ sz) : dg sz r = dl sz (2 ^ (bs sz (2 ^ r) (2 ^ sz)).1) (2 ^ r) ∧ dg sz r ≤ 1000000 := by
  have hh := pw_in h2 h4 hr
  obtain ⟨j0, hj0, hb0⟩ := free h2 h4 hh
  have hpos := bs_pos sz (2 ^ r) hb0 (2 ^ sz) hj0
  have hl := bs_lt h2 h4 hh (2 ^ sz) (Nat.le_refl _)
  unfold dg
  rcases bs_ok sz (2 ^ r) (2 ^ sz) with h | h
  · omega
  · exact ⟨by omega, by omega⟩
theorem dangerT {σ : ST} {sz r : Nat} (hz : gI σ 2 = nI sz) (h2 : 2 ≤ sz) (h4 : sz ≤ 4) (hr : r < 2 ^ sz) : ∃ σ', D_X8_dangerOf σ (nI r) = some (nI (dg sz r), σ') ∧ EqT σ σ' := by
  have h16 := p2s h4
  have hh := pw_in h2 h4 hr
  obtain ⟨σ1, g1, gE⟩ := bestT hz h2 h4 hh
  have hb := bs_row h2 h4 hh
  obtain ⟨σ2, g2, gE2⟩ := dlT σ1 h2 h4 (pw_in h2 h4 hb) hh
  have hz1 : gI σ1 2 = nI sz := (gE.1 2 (by decide)).trans hz
  refine ⟨σ2, ?_, gE.trans gE2⟩
  simp only [D_X8_dangerOf, sh1' (show r < 31 by omega), g1, Option.bind_some, sh1' (show (bs sz (2 ^ r) (2 ^ sz)).1 < 31 by omega), hz1, g2, (dg_eq h2 h4 hr).1]
theorem pbit {r i : Nat} : 2 ^ r / 2 ^ i % 2 = 0 ↔ i ≠ r := by
  constructor
  · intro h e
    subst e
    rw [Nat.div_self (Nat.pos_of_ne_zero (by simp))] at h
    omega
  · intro h
    rcases Nat.lt_or_gt_of_ne h with q | q
    · rw [Nat.pow_div (by omega) (by omega), show r - i = (r - i - 1) + 1 by omega, Nat.pow_succ]
      omega
    · rw [Nat.div_eq_of_lt (Nat.pow_lt_pow_right (by omega) q)]
theorem mostM {τ : ST} {sz r : Nat} (hz : gI τ 2 = nI sz) (h2 : 2 ≤ sz) (h4 : sz ≤ 4) (hr : r < 2 ^ sz) : ∃ τ', D_X9_mostAgainst τ (nI r) = some (nI (dg sz r), τ') ∧ EqM τ τ' := by
  have h16 := p2s h4
  have hh := pw_in h2 h4 hr
  unfold D_X9_mostAgainst D_X9_mostAgainst_L4 dg
  refine itr_i (P := fun i a => ∃ τ', a = (τ', nI r, nI ((bs sz (2 ^ r) i).2 - 1), nI i) ∧ EqM τ τ') (Q := fun q => ∃ τ', q = some (nI ((bs sz (2 ^ r) (2 ^ sz)).2 - 1), τ') ∧ EqM τ τ') (N := 2 ^ sz) (by omega) ⟨τ, rfl, EqM.rfl'⟩ ?_ ?_
  · rintro i hi a ⟨τ1, rfl, hE⟩
    have hz1 : gI τ1 2 = nI sz := (hE.1 2 (by decide) (by decide) (by decide)).trans hz
    have hl := bs_lt h2 h4 hh i (by omega)
    by_cases e : i = r
    · subst e
      refine ⟨(τ1, nI i, nI ((bs sz (2 ^ i) (i + 1)).2 - 1), nI (i + 1)), ⟨τ1, rfl, hE⟩, fun rec => ?_⟩
      show D_X9_mostAgainst_L4_body rec τ1 (nI i) _ (nI i) = _
      have z : ((0 : Int32) ≤ nI ((bs sz (2 ^ i) i).2 - 1)) = True := eq_true (nI_pos' (by omega))
      simp only [D_X9_mostAgainst_L4_body, rowsM hz1 h4, Option.bind_some, inle hi (by omega), if_false, if_true, D_X9_mostAgainst_b31, z, D_X9_mostAgainst_b45, nI_1]
      rw [bs_s, if_neg (fun q => pbit.mp q.1 rfl)]
    · obtain ⟨f, g1⟩ := dlM hz1 h2 h4 (pw_in h2 h4 hi) hh
      have hd := dl_le h2 h4 (pw_in h2 h4 hi) hh
      refine ⟨(pG τ1 0 f, nI r, nI ((bs sz (2 ^ r) (i + 1)).2 - 1), nI (i + 1)), ⟨pG τ1 0 f, rfl, hE.trans (EqM.pG _ _ _)⟩, fun rec => ?_⟩
      show D_X9_mostAgainst_L4_body rec τ1 (nI r) _ (nI i) = _
      simp only [D_X9_mostAgainst_L4_body, rowsM hz1 h4, Option.bind_some, inle hi (by omega), if_false, ieq e (show i < 2 ^ 31 by omega) (by omega), sh1' (show i < 31 by omega), sh1' (show r < 31 by omega), g1, D_X9_mostAgainst_b31, D_X9_mostAgainst_b45, nI_1]
      by_cases q : (bs sz (2 ^ r) i).2 < dl sz (2 ^ i) (2 ^ r) + 1
      · have eq : bs sz (2 ^ r) (i + 1) = (i, dl sz (2 ^ i) (2 ^ r) + 1) := by rw [bs_s, if_pos ⟨pbit.mpr e, q⟩]
        rw [eq]
        show _ = rec (pG τ1 0 f, nI r, nI (dl sz (2 ^ i) (2 ^ r) + 1 - 1), nI (i + 1))
        rw [Nat.add_sub_cancel]
        by_cases q2 : dl sz (2 ^ i) (2 ^ r) = (bs sz (2 ^ r) i).2 - 1
        · rw [if_pos (nI_le (by omega) (by omega)), ← q2]
        · rw [if_neg (nI_ge (by omega) (by omega))]
      · have eq : bs sz (2 ^ r) (i + 1) = bs sz (2 ^ r) i := by rw [bs_s, if_neg (fun z => q z.2)]
        rw [eq, if_pos (nI_le (by omega) (by omega))]
  · rintro a ⟨τ1, rfl, hE⟩
    have hz1 : gI τ1 2 = nI sz := (hE.1 2 (by decide) (by decide) (by decide)).trans hz
    refine ⟨_, ⟨τ1, rfl, hE⟩, fun rec => ?_⟩
    show D_X9_mostAgainst_L4_body rec τ1 (nI r) _ (nI (2 ^ sz)) = _
    simp only [D_X9_mostAgainst_L4_body, rowsM hz1 h4, Option.bind_some, ile (Nat.le_refl (2 ^ sz)) (by omega), if_true]
/-- the least danger among the first rows -/
noncomputable def mn (sz : Nat) : Nat → Nat × Nat
  | 0 => (0, 1000001)
  | i + 1 => if (mn sz i).2 ≤ dg sz i then mn sz i else (i, dg sz i)
theorem mn_s (sz i : Nat) : mn sz (i + 1) = if (mn sz i).2 ≤ dg sz i then mn sz i else (i, dg sz i) := rfl
theorem mn_le {sz : Nat} (h2 : 2 ≤ sz) (h4 : sz ≤ 4) : ∀ i, i ≤ 2 ^ sz → (mn sz i).2 ≤ 1000001 ∧ (0 < i → (mn sz i).2 = dg sz (mn sz i).1 ∧ (mn sz i).1 < i ∧ (mn sz i).2 ≤ 1000000)
  | 0, _ => ⟨Nat.le_refl _, fun h => absurd h (Nat.lt_irrefl 0)⟩
  | i + 1, hi => by
    have h := mn_le h2 h4 i (by omega)
    have hd := (dg_eq h2 h4 (show i < 2 ^ sz by omega)).2
    rw [mn_s]
    by_cases e : (mn sz i).2 ≤ dg sz i
    · rw [if_pos e]
      refine ⟨h.1, fun _ => ?_⟩
      rcases Nat.eq_zero_or_pos i with z | z
      · subst z
        have : (mn sz 0).2 = 1000001 := rfl
        omega
      · have := h.2 z
        exact ⟨this.1, by omega, this.2.2⟩
    · rw [if_neg e]
      exact ⟨by show dg sz i ≤ _; omega, fun _ => ⟨rfl, Nat.lt_succ_self i, hd⟩⟩
theorem openT {σ : ST} {sz : Nat} (hz : gI σ 2 = nI sz) (h2 : 2 ≤ sz) (h4 : sz ≤ 4) : ∃ σ', D_X8_bestToOpen σ = some (nI (mn sz (2 ^ sz)).1, σ') ∧ EqT σ σ' := by
  have h16 := p2s h4
  unfold D_X8_bestToOpen D_X8_bestToOpen_L8
  refine itr_i (P := fun i a => ∃ σ', a = (σ', nI (mn sz i).1, nI (mn sz i).2, nI i) ∧ EqT σ σ') (Q := fun r => ∃ σ', r = some (nI (mn sz (2 ^ sz)).1, σ') ∧ EqT σ σ') (N := 2 ^ sz) (by omega) ⟨σ, rfl, EqT.rfl'⟩ ?_ ?_
  · rintro i hi a ⟨σ1, rfl, hE⟩
    have hz1 : gI σ1 2 = nI sz := (hE.1 2 (by decide)).trans hz
    have hl := (mn_le h2 h4 i (by omega)).1
    have hd := (dg_eq h2 h4 hi).2
    obtain ⟨σ2, g1, gE⟩ := dangerT hz1 h2 h4 hi
    refine ⟨(σ2, nI (mn sz (i + 1)).1, nI (mn sz (i + 1)).2, nI (i + 1)), ⟨σ2, rfl, hE.trans gE⟩, fun rec => ?_⟩
    show D_X8_bestToOpen_L8_body rec σ1 (nI (mn sz i).1) (nI (mn sz i).2) (nI i) = _
    simp only [D_X8_bestToOpen_L8_body, hz1, sh1' (show sz < 31 by omega), inle hi (by omega), if_false, g1, Option.bind_some, D_X8_bestToOpen_b36, nI_1]
    rw [mn_s]
    by_cases e : (mn sz i).2 ≤ dg sz i
    · rw [if_pos (nI_le e (by omega)), if_pos e]
    · rw [if_neg (nI_ge (by omega) (by omega)), if_neg e]
  · rintro a ⟨σ1, rfl, hE⟩
    have hz1 : gI σ1 2 = nI sz := (hE.1 2 (by decide)).trans hz
    refine ⟨_, ⟨σ1, rfl, hE⟩, fun rec => ?_⟩
    show D_X8_bestToOpen_L8_body rec σ1 _ _ (nI (2 ^ sz)) = _
    simp only [D_X8_bestToOpen_L8_body, hz1, sh1' (show sz < 31 by omega), ile (Nat.le_refl (2 ^ sz)) (by omega), if_true]
noncomputable def oB (sz i : Nat) : Int32 := if i = 0 then -1 else nI (mn sz i).1
noncomputable def oL (sz i : Nat) : Int32 := if i = 0 then 268435456 else nI (mn sz i).2
theorem openM {τ : ST} {sz : Nat} {w : Int32} (hz : gI τ 2 = nI sz) (h2 : 2 ≤ sz) (h4 : sz ≤ 4) : ∃ τ', D_X9_openNow τ w = some (if w = 0 then nI (mn sz (2 ^ sz)).1 else nI (mn sz (2 ^ sz)).2, τ') ∧ EqM τ τ' := by
  have h16 := p2s h4
  have hpos : 0 < 2 ^ sz := Nat.pos_of_ne_zero (by simp)
  unfold D_X9_openNow D_X9_openNow_L8
  refine itr_i (P := fun i a => ∃ τ', a = (τ', w, oB sz i, oL sz i, nI i) ∧ EqM τ τ') (Q := fun r => ∃ τ', r = some (if w = 0 then nI (mn sz (2 ^ sz)).1 else nI (mn sz (2 ^ sz)).2, τ') ∧ EqM τ τ') (N := 2 ^ sz) (by omega) ⟨τ, rfl, EqM.rfl'⟩ ?_ ?_
  · rintro i hi a ⟨τ1, rfl, hE⟩
    have hz1 : gI τ1 2 = nI sz := (hE.1 2 (by decide) (by decide) (by decide)).trans hz
    have hl := (mn_le h2 h4 i (by omega)).1
    have hd := (dg_eq h2 h4 hi).2
    obtain ⟨τ2, g1, gE⟩ := mostM hz1 h2 h4 hi
    refine ⟨(τ2, w, oB sz (i + 1), oL sz (i + 1), nI (i + 1)), ⟨τ2, rfl, hE.trans gE⟩, fun rec => ?_⟩
    show D_X9_openNow_L8_body rec τ1 w (oB sz i) (oL sz i) (nI i) = _
    simp only [D_X9_openNow_L8_body, rowsM hz1 h4, Option.bind_some, inle hi (by omega), if_false, g1, D_X9_openNow_b37, D_X9_openNow_b50, nI_1]
    rw [show oB sz (i + 1) = nI (mn sz (i + 1)).1 from if_neg (Nat.succ_ne_zero i), show oL sz (i + 1) = nI (mn sz (i + 1)).2 from if_neg (Nat.succ_ne_zero i)]
    by_cases z : i = 0
    · subst z
      have m0 : (mn sz 0).2 = 1000001 := rfl
      have eq : mn sz (0 + 1) = (0, dg sz 0) := by rw [mn_s, if_neg (by omega)]
      rw [eq]
      have n1 : ¬ oL sz 0 ≤ nI (dg sz 0) := fun q => by
        have q : nI 268435456 ≤ nI (dg sz 0) := q
        have := (nI_leI (by omega) (by omega)).mp q
        omega
      rw [if_neg n1, if_neg n1]
    · rw [show oB sz i = nI (mn sz i).1 from if_neg z, show oL sz i = nI (mn sz i).2 from if_neg z]
      by_cases e : (mn sz i).2 ≤ dg sz i
      · have eq : mn sz (i + 1) = mn sz i := by rw [mn_s, if_pos e]
        rw [if_pos (nI_le e (by omega)), if_pos (nI_le e (by omega)), eq]
      · have eq : mn sz (i + 1) = (i, dg sz i) := by rw [mn_s, if_neg e]
        rw [if_neg (nI_ge (by omega) (by omega)), if_neg (nI_ge (by omega) (by omega)), eq]
  · rintro a ⟨τ1, rfl, hE⟩
    have hz1 : gI τ1 2 = nI sz := (hE.1 2 (by decide) (by decide) (by decide)).trans hz
    refine ⟨_, ⟨τ1, rfl, hE⟩, fun rec => ?_⟩
    show D_X9_openNow_L8_body rec τ1 w (oB sz (2 ^ sz)) (oL sz (2 ^ sz)) (nI (2 ^ sz)) = _
    rw [show oB sz (2 ^ sz) = nI (mn sz (2 ^ sz)).1 from if_neg (by omega), show oL sz (2 ^ sz) = nI (mn sz (2 ^ sz)).2 from if_neg (by omega)]
    simp only [D_X9_openNow_L8_body, rowsM hz1 h4, Option.bind_some, ile (Nat.le_refl (2 ^ sz)) (by omega), if_true]
    by_cases hw : w = 0
    · rw [if_pos hw, if_pos hw]
    · rw [if_neg hw, if_neg hw]
theorem S_open_ok : S_open Rel := by
  intro n σ τ a hR hn
  have hR' := hR
  obtain ⟨np, sz, pl, rd, pg, c, k, hH, hP, hT, hM, hV, hK⟩ := hR (by omega)
  rcases w01 a with ⟨rfl, f⟩ | ⟨rfl, f⟩ | ⟨q0, q1, f⟩
  all_goals try by_cases h0 : np = 0
  · refine ⟨-103, σ, τ, ?_, ?_, Rel.query hR' hn EqT.rfl' EqM.rfl'⟩
    · simp only [D_X8_open, D_X8_open_b12, hH.2.1, h0, show (nI 0 = 0) = True from eq_true rfl, if_true]
    · simp only [D_X9_open, f, Option.bind_some, hH.2.2.1, h0, show (nI 0 = 0) = True from eq_true rfl, i10, if_false, if_true]
  · obtain ⟨n2, n3⟩ := hH.1.pos (show 0 < np by omega)
    have hnp := hH.1.np
    obtain ⟨σ1, g1, gE⟩ := openT hH.2.2.2.1 n3 hH.1.sz
    obtain ⟨τ1, g2, gM⟩ := openM (w := 0) hH.2.2.2.2.1 n3 hH.1.sz
    refine ⟨nI (mn sz (2 ^ sz)).1, σ1, τ1, ?_, ?_, Rel.query hR' hn gE gM⟩
    · simp only [D_X8_open, D_X8_open_b12, hH.2.1, in0 (show 0 < np by omega) (by omega), if_true, if_false, g1, Option.bind_some]
    · simp only [D_X9_open, f, Option.bind_some, hH.2.2.1, in0 (show 0 < np by omega) (by omega), i10, i00, if_true, if_false, g2]
  · refine ⟨-103, σ, τ, ?_, ?_, Rel.query hR' hn EqT.rfl' EqM.rfl'⟩
    · simp only [D_X8_open, D_X8_open_b12, i10, hH.2.1, h0, show (nI 0 = 0) = True from eq_true rfl, if_true, if_false]
    · simp only [D_X9_open, f, Option.bind_some, hH.2.2.1, h0, show (nI 0 = 0) = True from eq_true rfl, i10, if_false, if_true]
  · obtain ⟨n2, n3⟩ := hH.1.pos (show 0 < np by omega)
    have hnp := hH.1.np
    have hpos : 0 < 2 ^ sz := Nat.pos_of_ne_zero (by simp)
    obtain ⟨σ1, g1, gE⟩ := openT hH.2.2.2.1 n3 hH.1.sz
    obtain ⟨τ1, g2, gM⟩ := openM (w := 1) hH.2.2.2.2.1 n3 hH.1.sz
    have hm := (mn_le n3 hH.1.sz (2 ^ sz) (Nat.le_refl _)).2 hpos
    have hz1 : gI σ1 2 = nI sz := (gE.1 2 (by decide)).trans hH.2.2.2.1
    obtain ⟨σ2, g3, gE2⟩ := dangerT hz1 n3 hH.1.sz hm.2.1
    refine ⟨nI (mn sz (2 ^ sz)).2, σ2, τ1, ?_, ?_, Rel.query hR' hn (gE.trans gE2) gM⟩
    · simp only [D_X8_open, D_X8_open_b12, i10, hH.2.1, in0 (show 0 < np by omega) (by omega), if_true, if_false, g1, Option.bind_some, g3, hm.1]
    · simp only [D_X9_open, f, Option.bind_some, hH.2.2.1, in0 (show 0 < np by omega) (by omega), i10, i00, if_true, if_false, g2]
  all_goals
    refine ⟨-102, σ, τ, ?_, ?_, Rel.query hR' hn EqT.rfl' EqM.rfl'⟩
    · simp only [D_X8_open, q0, q1, if_false]
    · simp only [D_X9_open, f, Option.bind_some, i00, if_true]
