/-- a counting loop: the state is passed on by nx -/
noncomputable def lp {α : Type} (nx : Nat → α → α) (n : Nat) (a : α) : α := Nat.rec a (fun i t => nx i t) n
theorem lp_s {α : Type} (nx : Nat → α → α) (n : Nat) (a : α) : lp nx (n + 1) a = nx n (lp nx n a) := rfl
theorem lp_ind {α : Type} {nx : Nat → α → α} {P : Nat → α → Prop} {a : α} {N : Nat} (h0 : P 0 a) (hs : ∀ i, i < N → ∀ t, P i t → P (i + 1) (nx i t)) : P N (lp nx N a) := by
  have : ∀ i, i ≤ N → P i (lp nx i a) := by
    intro i
    induction i with
    | zero => intro _; exact h0
    | succ i ih => intro hi; exact hs i (by omega) _ (ih (by omega))
  exact this N (Nat.le_refl _)
/-- a loop that walks the states f 0, f 1 .. f N -/
theorem itr_f {α ρ : Type} {F : (α → Option ρ) → α → Option ρ} (f : Nat → α) {N fuel : Nat} {r : Option ρ} (hN : N < fuel) (hs : ∀ i, i < N → ∀ rec, F rec (f i) = rec (f (i + 1))) (he : ∀ rec, F rec (f N) = r) : itr F fuel (f 0) = r := by
  have : ∀ k i, i + k = N → ∀ m, k < m → itr F m (f i) = r := by
    intro k
    induction k with
    | zero =>
      intro i hi m hm
      obtain ⟨m, rfl⟩ : ∃ q, m = q + 1 := ⟨m - 1, by omega⟩
      rw [itr_s, show i = N by omega, he]
    | succ k ih =>
      intro i hi m hm
      obtain ⟨m, rfl⟩ : ∃ q, m = q + 1 := ⟨m - 1, by omega⟩
      rw [itr_s, hs i (by omega)]
      exact ih (i + 1) (by omega) m (by omega)
  exact this N 0 (by omega) fuel hN
theorem ile {a b : Nat} (h : a ≤ b) (hb : b < 2 ^ 31) : (nI a ≤ nI b) = True := eq_true (nI_le h hb)
theorem inle {a b : Nat} (h : b < a) (hb : a < 2 ^ 31) : (nI a ≤ nI b) = False := eq_false (nI_ge h hb)
theorem ilt {a b : Nat} (h : a < b) (hb : b < 2 ^ 31) : (nI a < nI b) = True := eq_true (nI_lt h hb)
theorem inlt {a b : Nat} (h : b ≤ a) (hb : a < 2 ^ 31) : (nI a < nI b) = False := eq_false (nI_nlt h hb)
theorem ieq {a b : Nat} (h : a ≠ b) (ha : a < 2 ^ 31) (hb : b < 2 ^ 31) : (nI a = nI b) = False := eq_false (fun q => h ((nI_eq ha hb).mp q))
theorem in0 {a : Nat} (h : 0 < a) (ha : a < 2 ^ 31) : (nI a = 0) = False := eq_false (nI_ne0 h ha)
theorem L2 : (2 : Int32) = nI 2 := rfl
theorem L4 : (4 : Int32) = nI 4 := rfl
theorem L6 : (6 : Int32) = nI 6 := rfl
theorem L28 : (28 : Int32) = nI 28 := rfl
theorem ch_ok : ∀ j : Fin 127, vp_nar .char (((nI j.val).toUInt32 % 65536).toInt32) = nI j.val ∧ vp_nar .byte ((nI j.val).toInt8.toInt32) = nI j.val := by decide +kernel
theorem upd_at (f : Nat → Int32) (j : Nat) (v : Int32) : upd f j v j = v := by unfold upd; rw [if_pos rfl]
theorem upd_ne (f : Nat → Int32) {j p : Nat} (v : Int32) (h : p ≠ j) : upd f j v p = f p := by unfold upd; rw [if_neg h]
theorem S_letter_ok : S_letter Rel := by
  intro n σ τ a hR hn
  have hR' := hR
  obtain ⟨np, sz, pl, rd, pg, c, k, hH, hP, hC⟩ := hR (by omega)
  by_cases h1 : a < 32
  · refine ⟨-102, σ, τ, ?_, ?_, Rel.query hR' hn EqT.rfl' EqM.rfl'⟩
    · unfold D_X8_letter; rw [if_pos h1]
    · unfold D_X9_letter D_X9_within; rw [if_pos h1, Option.bind_some, if_pos rfl]
  · by_cases h2 : (126 : Int32) < a
    · have h3 : ¬ a ≤ 126 := by rw [Int32.lt_iff_toInt_lt] at h2; rw [Int32.le_iff_toInt_le]; omega
      refine ⟨-102, σ, τ, ?_, ?_, Rel.query hR' hn EqT.rfl' EqM.rfl'⟩
      · unfold D_X8_letter; rw [if_neg h1, if_neg h3]
      · unfold D_X9_letter D_X9_within; rw [if_neg h1, if_pos h2, Option.bind_some, if_pos rfl]
    · have h3 : a ≤ 126 := by rw [Int32.lt_iff_toInt_lt] at h2; rw [Int32.le_iff_toInt_le]; omega
      have h4 : ¬ a < 0 := fun q => h1 (by rw [Int32.lt_iff_toInt_lt] at q ⊢; have e : (32 : Int32).toInt = 32 := by decide
                                           have e0 : (0 : Int32).toInt = 0 := by decide
                                           omega)
      obtain ⟨j, hj, rfl⟩ := nI_of2 (M := 126) (n := 126) rfl h4 h3
      have hj32 : 32 ≤ j := by
        rcases Nat.lt_or_ge j 32 with q | q
        · exact absurd (nI_lt (b := 32) q (by omega)) h1
        · exact q
      obtain ⟨hc1, hc2⟩ := ch_ok ⟨j, by omega⟩
      have hp28 := hP.2.2.2
      have hw : D_X9_within (nI j) 32 126 = some 1 := by unfold D_X9_within; rw [if_neg h1, if_neg h2]
      rcases Nat.lt_or_ge pl 28 with hp | hp
      · refine ⟨nI (pl + 1), pI (pA σ 0 pl (nI j)) 4 (nI (pl + 1)), pI (pA τ 6 pl (nI j)) 7 (nI (pl + 1)), ?_, ?_, fun _ => ⟨np, sz, pl + 1, rd, (fun q => if q = pl then j else pg q), c, k, hH.up hn, ⟨fun q hq => ?_, rfl, rfl, by omega⟩, hC⟩⟩
        · simp only [D_X8_letter, h1, h3, if_false, if_true, D_X5_isFull, hP.2.1, L28, ilt hp (by omega), Option.bind_some, i00, D_X5_append, inle hp (by omega), cl (show pl < 2 ^ 31 by omega), gin hp (by omega), hc1, D_X5_length, gI_pA, gI_pI, nI_1]
        · simp only [D_X9_letter, hw, Option.bind_some, i10, if_false, hP.2.2.1, L28, ieq (show pl ≠ 28 by omega) (by omega) (by omega), cl (show pl < 2 ^ 31 by omega), gin hp (by omega), hc2, gI_pA, gI_pI, nI_1, if_true]
        · show upd (gA σ 0) pl (nI j) q = nI (if q = pl then j else pg q) ∧ upd (gA τ 6) pl (nI j) q = nI (if q = pl then j else pg q) ∧ 32 ≤ (if q = pl then j else pg q) ∧ (if q = pl then j else pg q) ≤ 126
          by_cases e : q = pl
          · subst e
            rw [if_pos rfl, upd_at, upd_at]
            exact ⟨rfl, rfl, hj32, by omega⟩
          · rw [if_neg e, upd_ne _ _ e, upd_ne _ _ e]
            exact hP.1 q (by omega)
      · have e28 : pl = 28 := by omega
        subst e28
        refine ⟨-104, σ, τ, ?_, ?_, Rel.query hR' hn EqT.rfl' EqM.rfl'⟩
        · simp only [D_X8_letter, h1, h3, if_false, if_true, D_X5_isFull, hP.2.1, L28, inlt (Nat.le_refl 28) (by omega), Option.bind_some, i10]
        · simp only [D_X9_letter, hw, Option.bind_some, i10, if_false, hP.2.2.1, L28, if_true]
theorem vz : ∀ c : Int32, (c = 0 ∨ c = 1) → vp_nar .boolean c = c := fun c h => by rcases h with rfl | rfl <;> decide
theorem S_see_ok : S_see Rel := by
  intro n σ τ a b d hR hn hd
  have hR' := hR
  obtain ⟨np, sz, pl, rd, pg, c, k, hH, hP, hT, hM, hV, hK⟩ := hR (by omega)
  rcases plr hH a with ⟨j, hj, rfl, e1, e2⟩ | ⟨e1, e2⟩
  · have hnp := hH.1.np
    rcases rowc hH (by omega) b with ⟨r, hr, rfl, f1, f2⟩ | ⟨f1, f2⟩
    · have hsn := hV.2.1
      have hTs := hT.2.2.2.2.2.2.1
      have hMs := hM.2.2.2.2.2.2.1
      generalize hse : sn c = s at hsn hTs hMs
      rcases Nat.lt_or_ge s 6 with h6 | h6
      · obtain ⟨dn, hdn, hd2⟩ : ∃ dn : Nat, d = nI dn ∧ dn < 2 := by
          rcases hd with rfl | rfl
          · exact ⟨0, rfl, by omega⟩
          · exact ⟨1, rfl, by omega⟩
        refine ⟨nI (s + 1), pI (pA (pA (pA σ 4 s (nI j)) 5 s (nI r)) 6 s d) 5 (nI (s + 1)), pI (pA (pA (pA τ 3 s (nI j)) 4 s (nI r)) 5 s d) 6 (nI (s + 1)), ?_, ?_, fun _ => ⟨np, sz, pl, rd, pg, (kd c, ro c, wo c, (fun p => if p = s then j else sp c p), (fun p => if p = s then r else stl c p), (fun p => if p = s then dn else sh c p), s + 1, ts c, tg c, la c), k, hH.up hn, hP, ?_, ?_, ?_, hK⟩⟩
        · simp only [D_X8_see, e1, f1, Option.bind_some, i10, if_false, hTs, L6, ilt h6 (by omega), if_true, D_X1_addSeen, nI_pos (show s < 2 ^ 31 by omega), inle h6 (by omega), cl (show s < 2 ^ 31 by omega), gin h6 (by omega), gI_pA, vz d hd, D_X1_addSeen_b46, gI_pI, nI_1, false_or, show ¬ 6 ≤ s by omega]
        · rcases hd with rfl | rfl
          · simp only [D_X9_see, e2, f2, Option.bind_some, i10, if_false, hMs, L6, ieq (show s ≠ 6 by omega) (by omega) (by omega), if_true, nI_pos (show s < 2 ^ 31 by omega), cl (show s < 2 ^ 31 by omega), gin h6 (by omega), gI_pA, D_X9_see_b71, gI_pI, nI_1, i00, false_or, show ¬ 6 ≤ s by omega]
          · simp only [D_X9_see, e2, f2, Option.bind_some, i10, if_false, hMs, L6, ieq (show s ≠ 6 by omega) (by omega) (by omega), if_true, nI_pos (show s < 2 ^ 31 by omega), cl (show s < 2 ^ 31 by omega), gin h6 (by omega), gI_pA, D_X9_see_b71, gI_pI, nI_1, false_or, show ¬ 6 ≤ s by omega]
        · refine ⟨hT.1, hT.2.1, hT.2.2.1, fun p hp => ?_, fun p hp => ?_, fun p hp => ?_, rfl, hT.2.2.2.2.2.2.2.1, hT.2.2.2.2.2.2.2.2.1, hT.2.2.2.2.2.2.2.2.2⟩
          all_goals
            have hp : p < s + 1 := hp
          · show upd (gA σ 4) s (nI j) p = nI (if p = s then j else sp c p)
            by_cases e : p = s
            · rw [if_pos e, e, upd_at]
            · rw [if_neg e, upd_ne _ _ e]; exact hT.2.2.2.1 p (by omega)
          · show upd (gA σ 5) s (nI r) p = nI (if p = s then r else stl c p)
            by_cases e : p = s
            · rw [if_pos e, e, upd_at]
            · rw [if_neg e, upd_ne _ _ e]; exact hT.2.2.2.2.1 p (by omega)
          · show upd (gA σ 6) s d p = nI (if p = s then dn else sh c p)
            by_cases e : p = s
            · rw [if_pos e, e, upd_at]; exact hdn
            · rw [if_neg e, upd_ne _ _ e]; exact hT.2.2.2.2.2.1 p (by omega)
        · refine ⟨hM.1, hM.2.1, hM.2.2.1, fun p hp => ?_, fun p hp => ?_, fun p hp => ?_, rfl, hM.2.2.2.2.2.2.2.1, hM.2.2.2.2.2.2.2.2.1, hM.2.2.2.2.2.2.2.2.2⟩
          all_goals
            have hp : p < s + 1 := hp
          · show upd (gA τ 3) s (nI j) p = nI (if p = s then j else sp c p)
            by_cases e : p = s
            · rw [if_pos e, e, upd_at]
            · rw [if_neg e, upd_ne _ _ e]; exact hM.2.2.2.1 p (by omega)
          · show upd (gA τ 4) s (nI r) p = nI (if p = s then r else stl c p)
            by_cases e : p = s
            · rw [if_pos e, e, upd_at]
            · rw [if_neg e, upd_ne _ _ e]; exact hM.2.2.2.2.1 p (by omega)
          · show upd (gA τ 5) s d p = nI (if p = s then dn else sh c p)
            by_cases e : p = s
            · rw [if_pos e, e, upd_at]; exact hdn
            · rw [if_neg e, upd_ne _ _ e]; exact hM.2.2.2.2.2.1 p (by omega)
        · refine ⟨hV.1, (show s + 1 ≤ 6 by omega), fun p hp => ?_, hV.2.2.2.1, hV.2.2.2.2.1, hV.2.2.2.2.2⟩
          have hp : p < s + 1 := hp
          show (if p = s then j else sp c p) < np ∧ (if p = s then r else stl c p) < 2 ^ sz ∧ (if p = s then dn else sh c p) < 2
          by_cases e : p = s
          · rw [if_pos e, if_pos e, if_pos e]; exact ⟨hj, hr, hd2⟩
          · rw [if_neg e, if_neg e, if_neg e]; exact hV.2.2.1 p (by omega)
      · have h66 : s = 6 := by omega
        subst h66
        refine ⟨-104, σ, τ, ?_, ?_, Rel.query hR' hn EqT.rfl' EqM.rfl'⟩
        · simp only [D_X8_see, e1, f1, Option.bind_some, i10, if_false, hTs, L6, inlt (Nat.le_refl 6) (by omega)]
        · simp only [D_X9_see, e2, f2, Option.bind_some, i10, if_false, hMs, L6, if_true]
    · refine ⟨-102, σ, τ, ?_, ?_, Rel.query hR' hn EqT.rfl' EqM.rfl'⟩
      · simp only [D_X8_see, e1, f1, Option.bind_some, i10, i00, if_false, if_true]
      · simp only [D_X9_see, e2, f2, Option.bind_some, i10, i00, if_false, if_true]
  · refine ⟨-101, σ, τ, ?_, ?_, Rel.query hR' hn EqT.rfl' EqM.rfl'⟩
    · simp only [D_X8_see, e1, Option.bind_some, i00, if_true]
    · simp only [D_X9_see, e2, Option.bind_some, i00, if_true]
