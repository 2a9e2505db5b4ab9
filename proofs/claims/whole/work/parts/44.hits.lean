/-! Which rows a player hits by: HB; who hits: wh. -/
def rvs (sz r : Nat) : Nat := (List.range sz).foldl (fun a i => 2 * a + r / 2 ^ i % 2) 0
def HB (sz k r : Nat) : Nat := if k = 0 then 2 ^ r else if k = 1 then 2 ^ rvs sz r else if k = 2 then 2 ^ (2 ^ sz - 1 - r) else if k = 3 then 2 ^ r ||| 2 ^ (2 ^ sz - 1 - r) else (2 ^ r ||| 2 ^ (2 ^ sz - 1 - r)) ||| 2 ^ rvs sz r
theorem hT_all : ∀ s : Fin 3, ∀ k : Fin 5, ∀ r : Fin 16, r.val < 2 ^ (s.val + 2) → D_rowsHitWith τ0 k.val (nI r.val) (nI (s.val + 2)) = some (nI (HB (s.val + 2) k.val r.val)) := by decide +kernel
theorem hM_all : ∀ s : Fin 3, ∀ k : Fin 5, ∀ r : Fin 16, r.val < 2 ^ (s.val + 2) → D_X9_hitsBy (pI τ0 2 (nI (s.val + 2))) (nI k.val) (nI r.val) = some (nI (HB (s.val + 2) k.val r.val)) := by decide +kernel
theorem hB_all : ∀ s : Fin 3, ∀ k : Fin 5, ∀ r : Fin 16, r.val < 2 ^ (s.val + 2) → HB (s.val + 2) k.val r.val < 2 ^ (2 ^ (s.val + 2)) := by decide +kernel
theorem hitT (σ : ST) {sz k r : Nat} (h1 : 2 ≤ sz) (h2 : sz ≤ 4) (hk : k < 5) (hr : r < 2 ^ sz) : D_rowsHitWith σ k (nI r) (nI sz) = some (nI (HB sz k r)) := by
  obtain ⟨s, rfl⟩ : ∃ s, sz = s + 2 := ⟨sz - 2, by omega⟩
  have := p2s h2
  exact hT_all ⟨s, by omega⟩ ⟨k, hk⟩ ⟨r, by omega⟩ hr
theorem hitsBy_c (τ : ST) (a b : Int32) : D_X9_hitsBy τ a b = D_X9_hitsBy (pI τ0 2 (gI τ 2)) a b := rfl
theorem hitM {τ : ST} {sz k r : Nat} (h : gI τ 2 = nI sz) (h1 : 2 ≤ sz) (h2 : sz ≤ 4) (hk : k < 5) (hr : r < 2 ^ sz) : D_X9_hitsBy τ (nI k) (nI r) = some (nI (HB sz k r)) := by
  rw [hitsBy_c, h]
  obtain ⟨s, rfl⟩ : ∃ s, sz = s + 2 := ⟨sz - 2, by omega⟩
  have := p2s h2
  exact hM_all ⟨s, by omega⟩ ⟨k, hk⟩ ⟨r, by omega⟩ hr
theorem HB_lt {sz k r : Nat} (h1 : 2 ≤ sz) (h2 : sz ≤ 4) (hk : k < 5) (hr : r < 2 ^ sz) : HB sz k r < 2 ^ (2 ^ sz) := by
  obtain ⟨s, rfl⟩ : ∃ s, sz = s + 2 := ⟨sz - 2, by omega⟩
  have := p2s h2
  exact hB_all ⟨s, by omega⟩ ⟨k, hk⟩ ⟨r, by omega⟩ hr
theorem HB_16 {sz k r : Nat} (h1 : 2 ≤ sz) (h2 : sz ≤ 4) (hk : k < 5) (hr : r < 2 ^ sz) : HB sz k r < 65536 := Nat.lt_of_lt_of_le (HB_lt h1 h2 hk hr) (Nat.le_trans (Nat.pow_le_pow_right (by omega) (p2s h2)) (Nat.le_refl _))
theorem s31 : ∀ n : Fin 32, ((nI n.val &&& 31).toBitVec.smod 32).toNat = n.val := by decide +kernel
theorem bitI {m j : Nat} (hm : m < 2 ^ 31) (hj : j < 32) : (nI m >>> (nI j &&& 31)) &&& 1 = nI (m / 2 ^ j % 2) := by
  rw [pk_shrN hm _ j (s31 ⟨j, hj⟩), pk_andN (Nat.lt_of_le_of_lt (Nat.div_le_self _ _) (by omega)) 1 (by decide)]
theorem bit01 (m j : Nat) : m / 2 ^ j % 2 = 0 ∨ m / 2 ^ j % 2 = 1 := by omega
theorem hasT {m j : Nat} (hm : m < 2 ^ 31) (hj : j < 32) : D_X8_has (nI m) (nI j) = some (nI (m / 2 ^ j % 2)) := by
  unfold D_X8_has
  rw [bitI hm hj]
  rcases bit01 m j with h | h <;> rw [h] <;> rfl
theorem isInM {m j : Nat} (hm : m < 2 ^ 31) (hj : j < 32) : D_X9_isIn (nI m) (nI j) = some (nI (m / 2 ^ j % 2)) := by
  unfold D_X9_isIn
  rw [bitI hm hj]
  rcases bit01 m j with h | h <;> rw [h] <;> rfl
theorem kindAtT (σ : ST) {k : Nat} (hk : k < 5) : D_X8_kindAt σ (nI k) = some k := by
  simp only [D_X8_kindAt, D_X8_isKind, nI_pos (show k < 2 ^ 31 by omega), if_false, show (5 : Int32) = nI 5 from rfl, inle hk (by omega), Option.bind_some, i10, cl (show k < 2 ^ 31 by omega), false_or, show ¬ 5 ≤ k by omega]
/-- the rows by which the player p of the course hits -/
abbrev hp (sz : Nat) (c : CO) (p : Nat) : Nat := HB sz (kd c p) (ro c p)
theorem hp_16 {np sz : Nat} {c : CO} (hN : NS np sz) (hV : VC np sz c) {p : Nat} (hp0 : p < np) : hp sz c p < 65536 := by
  obtain ⟨h2, h3⟩ := hN.pos (by omega)
  exact HB_16 h3 hN.sz (hV.1 p hp0).1 (hV.1 p hp0).2
theorem isPlT {σ : ST} {np p : Nat} (h1 : gI σ 1 = nI np) (h4 : np ≤ 4) (hp0 : p < np) : D_X8_isPlayer σ (nI p) = some 1 := by
  unfold D_X8_isPlayer
  rw [if_neg (nI_pos (by omega)), h1, if_neg (nI_ge hp0 (by omega)), if_neg (show ¬ (4 : Int32) ≤ nI p from nI_ge (b := 4) (by omega) (by omega))]
theorem rowsHitByT {np sz : Nat} {c : CO} {σ : ST} (hN : NS np sz) (h1 : gI σ 1 = nI np) (h2 : gI σ 2 = nI sz) (hk : ∀ p, p < np → gA σ 1 p = nI (kd c p)) (hr : ∀ p, p < np → gA σ 2 p = nI (ro c p)) (hV : VC np sz c) {p : Nat} (hp0 : p < np) : D_X8_rowsHitBy σ (nI p) = some (nI (hp sz c p)) := by
  have h4 := hN.np
  obtain ⟨n2, n3⟩ := hN.pos (by omega)
  simp only [D_X8_rowsHitBy, isPlT h1 h4 hp0, Option.bind_some, i10, if_false, cl (show p < 2 ^ 31 by omega), gin (show p < 4 by omega) (by omega), hk p hp0, kindAtT σ (hV.1 p hp0).1, hr p hp0, h2, hitT σ n3 hN.sz (hV.1 p hp0).1 (hV.1 p hp0).2]
theorem hitsOfM {np sz : Nat} {c : CO} {τ : ST} (hN : NS np sz) (h2 : gI τ 2 = nI sz) (hk : ∀ p, p < np → gA τ 0 p = nI (kd c p)) (hr : ∀ p, p < np → gA τ 1 p = nI (ro c p)) (hV : VC np sz c) {p : Nat} (hp0 : p < np) : D_X9_hitsOf τ (nI p) = some (nI (hp sz c p)) := by
  have h4 := hN.np
  obtain ⟨n2, n3⟩ := hN.pos (by omega)
  simp only [D_X9_hitsOf, if_false, cl (show p < 2 ^ 31 by omega), gin (show p < 4 by omega) (by omega), hk p hp0, hr p hp0, hitM h2 n3 hN.sz (hV.1 p hp0).1 (hV.1 p hp0).2, Option.bind_some]
theorem S_hits_ok : S_hits Rel := by
  intro n σ τ a b hR hn
  have hR' := hR
  obtain ⟨np, sz, pl, rd, pg, c, k, hH, hP, hT, hM, hV, hK⟩ := hR (by omega)
  rcases plr hH a with ⟨j, hj, rfl, e1, e2⟩ | ⟨e1, e2⟩
  · have hnp := hH.1.np
    have h16 := p2s hH.1.sz
    rcases rowc hH (by omega) b with ⟨r, hr, rfl, f1, f2⟩ | ⟨f1, f2⟩
    · have hh := hp_16 hH.1 hV hj
      have eT := rowsHitByT hH.1 hH.2.1 hH.2.2.2.1 hT.1 hT.2.1 hV hj
      have eM := hitsOfM hH.1 hH.2.2.2.2.1 hM.1 hM.2.1 hV hj
      refine ⟨nI (hp sz c j / 2 ^ r % 2), ?_, ?_, Rel.query hR' hn EqT.rfl' EqM.rfl'⟩
      · simp only [D_X8_hits, e1, f1, Option.bind_some, i10, if_false, eT, hasT (show hp sz c j < 2 ^ 31 by omega) (show r < 32 by omega)]
        rcases bit01 (hp sz c j) r with h | h <;> rw [h] <;> rfl
      · simp only [D_X9_hits, e2, f2, Option.bind_some, i10, if_false, eM, bitI (show hp sz c j < 2 ^ 31 by omega) (show r < 32 by omega)]
    · refine ⟨-102, ?_, ?_, Rel.query hR' hn EqT.rfl' EqM.rfl'⟩
      · simp only [D_X8_hits, e1, f1, Option.bind_some, i10, i00, if_false, if_true]
      · simp only [D_X9_hits, e2, f2, Option.bind_some, i10, i00, if_false, if_true]
  · refine ⟨-101, ?_, ?_, Rel.query hR' hn EqT.rfl' EqM.rfl'⟩
    · simp only [D_X8_hits, e1, Option.bind_some, i00, if_true]
    · simp only [D_X9_hits, e2, Option.bind_some, i00, if_true]
def suchB (k b : Nat) : Nat := if b = 0 ∨ k = b ∨ (b = 3 ∧ k = 4) then 1 else 0
theorem such_all : ∀ k b : Fin 5, D_X8_isSuch τ0 k.val (nI b.val) = some (nI (suchB k.val b.val)) := by decide +kernel
theorem S_as_ok : S_as Rel := by
  intro n σ τ a b hR hn
  have hR' := hR
  obtain ⟨np, sz, pl, rd, pg, c, k, hH, hP, hT, hM, hV, hK⟩ := hR (by omega)
  rcases plr hH a with ⟨j, hj, rfl, e1, e2⟩ | ⟨e1, e2⟩
  · have hnp := hH.1.np
    have hk5 := (hV.1 j hj).1
    rcases kindc σ b with ⟨r, hr, rfl, f1, f2⟩ | ⟨f1, f2⟩
    · have es : D_X8_isSuch σ (kd c j) (nI r) = some (nI (suchB (kd c j) r)) := such_all ⟨kd c j, hk5⟩ ⟨r, hr⟩
      refine ⟨if suchB (kd c j) r = 1 then nI j else -1, ?_, ?_, Rel.query hR' hn EqT.rfl' EqM.rfl'⟩
      · simp only [D_X8_as, e1, f1, Option.bind_some, i10, if_false, cl (show j < 2 ^ 31 by omega), gin (show j < 4 by omega) (by omega), hT.1 j hj, kindAtT σ hk5, es]
        unfold suchB
        by_cases q : r = 0 ∨ kd c j = r ∨ (r = 3 ∧ kd c j = 4)
        · rw [if_pos q]; rfl
        · rw [if_neg q]; rfl
      · simp only [D_X9_as, e2, f2, Option.bind_some, i10, if_false, cl (show j < 2 ^ 31 by omega), gin (show j < 4 by omega) (by omega), hM.1 j hj]
        unfold suchB
        by_cases h0 : r = 0
        · subst h0
          rw [if_pos (show nI 0 = 0 from rfl), if_pos (Or.inl rfl)]; rfl
        · rw [if_neg (show ¬ nI r = 0 from nI_ne0 (by omega) (by omega))]
          by_cases h1 : kd c j = r
          · rw [if_pos (show nI (kd c j) = nI r by rw [h1]), if_pos (Or.inr (Or.inl h1))]; rfl
          · rw [if_neg (fun q => h1 ((nI_eq (by omega) (by omega)).mp q))]
            by_cases h3 : r = 3
            · subst h3
              rw [if_pos (show nI 3 = 3 from rfl)]
              by_cases h4 : kd c j = 4
              · rw [if_pos (show nI (kd c j) = 4 by rw [h4]; rfl), if_pos (Or.inr (Or.inr ⟨rfl, h4⟩))]; rfl
              · rw [if_neg (show ¬ nI (kd c j) = (4 : Int32) from fun q => h4 ((nI_eq (b := 4) (by omega) (by omega)).mp q)), if_neg (show ¬ (3 = 0 ∨ kd c j = 3 ∨ (3 = 3 ∧ kd c j = 4)) by omega)]; rfl
            · rw [if_neg (show ¬ nI r = (3 : Int32) from fun q => h3 ((nI_eq (b := 3) (by omega) (by omega)).mp q)), if_neg (show ¬ (r = 0 ∨ kd c j = r ∨ (r = 3 ∧ kd c j = 4)) by omega)]; rfl
    · refine ⟨-102, ?_, ?_, Rel.query hR' hn EqT.rfl' EqM.rfl'⟩
      · simp only [D_X8_as, e1, f1, Option.bind_some, i10, i00, if_false, if_true]
      · simp only [D_X9_as, e2, f2, Option.bind_some, i10, i00, if_false, if_true]
  · refine ⟨-101, ?_, ?_, Rel.query hR' hn EqT.rfl' EqM.rfl'⟩
    · simp only [D_X8_as, e1, Option.bind_some, i00, if_true]
    · simp only [D_X9_as, e2, Option.bind_some, i00, if_true]
