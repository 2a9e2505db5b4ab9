theorem ok4a : (H4a.all fun a => H4.all fun b => okD 4 a b) = true := by decide +kernel
theorem ok4b : (H4b.all fun a => H4.all fun b => okD 4 a b) = true := by decide +kernel
theorem ok4c : (H4c.all fun a => H4.all fun b => okD 4 a b) = true := by decide +kernel
theorem ok4d : (H4d.all fun a => H4.all fun b => okD 4 a b) = true := by decide +kernel
theorem HS_16 {sz a : Nat} (h2 : 2 ≤ sz) (h4 : sz ≤ 4) (ha : a ∈ HS sz) : a < 65536 := by
  have h : ∀ s : Fin 3, (HS (s.val + 2)).all (fun a => Nat.blt a 65536) = true := by decide
  obtain ⟨s, rfl⟩ : ∃ s, sz = s + 2 := ⟨sz - 2, by omega⟩
  have := List.all_eq_true.mp (h ⟨s, by omega⟩) a ha
  exact Nat.le_of_ble_eq_true this
theorem okD_in {sz a b : Nat} (h2 : 2 ≤ sz) (h4 : sz ≤ 4) (ha : a ∈ HS sz) (hb : b ∈ HS sz) : okD sz a b = true := by
  rcases (show sz = 2 ∨ sz = 3 ∨ sz = 4 by omega) with rfl | rfl | rfl
  · exact List.all_eq_true.mp (List.all_eq_true.mp ok2 a ha) b hb
  · exact List.all_eq_true.mp (List.all_eq_true.mp ok3 a ha) b hb
  · have ha : a ∈ H4 := ha
    have hb : b ∈ H4 := hb
    rcases List.mem_append.mp ha with q | q
    · exact List.all_eq_true.mp (List.all_eq_true.mp ok4a a q) b hb
    · rcases List.mem_append.mp q with q | q
      · exact List.all_eq_true.mp (List.all_eq_true.mp ok4b a q) b hb
      · rcases List.mem_append.mp q with q | q
        · exact List.all_eq_true.mp (List.all_eq_true.mp ok4c a q) b hb
        · exact List.all_eq_true.mp (List.all_eq_true.mp ok4d a q) b hb
theorem okW_in {sz a : Nat} (h2 : 2 ≤ sz) (h4 : sz ≤ 4) (ha : a ∈ HS sz) : okW sz a = true := by
  have h := okw
  rw [Bool.and_eq_true, Bool.and_eq_true] at h
  rcases (show sz = 2 ∨ sz = 3 ∨ sz = 4 by omega) with rfl | rfl | rfl
  · exact List.all_eq_true.mp h.1.1 a ha
  · exact List.all_eq_true.mp h.1.2 a ha
  · exact List.all_eq_true.mp h.2 a ha
/-- who comes first, in millionths; how long one waits, in thousandths -/
noncomputable def dl (sz a b : Nat) : Nat := (chT sz a b).getD 0
noncomputable def wt (sz a : Nat) : Nat := (wtT sz a).getD 0
theorem or16 {a b : Nat} (ha : a < 65536) (hb : b < 65536) : a ||| b < 65536 := Nat.or_lt_two_pow (n := 16) ha hb
theorem dlT (σ : ST) {sz a b : Nat} (h2 : 2 ≤ sz) (h4 : sz ≤ 4) (ha : a ∈ HS sz) (hb : b ∈ HS sz) : ∃ σ', D_X7_chance σ (nI a) (nI b) (nI sz) = some (nI (dl sz a b), σ') ∧ EqT σ σ' := by
  obtain ⟨v, e1, -, -⟩ := okD_ok (okD_in h2 h4 ha hb)
  have h1 := HS_16 h2 h4 ha
  have h3 := or16 h1 (HS_16 h2 h4 hb)
  unfold dl
  rw [e1]
  exact chanceT (by omega) (by omega) h2 h4 e1
theorem dlM {τ : ST} {sz a b : Nat} (h : gI τ 2 = nI sz) (h2 : 2 ≤ sz) (h4 : sz ≤ 4) (ha : a ∈ HS sz) (hb : b ∈ HS sz) : ∃ f, D_X9_duelOf τ (nI a) (nI b) = some (nI (dl sz a b), pG τ 0 f) := by
  obtain ⟨v, e1, e2, -⟩ := okD_ok (okD_in h2 h4 ha hb)
  have h1 := HS_16 h2 h4 ha
  have h3 := or16 h1 (HS_16 h2 h4 hb)
  unfold dl
  rw [e1]
  exact duelM h (by omega) (by omega) h2 h4 e2
theorem dl_le {sz a b : Nat} (h2 : 2 ≤ sz) (h4 : sz ≤ 4) (ha : a ∈ HS sz) (hb : b ∈ HS sz) : dl sz a b ≤ 1000000 := by
  obtain ⟨v, e1, e2, h⟩ := okD_ok (okD_in h2 h4 ha hb)
  unfold dl
  rw [e1]
  exact h
theorem wtT' (σ : ST) {sz a : Nat} (h2 : 2 ≤ sz) (h4 : sz ≤ 4) (ha : a ∈ HS sz) : ∃ σ', D_X7_waitFor σ (nI a) (nI sz) = some (nI (wt sz a), σ') ∧ EqT σ σ' := by
  obtain ⟨v, e1, -⟩ := okW_ok (okW_in h2 h4 ha)
  have h1 := HS_16 h2 h4 ha
  unfold wt
  rw [e1]
  exact waitT (by omega) h2 h4 e1
theorem wtM' {τ : ST} {sz a : Nat} (h : gI τ 2 = nI sz) (h2 : 2 ≤ sz) (h4 : sz ≤ 4) (ha : a ∈ HS sz) : ∃ f, D_X9_waitOf τ (nI a) = some (nI (wt sz a), pG τ 0 f) := by
  obtain ⟨v, e1, e2⟩ := okW_ok (okW_in h2 h4 ha)
  have h1 := HS_16 h2 h4 ha
  unfold wt
  rw [e1]
  exact waitM h (by omega) h2 h4 e2
