/-! The reference's elimination, in one array of 72. -/
theorem N9 (r c : Nat) : (9 : Int32) * nI r + nI c = nI (9 * r + c) := by
  rw [show (9 : Int32) = nI 9 from rfl, pk_mul, nI_add]
theorem N2 (r c : Nat) : (2 : Int32) * nI r + nI c = nI (2 * r + c) := by
  rw [show (2 : Int32) = nI 2 from rfl, pk_mul, nI_add]
noncomputable def elF (A : Nat → Int64) (m k : Nat) (d : Int64) (r c : Nat) : Nat → Int64 := fun x => if (x / 9 < r ∨ (x / 9 = r ∧ x % 9 < c)) ∧ x / 9 ≠ k ∧ x % 9 ≤ m then (A (9 * k + k) * A x - A (9 * (x / 9) + k) * A (9 * k + x % 9)) / d else A x
theorem elF_0 (A : Nat → Int64) (m k : Nat) (d : Int64) : elF A m k d 0 0 = A := by
  funext x
  exact if_neg (fun q => by omega)
theorem elF_r (A : Nat → Int64) (m k : Nat) (d : Int64) (r : Nat) : elF A m k d r (m + 1) = elF A m k d (r + 1) 0 := by
  funext x
  exact ifc ⟨fun q => ⟨by omega, q.2⟩, fun q => ⟨by omega, q.2⟩⟩
theorem elF_k (A : Nat → Int64) (m k : Nat) (d : Int64) : elF A m k d k 0 = elF A m k d (k + 1) 0 := by
  funext x
  exact ifc ⟨fun q => ⟨by omega, q.2⟩, fun q => ⟨by omega, q.2⟩⟩
theorem elF_at_k (A : Nat → Int64) (m k : Nat) (d : Int64) (r c j : Nat) (hj : j < 9) : elF A m k d r c (9 * k + j) = A (9 * k + j) := if_neg (fun q => q.2.1 (by omega))
theorem elF_at (A : Nat → Int64) (m k : Nat) (d : Int64) (r c : Nat) (hc : c < 9) : elF A m k d r c (9 * r + c) = A (9 * r + c) := if_neg (fun q => by omega)
theorem elF_s (A : Nat → Int64) {m k r c : Nat} (d : Int64) (hr : r ≠ k) (hc : c ≤ m) (hm : m ≤ 8) : vp_updL (elF A m k d r c) (9 * r + c) ((A (9 * k + k) * A (9 * r + c) - A (9 * r + k) * A (9 * k + c)) / d) = elF A m k d r (c + 1) := by
  funext x
  by_cases e : x = 9 * r + c
  · subst e
    rw [updL_at]
    unfold elF
    have e1 : (9 * r + c) / 9 = r := by omega
    have e2 : (9 * r + c) % 9 = c := by omega
    rw [if_pos (by rw [e1, e2]; exact ⟨Or.inr ⟨rfl, by omega⟩, hr, hc⟩), e1, e2]
  · rw [updL_ne _ _ e]
    exact ifc ⟨fun q => ⟨by omega, q.2⟩, fun q => ⟨by omega, q.2⟩⟩
theorem unkM {τ : ST} {sz : Nat} (h : gI τ 2 = nI sz) (h2 : 2 ≤ sz) (h4 : sz ≤ 4) : D_X9_unknowns τ = some (nI (2 ^ (sz - 1))) := by
  unfold D_X9_unknowns
  rw [h, show (nI sz - 1) = nI (sz - 1) from pk_sub (b := 1) (by omega), sh1' (by omega)]
theorem m8 {sz : Nat} (h4 : sz ≤ 4) : 2 ^ (sz - 1) ≤ 8 := Nat.pow_le_pow_right (n := 2) (j := 3) (by omega) (by omega)
theorem elimM {τ : ST} {sz m k : Nat} {d : Int64} (h : gI τ 2 = nI sz) (h2 : 2 ≤ sz) (h4 : sz ≤ 4) (hm : 2 ^ (sz - 1) = m) (hk : k < m) (hd : d ≠ 0) : D_X9_eliminate τ (nI k) d = some (pG τ 0 (elF (gB τ 0) m k d m 0)) := by
  have h8 := m8 h4
  rw [hm] at h8
  unfold D_X9_eliminate
  rw [unkM h h2 h4, Option.bind_some, hm]
  have inner : ∀ (rec9 : (ST × Int32 × Int64 × Int32 × Int32) → Option ST) (r : Nat), r < m → r ≠ k → D_X9_eliminate_L33 rec9 (pG τ 0 (elF (gB τ 0) m k d r 0)) (nI k) d (nI m) (nI r) (gB τ 0 (9 * r + k)) 0 = rec9 (pG τ 0 (elF (gB τ 0) m k d (r + 1) 0), nI k, d, nI m, nI (r + 1)) := by
    intro rec9 r hr hrk
    unfold D_X9_eliminate_L33
    refine itr_f (f := fun c : Nat => (pG τ 0 (elF (gB τ 0) m k d r c), nI k, d, nI m, nI r, gB τ 0 (9 * r + k), nI c)) (N := m + 1) (by omega) (fun c hc rec => ?_) (fun rec => ?_)
    · show D_X9_eliminate_L33_body rec9 rec (pG τ 0 (elF (gB τ 0) m k d r c)) (nI k) d (nI m) (nI r) (gB τ 0 (9 * r + k)) (nI c) = rec (pG τ 0 (elF (gB τ 0) m k d r (c + 1)), nI k, d, nI m, nI r, gB τ 0 (9 * r + k), nI (c + 1))
      have q1 : ¬ 72 ≤ 9 * k + k := by omega
      have q2 : ¬ 72 ≤ 9 * r + c := by omega
      have q3 : ¬ 72 ≤ 9 * k + c := by omega
      simp only [D_X9_eliminate_L33_body, inlt (show c ≤ m by omega) (by omega), if_false, ieq hrk (by omega) (by omega), N9, nI_pos (show 9 * k + k < 2 ^ 31 by omega), nI_pos (show 9 * r + c < 2 ^ 31 by omega), nI_pos (show 9 * k + c < 2 ^ 31 by omega), cl (show 9 * k + k < 2 ^ 31 by omega), cl (show 9 * r + c < 2 ^ 31 by omega), cl (show 9 * k + c < 2 ^ 31 by omega), q1, q2, q3, or_self, hd, nI_1, pB_pG, gB_pG, if_true, pG_pG, elF_at_k _ _ _ _ _ _ k (show k < 9 by omega), elF_at_k _ _ _ _ _ _ c (show c < 9 by omega), elF_at _ _ _ _ _ _ (show c < 9 by omega), elF_s (gB τ 0) d hrk (show c ≤ m by omega) h8]
    · show D_X9_eliminate_L33_body rec9 rec (pG τ 0 (elF (gB τ 0) m k d r (m + 1))) (nI k) d (nI m) (nI r) (gB τ 0 (9 * r + k)) (nI (m + 1)) = _
      simp only [D_X9_eliminate_L33_body, ilt (show m < m + 1 by omega) (by omega), if_true, D_X9_eliminate_b108, nI_1, elF_r]
  unfold D_X9_eliminate_L9
  have e0 : (τ, nI k, d, nI m, (0 : Int32)) = (fun r : Nat => (pG τ 0 (elF (gB τ 0) m k d r 0), nI k, d, nI m, nI r)) 0 := by
    show _ = (pG τ 0 (elF (gB τ 0) m k d 0 0), nI k, d, nI m, nI 0)
    rw [elF_0, pG_self]; rfl
  rw [e0]
  refine itr_f (f := fun r : Nat => (pG τ 0 (elF (gB τ 0) m k d r 0), nI k, d, nI m, nI r)) (N := m) (by omega) (fun r hr rec => ?_) (fun rec => ?_)
  · show D_X9_eliminate_L9_body rec (pG τ 0 (elF (gB τ 0) m k d r 0)) (nI k) d (nI m) (nI r) = rec (pG τ 0 (elF (gB τ 0) m k d (r + 1) 0), nI k, d, nI m, nI (r + 1))
    have q1 : ¬ 72 ≤ 9 * r + k := by omega
    simp only [D_X9_eliminate_L9_body, inle hr (by omega), if_false, N9, nI_pos (show 9 * r + k < 2 ^ 31 by omega), cl (show 9 * r + k < 2 ^ 31 by omega), q1, or_self]
    by_cases e : r = k
    · subst e
      unfold D_X9_eliminate_L33
      rw [show (200 : Nat) = 199 + 1 from rfl, itr_s]
      generalize itr _ 199 = rc
      show D_X9_eliminate_L33_body rec rc _ _ _ _ _ _ _ = _
      have z : (nI m < 0) = False := eq_false (nI_pos (by omega))
      simp only [D_X9_eliminate_L33_body, z, if_false, if_true, D_X9_eliminate_b108, nI_1, elF_k]
    · rw [gB_pG, if_pos rfl, show elF (gB τ 0) m k d r 0 (9 * r + k) = gB τ 0 (9 * r + k) from if_neg (fun q => by omega)]
      exact inner rec r hr e
  · show D_X9_eliminate_L9_body rec (pG τ 0 (elF (gB τ 0) m k d m 0)) (nI k) d (nI m) (nI m) = _
    simp only [D_X9_eliminate_L9_body, ile (Nat.le_refl m) (by omega), if_true]
theorem exchM {τ : ST} {k : Nat} (hk : k < 8) : D_X9_exchange τ (nI k) (nI k) = some τ := by
  unfold D_X9_exchange D_X9_exchange_L2
  refine itr_f (f := fun c : Nat => (τ, nI k, nI k, nI c)) (N := 9) (by omega) (fun c hc rec => ?_) (fun rec => ?_)
  · show D_X9_exchange_L2_body rec τ (nI k) (nI k) (nI c) = rec (τ, nI k, nI k, nI (c + 1))
    have q2 : ¬ 72 ≤ 9 * k + c := by omega
    simp only [D_X9_exchange_L2_body, show (9 : Int32) ≤ nI c ↔ nI 9 ≤ nI c from Iff.rfl, inle hc (by omega), if_false, N9, nI_pos (show 9 * k + c < 2 ^ 31 by omega), cl (show 9 * k + c < 2 ^ 31 by omega), q2, or_self, nI_1, pB_pG, updL_self, pG_self]
  · show D_X9_exchange_L2_body rec τ (nI k) (nI k) (nI 9) = _
    simp only [D_X9_exchange_L2_body, show ((9 : Int32) ≤ nI 9) = True from eq_true (by decide), if_true]
theorem solveM {sz m : Nat} (h2 : 2 ≤ sz) (h4 : sz ≤ 4) (hm : 2 ^ (sz - 1) = m) : ∀ (n k : Nat) (τ : ST) (d : Nat) (M M' : List (List Nat)) (d' : Nat), k + n = m → gI τ 2 = nI sz → AM (fun i j => gB τ 0 (9 * i + j)) M m → SQ M m → enc d ≠ 0 → br n k d M = some (M', d') → ∀ fuel, n < fuel → ∃ f, itr (fun (rec10 : (ST × Int32 × Int64 × Int32) → Option ST) (a : (ST × Int32 × Int64 × Int32)) => D_X9_solve_L10_body rec10 a.1 a.2.1 a.2.2.1 a.2.2.2) fuel (τ, nI m, enc d, nI k) = some (pG τ 0 f) ∧ AM (fun i j => f (9 * i + j)) M' m := by
  have h8 := m8 h4
  rw [hm] at h8
  intro n
  induction n with
  | zero =>
    intro k τ d M M' d' hk hz hA hS hd hb fuel hf
    obtain ⟨fuel, rfl⟩ : ∃ q, fuel = q + 1 := ⟨fuel - 1, by omega⟩
    have hb2 : some (M, d) = some (M', d') := hb
    cases hb2
    refine ⟨gB τ 0, ?_, hA⟩
    rw [itr_s, pG_self]
    have key : ∀ rc, D_X9_solve_L10_body rc τ (nI m) (enc d) (nI k) = some τ := fun rc => by
      simp only [D_X9_solve_L10_body, ile (show m ≤ k by omega) (by omega), if_true]
    exact key _
  | succ n ih =>
    intro k τ d M M' d' hk hz hA hS hd hb fuel hf
    obtain ⟨fuel, rfl⟩ : ∃ q, fuel = q + 1 := ⟨fuel - 1, by omega⟩
    have hkm : k < m := by omega
    rw [br_s] at hb
    cases hp : Nat.beq (gt (gr M k) k % 18446744073709551616) 0 with
    | true => rw [hp] at hb; cases hb
    | false =>
      rw [hp] at hb
      have hp0 : enc (gt (gr M k) k) ≠ 0 := fun q => beq_f hp (enc_0.mp q)
      have hpk : gB τ 0 (9 * k + k) = enc (gt (gr M k) k) := hA k hkm k (by omega)
      have hB : ∀ i, i < m → ∀ j, j ≤ m → (fun i j => elF (gB τ 0) m k (enc d) m 0 (9 * i + j)) i j = if i = k then (fun i j => gB τ 0 (9 * i + j)) i j else ((fun i j => gB τ 0 (9 * i + j)) k k * (fun i j => gB τ 0 (9 * i + j)) i j - (fun i j => gB τ 0 (9 * i + j)) i k * (fun i j => gB τ 0 (9 * i + j)) k j) / enc d := by
        intro i hi j hj
        show elF (gB τ 0) m k (enc d) m 0 (9 * i + j) = if i = k then gB τ 0 (9 * i + j) else (gB τ 0 (9 * k + k) * gB τ 0 (9 * i + j) - gB τ 0 (9 * i + k) * gB τ 0 (9 * k + j)) / enc d
        have e1 : (9 * i + j) / 9 = i := by omega
        have e2 : (9 * i + j) % 9 = j := by omega
        unfold elF
        rw [e1, e2]
        by_cases e : i = k
        · rw [if_neg (fun q => q.2.1 e), if_pos e]
        · rw [if_pos ⟨Or.inl hi, e, hj⟩, if_neg e]
      obtain ⟨hA2, hS2⟩ := hA.stage hS hkm hB
      obtain ⟨f, h1, h3⟩ := ih (k + 1) (pG τ 0 (elF (gB τ 0) m k (enc d) m 0)) _ _ M' d' (by omega) hz hA2 hS2 hp0 hb fuel (by omega)
      rw [pG_pG] at h1
      refine ⟨f, ?_, h3⟩
      have key : ∀ rc, D_X9_solve_L10_body rc τ (nI m) (enc d) (nI k) = rc (pG τ 0 (elF (gB τ 0) m k (enc d) m 0), nI m, enc (gt (gr M k) k), nI (k + 1)) := fun rc => by
        have q1 : ¬ 72 ≤ 9 * k + k := by omega
        simp only [D_X9_solve_L10_body, inle hkm (by omega), if_false]
        unfold D_X9_solve_L20
        rw [show (200 : Nat) = 199 + 1 from rfl, itr_s]
        generalize itr _ 199 = rc2
        show D_X9_solve_L20_body rc rc2 τ (nI m) (enc d) (nI k) (nI k) = _
        simp only [D_X9_solve_L20_body, N9, nI_pos (show 9 * k + k < 2 ^ 31 by omega), cl (show 9 * k + k < 2 ^ 31 by omega), q1, or_self, if_false, hpk, lcmp0, hp0, exchM (show k < 8 by omega), Option.bind_some, elimM hz h2 h4 hm hkm hd, gB_pG, if_true, elF_at_k _ _ _ _ _ _ k (show k < 9 by omega), nI_1]
      rw [itr_s]
      exact (key _).trans h1
