/-! The class's race. -/
theorem ifc {α : Type} {p q : Prop} [Decidable p] [Decidable q] (h : p ↔ q) {a b : α} : (if p then a else b) = if q then a else b := by
  by_cases hp : p
  · rw [if_pos hp, if_pos (h.mp hp)]
  · rw [if_neg hp, if_neg (fun hq => hp (h.mpr hq))]
def pG (σ : ST) (k : Nat) (f : Nat → Int64) : ST := (σ.1, σ.2.1, σ.2.2.1, fun j => if j = k then f else σ.2.2.2 j)
theorem pB_pG (σ : ST) (k i : Nat) (v : Int64) : pB σ k i v = pG σ k (vp_updL (gB σ k) i v) := rfl
theorem pG_pG (σ : ST) (k : Nat) (f g : Nat → Int64) : pG (pG σ k f) k g = pG σ k g := by
  unfold pG
  congr 3
  funext j
  by_cases e : j = k
  · simp only [e, if_true]
  · simp only [e, if_false]
theorem gB_pG (σ : ST) (k j : Nat) (f : Nat → Int64) : gB (pG σ k f) j = if j = k then f else gB σ j := rfl
theorem gI_pG (σ : ST) (k j : Nat) (f : Nat → Int64) : gI (pG σ k f) j = gI σ j := rfl
theorem gA_pG (σ : ST) (k j : Nat) (f : Nat → Int64) : gA (pG σ k f) j = gA σ j := rfl
theorem pG_self (σ : ST) (k : Nat) : pG σ k (gB σ k) = σ := by
  unfold pG gB
  obtain ⟨a, b, c, d⟩ := σ
  congr 3
  funext j
  by_cases e : j = k
  · simp only [e, if_true]
  · simp only [e, if_false]
theorem updL_at (f : Nat → Int64) (j : Nat) (v : Int64) : vp_updL f j v j = v := by unfold vp_updL; rw [if_pos rfl]
theorem updL_ne (f : Nat → Int64) {j p : Nat} (v : Int64) (h : p ≠ j) : vp_updL f j v p = f p := by unfold vp_updL; rw [if_neg h]
theorem updL_self (f : Nat → Int64) (j : Nat) : vp_updL f j (f j) = f := by
  funext p
  by_cases e : p = j
  · rw [e, updL_at]
  · rw [updL_ne _ _ e]
def elLn (σ : ST) (m k x1 x2 : Nat) (d : Int64) (n : Nat) : Nat → Int64 := fun j => if j < n then (gB σ x2 k * gB σ x1 j - gB σ x1 k * gB σ x2 j) / d else gB σ x1 j
theorem elimT {σ : ST} {m k x1 x2 : Nat} {d : Int64} (hm : gI σ 13 = nI m) (h6 : m ≤ 6) (h1 : x1 < 6) (h2 : x2 < 6) (hx : x1 ≠ x2) (hk : k < m) (hd : d ≠ 0) : D_X7_eliminate σ x1 x2 (nI k) d = some (pG σ x1 (elLn σ m k x1 x2 d (m + 1))) := by
  have c1 : ¬ 6 ≤ x1 := by omega
  have c2 : ¬ 6 ≤ x2 := by omega
  simp only [D_X7_eliminate, c1, c2, if_false, gin (show k < 7 by omega) (by omega), cl (show k < 2 ^ 31 by omega)]
  unfold D_X7_eliminate_L13
  have e0 : (σ, x1, x2, d, gB σ x2 k, gB σ x1 k, (0 : Int32)) = (fun i : Nat => (pG σ x1 (elLn σ m k x1 x2 d i), x1, x2, d, gB σ x2 k, gB σ x1 k, nI i)) 0 := by
    show _ = (pG σ x1 (elLn σ m k x1 x2 d 0), x1, x2, d, gB σ x2 k, gB σ x1 k, nI 0)
    rw [show elLn σ m k x1 x2 d 0 = gB σ x1 from by funext j; unfold elLn; rw [if_neg (Nat.not_lt_zero j)], pG_self]; rfl
  rw [e0]
  refine itr_f (f := fun i : Nat => (pG σ x1 (elLn σ m k x1 x2 d i), x1, x2, d, gB σ x2 k, gB σ x1 k, nI i)) (N := m + 1) (by omega) (fun i hi rec => ?_) (fun rec => ?_)
  · show D_X7_eliminate_L13_body rec (pG σ x1 (elLn σ m k x1 x2 d i)) x1 x2 d (gB σ x2 k) (gB σ x1 k) (nI i) = rec (pG σ x1 (elLn σ m k x1 x2 d (i + 1)), x1, x2, d, gB σ x2 k, gB σ x1 k, nI (i + 1))
    simp only [D_X7_eliminate_L13_body, gI_pG, hm, inlt (show i ≤ m by omega) (by omega), if_false, lcmp0, hd, c1, c2, gin (show i < 7 by omega) (by omega), cl (show i < 2 ^ 31 by omega), nI_1, gB_pG, if_true, Ne.symm hx, pB_pG, pG_pG]
    rw [show vp_updL (elLn σ m k x1 x2 d i) i ((gB σ x2 k * elLn σ m k x1 x2 d i i - gB σ x1 k * gB σ x2 i) / d) = elLn σ m k x1 x2 d (i + 1) from ?_]
    funext j
    by_cases e : j = i
    · subst e
      rw [updL_at]
      unfold elLn
      rw [if_neg (Nat.lt_irrefl j), if_pos (Nat.lt_succ_self j)]
    · rw [updL_ne _ _ e]
      unfold elLn
      by_cases q : j < i
      · rw [if_pos q, if_pos (by omega)]
      · rw [if_neg q, if_neg (by omega)]
  · show D_X7_eliminate_L13_body rec (pG σ x1 (elLn σ m k x1 x2 d (m + 1))) x1 x2 d (gB σ x2 k) (gB σ x1 k) (nI (m + 1)) = _
    simp only [D_X7_eliminate_L13_body, gI_pG, hm, ilt (show m < m + 1 by omega) (by omega), if_true]
def elS (σ : ST) (m k : Nat) (d : Int64) (i : Nat) : ST := (σ.1, σ.2.1, σ.2.2.1, fun r => if r < i ∧ r ≠ k then elLn σ m k r k d (m + 1) else gB σ r)
theorem gB_elS (σ : ST) (m k : Nat) (d : Int64) (i r : Nat) : gB (elS σ m k d i) r = if r < i ∧ r ≠ k then elLn σ m k r k d (m + 1) else gB σ r := rfl
theorem gI_elS (σ : ST) (m k : Nat) (d : Int64) (i r : Nat) : gI (elS σ m k d i) r = gI σ r := rfl
theorem elS_0 (σ : ST) (m k : Nat) (d : Int64) : elS σ m k d 0 = σ := by
  unfold elS
  obtain ⟨a, b, c, e⟩ := σ
  congr 3
theorem elS_k (σ : ST) (m k : Nat) (d : Int64) : elS σ m k d k = elS σ m k d (k + 1) := by
  unfold elS
  congr 3
  funext r
  exact ifc ⟨fun q => ⟨by omega, q.2⟩, fun q => ⟨by omega, q.2⟩⟩
theorem elS_s (σ : ST) {m k i : Nat} (d : Int64) (h : i ≠ k) : pG (elS σ m k d i) i (elLn σ m k i k d (m + 1)) = elS σ m k d (i + 1) := by
  unfold elS pG
  congr 3
  funext r
  by_cases e : r = i
  · subst e
    rw [if_pos rfl, if_pos ⟨Nat.lt_succ_self r, h⟩]
  · rw [if_neg e]
    show (if r < i ∧ r ≠ k then _ else _) = _
    exact ifc ⟨fun q => ⟨by omega, q.2⟩, fun q => ⟨by omega, q.2⟩⟩
theorem rowsT {σ : ST} {m k : Nat} {d p : Int64} {rec : (ST × Int64 × Int32) → Option (Int64 × ST)} (hm : gI σ 13 = nI m) (h6 : m ≤ 6) (hk : k < m) (hd : d ≠ 0) : D_X7_run_L55 rec σ d (nI k) p 0 = rec (elS σ m k d m, p, nI (k + 1)) := by
  unfold D_X7_run_L55
  have e0 : (σ, d, nI k, p, (0 : Int32)) = (fun i : Nat => (elS σ m k d i, d, nI k, p, nI i)) 0 := by
    show _ = (elS σ m k d 0, d, nI k, p, nI 0)
    rw [elS_0]; rfl
  rw [e0]
  refine itr_f (f := fun i : Nat => (elS σ m k d i, d, nI k, p, nI i)) (N := m) (by omega) (fun i hi rc => ?_) (fun rc => ?_)
  · show D_X7_run_L55_body rec rc (elS σ m k d i) d (nI k) p (nI i) = rc (elS σ m k d (i + 1), d, nI k, p, nI (i + 1))
    by_cases e : i = k
    · subst e
      simp only [D_X7_run_L55_body, gI_elS, hm, inle hi (by omega), if_false, if_true, D_X7_run_b92, nI_1, elS_k]
    · have el := elimT (σ := elS σ m k d i) (m := m) (k := k) (x1 := i) (x2 := k) (d := d) hm h6 (by omega) (by omega) e hk hd
      have e2 : elLn (elS σ m k d i) m k i k d (m + 1) = elLn σ m k i k d (m + 1) := by
        unfold elLn
        simp only [gB_elS, Nat.lt_irrefl, false_and, if_false, ne_eq, not_true_eq_false, and_false]
      rw [e2, elS_s σ d e] at el
      simp only [D_X7_run_L55_body, gI_elS, hm, inle hi (by omega), if_false, ieq e (by omega) (by omega), D_X7_run_b92, nI_1, gin (show i < 6 by omega) (by omega), gin (show k < 6 by omega) (by omega), cl (show i < 2 ^ 31 by omega), cl (show k < 2 ^ 31 by omega), el, Option.bind_some]
  · show D_X7_run_L55_body rec rc (elS σ m k d m) d (nI k) p (nI m) = _
    simp only [D_X7_run_L55_body, gI_elS, hm, ile (Nat.le_refl m) (by omega), if_true, nI_1]
theorem runT {m : Nat} (h6 : m ≤ 6) : ∀ (n k : Nat) (σ : ST) (d : Nat) (M M' : List (List Nat)) (d' : Nat), k + n = m → gI σ 13 = nI m → AM (gB σ) M m → SQ M m → enc d ≠ 0 → br n k d M = some (M', d') → ∀ fuel, n < fuel → ∃ σ', itr (fun (rec16 : (ST × Int64 × Int32) → Option (Int64 × ST)) (a : (ST × Int64 × Int32)) => D_X7_run_L16_body rec16 a.1 a.2.1 a.2.2) fuel (σ, enc d, nI k) = some (enc d', σ') ∧ AM (gB σ') M' m ∧ σ'.1 = σ.1 ∧ σ'.2.1 = σ.2.1 ∧ σ'.2.2.1 = σ.2.2.1 := by
  intro n
  induction n with
  | zero =>
    intro k σ d M M' d' hk hm hA hS hd hb fuel hf
    obtain ⟨fuel, rfl⟩ : ∃ q, fuel = q + 1 := ⟨fuel - 1, by omega⟩
    have hb2 : some (M, d) = some (M', d') := hb
    cases hb2
    refine ⟨σ, ?_, hA, rfl, rfl, rfl⟩
    rw [itr_s]
    show D_X7_run_L16_body _ σ (enc d) (nI k) = _
    simp only [D_X7_run_L16_body, hm, ile (show m ≤ k by omega) (by omega), if_true]
  | succ n ih =>
    intro k σ d M M' d' hk hm hA hS hd hb fuel hf
    obtain ⟨fuel, rfl⟩ : ∃ q, fuel = q + 1 := ⟨fuel - 1, by omega⟩
    have hkm : k < m := by omega
    rw [br_s] at hb
    cases hp : Nat.beq (gt (gr M k) k % 18446744073709551616) 0 with
    | true => rw [hp] at hb; cases hb
    | false =>
      rw [hp] at hb
      have hp0 : enc (gt (gr M k) k) ≠ 0 := fun q => by
        have := enc_0.mp q
        rw [this] at hp
        cases hp
      have hB : ∀ i, i < m → ∀ j, j ≤ m → gB (elS σ m k (enc d) m) i j = if i = k then gB σ i j else (gB σ k k * gB σ i j - gB σ i k * gB σ k j) / enc d := by
        intro i hi j hj
        rw [gB_elS]
        by_cases e : i = k
        · rw [if_neg (fun q => q.2 e), if_pos e]
        · rw [if_pos ⟨hi, e⟩, if_neg e]
          unfold elLn
          rw [if_pos (by omega)]
      obtain ⟨hA2, hS2⟩ := hA.stage hS hkm hB
      obtain ⟨σ', h1, h2, h3, h4, h5⟩ := ih (k + 1) (elS σ m k (enc d) m) _ _ M' d' (by omega) hm hA2 hS2 hp0 hb fuel (by omega)
      refine ⟨σ', ?_, h2, h3, h4, h5⟩
      have hpk : gB σ k k = enc (gt (gr M k) k) := hA k hkm k (by omega)
      have key : ∀ rc, D_X7_run_L16_body rc σ (enc d) (nI k) = rc (elS σ m k (enc d) m, enc (gt (gr M k) k), nI (k + 1)) := fun rc => by
        have c6 : ¬ 6 ≤ k := by omega
        have c7 : ¬ 7 ≤ k := by omega
        simp only [D_X7_run_L16_body, hm, inle hkm (by omega), if_false, nI_pos (show k < 2 ^ 31 by omega), cl (show k < 2 ^ 31 by omega), c6, c7, or_self, lcmp0, hd, hpk, hp0]
        rw [rowsT hm h6 hkm hd]
      rw [itr_s]
      exact (key _).trans h1
