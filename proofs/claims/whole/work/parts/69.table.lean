/-! table. -/
/-- a row out of letters -/
def rwv (pg : Nat → Nat) (b : Nat) : Nat → Nat
  | 0 => 0
  | i + 1 => 2 * rwv pg b i + (if pg (b + i) = 116 then 1 else 0)
theorem rwv_s (pg : Nat → Nat) (b i : Nat) : rwv pg b (i + 1) = 2 * rwv pg b i + (if pg (b + i) = 116 then 1 else 0) := rfl
theorem rwv_lt (pg : Nat → Nat) (b : Nat) : ∀ i, rwv pg b i < 2 ^ i
  | 0 => show 0 < 1 by omega
  | i + 1 => by
    have h := rwv_lt pg b i
    rw [rwv_s, Nat.pow_succ]
    by_cases e : pg (b + i) = 116
    · rw [if_pos e]; omega
    · rw [if_neg e]; omega
theorem WH_pot {pl s j : Nat} {τ : ST} (hj : j ≤ pl) (h : WH pl s j τ) : (pot pl s j = 0 ∧ gI τ 8 = 0) ∨ (gI τ 8 = 1 ∧ gI τ 9 = nI s ∧ s ≠ 0 ∧ j = pl ∧ ∃ M, pot pl s j = M ∧ 2 ≤ M ∧ M ≤ 4 ∧ pl = M * (s + 2) + 1 ∧ gI τ 10 = nI M) := by
  rcases h with ⟨h8, h9, s0, hjp, M, m2, m4, hM, h10⟩ | ⟨h8, h⟩
  · refine Or.inr ⟨h8, h9, s0, hjp, M, ?_, m2, m4, hM, h10⟩
    unfold pot
    rw [if_neg (by omega), show pl - 1 = M * (s + 2) by omega, Nat.mul_mod_left, Nat.mul_div_cancel _ (by omega), if_pos ⟨rfl, m2⟩]
  · refine Or.inl ⟨?_, h8⟩
    unfold pot
    by_cases q : s = 0 ∨ j < pl
    · rw [if_pos q]
    · rw [if_neg q]
      by_cases q2 : (pl - 1) % (s + 2) = 0 ∧ 2 ≤ (pl - 1) / (s + 2)
      · rcases h with h | h
        · omega
        · refine absurd ⟨by omega, (pl - 1) / (s + 2), q2.2, ?_⟩ h
          have d := Nat.div_add_mod (pl - 1) (s + 2)
          have hle : (pl - 1) / (s + 2) ≤ pl - 1 := Nat.div_le_self _ _
          rw [Nat.mul_comm] at d
          omega
      · rw [if_neg q2]
theorem placeT {pl p : Nat} {pg : Nat → Nat} {σ : ST} (hV : PGV pl pg) (h : PGT pl pg σ) : D_X5_placeOf σ (nI p) = some (nI (2 + p * (szp pl pg + 2))) := by
  unfold D_X5_placeOf
  rw [stepT hV h, Option.bind_some, pk_mul, L2, nI_add]
theorem kindT {pl p : Nat} {pg : Nat → Nat} {σ : ST} (hV : PGV pl pg) (h : PGT pl pg σ) (hp : 2 + p * (szp pl pg + 2) < pl) (hk : kdx (pg (2 + p * (szp pl pg + 2))) < 5) : D_X5_kindOf σ (nI p) = some (nI (kdx (pg (2 + p * (szp pl pg + 2))))) := by
  unfold D_X5_kindOf
  rw [placeT hV h, Option.bind_some, atT hV h hp, Option.bind_some, ixT (hV.2 _ hp), Option.bind_some, if_pos hk, if_neg (nI_pos (by omega))]
theorem rowT {pl p : Nat} {pg : Nat → Nat} {σ : ST} (hV : PGV pl pg) (h : PGT pl pg σ) (hp : 2 + p * (szp pl pg + 2) + szp pl pg < pl) : D_X5_rowOf σ (nI p) = some (nI (rwv pg (3 + p * (szp pl pg + 2)) (szp pl pg))) := by
  have h28 := hV.1
  have es := sizeT hV h
  have ep := placeT (p := p) hV h
  have hs4 := szp_ok pl pg
  generalize szp pl pg = s at *
  generalize hb : p * (s + 2) = b at *
  unfold D_X5_rowOf D_X5_rowOf_L4
  refine itr_f (f := fun i => (nI p, nI (rwv pg (3 + b) i), nI (i + 1))) (N := s) (by omega) (fun i hi rec => ?_) (fun rec => ?_)
  · show D_X5_rowOf_L4_body rec σ (nI p) (nI (rwv pg (3 + b) i)) (nI (i + 1)) = rec (nI p, nI (rwv pg (3 + b) (i + 1)), nI (i + 1 + 1))
    have ea := atT hV h (k := 2 + b + (i + 1)) (by omega)
    rw [show 2 + b + (i + 1) = 3 + b + i by omega] at ea
    simp only [D_X5_rowOf_L4_body, es, Option.bind_some, inlt (show i + 1 ≤ s by omega) (show s < 2 ^ 31 by omega), if_false, ep, nI_add, show 2 + b + (i + 1) = 3 + b + i by omega, ea, D_X5_rowOf_b36, nI_1, L2, pk_mul]
    rw [rwv_s]
    by_cases e : pg (3 + b + i) = 116
    · rw [if_pos e, if_pos (show nI (pg (3 + b + i)) = (116 : Int32) by rw [e]; rfl)]
    · have hx := hV.2 (3 + b + i) (by omega)
      rw [if_neg e, if_neg (show ¬ nI (pg (3 + b + i)) = (116 : Int32) from fun w => e ((nI_eq (b := 116) (by omega) (by omega)).mp w)), Int32.add_zero]
      rfl
  · show D_X5_rowOf_L4_body rec σ (nI p) (nI (rwv pg (3 + b) s)) (nI (s + 1)) = _
    simp only [D_X5_rowOf_L4_body, es, Option.bind_some, ilt (show s < s + 1 by omega) (show s + 1 < 2 ^ 31 by omega), if_true]
theorem rowAtM {pl s b : Nat} {pg : Nat → Nat} {τ : ST} (hV : PGV pl pg) (h : PGM pl pg τ) (h2 : gI τ 2 = nI s) (s4 : s ≤ 4) (hp : b + s ≤ pl) : D_X9_rowAt τ (nI b) = some (nI (rwv pg b s)) := by
  have h28 := hV.1
  unfold D_X9_rowAt D_X9_rowAt_L4
  refine itr_f (f := fun i => (nI b, nI (rwv pg b i), nI i)) (N := s) (by omega) (fun i hi rec => ?_) (fun rec => ?_)
  · show D_X9_rowAt_L4_body rec τ (nI b) (nI (rwv pg b i)) (nI i) = rec (nI b, nI (rwv pg b (i + 1)), nI (i + 1))
    simp only [D_X9_rowAt_L4_body, h2, inle hi (show s < 2 ^ 31 by omega), if_false, nI_add, gin (show b + i < 28 by omega) (by omega), cl (show b + i < 2 ^ 31 by omega), h.2 (b + i) (by omega), D_X9_rowAt_b33, nI_1, L2, pk_mul]
    rw [rwv_s]
    by_cases e : pg (b + i) = 116
    · rw [if_pos e, if_pos (show nI (pg (b + i)) = (116 : Int32) by rw [e]; rfl)]
    · have hx := hV.2 (b + i) (by omega)
      rw [if_neg e, if_neg (show ¬ nI (pg (b + i)) = (116 : Int32) from fun w => e ((nI_eq (b := 116) (by omega) (by omega)).mp w)), Int32.add_zero]
      rfl
  · show D_X9_rowAt_L4_body rec τ (nI b) (nI (rwv pg b s)) (nI s) = _
    simp only [D_X9_rowAt_L4_body, h2, ile (Nat.le_refl s) (show s < 2 ^ 31 by omega), if_true]
theorem fill6 (σ : ST) : D_J7_fill_53178_6 σ 0 = some (lp (zr 3) 4 σ) := by
  unfold D_J7_fill_53178_6 D_J7_fill_53178_6_L5
  refine itr_f (f := fun i => (lp (zr 3) i σ, (0 : Int32), nI i, (4 : Int32))) (N := 4) (by omega) (fun i hi rec => ?_) (fun rec => ?_)
  · show D_J7_fill_53178_6_L5_body rec (lp (zr 3) i σ) 0 (nI i) 4 = rec (lp (zr 3) (i + 1) σ, 0, nI (i + 1), 4)
    simp only [D_J7_fill_53178_6_L5_body, L4, inle hi (by omega), if_false, cl (show i < 2 ^ 31 by omega), gin hi (by omega), nI_1, lp_s, zr]
  · show D_J7_fill_53178_6_L5_body rec (lp (zr 3) 4 σ) 0 (nI 4) 4 = _
    simp only [D_J7_fill_53178_6_L5_body, L4, ile (Nat.le_refl 4) (by omega), if_true]
noncomputable def nk (K R : Nat → Nat) (i : Nat) (t : ST) : ST := pA (pA t 1 i (nI (K i))) 2 i (nI (R i))
theorem nk_ok (K R : Nat → Nat) (N : Nat) (t : ST) : (∀ k, gI (lp (nk K R) N t) k = gI t k) ∧ (∀ k, k ≠ 1 → k ≠ 2 → gA (lp (nk K R) N t) k = gA t k) ∧ (∀ x, x < N → gA (lp (nk K R) N t) 1 x = nI (K x)) ∧ (∀ x, x < N → gA (lp (nk K R) N t) 2 x = nI (R x)) := lp_ind (P := fun i u => (∀ k, gI u k = gI t k) ∧ (∀ k, k ≠ 1 → k ≠ 2 → gA u k = gA t k) ∧ (∀ x, x < i → gA u 1 x = nI (K x)) ∧ (∀ x, x < i → gA u 2 x = nI (R x))) ⟨fun _ => rfl, fun _ _ _ => rfl, fun x hx => absurd hx (Nat.not_lt_zero x), fun x hx => absurd hx (Nat.not_lt_zero x)⟩ (fun i hi u hu => by
  obtain ⟨a1, a2, a3, a4⟩ := hu
  refine ⟨a1, fun k k1 k2 => ?_, fun x hx => ?_, fun x hx => ?_⟩
  · show gA (pA (pA u 1 i _) 2 i _) k = _
    rw [gA_pA, if_neg k2, gA_pA, if_neg k1]; exact a2 k k1 k2
  · show gA (pA (pA u 1 i _) 2 i _) 1 x = _
    rw [gA_pA, if_neg (by decide), gA_pA, if_pos rfl]
    by_cases e : x = i
    · rw [e, upd_at]
    · rw [upd_ne _ _ e]; exact a3 x (by omega)
  · show gA (pA (pA u 1 i _) 2 i _) 2 x = _
    rw [gA_pA, if_pos rfl, gA_pA, if_neg (by decide)]
    by_cases e : x = i
    · rw [e, upd_at]
    · rw [upd_ne _ _ e]; exact a4 x (by omega))
noncomputable def nm (K R : Nat → Nat) (i : Nat) (t : ST) : ST := pA (pA (pA t 0 i (nI (K i))) 1 i (nI (R i))) 2 i 0
theorem nm_ok (K R : Nat → Nat) (N : Nat) (t : ST) : (∀ k, gI (lp (nm K R) N t) k = gI t k) ∧ (∀ k, 2 < k → gA (lp (nm K R) N t) k = gA t k) ∧ (∀ x, x < N → gA (lp (nm K R) N t) 0 x = nI (K x)) ∧ (∀ x, x < N → gA (lp (nm K R) N t) 1 x = nI (R x)) ∧ (∀ x, x < N → gA (lp (nm K R) N t) 2 x = 0) := lp_ind (P := fun i u => (∀ k, gI u k = gI t k) ∧ (∀ k, 2 < k → gA u k = gA t k) ∧ (∀ x, x < i → gA u 0 x = nI (K x)) ∧ (∀ x, x < i → gA u 1 x = nI (R x)) ∧ (∀ x, x < i → gA u 2 x = 0)) ⟨fun _ => rfl, fun _ _ => rfl, fun x hx => absurd hx (Nat.not_lt_zero x), fun x hx => absurd hx (Nat.not_lt_zero x), fun x hx => absurd hx (Nat.not_lt_zero x)⟩ (fun i hi u hu => by
  obtain ⟨a1, a2, a3, a4, a5⟩ := hu
  refine ⟨a1, fun k k2 => ?_, fun x hx => ?_, fun x hx => ?_, fun x hx => ?_⟩
  · show gA (pA (pA (pA u 0 i _) 1 i _) 2 i _) k = _
    rw [gA_pA, if_neg (by omega), gA_pA, if_neg (by omega), gA_pA, if_neg (by omega)]; exact a2 k k2
  · show gA (pA (pA (pA u 0 i _) 1 i _) 2 i _) 0 x = _
    rw [gA_pA, if_neg (by decide), gA_pA, if_neg (by decide), gA_pA, if_pos rfl]
    by_cases e : x = i
    · rw [e, upd_at]
    · rw [upd_ne _ _ e]; exact a3 x (by omega)
  · show gA (pA (pA (pA u 0 i _) 1 i _) 2 i _) 1 x = _
    rw [gA_pA, if_neg (by decide), gA_pA, if_pos rfl, gA_pA, if_neg (by decide)]
    by_cases e : x = i
    · rw [e, upd_at]
    · rw [upd_ne _ _ e]; exact a4 x (by omega)
  · show gA (pA (pA (pA u 0 i _) 1 i _) 2 i _) 2 x = _
    rw [gA_pA, if_pos rfl, gA_pA, if_neg (by decide), gA_pA, if_neg (by decide)]
    by_cases e : x = i
    · rw [e, upd_at]
    · rw [upd_ne _ _ e]; exact a5 x (by omega))
theorem tableT {pl s M : Nat} {pg : Nat → Nat} {σ : ST} (hV : PGV pl pg) (h : PGT pl pg σ) (hs : szp pl pg = s) (s2 : 2 ≤ s) (s4 : s ≤ 4) (m2 : 2 ≤ M) (m4 : M ≤ 4) (hM : pl = M * (s + 2) + 1) (hK : ∀ p, p < M → kdx (pg (2 + p * (s + 2))) < 5) (ep : D_X5_playersOfTable σ = some (nI M)) : ∃ σ', D_X8_table σ = some (nI M, σ') ∧ gI σ' 0 = 0 ∧ gI σ' 1 = nI M ∧ gI σ' 2 = nI s ∧ gI σ' 3 = gI σ 3 + 1 ∧ gI σ' 4 = 0 ∧ gI σ' 5 = 0 ∧ gI σ' 6 = 0 ∧ gI σ' 7 = 0 ∧ gI σ' 8 = 1 ∧ (∀ p, p < M → gA σ' 1 p = nI (kdx (pg (2 + p * (s + 2))))) ∧ (∀ p, p < M → gA σ' 2 p = nI (rwv pg (3 + p * (s + 2)) s)) ∧ (∀ p, p < 4 → gA σ' 3 p = 0) := by
  have h28 := hV.1
  have hin : ∀ p, p < M → 2 + p * (s + 2) + s < pl := fun p hp => by
    rcases (show s = 2 ∨ s = 3 ∨ s = 4 by omega) with rfl | rfl | rfl <;> omega
  obtain ⟨K, hKe⟩ : ∃ K : Nat → Nat, K = fun p => kdx (pg (2 + p * (s + 2))) := ⟨_, rfl⟩
  obtain ⟨R, hRe⟩ : ∃ R : Nat → Nat, R = fun p => rwv pg (3 + p * (s + 2)) s := ⟨_, rfl⟩
  obtain ⟨σ2, hσ2⟩ : ∃ σ2, σ2 = pI (pI (pI (pI (lp (zr 3) 4 (pI (pI σ 1 (nI M)) 2 (nI s))) 5 0) 6 0) 7 0) 8 1 := ⟨_, rfl⟩
  have sI : ∀ k, gI σ2 k = if k = 8 then 1 else if k = 7 then 0 else if k = 6 then 0 else if k = 5 then 0 else if k = 2 then nI s else if k = 1 then nI M else gI σ k := fun k => by
    rw [hσ2, gI_pI, gI_pI, gI_pI, gI_pI, zr_I, gI_pI, gI_pI]
  have sA : ∀ k, k ≠ 3 → gA σ2 k = gA σ k := fun k hk => by
    rw [hσ2, gA_pI, gA_pI, gA_pI, gA_pI, zr_A _ _ _ _ hk, gA_pI, gA_pI]
  have sZ : ∀ p, p < 4 → gA σ2 3 p = 0 := fun p hp => by
    rw [hσ2, gA_pI, gA_pI, gA_pI, gA_pI]; exact zr_Z 3 4 _ p hp
  have e1 : D_X8_table σ = D_X8_table_L40 σ2 0 := by
    have hP1 : PGT pl pg (pI σ 1 (nI M)) := h
    unfold D_X8_table
    rw [ep, Option.bind_some, if_neg (nI_ne0 (by omega) (by omega)), sizeT hV hP1, Option.bind_some, hs]
    unfold D_X1_clear
    rw [fill6, Option.bind_some]
    unfold D_X1_beginGame
    rw [Option.bind_some, Option.bind_some, hσ2]
  obtain ⟨n1, n2, n3, n4⟩ := nk_ok K R M σ2
  have e2 : D_X8_table_L40 σ2 0 = D_X8_table_b93 (lp (nk K R) M σ2) := by
    unfold D_X8_table_L40
    refine itr_f (f := fun i => (lp (nk K R) i σ2, nI i)) (N := M) (by omega) (fun i hi rec => ?_) (fun rec => ?_)
    · show D_X8_table_L40_body rec (lp (nk K R) i σ2) (nI i) = rec (lp (nk K R) (i + 1) σ2, nI (i + 1))
      obtain ⟨o1, o2, o3, o4⟩ := nk_ok K R i σ2
      have hPi : PGT pl pg (lp (nk K R) i σ2) := ⟨by rw [o1, sI]; exact h.1, fun j hj => by rw [o2 0 (by decide) (by decide), sA 0 (by decide)]; exact h.2 j hj⟩
      have hPj : ∀ v, PGT pl pg (pA (lp (nk K R) i σ2) 1 i v) := fun v => ⟨hPi.1, fun j hj => by rw [gA_pA, if_neg (by decide)]; exact hPi.2 j hj⟩
      have ek : D_X5_kindOf (lp (nk K R) i σ2) (nI i) = some (nI (K i)) := by
        have := kindT (p := i) hV hPi (by rw [hs]; have := hin i hi; omega) (by rw [hs]; exact hK i hi)
        rw [hs] at this
        rw [show K i = kdx (pg (2 + i * (s + 2))) by rw [hKe]]; exact this
      have er : ∀ v, D_X5_rowOf (pA (lp (nk K R) i σ2) 1 i v) (nI i) = some (nI (R i)) := fun v => by
        have := rowT (p := i) hV (hPj v) (by rw [hs]; exact hin i hi)
        rw [hs] at this
        rw [show R i = rwv pg (3 + i * (s + 2)) s by rw [hRe]]; exact this
      have c1 : gI (lp (nk K R) i σ2) 1 = nI M := by rw [o1, sI]; rfl
      simp only [D_X8_table_L40_body, c1, inle hi (show M < 2 ^ 31 by omega), if_false, L4, inle (show i < 4 by omega) (by omega), ek, Option.bind_some, gin (show i < 4 by omega) (by omega), cl (show i < 2 ^ 31 by omega), er, nI_1, lp_s, nk]
    · show D_X8_table_L40_body rec (lp (nk K R) M σ2) (nI M) = _
      have c1 : gI (lp (nk K R) M σ2) 1 = nI M := by rw [n1, sI]; rfl
      simp only [D_X8_table_L40_body, c1, ile (Nat.le_refl M) (show M < 2 ^ 31 by omega), if_true]
  obtain ⟨σ3, hσ3⟩ : ∃ σ3, σ3 = lp (nk K R) M σ2 := ⟨_, rfl⟩
  rw [← hσ3] at n1 n2 n3 n4 e2
  refine ⟨pI (pI (pI σ3 4 0) 0 0) 3 (gI σ 3 + 1), ?_, rfl, ?_, ?_, rfl, rfl, ?_, ?_, ?_, ?_, fun p hp => ?_, fun p hp => ?_, fun p hp => ?_⟩
  · rw [e1, e2]
    unfold D_X8_table_b93 D_X5_clear
    rw [Option.bind_some]
    have c3 : gI (pI (pI σ3 4 0) 0 0) 3 = gI σ 3 := by rw [gI_pI, gI_pI, n1, sI]; rfl
    have c1 : gI (pI (pI (pI σ3 4 0) 0 0) 3 (gI σ 3 + 1)) 1 = nI M := by rw [gI_pI, gI_pI, gI_pI, n1, sI]; rfl
    rw [c3, c1]
  · rw [gI_pI, gI_pI, gI_pI, n1, sI]; rfl
  · rw [gI_pI, gI_pI, gI_pI, n1, sI]; rfl
  · rw [gI_pI, gI_pI, gI_pI, n1, sI]; rfl
  · rw [gI_pI, gI_pI, gI_pI, n1, sI]; rfl
  · rw [gI_pI, gI_pI, gI_pI, n1, sI]; rfl
  · rw [gI_pI, gI_pI, gI_pI, n1, sI]; rfl
  · rw [gA_pI, gA_pI, gA_pI, n3 p hp, hKe]
  · rw [gA_pI, gA_pI, gA_pI, n4 p hp, hRe]
  · rw [gA_pI, gA_pI, gA_pI, n2 3 (by decide) (by decide)]; exact sZ p hp
theorem tableM {pl s M : Nat} {pg : Nat → Nat} {τ τ' : ST} {j : Int32} (hV : PGV pl pg) (h : PGM pl pg τ') (s2 : 2 ≤ s) (s4 : s ≤ 4) (m2 : 2 ≤ M) (m4 : M ≤ 4) (hM : pl = M * (s + 2) + 1) (hK : ∀ p, p < M → kdx (pg (2 + p * (s + 2))) < 5) (ep : D_X9_read τ = some (j, τ')) (h8 : gI τ' 8 = 1) (h9 : gI τ' 9 = nI s) (h10 : gI τ' 10 = nI M) : ∃ τ'', D_X9_table τ = some (nI M, τ'') ∧ gI τ'' 0 = gI τ' 0 + 1 ∧ gI τ'' 1 = nI M ∧ gI τ'' 2 = nI s ∧ gI τ'' 3 = 0 ∧ gI τ'' 4 = 0 ∧ gI τ'' 5 = 0 ∧ gI τ'' 6 = 0 ∧ gI τ'' 7 = 0 ∧ gI τ'' 11 = gI τ' 11 ∧ gI τ'' 12 = gI τ' 12 ∧ (∀ p, p < M → gA τ'' 0 p = nI (kdx (pg (2 + p * (s + 2))))) ∧ (∀ p, p < M → gA τ'' 1 p = nI (rwv pg (3 + p * (s + 2)) s)) ∧ (∀ p, p < M → gA τ'' 2 p = 0) := by
  have h28 := hV.1
  have hin : ∀ p, p < M → 2 + p * (s + 2) + s < pl := fun p hp => by
    rcases (show s = 2 ∨ s = 3 ∨ s = 4 by omega) with rfl | rfl | rfl <;> omega
  obtain ⟨K, hKe⟩ : ∃ K : Nat → Nat, K = fun p => kdx (pg (2 + p * (s + 2))) := ⟨_, rfl⟩
  obtain ⟨R, hRe⟩ : ∃ R : Nat → Nat, R = fun p => rwv pg (3 + p * (s + 2)) s := ⟨_, rfl⟩
  obtain ⟨τ2, hτ2⟩ : ∃ τ2, τ2 = pI (pI τ' 2 (nI s)) 1 (nI M) := ⟨_, rfl⟩
  have sI : ∀ k, gI τ2 k = if k = 1 then nI M else if k = 2 then nI s else gI τ' k := fun k => by
    rw [hτ2, gI_pI, gI_pI]
  have sA : ∀ k, gA τ2 k = gA τ' k := fun k => by rw [hτ2]; rfl
  have e1 : D_X9_table τ = D_X9_table_L33 τ2 0 := by
    unfold D_X9_table
    rw [ep, Option.bind_some]
    show (if gI τ' 8 = 0 then _ else D_X9_table_L33 (pI (pI τ' 2 (gI τ' 9)) 1 (gI (pI τ' 2 (gI τ' 9)) 10)) 0) = _
    rw [h8, if_neg (by decide), gI_pI, if_neg (by decide), h9, h10, hτ2]
  obtain ⟨n1, n2, n3, n4, n5⟩ := nm_ok K R M τ2
  obtain ⟨τ3, hτ3⟩ : ∃ τ3, τ3 = lp (nm K R) M τ2 := ⟨_, rfl⟩
  have e2 : D_X9_table_L33 τ2 0 = some (nI M, pI (pI (pI (pI (pI (pI τ3 3 0) 4 0) 5 0) 0 (gI τ' 0 + 1)) 6 0) 7 0) := by
    unfold D_X9_table_L33
    refine itr_f (f := fun i => (lp (nm K R) i τ2, nI i)) (N := M) (by omega) (fun i hi rec => ?_) (fun rec => ?_)
    · show D_X9_table_L33_body rec (lp (nm K R) i τ2) (nI i) = rec (lp (nm K R) (i + 1) τ2, nI (i + 1))
      obtain ⟨o1, o2, o3, o4, o5⟩ := nm_ok K R i τ2
      have hii := hin i hi
      have c1 : gI (lp (nm K R) i τ2) 1 = nI M := by rw [o1, sI]; rfl
      have c2 : gI (lp (nm K R) i τ2) 2 = nI s := by rw [o1, sI]; rfl
      have hPi : PGM pl pg (lp (nm K R) i τ2) := ⟨by rw [o1, sI]; exact h.1, fun j hj => by rw [o2 6 (by decide), sA 6]; exact h.2 j hj⟩
      have hPj : ∀ v, PGM pl pg (pA (lp (nm K R) i τ2) 0 i v) := fun v => ⟨hPi.1, fun j hj => by rw [gA_pA, if_neg (by decide)]; exact hPi.2 j hj⟩
      have er : ∀ v, D_X9_rowAt (pA (lp (nm K R) i τ2) 0 i v) (nI (2 + i * (s + 2) + 1)) = some (nI (R i)) := fun v => by
        rw [rowAtM (pl := pl) hV (hPj v) c2 s4 (by omega), hRe, show 2 + i * (s + 2) + 1 = 3 + i * (s + 2) by omega]
      have ek : D_X9_kindBy (nI (pg (2 + i * (s + 2)))) = some (nI (K i)) := by
        rw [kbM (hV.2 _ (by omega)), if_pos (hK i hi), hKe]
      simp only [D_X9_table_L33_body, c1, inle hi (show M < 2 ^ 31 by omega), if_false, c2, L2, nI_add, pk_mul, Nat.mul_comm (s + 2) i, gin (show 2 + i * (s + 2) < 28 by omega) (by omega), cl (show 2 + i * (s + 2) < 2 ^ 31 by omega), hPi.2 (2 + i * (s + 2)) (by omega), ek, Option.bind_some, gin (show i < 4 by omega) (by omega), cl (show i < 2 ^ 31 by omega), nI_1, er, lp_s, nm]
    · show D_X9_table_L33_body rec (lp (nm K R) M τ2) (nI M) = _
      rw [← hτ3] at n1 ⊢
      have c1 : gI τ3 1 = nI M := by rw [n1, sI]; rfl
      have c0 : gI τ3 0 = gI τ' 0 := by rw [n1, sI]; rfl
      simp only [D_X9_table_L33_body, c1, ile (Nat.le_refl M) (show M < 2 ^ 31 by omega), if_true]
      have d0 : gI (pI (pI (pI τ3 3 0) 4 0) 5 0) 0 = gI τ' 0 := c0
      rw [d0]
      have d1 : gI (pI (pI (pI (pI (pI (pI τ3 3 0) 4 0) 5 0) 0 (gI τ' 0 + 1)) 6 0) 7 0) 1 = nI M := c1
      rw [d1]
  rw [← hτ3] at n1 n2 n3 n4 n5
  refine ⟨_, e1.trans e2, rfl, (n1 1).trans (sI 1), (n1 2).trans (sI 2), rfl, rfl, rfl, rfl, rfl, (n1 11).trans (sI 11), (n1 12).trans (sI 12), fun p hp => ?_, fun p hp => ?_, fun p hp => ?_⟩
  · show gA τ3 0 p = _
    rw [n3 p hp, hKe]
  · show gA τ3 1 p = _
    rw [n4 p hp, hRe]
  · exact n5 p hp
theorem PGM.eq {pl : Nat} {pg : Nat → Nat} {τ τ' : ST} (h : PGM pl pg τ) (hE : EqM τ τ') : PGM pl pg τ' := ⟨(hE.1 7 (by decide) (by decide) (by decide)).trans h.1, fun j hj => by rw [hE.2.1 6 (by decide)]; exact h.2 j hj⟩
theorem S_table_ok : S_table Rel := by
  intro n σ τ hR hn
  have hR' := hR
  obtain ⟨np, sz, pl, rd, pg, c, k, hH, hP, hT, hM, hV, hK⟩ := hR (by omega)
  obtain ⟨v1, v2, v3⟩ := hP.v
  obtain ⟨j, hj, h1, h2⟩ := fw_ex pl pg
  obtain ⟨τ', e, hE, hW⟩ := readM v1 v3 hj h1 h2
  have ep := potT v1 v2 hj h1 h2
  have hs4 := szp_ok pl pg
  rcases WH_pot hj hW with ⟨w0, w8⟩ | ⟨w8, w9, w0, wj, M, wM, m2, m4, mp, w10⟩
  · refine ⟨-103, σ, τ', ?_, ?_, Rel.query hR' hn EqT.rfl' hE⟩
    · unfold D_X8_table
      rw [ep, w0, Option.bind_some, if_pos (show nI 0 = 0 from rfl)]
    · unfold D_X9_table
      rw [e, Option.bind_some]
      show (if gI τ' 8 = 0 then _ else _) = _
      rw [w8, if_pos rfl]
  · rw [wM] at ep
    obtain ⟨s, hs⟩ : ∃ s, szp pl pg = s := ⟨_, rfl⟩
    rw [hs] at w9 w0 mp hs4
    have hin : ∀ p, p < M → 2 + p * (s + 2) + s < pl := fun p hp => by
      rcases (show s = 2 ∨ s = 3 ∨ s = 4 by omega) with q | q | q <;> subst q <;> omega
    have hKd : ∀ p, p < M → kdx (pg (2 + p * (s + 2))) < 5 := fun p hp => by
      have hi := hin p hp
      have hd := CRd (pl := pl) (pg := pg) (m := p) (r := 0) (by rw [hs]; exact w0) (by omega)
      rw [hs, Nat.add_zero] at hd
      rcases (hd.mp (h2 _ (by omega))).2 with q | q | q
      · exact q.2
      · exact absurd rfl q.1
      · omega
    obtain ⟨σ', t0, t1, t2, t3, t4, t5, t6, t7, t8, t9, t10, t11, t12⟩ := tableT v1 v2 hs (by omega) (by omega) m2 m4 mp hKd ep
    obtain ⟨τ'', r0, r1, r2, r3, r4, r5, r6, r7, r8, r9, r10, r11, r12, r13⟩ := tableM v1 (v3.eq hE) (by omega) (by omega) m2 m4 mp hKd e w8 w9 w10
    have hrd := hH.2.2.2.2.2.2.2.1
    refine ⟨nI M, σ', τ'', t0, r0, fun _ => ⟨M, s, 0, rd + 1, pg, (fun p => kdx (pg (2 + p * (s + 2))), fun p => rwv pg (3 + p * (s + 2)) s, fun _ => 0, fun _ => 0, fun _ => 0, fun _ => 0, 0, 0, 0, 0), k, ?_, ?_, ?_, ?_, ?_, ?_⟩⟩
    · refine ⟨Or.inr ⟨m2, m4, by omega, by omega⟩, t2, r2, t3, r3, ?_, ?_, by omega, by omega⟩
      · rw [t4, hH.2.2.2.2.2.1, nI_1]
      · rw [r1, hE.1 0 (by decide) (by decide) (by decide), hH.2.2.2.2.2.2.1, nI_1]
    · exact ⟨fun j hj => absurd hj (Nat.not_lt_zero j), t5, r8, by omega⟩
    · refine ⟨t10, t11, fun p hp => ?_, fun j hj => absurd hj (Nat.not_lt_zero j), fun j hj => absurd hj (Nat.not_lt_zero j), fun j hj => absurd hj (Nat.not_lt_zero j), t6, t7, t8, ?_⟩
      · rw [t12 p hp]
        by_cases q : p < M
        · rw [if_pos q]
        · rw [if_neg q]
      · show gI σ' 8 = nI (trk s 0 0)
        rw [trk0, t9]; rfl
    · exact ⟨r11, r12, r13, fun j hj => absurd hj (Nat.not_lt_zero j), fun j hj => absurd hj (Nat.not_lt_zero j), fun j hj => absurd hj (Nat.not_lt_zero j), r7, r6, r4, r5⟩
    · exact ⟨fun p hp => ⟨hKd p hp, rwv_lt _ _ _⟩, (show 0 ≤ 6 by omega), fun j hj => absurd hj (Nat.not_lt_zero j), (show 0 ≤ 9999 by omega), (show 0 ≤ 0 by omega), (show 0 < 16 by omega)⟩
    · refine Or.inr ⟨t1, ?_⟩
      rw [r9, r10, hE.1 11 (by decide) (by decide) (by decide), hE.1 12 (by decide) (by decide) (by decide)]
      rcases hK with w | w
      · exact Or.inr ⟨rd, by omega, w.2.2.1⟩
      · rcases w.2 with w | ⟨kt, w1, w2⟩
        · exact Or.inl w
        · exact Or.inr ⟨kt, by omega, w2⟩
