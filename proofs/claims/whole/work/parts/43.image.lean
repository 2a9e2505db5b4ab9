theorem cpy0 (f g : Nat → Int32) {n p : Nat} (hp : p < n) : va_cpy f g (0 : Int32).toNatClampNeg (0 : Int32).toNatClampNeg n p = f p := by
  show (if 0 ≤ p ∧ p < 0 + n then f (0 + (p - 0)) else g p) = f p
  rw [if_pos ⟨Nat.zero_le _, by omega⟩, Nat.zero_add, Nat.sub_zero]
noncomputable def nxtkI (i : Nat) (t : ST) : ST := pA t 12 i (vp_nar .boolean (gA t 6 i))
noncomputable def utkI (σ : ST) : ST := pF (pF (pF (pF (pF σ 7 (va_cpy (gA σ 1) (gA σ 7) (0 : Int32).toNatClampNeg (0 : Int32).toNatClampNeg (4 : Int32).toNatClampNeg)) 8 (va_cpy (gA σ 2) (gA σ 8) (0 : Int32).toNatClampNeg (0 : Int32).toNatClampNeg (4 : Int32).toNatClampNeg)) 9 (va_cpy (gA σ 3) (gA σ 9) (0 : Int32).toNatClampNeg (0 : Int32).toNatClampNeg (4 : Int32).toNatClampNeg)) 10 (va_cpy (gA σ 4) (gA σ 10) (0 : Int32).toNatClampNeg (0 : Int32).toNatClampNeg (6 : Int32).toNatClampNeg)) 11 (va_cpy (gA σ 5) (gA σ 11) (0 : Int32).toNatClampNeg (0 : Int32).toNatClampNeg (6 : Int32).toNatClampNeg)
noncomputable def vtkI (σ : ST) : ST := pI (pI (pI (pI (lp nxtkI 6 (utkI σ)) 9 (gI σ 5)) 10 (gI σ 6)) 11 (gI σ 7)) 12 (gI σ 8)
theorem tkI_I (t : ST) (k : Nat) : gI (lp nxtkI 6 t) k = gI t k := lp_ind (P := fun _ u => gI u k = gI t k) rfl (fun i hi u hu => hu)
theorem tkI_A (t : ST) (k : Nat) (hk : k ≠ 12) : gA (lp nxtkI 6 t) k = gA t k := lp_ind (P := fun _ u => gA u k = gA t k) rfl (fun i hi u hu => by
  show gA (pA u 12 i _) k = _
  rw [gA_pA, if_neg hk]; exact hu)
theorem tkI_H (t : ST) : ∀ p, p < 6 → gA (lp nxtkI 6 t) 12 p = vp_nar .boolean (gA t 6 p) := lp_ind (P := fun i u => gA u 6 = gA t 6 ∧ ∀ p, p < i → gA u 12 p = vp_nar .boolean (gA t 6 p)) ⟨rfl, fun p hp => absurd hp (Nat.not_lt_zero p)⟩ (fun i hi u hu => by
  refine ⟨?_, fun p hp => ?_⟩
  · show gA (pA u 12 i _) 6 = _
    rw [gA_pA, if_neg (by decide)]; exact hu.1
  · show gA (pA u 12 i (vp_nar .boolean (gA u 6 i))) 12 p = _
    rw [gA_pA, if_pos rfl, hu.1]
    by_cases e : p = i
    · rw [e, upd_at]
    · rw [upd_ne _ _ e]; exact hu.2 p (by omega)) |>.2
theorem tkI_ok (σ : ST) : D_X1_take_10_3 σ = some (vtkI σ) := by
  unfold D_X1_take_10_3 D_X1_take_10_3_b33 D_X1_take_10_3_b62
  show D_X1_take_10_3_L79 (utkI σ) 0 = _
  unfold D_X1_take_10_3_L79
  refine itr_f (f := fun i => (lp nxtkI i (utkI σ), nI i)) (N := 6) (by omega) (fun i hi rec => ?_) (fun rec => ?_)
  · show D_X1_take_10_3_L79_body rec (lp nxtkI i (utkI σ)) (nI i) = rec (lp nxtkI (i + 1) (utkI σ), nI (i + 1))
    simp only [D_X1_take_10_3_L79_body, L6, inle hi (by omega), if_false, cl (show i < 2 ^ 31 by omega), gin hi (by omega), nI_1]
    rfl
  · show D_X1_take_10_3_L79_body rec (lp nxtkI 6 (utkI σ)) (nI 6) = _
    simp only [D_X1_take_10_3_L79_body, L6, ile (Nat.le_refl 6) (by omega), if_true, D_X1_take_10_3_b135, gI_pI, tkI_I]
    rfl
theorem tkI_g (σ : ST) : (∀ p, p < 4 → gA (vtkI σ) 7 p = gA σ 1 p) ∧ (∀ p, p < 4 → gA (vtkI σ) 8 p = gA σ 2 p) ∧ (∀ p, p < 4 → gA (vtkI σ) 9 p = gA σ 3 p) ∧ (∀ p, p < 6 → gA (vtkI σ) 10 p = gA σ 4 p) ∧ (∀ p, p < 6 → gA (vtkI σ) 11 p = gA σ 5 p) ∧ (∀ p, p < 6 → gA (vtkI σ) 12 p = vp_nar .boolean (gA σ 6 p)) := by
  refine ⟨fun p hp => ?_, fun p hp => ?_, fun p hp => ?_, fun p hp => ?_, fun p hp => ?_, fun p hp => ?_⟩
  · show gA (lp nxtkI 6 (utkI σ)) 7 p = _
    rw [tkI_A _ _ (by decide)]; exact cpy0 _ _ hp
  · show gA (lp nxtkI 6 (utkI σ)) 8 p = _
    rw [tkI_A _ _ (by decide)]; exact cpy0 _ _ hp
  · show gA (lp nxtkI 6 (utkI σ)) 9 p = _
    rw [tkI_A _ _ (by decide)]; exact cpy0 _ _ hp
  · show gA (lp nxtkI 6 (utkI σ)) 10 p = _
    rw [tkI_A _ _ (by decide)]; exact cpy0 _ _ hp
  · show gA (lp nxtkI 6 (utkI σ)) 11 p = _
    rw [tkI_A _ _ (by decide)]; exact cpy0 _ _ hp
  · show gA (lp nxtkI 6 (utkI σ)) 12 p = _
    rw [tkI_H _ p hp]; rfl
theorem tkI_i (σ : ST) (k : Nat) : gI (vtkI σ) k = if k = 12 then gI σ 8 else if k = 11 then gI σ 7 else if k = 10 then gI σ 6 else if k = 9 then gI σ 5 else gI σ k := by
  show (if k = 12 then _ else if k = 11 then _ else if k = 10 then _ else if k = 9 then _ else gI (lp nxtkI 6 (utkI σ)) k) = _
  rw [tkI_I]; rfl
theorem tkI_a (σ : ST) (k : Nat) (hk : k < 7 ∨ 12 < k) : gA (vtkI σ) k = gA σ k := by
  show gA (lp nxtkI 6 (utkI σ)) k = _
  rw [tkI_A _ _ (by omega)]
  unfold utkI
  simp only [gA_pF, show ¬ k = 7 by omega, show ¬ k = 8 by omega, show ¬ k = 9 by omega, show ¬ k = 10 by omega, show ¬ k = 11 by omega, if_false]
noncomputable def nxtkR (i : Nat) (t : ST) : ST := pA t 6 i (vp_nar .boolean (gA t 12 i))
noncomputable def utkR (σ : ST) : ST := pF (pF (pF (pF (pF σ 1 (va_cpy (gA σ 7) (gA σ 1) (0 : Int32).toNatClampNeg (0 : Int32).toNatClampNeg (4 : Int32).toNatClampNeg)) 2 (va_cpy (gA σ 8) (gA σ 2) (0 : Int32).toNatClampNeg (0 : Int32).toNatClampNeg (4 : Int32).toNatClampNeg)) 3 (va_cpy (gA σ 9) (gA σ 3) (0 : Int32).toNatClampNeg (0 : Int32).toNatClampNeg (4 : Int32).toNatClampNeg)) 4 (va_cpy (gA σ 10) (gA σ 4) (0 : Int32).toNatClampNeg (0 : Int32).toNatClampNeg (6 : Int32).toNatClampNeg)) 5 (va_cpy (gA σ 11) (gA σ 5) (0 : Int32).toNatClampNeg (0 : Int32).toNatClampNeg (6 : Int32).toNatClampNeg)
noncomputable def vtkR (σ : ST) : ST := pI (pI (pI (pI (lp nxtkR 6 (utkR σ)) 5 (gI σ 9)) 6 (gI σ 10)) 7 (gI σ 11)) 8 (gI σ 12)
theorem tkR_I (t : ST) (k : Nat) : gI (lp nxtkR 6 t) k = gI t k := lp_ind (P := fun _ u => gI u k = gI t k) rfl (fun i hi u hu => hu)
theorem tkR_A (t : ST) (k : Nat) (hk : k ≠ 6) : gA (lp nxtkR 6 t) k = gA t k := lp_ind (P := fun _ u => gA u k = gA t k) rfl (fun i hi u hu => by
  show gA (pA u 6 i _) k = _
  rw [gA_pA, if_neg hk]; exact hu)
theorem tkR_H (t : ST) : ∀ p, p < 6 → gA (lp nxtkR 6 t) 6 p = vp_nar .boolean (gA t 12 p) := lp_ind (P := fun i u => gA u 12 = gA t 12 ∧ ∀ p, p < i → gA u 6 p = vp_nar .boolean (gA t 12 p)) ⟨rfl, fun p hp => absurd hp (Nat.not_lt_zero p)⟩ (fun i hi u hu => by
  refine ⟨?_, fun p hp => ?_⟩
  · show gA (pA u 6 i _) 12 = _
    rw [gA_pA, if_neg (by decide)]; exact hu.1
  · show gA (pA u 6 i (vp_nar .boolean (gA u 12 i))) 6 p = _
    rw [gA_pA, if_pos rfl, hu.1]
    by_cases e : p = i
    · rw [e, upd_at]
    · rw [upd_ne _ _ e]; exact hu.2 p (by omega)) |>.2
theorem tkR_ok (σ : ST) : D_X1_take_10 σ = some (vtkR σ) := by
  unfold D_X1_take_10 D_X1_take_10_b33 D_X1_take_10_b62
  show D_X1_take_10_L79 (utkR σ) 0 = _
  unfold D_X1_take_10_L79
  refine itr_f (f := fun i => (lp nxtkR i (utkR σ), nI i)) (N := 6) (by omega) (fun i hi rec => ?_) (fun rec => ?_)
  · show D_X1_take_10_L79_body rec (lp nxtkR i (utkR σ)) (nI i) = rec (lp nxtkR (i + 1) (utkR σ), nI (i + 1))
    simp only [D_X1_take_10_L79_body, L6, inle hi (by omega), if_false, cl (show i < 2 ^ 31 by omega), gin hi (by omega), nI_1]
    rfl
  · show D_X1_take_10_L79_body rec (lp nxtkR 6 (utkR σ)) (nI 6) = _
    simp only [D_X1_take_10_L79_body, L6, ile (Nat.le_refl 6) (by omega), if_true, D_X1_take_10_b135, gI_pI, tkR_I]
    rfl
theorem tkR_g (σ : ST) : (∀ p, p < 4 → gA (vtkR σ) 1 p = gA σ 7 p) ∧ (∀ p, p < 4 → gA (vtkR σ) 2 p = gA σ 8 p) ∧ (∀ p, p < 4 → gA (vtkR σ) 3 p = gA σ 9 p) ∧ (∀ p, p < 6 → gA (vtkR σ) 4 p = gA σ 10 p) ∧ (∀ p, p < 6 → gA (vtkR σ) 5 p = gA σ 11 p) ∧ (∀ p, p < 6 → gA (vtkR σ) 6 p = vp_nar .boolean (gA σ 12 p)) := by
  refine ⟨fun p hp => ?_, fun p hp => ?_, fun p hp => ?_, fun p hp => ?_, fun p hp => ?_, fun p hp => ?_⟩
  · show gA (lp nxtkR 6 (utkR σ)) 1 p = _
    rw [tkR_A _ _ (by decide)]; exact cpy0 _ _ hp
  · show gA (lp nxtkR 6 (utkR σ)) 2 p = _
    rw [tkR_A _ _ (by decide)]; exact cpy0 _ _ hp
  · show gA (lp nxtkR 6 (utkR σ)) 3 p = _
    rw [tkR_A _ _ (by decide)]; exact cpy0 _ _ hp
  · show gA (lp nxtkR 6 (utkR σ)) 4 p = _
    rw [tkR_A _ _ (by decide)]; exact cpy0 _ _ hp
  · show gA (lp nxtkR 6 (utkR σ)) 5 p = _
    rw [tkR_A _ _ (by decide)]; exact cpy0 _ _ hp
  · show gA (lp nxtkR 6 (utkR σ)) 6 p = _
    rw [tkR_H _ p hp]; rfl
theorem tkR_i (σ : ST) (k : Nat) : gI (vtkR σ) k = if k = 8 then gI σ 12 else if k = 7 then gI σ 11 else if k = 6 then gI σ 10 else if k = 5 then gI σ 9 else gI σ k := by
  show (if k = 8 then _ else if k = 7 then _ else if k = 6 then _ else if k = 5 then _ else gI (lp nxtkR 6 (utkR σ)) k) = _
  rw [tkR_I]; rfl
theorem tkR_a (σ : ST) (k : Nat) (hk : k < 1 ∨ 6 < k) : gA (vtkR σ) k = gA σ k := by
  show gA (lp nxtkR 6 (utkR σ)) k = _
  rw [tkR_A _ _ (by omega)]
  unfold utkR
  simp only [gA_pF, show ¬ k = 1 by omega, show ¬ k = 2 by omega, show ¬ k = 3 by omega, show ¬ k = 4 by omega, show ¬ k = 5 by omega, if_false]
noncomputable def nxAmI (i : Nat) (t : ST) : ST := pA (pA (pA t 11 i (gA t 0 i)) 12 i (gA t 1 i)) 13 i (gA t 2 i)
noncomputable def nxBmI (i : Nat) (t : ST) : ST := pA (pA (pA t 14 i (gA t 3 i)) 15 i (gA t 4 i)) 16 i (gA t 5 i)
noncomputable def wmI (τ : ST) : ST := lp nxBmI 6 (lp nxAmI 4 τ)
theorem mI_I (τ : ST) (k : Nat) : gI (wmI τ) k = gI τ k := by
  have h1 : ∀ t : ST, gI (lp nxBmI 6 t) k = gI t k := fun t => lp_ind (P := fun _ u => gI u k = gI t k) rfl (fun i hi u hu => hu)
  have h2 : ∀ t : ST, gI (lp nxAmI 4 t) k = gI t k := fun t => lp_ind (P := fun _ u => gI u k = gI t k) rfl (fun i hi u hu => hu)
  unfold wmI
  rw [h1, h2]
theorem mI_A4 (t : ST) (k : Nat) (h0 : k ≠ 11) (h1 : k ≠ 12) (h2 : k ≠ 13) : gA (lp nxAmI 4 t) k = gA t k := lp_ind (P := fun _ u => gA u k = gA t k) rfl (fun i hi u hu => by
  show gA (pA (pA (pA u 11 i _) 12 i _) 13 i _) k = _
  rw [gA_pA, if_neg h2, gA_pA, if_neg h1, gA_pA, if_neg h0]; exact hu)
theorem mI_A6 (t : ST) (k : Nat) (h0 : k ≠ 14) (h1 : k ≠ 15) (h2 : k ≠ 16) : gA (lp nxBmI 6 t) k = gA t k := lp_ind (P := fun _ u => gA u k = gA t k) rfl (fun i hi u hu => by
  show gA (pA (pA (pA u 14 i _) 15 i _) 16 i _) k = _
  rw [gA_pA, if_neg h2, gA_pA, if_neg h1, gA_pA, if_neg h0]; exact hu)
theorem mI_H4 (t : ST) : ∀ p, p < 4 → gA (lp nxAmI 4 t) 11 p = gA t 0 p ∧ gA (lp nxAmI 4 t) 12 p = gA t 1 p ∧ gA (lp nxAmI 4 t) 13 p = gA t 2 p := (lp_ind (P := fun i u => (gA u 0 = gA t 0 ∧ gA u 1 = gA t 1 ∧ gA u 2 = gA t 2) ∧ ∀ p, p < i → gA u 11 p = gA t 0 p ∧ gA u 12 p = gA t 1 p ∧ gA u 13 p = gA t 2 p) ⟨⟨rfl, rfl, rfl⟩, fun p hp => absurd hp (Nat.not_lt_zero p)⟩ (fun i hi u hu => by
  obtain ⟨⟨q0, q1, q2⟩, hq⟩ := hu
  refine ⟨⟨q0, q1, q2⟩, fun p hp => ?_⟩
  show upd (gA u 11) i (gA u 0 i) p = _ ∧ upd (gA u 12) i (gA u 1 i) p = _ ∧ upd (gA u 13) i (gA u 2 i) p = _
  rw [q0, q1, q2]
  by_cases e : p = i
  · rw [e, upd_at, upd_at, upd_at]; exact ⟨rfl, rfl, rfl⟩
  · rw [upd_ne _ _ e, upd_ne _ _ e, upd_ne _ _ e]; exact hq p (by omega))).2
theorem mI_H6 (t : ST) : ∀ p, p < 6 → gA (lp nxBmI 6 t) 14 p = gA t 3 p ∧ gA (lp nxBmI 6 t) 15 p = gA t 4 p ∧ gA (lp nxBmI 6 t) 16 p = gA t 5 p := (lp_ind (P := fun i u => (gA u 3 = gA t 3 ∧ gA u 4 = gA t 4 ∧ gA u 5 = gA t 5) ∧ ∀ p, p < i → gA u 14 p = gA t 3 p ∧ gA u 15 p = gA t 4 p ∧ gA u 16 p = gA t 5 p) ⟨⟨rfl, rfl, rfl⟩, fun p hp => absurd hp (Nat.not_lt_zero p)⟩ (fun i hi u hu => by
  obtain ⟨⟨q0, q1, q2⟩, hq⟩ := hu
  refine ⟨⟨q0, q1, q2⟩, fun p hp => ?_⟩
  show upd (gA u 14) i (gA u 3 i) p = _ ∧ upd (gA u 15) i (gA u 4 i) p = _ ∧ upd (gA u 16) i (gA u 5 i) p = _
  rw [q0, q1, q2]
  by_cases e : p = i
  · rw [e, upd_at, upd_at, upd_at]; exact ⟨rfl, rfl, rfl⟩
  · rw [upd_ne _ _ e, upd_ne _ _ e, upd_ne _ _ e]; exact hq p (by omega))).2
theorem mI_l4 (τ : ST) : D_X9_image_L57 τ 0 = D_X9_image_L106 (lp nxAmI 4 τ) 0 := by
  unfold D_X9_image_L57
  refine itr_f (f := fun i => (lp nxAmI i τ, nI i)) (N := 4) (by omega) (fun i hi rec => ?_) (fun rec => ?_)
  · show D_X9_image_L57_body rec (lp nxAmI i τ) (nI i) = rec (lp nxAmI (i + 1) τ, nI (i + 1))
    simp only [D_X9_image_L57_body, L4, inle hi (by omega), if_false, cl (show i < 2 ^ 31 by omega), gin hi (by omega), D_X9_image_b98, nI_1]
    rfl
  · show D_X9_image_L57_body rec (lp nxAmI 4 τ) (nI 4) = _
    simp only [D_X9_image_L57_body, L4, ile (Nat.le_refl 4) (by omega), if_true]
theorem mI_l6 (τ : ST) : D_X9_image_L106 τ 0 = some (gI τ 5, lp nxBmI 6 τ) := by
  unfold D_X9_image_L106
  refine itr_f (f := fun i => (lp nxBmI i τ, nI i)) (N := 6) (by omega) (fun i hi rec => ?_) (fun rec => ?_)
  · show D_X9_image_L106_body rec (lp nxBmI i τ) (nI i) = rec (lp nxBmI (i + 1) τ, nI (i + 1))
    simp only [D_X9_image_L106_body, L6, inle hi (by omega), if_false, cl (show i < 2 ^ 31 by omega), gin hi (by omega), D_X9_image_b148, nI_1]
    rfl
  · show D_X9_image_L106_body rec (lp nxBmI 6 τ) (nI 6) = _
    simp only [D_X9_image_L106_body, L6, ile (Nat.le_refl 6) (by omega), if_true]
    rw [show gI (lp nxBmI 6 τ) 5 = gI τ 5 from lp_ind (P := fun _ u => gI u 5 = gI τ 5) rfl (fun i hi u hu => hu)]
theorem mI_all (τ : ST) : D_X9_image_L57 τ 0 = some (gI τ 5, wmI τ) := by
  rw [mI_l4, mI_l6]
  rw [show gI (lp nxAmI 4 τ) 5 = gI τ 5 from lp_ind (P := fun _ u => gI u 5 = gI τ 5) rfl (fun i hi u hu => hu)]
  rfl
noncomputable def nxAmR (i : Nat) (t : ST) : ST := pA (pA (pA t 0 i (gA t 11 i)) 1 i (gA t 12 i)) 2 i (gA t 13 i)
noncomputable def nxBmR (i : Nat) (t : ST) : ST := pA (pA (pA t 3 i (gA t 14 i)) 4 i (gA t 15 i)) 5 i (gA t 16 i)
noncomputable def wmR (τ : ST) : ST := lp nxBmR 6 (lp nxAmR 4 τ)
theorem mR_I (τ : ST) (k : Nat) : gI (wmR τ) k = gI τ k := by
  have h1 : ∀ t : ST, gI (lp nxBmR 6 t) k = gI t k := fun t => lp_ind (P := fun _ u => gI u k = gI t k) rfl (fun i hi u hu => hu)
  have h2 : ∀ t : ST, gI (lp nxAmR 4 t) k = gI t k := fun t => lp_ind (P := fun _ u => gI u k = gI t k) rfl (fun i hi u hu => hu)
  unfold wmR
  rw [h1, h2]
theorem mR_A4 (t : ST) (k : Nat) (h0 : k ≠ 0) (h1 : k ≠ 1) (h2 : k ≠ 2) : gA (lp nxAmR 4 t) k = gA t k := lp_ind (P := fun _ u => gA u k = gA t k) rfl (fun i hi u hu => by
  show gA (pA (pA (pA u 0 i _) 1 i _) 2 i _) k = _
  rw [gA_pA, if_neg h2, gA_pA, if_neg h1, gA_pA, if_neg h0]; exact hu)
theorem mR_A6 (t : ST) (k : Nat) (h0 : k ≠ 3) (h1 : k ≠ 4) (h2 : k ≠ 5) : gA (lp nxBmR 6 t) k = gA t k := lp_ind (P := fun _ u => gA u k = gA t k) rfl (fun i hi u hu => by
  show gA (pA (pA (pA u 3 i _) 4 i _) 5 i _) k = _
  rw [gA_pA, if_neg h2, gA_pA, if_neg h1, gA_pA, if_neg h0]; exact hu)
theorem mR_H4 (t : ST) : ∀ p, p < 4 → gA (lp nxAmR 4 t) 0 p = gA t 11 p ∧ gA (lp nxAmR 4 t) 1 p = gA t 12 p ∧ gA (lp nxAmR 4 t) 2 p = gA t 13 p := (lp_ind (P := fun i u => (gA u 11 = gA t 11 ∧ gA u 12 = gA t 12 ∧ gA u 13 = gA t 13) ∧ ∀ p, p < i → gA u 0 p = gA t 11 p ∧ gA u 1 p = gA t 12 p ∧ gA u 2 p = gA t 13 p) ⟨⟨rfl, rfl, rfl⟩, fun p hp => absurd hp (Nat.not_lt_zero p)⟩ (fun i hi u hu => by
  obtain ⟨⟨q0, q1, q2⟩, hq⟩ := hu
  refine ⟨⟨q0, q1, q2⟩, fun p hp => ?_⟩
  show upd (gA u 0) i (gA u 11 i) p = _ ∧ upd (gA u 1) i (gA u 12 i) p = _ ∧ upd (gA u 2) i (gA u 13 i) p = _
  rw [q0, q1, q2]
  by_cases e : p = i
  · rw [e, upd_at, upd_at, upd_at]; exact ⟨rfl, rfl, rfl⟩
  · rw [upd_ne _ _ e, upd_ne _ _ e, upd_ne _ _ e]; exact hq p (by omega))).2
theorem mR_H6 (t : ST) : ∀ p, p < 6 → gA (lp nxBmR 6 t) 3 p = gA t 14 p ∧ gA (lp nxBmR 6 t) 4 p = gA t 15 p ∧ gA (lp nxBmR 6 t) 5 p = gA t 16 p := (lp_ind (P := fun i u => (gA u 14 = gA t 14 ∧ gA u 15 = gA t 15 ∧ gA u 16 = gA t 16) ∧ ∀ p, p < i → gA u 3 p = gA t 14 p ∧ gA u 4 p = gA t 15 p ∧ gA u 5 p = gA t 16 p) ⟨⟨rfl, rfl, rfl⟩, fun p hp => absurd hp (Nat.not_lt_zero p)⟩ (fun i hi u hu => by
  obtain ⟨⟨q0, q1, q2⟩, hq⟩ := hu
  refine ⟨⟨q0, q1, q2⟩, fun p hp => ?_⟩
  show upd (gA u 3) i (gA u 14 i) p = _ ∧ upd (gA u 4) i (gA u 15 i) p = _ ∧ upd (gA u 5) i (gA u 16 i) p = _
  rw [q0, q1, q2]
  by_cases e : p = i
  · rw [e, upd_at, upd_at, upd_at]; exact ⟨rfl, rfl, rfl⟩
  · rw [upd_ne _ _ e, upd_ne _ _ e, upd_ne _ _ e]; exact hq p (by omega))).2
theorem mR_l4 (τ : ST) : D_X9_restore_L55 τ 0 = D_X9_restore_L104 (lp nxAmR 4 τ) 0 := by
  unfold D_X9_restore_L55
  refine itr_f (f := fun i => (lp nxAmR i τ, nI i)) (N := 4) (by omega) (fun i hi rec => ?_) (fun rec => ?_)
  · show D_X9_restore_L55_body rec (lp nxAmR i τ) (nI i) = rec (lp nxAmR (i + 1) τ, nI (i + 1))
    simp only [D_X9_restore_L55_body, L4, inle hi (by omega), if_false, cl (show i < 2 ^ 31 by omega), gin hi (by omega), D_X9_restore_b96, nI_1]
    rfl
  · show D_X9_restore_L55_body rec (lp nxAmR 4 τ) (nI 4) = _
    simp only [D_X9_restore_L55_body, L4, ile (Nat.le_refl 4) (by omega), if_true]
theorem mR_l6 (τ : ST) : D_X9_restore_L104 τ 0 = some (gI τ 5, lp nxBmR 6 τ) := by
  unfold D_X9_restore_L104
  refine itr_f (f := fun i => (lp nxBmR i τ, nI i)) (N := 6) (by omega) (fun i hi rec => ?_) (fun rec => ?_)
  · show D_X9_restore_L104_body rec (lp nxBmR i τ) (nI i) = rec (lp nxBmR (i + 1) τ, nI (i + 1))
    simp only [D_X9_restore_L104_body, L6, inle hi (by omega), if_false, cl (show i < 2 ^ 31 by omega), gin hi (by omega), D_X9_restore_b146, nI_1]
    rfl
  · show D_X9_restore_L104_body rec (lp nxBmR 6 τ) (nI 6) = _
    simp only [D_X9_restore_L104_body, L6, ile (Nat.le_refl 6) (by omega), if_true]
    rw [show gI (lp nxBmR 6 τ) 5 = gI τ 5 from lp_ind (P := fun _ u => gI u 5 = gI τ 5) rfl (fun i hi u hu => hu)]
theorem mR_all (τ : ST) : D_X9_restore_L55 τ 0 = some (gI τ 5, wmR τ) := by
  rw [mR_l4, mR_l6]
  rw [show gI (lp nxAmR 4 τ) 5 = gI τ 5 from lp_ind (P := fun _ u => gI u 5 = gI τ 5) rfl (fun i hi u hu => hu)]
  rfl
theorem vzN {d : Nat} (h : d < 2) : vp_nar .boolean (nI d) = nI d := vz _ (by rcases (show d = 0 ∨ d = 1 by omega) with rfl | rfl; exact Or.inl rfl; exact Or.inr rfl)
theorem S_image_ok : S_image Rel := by
  intro n σ τ hR hn
  have hR' := hR
  obtain ⟨np, sz, pl, rd, pg, c, k, hH, hP, hT, hM, hV, hK⟩ := hR (by omega)
  by_cases h0 : np = 0
  · refine ⟨-103, σ, τ, ?_, ?_, Rel.query hR' hn EqT.rfl' EqM.rfl'⟩
    · unfold D_X8_image; rw [hH.2.1, h0, if_pos (show nI 0 = 0 from rfl)]
    · unfold D_X9_image; rw [hH.2.2.1, h0, if_pos (show nI 0 = 0 from rfl)]
  · have hnp := hH.1.np
    have n0 : ¬ nI np = 0 := nI_ne0 (by omega) (by omega)
    obtain ⟨g0, g1, g2, g3, g4, g5⟩ := tkI_g σ
    have hsn := hV.2.1
    generalize hτ1 : pI (pI (pI (pI (pI (pI τ 11 1) 12 (gI τ 0)) 13 (gI τ 3)) 14 (gI τ 4)) 15 (gI τ 5)) 16 (gI τ 6) = τ1
    have eI : ∀ j, gI τ1 j = if j = 16 then gI τ 6 else if j = 15 then gI τ 5 else if j = 14 then gI τ 4 else if j = 13 then gI τ 3 else if j = 12 then gI τ 0 else if j = 11 then 1 else gI τ j := fun j => by rw [← hτ1]; rfl
    have eA : ∀ j, gA τ1 j = gA τ j := fun j => by rw [← hτ1]; rfl
    refine ⟨nI (ts c), pI (vtkI σ) 0 1, wmI τ1, ?_, ?_, fun _ => ⟨np, sz, pl, rd, pg, c, c, ?_, ?_, ?_, ?_, hV, Or.inl ⟨rfl, ?_, ?_, ?_, ?_, hV⟩⟩⟩
    · unfold D_X8_image
      rw [hH.2.1, if_neg n0, tkI_ok, Option.bind_some]
      show some (gI (vtkI σ) 6, _) = _
      rw [tkI_i]
      show some (gI σ 6, _) = _
      rw [hT.2.2.2.2.2.2.2.1]
    · unfold D_X9_image
      rw [hH.2.2.1, if_neg n0]
      unfold D_X9_image_b39
      show D_X9_image_L57 (pI (pI (pI (pI (pI (pI τ 11 1) 12 (gI τ 0)) 13 (gI τ 3)) 14 (gI τ 4)) 15 (gI τ 5)) 16 (gI τ 6)) 0 = _
      rw [hτ1, mI_all, eI]
      show some (gI τ 5, _) = _
      rw [hM.2.2.2.2.2.2.2.1]
    · refine ⟨hH.1, ?_, ?_, ?_, ?_, ?_, ?_, by have := hH.2.2.2.2.2.2.2.1; omega, by omega⟩
      · show gI (vtkI σ) 1 = _; rw [tkI_i]; exact hH.2.1
      · rw [mI_I, eI]; exact hH.2.2.1
      · show gI (vtkI σ) 2 = _; rw [tkI_i]; exact hH.2.2.2.1
      · rw [mI_I, eI]; exact hH.2.2.2.2.1
      · show gI (vtkI σ) 3 = _; rw [tkI_i]; exact hH.2.2.2.2.2.1
      · rw [mI_I, eI]; exact hH.2.2.2.2.2.2.1
    · refine ⟨fun j hj => ?_, ?_, ?_, hP.2.2.2⟩
      · show gA (vtkI σ) 0 j = _ ∧ gA (wmI τ1) 6 j = _ ∧ _
        unfold wmI
        rw [tkI_a _ _ (by decide), mI_A6 _ _ (by decide) (by decide) (by decide), mI_A4 _ _ (by decide) (by decide) (by decide), eA]
        exact hP.1 j hj
      · show gI (vtkI σ) 4 = _; rw [tkI_i]; exact hP.2.1
      · rw [mI_I, eI]; exact hP.2.2.1
    · refine ⟨fun p hp => ?_, fun p hp => ?_, fun p hp => ?_, fun p hp => ?_, fun p hp => ?_, fun p hp => ?_, ?_, ?_, ?_, ?_⟩
      · show gA (vtkI σ) 1 p = _; rw [tkI_a _ _ (by decide)]; exact hT.1 p hp
      · show gA (vtkI σ) 2 p = _; rw [tkI_a _ _ (by decide)]; exact hT.2.1 p hp
      · show gA (vtkI σ) 3 p = _; rw [tkI_a _ _ (by decide)]; exact hT.2.2.1 p hp
      · show gA (vtkI σ) 4 p = _; rw [tkI_a _ _ (by decide)]; exact hT.2.2.2.1 p hp
      · show gA (vtkI σ) 5 p = _; rw [tkI_a _ _ (by decide)]; exact hT.2.2.2.2.1 p hp
      · show gA (vtkI σ) 6 p = _; rw [tkI_a _ _ (by decide)]; exact hT.2.2.2.2.2.1 p hp
      · show gI (vtkI σ) 5 = _; rw [tkI_i]; exact hT.2.2.2.2.2.2.1
      · show gI (vtkI σ) 6 = _; rw [tkI_i]; exact hT.2.2.2.2.2.2.2.1
      · show gI (vtkI σ) 7 = _; rw [tkI_i]; exact hT.2.2.2.2.2.2.2.2.1
      · show gI (vtkI σ) 8 = _; rw [tkI_i]; exact hT.2.2.2.2.2.2.2.2.2
    · have e : ∀ j, j < 6 → gA (wmI τ1) j = gA τ j := fun j hj => by
        unfold wmI
        rw [mI_A6 _ _ (by omega) (by omega) (by omega), mI_A4 _ _ (by omega) (by omega) (by omega), eA]
      unfold CMn
      rw [e 0 (by omega), e 1 (by omega), e 2 (by omega), e 3 (by omega), e 4 (by omega), e 5 (by omega), mI_I, mI_I, mI_I, mI_I, eI, eI, eI, eI]
      exact hM
    · rw [mI_I, eI]; rfl
    · rw [mI_I, eI]; exact hH.2.2.2.2.2.2.1
    · refine ⟨fun p hp => ?_, fun p hp => ?_, fun p hp => ?_, fun p hp => ?_, fun p hp => ?_, fun p hp => ?_, ?_, ?_, ?_, ?_⟩
      · show gA (vtkI σ) 7 p = _; rw [g0 p (by omega)]; exact hT.1 p hp
      · show gA (vtkI σ) 8 p = _; rw [g1 p (by omega)]; exact hT.2.1 p hp
      · show gA (vtkI σ) 9 p = _; rw [g2 p hp]; exact hT.2.2.1 p hp
      · show gA (vtkI σ) 10 p = _; rw [g3 p (by omega)]; exact hT.2.2.2.1 p hp
      · show gA (vtkI σ) 11 p = _; rw [g4 p (by omega)]; exact hT.2.2.2.2.1 p hp
      · show gA (vtkI σ) 12 p = _; rw [g5 p (by omega), hT.2.2.2.2.2.1 p hp]; exact vzN (hV.2.2.1 p hp).2.2
      · show gI (vtkI σ) 9 = _; rw [tkI_i]; exact hT.2.2.2.2.2.2.1
      · show gI (vtkI σ) 10 = _; rw [tkI_i]; exact hT.2.2.2.2.2.2.2.1
      · show gI (vtkI σ) 11 = _; rw [tkI_i]; exact hT.2.2.2.2.2.2.2.2.1
      · show gI (vtkI σ) 12 = _; rw [tkI_i]; exact hT.2.2.2.2.2.2.2.2.2
    · have h4 := mI_H4 τ1
      have h6 := mI_H6 (lp nxAmI 4 τ1)
      have b : ∀ j, j < 6 → gA (lp nxAmI 4 τ1) j = gA τ j := fun j hj => by rw [mI_A4 _ _ (by omega) (by omega) (by omega), eA]
      refine ⟨fun p hp => ?_, fun p hp => ?_, fun p hp => ?_, fun p hp => ?_, fun p hp => ?_, fun p hp => ?_, ?_, ?_, ?_, ?_⟩
      · unfold wmI; rw [mI_A6 _ _ (by decide) (by decide) (by decide), (h4 p (by omega)).1, eA]; exact hM.1 p hp
      · unfold wmI; rw [mI_A6 _ _ (by decide) (by decide) (by decide), (h4 p (by omega)).2.1, eA]; exact hM.2.1 p hp
      · unfold wmI; rw [mI_A6 _ _ (by decide) (by decide) (by decide), (h4 p (by omega)).2.2, eA]; exact hM.2.2.1 p hp
      · unfold wmI; rw [(h6 p (by omega)).1, b 3 (by omega)]; exact hM.2.2.2.1 p hp
      · unfold wmI; rw [(h6 p (by omega)).2.1, b 4 (by omega)]; exact hM.2.2.2.2.1 p hp
      · unfold wmI; rw [(h6 p (by omega)).2.2, b 5 (by omega)]; exact hM.2.2.2.2.2.1 p hp
      · rw [mI_I, eI]; exact hM.2.2.2.2.2.2.1
      · rw [mI_I, eI]; exact hM.2.2.2.2.2.2.2.1
      · rw [mI_I, eI]; exact hM.2.2.2.2.2.2.2.2.1
      · rw [mI_I, eI]; exact hM.2.2.2.2.2.2.2.2.2
theorem S_restore_ok : S_restore Rel := by
  intro n σ τ hR hn
  have hR' := hR
  obtain ⟨np, sz, pl, rd, pg, c, k, hH, hP, hT, hM, hV, hK⟩ := hR (by omega)
  rcases hK with ⟨k0, k1, k2, kT, kM, kV⟩ | ⟨k0, k1⟩
  · have hnp := hH.1.np
    obtain ⟨g0, g1, g2, g3, g4, g5⟩ := tkR_g σ
    have hsn := kV.2.1
    generalize hτ1 : pI (pI (pI (pI τ 3 (gI τ 13)) 4 (gI τ 14)) 5 (gI τ 15)) 6 (gI τ 16) = τ1
    have eI : ∀ j, gI τ1 j = if j = 6 then gI τ 16 else if j = 5 then gI τ 15 else if j = 4 then gI τ 14 else if j = 3 then gI τ 13 else gI τ j := fun j => by rw [← hτ1]; rfl
    have eA : ∀ j, gA τ1 j = gA τ j := fun j => by rw [← hτ1]; rfl
    refine ⟨nI (ts k), vtkR σ, wmR τ1, ?_, ?_, fun _ => ⟨np, sz, pl, rd, pg, k, k, ?_, ?_, ?_, ?_, kV, Or.inl ⟨?_, ?_, ?_, ?_, ?_, kV⟩⟩⟩
    · unfold D_X8_restore
      rw [k0, if_neg (by decide), tkR_ok, Option.bind_some, tkR_i]
      show some (gI σ 10, _) = _
      rw [kT.2.2.2.2.2.2.2.1]
    · unfold D_X9_restore
      rw [k1, if_neg (by decide), k2, hH.2.2.2.2.2.2.1, if_pos rfl]
      unfold D_X9_restore_b53
      show D_X9_restore_L55 (pI (pI (pI (pI τ 3 (gI τ 13)) 4 (gI τ 14)) 5 (gI τ 15)) 6 (gI τ 16)) 0 = _
      rw [hτ1, mR_all, eI]
      show some (gI τ 15, _) = _
      rw [kM.2.2.2.2.2.2.2.1]
    · refine ⟨hH.1, ?_, ?_, ?_, ?_, ?_, ?_, by have := hH.2.2.2.2.2.2.2.1; omega, by omega⟩
      · rw [tkR_i]; exact hH.2.1
      · rw [mR_I, eI]; exact hH.2.2.1
      · rw [tkR_i]; exact hH.2.2.2.1
      · rw [mR_I, eI]; exact hH.2.2.2.2.1
      · rw [tkR_i]; exact hH.2.2.2.2.2.1
      · rw [mR_I, eI]; exact hH.2.2.2.2.2.2.1
    · refine ⟨fun j hj => ?_, ?_, ?_, hP.2.2.2⟩
      · unfold wmR
        rw [tkR_a _ _ (by decide), mR_A6 _ _ (by decide) (by decide) (by decide), mR_A4 _ _ (by decide) (by decide) (by decide), eA]
        exact hP.1 j hj
      · rw [tkR_i]; exact hP.2.1
      · rw [mR_I, eI]; exact hP.2.2.1
    · refine ⟨fun p hp => ?_, fun p hp => ?_, fun p hp => ?_, fun p hp => ?_, fun p hp => ?_, fun p hp => ?_, ?_, ?_, ?_, ?_⟩
      · rw [g0 p (by omega)]; exact kT.1 p hp
      · rw [g1 p (by omega)]; exact kT.2.1 p hp
      · rw [g2 p hp]; exact kT.2.2.1 p hp
      · rw [g3 p (by omega)]; exact kT.2.2.2.1 p hp
      · rw [g4 p (by omega)]; exact kT.2.2.2.2.1 p hp
      · rw [g5 p (by omega), kT.2.2.2.2.2.1 p hp]; exact vzN (kV.2.2.1 p hp).2.2
      · rw [tkR_i]; exact kT.2.2.2.2.2.2.1
      · rw [tkR_i]; exact kT.2.2.2.2.2.2.2.1
      · rw [tkR_i]; exact kT.2.2.2.2.2.2.2.2.1
      · rw [tkR_i]; exact kT.2.2.2.2.2.2.2.2.2
    · have h4 := mR_H4 τ1
      have h6 := mR_H6 (lp nxAmR 4 τ1)
      have b : ∀ j, 10 < j → gA (lp nxAmR 4 τ1) j = gA τ j := fun j hj => by rw [mR_A4 _ _ (by omega) (by omega) (by omega), eA]
      refine ⟨fun p hp => ?_, fun p hp => ?_, fun p hp => ?_, fun p hp => ?_, fun p hp => ?_, fun p hp => ?_, ?_, ?_, ?_, ?_⟩
      · unfold wmR; rw [mR_A6 _ _ (by decide) (by decide) (by decide), (h4 p (by omega)).1, eA]; exact kM.1 p hp
      · unfold wmR; rw [mR_A6 _ _ (by decide) (by decide) (by decide), (h4 p (by omega)).2.1, eA]; exact kM.2.1 p hp
      · unfold wmR; rw [mR_A6 _ _ (by decide) (by decide) (by decide), (h4 p (by omega)).2.2, eA]; exact kM.2.2.1 p hp
      · unfold wmR; rw [(h6 p (by omega)).1, b 14 (by omega)]; exact kM.2.2.2.1 p hp
      · unfold wmR; rw [(h6 p (by omega)).2.1, b 15 (by omega)]; exact kM.2.2.2.2.1 p hp
      · unfold wmR; rw [(h6 p (by omega)).2.2, b 16 (by omega)]; exact kM.2.2.2.2.2.1 p hp
      · rw [mR_I, eI]; exact kM.2.2.2.2.2.2.1
      · rw [mR_I, eI]; exact kM.2.2.2.2.2.2.2.1
      · rw [mR_I, eI]; exact kM.2.2.2.2.2.2.2.2.1
      · rw [mR_I, eI]; exact kM.2.2.2.2.2.2.2.2.2
    · rw [tkR_i]; exact k0
    · rw [mR_I, eI]; exact k1
    · rw [mR_I, eI]; exact k2
    · have e : ∀ j, 6 < j → gA (vtkR σ) j = gA σ j := fun j hj => tkR_a _ _ (by omega)
      unfold CTk
      rw [e 7 (by omega), e 8 (by omega), e 9 (by omega), e 10 (by omega), e 11 (by omega), e 12 (by omega), tkR_i, tkR_i, tkR_i, tkR_i]
      exact kT
    · have e : ∀ j, 10 < j → gA (wmR τ1) j = gA τ j := fun j hj => by
        unfold wmR
        rw [mR_A6 _ _ (by omega) (by omega) (by omega), mR_A4 _ _ (by omega) (by omega) (by omega), eA]
      unfold CMk
      rw [e 11 (by omega), e 12 (by omega), e 13 (by omega), e 14 (by omega), e 15 (by omega), e 16 (by omega), mR_I, mR_I, mR_I, mR_I, eI, eI, eI, eI]
      exact kM
  · refine ⟨-103, σ, τ, ?_, ?_, Rel.query hR' hn EqT.rfl' EqM.rfl'⟩
    · unfold D_X8_restore; rw [k0, if_pos rfl]
    · unfold D_X9_restore
      have hrd := hH.2.2.2.2.2.2.2.1
      by_cases h11 : gI τ 11 = 0
      · rw [if_pos h11]
      · rw [if_neg h11]
        rcases k1 with k1 | ⟨kt, hkt, k1⟩
        · exact absurd k1 h11
        · rw [k1, hH.2.2.2.2.2.2.1, if_neg (fun q => absurd ((nI_eq (by omega) (by omega)).mp q) (by omega))]
