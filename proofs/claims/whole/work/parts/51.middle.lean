/-! The reference's matrix, and what it answers. -/
theorem clearM (τ : ST) : D_X9_clear τ = some (pG τ 0 (fun x => if x < 72 then 0 else gB τ 0 x)) := by
  unfold D_X9_clear D_X9_clear_L2
  have e0 : (τ, (0 : Int32)) = (fun i : Nat => (pG τ 0 (fun x => if x < i then 0 else gB τ 0 x), nI i)) 0 := by
    show _ = (pG τ 0 (fun x => if x < 0 then 0 else gB τ 0 x), nI 0)
    rw [show (fun x => if x < 0 then 0 else gB τ 0 x) = gB τ 0 from funext fun x => if_neg (Nat.not_lt_zero x), pG_self]; rfl
  rw [e0]
  refine itr_f (f := fun i : Nat => (pG τ 0 (fun x => if x < i then 0 else gB τ 0 x), nI i)) (N := 72) (by omega) (fun i hi rec => ?_) (fun rec => ?_)
  · show D_X9_clear_L2_body rec (pG τ 0 (fun x => if x < i then 0 else gB τ 0 x)) (nI i) = rec (pG τ 0 (fun x => if x < i + 1 then 0 else gB τ 0 x), nI (i + 1))
    simp only [D_X9_clear_L2_body, show (72 : Int32) ≤ nI i ↔ nI 72 ≤ nI i from Iff.rfl, inle hi (by omega), if_false, gin hi (by omega), cl (show i < 2 ^ 31 by omega), nI_1, pB_pG, gB_pG, if_true, pG_pG]
    rw [show vp_updL (fun x => if x < i then 0 else gB τ 0 x) i 0 = (fun x => if x < i + 1 then 0 else gB τ 0 x) from ?_]
    funext x
    by_cases e : x = i
    · subst e
      rw [updL_at, if_pos (by omega)]
    · rw [updL_ne _ _ e]
      exact ifc ⟨fun _ => by omega, fun _ => by omega⟩
  · show D_X9_clear_L2_body rec (pG τ 0 (fun x => if x < 72 then 0 else gB τ 0 x)) (nI 72) = _
    simp only [D_X9_clear_L2_body, show ((72 : Int32) ≤ nI 72) = True from eq_true (by decide), if_true]
noncomputable def smA (m : Nat) (M : List (List Nat)) (n : Nat) : Nat := Nat.rec 0 (fun i a => a + gt (gr M i) m) n
theorem lcmp_pos {x : Nat} (h : x % 18446744073709551616 < 9223372036854775808) : 0 ≤ lg_cmp (enc x) 0 := by
  have hx : (enc x).toInt = ((x % 18446744073709551616 : Nat) : Int) := by
    rw [← enc_mod]
    exact Int64.toInt_ofNat_of_lt h
  unfold lg_cmp
  by_cases h1 : enc x > 0
  · rw [if_pos h1]; decide
  · rw [if_neg h1]
    by_cases h0 : enc x = 0
    · rw [if_pos h0]; decide
    · exfalso
      apply h1
      show (0 : Int64) < enc x
      rw [Int64.lt_iff_toInt_lt, hx]
      have : (0 : Int64).toInt = 0 := by decide
      have n0 : x % 18446744073709551616 ≠ 0 := fun q => h0 (enc_0.mpr q)
      omega
theorem middleM {τ : ST} {sz m t : Nat} {M : List (List Nat)} (h : gI τ 2 = nI sz) (h2 : 2 ≤ sz) (h4 : sz ≤ 4) (hm : 2 ^ (sz - 1) = m) (hA : AM (fun i j => gB τ 0 (9 * i + j)) M m) (h0 : gt (gr M 0) 0 * m % 18446744073709551616 ≠ 0) (hp : gt (gr M 0) 0 * m % 18446744073709551616 < 9223372036854775808) : D_X9_middle τ (enc t) = some (enc (sdivN (t * smA m M m) (gt (gr M 0) 0 * m))) := by
  have h8 := m8 h4
  have hpos : 0 < 2 ^ (sz - 1) := Nat.pos_of_ne_zero (by simp)
  rw [hm] at h8 hpos
  unfold D_X9_middle D_X9_middle_L11
  rw [unkM h h2 h4, Option.bind_some, hm]
  refine itr_f (f := fun i : Nat => (enc t, nI m, enc (smA m M i), nI i)) (N := m) (by omega) (fun i hi rec => ?_) (fun rec => ?_)
  · show D_X9_middle_L11_body rec τ (enc t) (nI m) (enc (smA m M i)) (nI i) = rec (enc t, nI m, enc (smA m M (i + 1)), nI (i + 1))
    have q1 : ¬ 72 ≤ 9 * i + m := by omega
    have es : smA m M (i + 1) = smA m M i + gt (gr M i) m := rfl
    have ea : gB τ 0 (9 * i + m) = enc (gt (gr M i) m) := hA i hi m (Nat.le_refl m)
    simp only [D_X9_middle_L11_body, inle hi (by omega), if_false, N9, nI_pos (show 9 * i + m < 2 ^ 31 by omega), cl (show 9 * i + m < 2 ^ 31 by omega), q1, or_self, ea, enc_add, nI_1, es]
  · show D_X9_middle_L11_body rec τ (enc t) (nI m) (enc (smA m M m)) (nI m) = _
    have ea : gB τ 0 0 = enc (gt (gr M 0) 0) := hA 0 hpos 0 (by omega)
    have z : ((0 : Int32) < 0 ∨ 72 ≤ (0 : Int32).toNatClampNeg) = False := eq_false (by decide)
    have z2 : (0 : Int32).toNatClampNeg = 0 := by decide
    have ez : ¬ enc (gt (gr M 0) 0 * m) = 0 := fun q => h0 (enc_0.mp q)
    simp only [D_X9_middle_L11_body, ile (Nat.le_refl m) (by omega), if_true, z, if_false, z2, ea, i64 (show m < 2 ^ 31 by omega), enc_mul, lcmp_pos hp, D_X9_middle_b68, ez, enc_div]
    rw [if_neg (by decide)]
/-- a row of the matrix, by the bits of the one and of all -/
def rowB (m k b1 b2 a1 a2 : Nat) : List Nat := (List.range m).map (fun c => (cond (Nat.beq c k) 2 0 + cond (Nat.beq (2 * k % m) c) (18446744073709551616 - (1 - a1)) 0 + cond (Nat.beq ((2 * k + 1) % m) c) (18446744073709551616 - (1 - a2)) 0) % 18446744073709551616) ++ [b1 + b2]
noncomputable def rsF (m k b1 b2 a1 a2 : Nat) (A : Nat → Int64) : Nat → Int64 :=
  let B := vp_updL A (9 * k + k) (A (9 * k + k) + 2)
  let C := vp_updL B (9 * k + m) (B (9 * k + m) + enc b1)
  let D := vp_updL C (9 * k + 2 * k % m) (C (9 * k + 2 * k % m) - enc (1 - a1))
  let E := vp_updL D (9 * k + m) (D (9 * k + m) + enc b2)
  vp_updL E (9 * k + (2 * k + 1) % m) (E (9 * k + (2 * k + 1) % m) - enc (1 - a2))
theorem rs_all : ∀ s : Fin 3, ∀ k : Fin 8, ∀ b1 b2 a1 a2 : Fin 2, ∀ c : Fin 9, k.val < 2 ^ (s.val + 1) → c.val ≤ 2 ^ (s.val + 1) → rsF (2 ^ (s.val + 1)) k.val b1.val b2.val a1.val a2.val (fun _ => 0) (9 * k.val + c.val) = enc (gt (rowB (2 ^ (s.val + 1)) k.val b1.val b2.val a1.val a2.val) c.val) := by decide +kernel
/-- two arrays, alike in a row; the one as before elsewhere -/
def LK (k m : Nat) (A0 A Z : Nat → Int64) : Prop := ∀ x, if x / 9 = k ∧ x % 9 ≤ m then A x = Z x else A x = A0 x
theorem LK.up {k m c : Nat} {A0 A Z : Nat → Int64} {g : Int64 → Int64} (h : LK k m A0 A Z) (hc : c ≤ m) (hm : m ≤ 8) : LK k m A0 (vp_updL A (9 * k + c) (g (A (9 * k + c)))) (vp_updL Z (9 * k + c) (g (Z (9 * k + c)))) := by
  intro x
  have hx := h x
  have hc0 := h (9 * k + c)
  rw [if_pos ⟨by omega, by omega⟩] at hc0
  by_cases e : x / 9 = k ∧ x % 9 ≤ m
  · rw [if_pos e] at hx ⊢
    by_cases q : x = 9 * k + c
    · rw [q, updL_at, updL_at, hc0]
    · rw [updL_ne _ _ q, updL_ne _ _ q, hx]
  · rw [if_neg e] at hx ⊢
    rw [updL_ne _ _ (fun q => e (by rw [q]; exact ⟨by omega, by omega⟩)), hx]
theorem rsF_ok {m k b1 b2 a1 a2 : Nat} {A : Nat → Int64} (hm : m ≤ 8) (hm0 : 0 < m) (hk : k < m) (hz : ∀ c, c ≤ m → A (9 * k + c) = 0) : LK k m A (rsF m k b1 b2 a1 a2 A) (rsF m k b1 b2 a1 a2 (fun _ => 0)) := by
  have r1 : 2 * k % m ≤ m := Nat.le_of_lt (Nat.mod_lt _ hm0)
  have r2 : (2 * k + 1) % m ≤ m := Nat.le_of_lt (Nat.mod_lt _ hm0)
  have h0 : LK k m A A (fun _ => 0) := by
    intro x
    by_cases e : x / 9 = k ∧ x % 9 ≤ m
    · rw [if_pos e]
      have := hz (x % 9) e.2
      rw [show 9 * k + x % 9 = x by omega] at this
      exact this
    · rw [if_neg e]
  exact ((((h0.up (g := fun v => v + 2) (c := k) (by omega) hm).up (g := fun v => v + enc b1) (c := m) (Nat.le_refl m) hm).up (g := fun v => v - enc (1 - a1)) (c := 2 * k % m) r1 hm).up (g := fun v => v + enc b2) (c := m) (Nat.le_refl m) hm).up (g := fun v => v - enc (1 - a2)) (c := (2 * k + 1) % m) r2 hm
