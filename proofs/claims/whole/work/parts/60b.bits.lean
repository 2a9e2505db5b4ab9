theorem p16_eq (x : Nat) : p16 x = ps 16 x := by
  rw [ps_s, ps_s, ps_s, ps_s, ps_s, ps_s, ps_s, ps_s, ps_s, ps_s, ps_s, ps_s, ps_s, ps_s, ps_s, ps_s, show ps 0 x = 0 from rfl]
  unfold p16
  simp only [Nat.div_one, Nat.zero_add, Nat.reducePow]
theorem bc_ps {x : Nat} (hx : x < 65536) : bcN x = ps 16 x := by
  rw [← p16_eq]
  have e : (2 : Nat) ^ 14 = 16384 := rfl
  rcases Nat.lt_or_ge x 16384 with h | h
  · have := al2_ok _ 14 0 bc_all0 x (by omega)
    rw [Nat.zero_add] at this
    exact Nat.eq_of_beq_eq_true this
  · rcases Nat.lt_or_ge x 32768 with h | h
    · have := al2_ok _ 14 16384 bc_all1 (x - 16384) (by omega)
      rw [show 16384 + (x - 16384) = x by omega] at this
      exact Nat.eq_of_beq_eq_true this
    · rcases Nat.lt_or_ge x 49152 with h | h
      · have := al2_ok _ 14 32768 bc_all2 (x - 32768) (by omega)
        rw [show 32768 + (x - 32768) = x by omega] at this
        exact Nat.eq_of_beq_eq_true this
      · have := al2_ok _ 14 49152 bc_all3 (x - 49152) (by omega)
        rw [show 49152 + (x - 49152) = x by omega] at this
        exact Nat.eq_of_beq_eq_true this
theorem bitT {x : Nat} (hx : x < 65536) : D_J6_bitCount_0f7a4 (nI x) = some (nI (ps 16 x)) := by rw [bcT hx, bc_ps hx]
theorem ps_le (x : Nat) : ∀ n, ps n x ≤ n
  | 0 => Nat.le_refl 0
  | n + 1 => by rw [ps_s]; have := ps_le x n; omega
theorem sizeM {x : Nat} (hx : x < 2 ^ 31) : D_X9_size (nI x) = some (nI (ps 16 x)) := by
  unfold D_X9_size D_X9_size_L4
  refine itr_f (f := fun i : Nat => (nI x, nI (ps i x), nI i)) (N := 16) (by omega) (fun i hi rec => ?_) (fun rec => ?_)
  · show D_X9_size_L4_body rec (nI x) (nI (ps i x)) (nI i) = rec (nI x, nI (ps (i + 1) x), nI (i + 1))
    have c16 : ((16 : Int32) ≤ nI i) = False := inle (b := i) (a := 16) hi (by omega)
    simp only [D_X9_size_L4_body, c16, if_false, bitI hx (show i < 32 by omega), nI_add, nI_1, ps_s]
  · show D_X9_size_L4_body rec (nI x) (nI (ps 16 x)) (nI 16) = _
    have c16 : ((16 : Int32) ≤ nI 16) = True := eq_true (by decide)
    simp only [D_X9_size_L4_body, c16, if_true]
/-- a set of rows, as bits -/
def sB (f : Nat → Bool) (n : Nat) : Nat := Nat.rec 0 (fun r a => a ||| cond (f r) (2 ^ r) 0) n
theorem sB_s (f : Nat → Bool) (n : Nat) : sB f (n + 1) = sB f n ||| cond (f n) (2 ^ n) 0 := rfl
theorem sB_tb (f : Nat → Bool) (r : Nat) : ∀ n, (sB f n).testBit r = (decide (r < n) && f r)
  | 0 => by
    show Nat.testBit 0 r = _
    rw [Nat.zero_testBit]; simp
  | n + 1 => by
    rw [sB_s, Nat.testBit_or, sB_tb f r n]
    by_cases e : r = n
    · subst e
      cases h : f r
      · simp
      · simp [Nat.testBit_two_pow_self]
    · have e2 : Nat.testBit (cond (f n) (2 ^ n) 0) r = false := by
        cases h : f n
        · exact Nat.zero_testBit r
        · exact Nat.testBit_two_pow_of_ne (fun q => e q.symm)
      rw [e2, Bool.or_false]
      rcases Nat.lt_or_ge r n with q | q
      · simp [q, show r < n + 1 by omega]
      · simp [show ¬ r < n by omega, show ¬ r < n + 1 by omega]
theorem sB_lt (f : Nat → Bool) : ∀ n, sB f n < 2 ^ n
  | 0 => by show 0 < 1; omega
  | n + 1 => by
    have h := sB_lt f n
    have h2 : 2 ^ n < 2 ^ (n + 1) := Nat.pow_lt_pow_right (by omega) (by omega)
    rw [sB_s]
    refine Nat.or_lt_two_pow (by omega) ?_
    cases f n
    · show 0 < _; omega
    · exact h2
theorem sB_and (f g : Nat → Bool) (n : Nat) : sB f n &&& sB g n = sB (fun r => f r && g r) n := by
  apply Nat.eq_of_testBit_eq
  intro i
  rw [Nat.testBit_and, sB_tb, sB_tb, sB_tb]
  cases decide (i < n) <;> cases f i <;> cases g i <;> rfl
theorem sB_not (f g : Nat → Bool) {n : Nat} (hn : n ≤ 32) : sB f n &&& (sB g n ^^^ 4294967295) = sB (fun r => f r && !(g r)) n := by
  apply Nat.eq_of_testBit_eq
  intro i
  rw [Nat.testBit_and, Nat.testBit_xor, sB_tb, sB_tb, sB_tb, show (4294967295 : Nat) = 2 ^ 32 - 1 from rfl, Nat.testBit_two_pow_sub_one]
  by_cases h : i < n
  · simp [h, show i < 32 by omega]
  · simp [h]
theorem sB_c {f g : Nat → Bool} : ∀ n, (∀ r, r < n → f r = g r) → sB f n = sB g n
  | 0, _ => rfl
  | n + 1, h => by rw [sB_s, sB_s, sB_c n (fun r hr => h r (by omega)), h n (by omega)]
theorem sB_all (n : Nat) : sB (fun _ => true) n = 2 ^ n - 1 := by
  apply Nat.eq_of_testBit_eq
  intro i
  rw [sB_tb, Nat.testBit_two_pow_sub_one]; simp
theorem sB_bit (f : Nat → Bool) (n r : Nat) : sB f n / 2 ^ r % 2 = if r < n ∧ f r = true then 1 else 0 := by
  have h := sB_tb f r n
  rw [Nat.testBit_eq_decide_div_mod_eq] at h
  by_cases e : r < n ∧ f r = true
  · rw [if_pos e]
    rw [e.2] at h
    simp [e.1] at h
    exact h
  · rw [if_neg e]
    rcases bit01 (sB f n) r with q | q
    · exact q
    · rw [q] at h
      exfalso
      apply e
      simpa using h.symm
theorem xorI (a b : Nat) : nI a ^^^ nI b = nI (a ^^^ b) := by
  apply Int32.toBitVec_inj.1
  show BitVec.ofNat 32 a ^^^ BitVec.ofNat 32 b = BitVec.ofNat 32 (a ^^^ b)
  apply BitVec.eq_of_getLsbD_eq
  intro i hi
  simp [hi]
/-- how many there are below n -/
def cn (f : Nat → Bool) (n : Nat) : Nat := Nat.rec 0 (fun r a => a + cond (f r) 1 0) n
theorem cn_s (f : Nat → Bool) (n : Nat) : cn f (n + 1) = cn f n + cond (f n) 1 0 := rfl
theorem ps_sB (f : Nat → Bool) (n : Nat) : ∀ k, ps k (sB f n) = cn f (min k n)
  | 0 => by rw [Nat.zero_min]; rfl
  | k + 1 => by
    rw [ps_s, ps_sB f n k, sB_bit]
    rcases Nat.lt_or_ge k n with h | h
    · rw [show min (k + 1) n = min k n + 1 by omega, cn_s, show min k n = k by omega]
      cases hf : f k
      · rw [if_neg (fun q => by cases q.2)]; rfl
      · rw [if_pos ⟨h, rfl⟩]; rfl
    · rw [show min (k + 1) n = min k n by omega, if_neg (fun q => by omega)]; rfl
