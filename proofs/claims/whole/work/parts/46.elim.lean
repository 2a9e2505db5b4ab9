/-! Eliminating: the same over lists of numbers, strictly, so that the kernel can count it out. -/
noncomputable def frc {α : Type} (n : Nat) (k : Nat → α) : α := Nat.rec (k 0) (fun m _ => k (m + 1)) n
theorem frc_eq {α : Type} (n : Nat) (k : Nat → α) : frc n k = k n := by cases n <;> rfl
def sdivP (a b : Nat) : Nat := cond (Nat.ble 9223372036854775808 a) (cond (Nat.ble 9223372036854775808 b) ((18446744073709551616 - a) / (18446744073709551616 - b)) ((18446744073709551616 - (18446744073709551616 - a) / b) % 18446744073709551616)) (cond (Nat.ble 9223372036854775808 b) ((18446744073709551616 - a / (18446744073709551616 - b)) % 18446744073709551616) (a / b))
def sdivN (a b : Nat) : Nat := sdivP (a % 18446744073709551616) (b % 18446744073709551616)
def elN (p f d a b : Nat) : Nat := sdivN (p * a + (18446744073709551616 - f * b % 18446744073709551616)) d
noncomputable def gt (M : List Nat) (i : Nat) : Nat := List.rec (fun _ => 0) (fun x _ ih i => Nat.rec x (fun m _ => ih m) i) M i
noncomputable def gr (M : List (List Nat)) (i : Nat) : List Nat := List.rec (fun _ => []) (fun x _ ih i => Nat.rec x (fun m _ => ih m) i) M i
noncomputable def elR (p f d : Nat) (xs ys : List Nat) : List Nat := List.rec (fun _ => []) (fun x _ ih ys => List.rec [] (fun y ys' _ => frc (elN p f d x y) fun v => v :: ih ys') ys) xs ys
noncomputable def elM (p d k : Nat) (rk : List Nat) (M : List (List Nat)) (i : Nat) : List (List Nat) := List.rec (fun _ => []) (fun x _ ih i => cond (Nat.beq i k) x (frc (gt x k) fun f => elR p f d x rk) :: ih (i + 1)) M i
noncomputable def frR (xs : List Nat) (k : List Nat → Option (List (List Nat) × Nat)) : Option (List (List Nat) × Nat) := List.rec (fun k => k []) (fun x _ ih k => frc x fun v => ih fun vs => k (v :: vs)) xs k
noncomputable def frM (M : List (List Nat)) (k : List (List Nat) → Option (List (List Nat) × Nat)) : Option (List (List Nat) × Nat) := List.rec (fun k => k []) (fun x _ ih k => frR x fun v => ih fun vs => k (v :: vs)) M k
noncomputable def br (n : Nat) (k d : Nat) (M : List (List Nat)) : Option (List (List Nat) × Nat) := Nat.rec (fun _ d M => some (M, d)) (fun _ ih k d M => frM M fun M => frc (gt (gr M k) k) fun p => cond (Nat.beq (p % 18446744073709551616) 0) none (ih (k + 1) p (elM p d k (gr M k) M 0))) n k d M
theorem frR_eq : ∀ (xs : List Nat) (k : List Nat → Option (List (List Nat) × Nat)), frR xs k = k xs
  | [], _ => rfl
  | x :: xs, k => by
    show frc x (fun v => frR xs fun vs => k (v :: vs)) = _
    rw [frc_eq, frR_eq xs]
theorem frM_eq : ∀ (xs : List (List Nat)) (k : List (List Nat) → Option (List (List Nat) × Nat)), frM xs k = k xs
  | [], _ => rfl
  | x :: xs, k => by
    show frR x (fun v => frM xs fun vs => k (v :: vs)) = _
    rw [frR_eq, frM_eq xs]
theorem br_s (n k d : Nat) (M : List (List Nat)) : br (n + 1) k d M = cond (Nat.beq (gt (gr M k) k % 18446744073709551616) 0) none (br n (k + 1) (gt (gr M k) k) (elM (gt (gr M k) k) d k (gr M k) M 0)) := by
  show frM M (fun M => frc (gt (gr M k) k) fun p => cond (Nat.beq (p % 18446744073709551616) 0) none (br n (k + 1) p (elM p d k (gr M k) M 0))) = _
  rw [frM_eq, frc_eq]
theorem elR_c (p f d x y : Nat) (xs ys : List Nat) : elR p f d (x :: xs) (y :: ys) = elN p f d x y :: elR p f d xs ys := by
  show frc (elN p f d x y) (fun v => v :: elR p f d xs ys) = _
  rw [frc_eq]
theorem elR_len (p f d : Nat) : ∀ xs ys : List Nat, ys.length = xs.length → (elR p f d xs ys).length = xs.length
  | [], _, _ => rfl
  | x :: xs, [], h => by cases h
  | x :: xs, y :: ys, h => by
    rw [elR_c, List.length_cons, List.length_cons, elR_len p f d xs ys (by simpa using h)]
theorem gt_elR (p f d : Nat) : ∀ (xs ys : List Nat) (j : Nat), j < xs.length → j < ys.length → gt (elR p f d xs ys) j = elN p f d (gt xs j) (gt ys j)
  | [], _, _, h, _ => by cases h
  | x :: xs, [], _, _, h => by cases h
  | x :: xs, y :: ys, 0, _, _ => by rw [elR_c]; rfl
  | x :: xs, y :: ys, j + 1, h1, h2 => by
    rw [elR_c]
    exact gt_elR p f d xs ys j (by simpa using h1) (by simpa using h2)
theorem elM_c (p d k : Nat) (rk x : List Nat) (M : List (List Nat)) (i : Nat) : elM p d k rk (x :: M) i = cond (Nat.beq i k) x (elR p (gt x k) d x rk) :: elM p d k rk M (i + 1) := by
  show cond (Nat.beq i k) x (frc (gt x k) fun f => elR p f d x rk) :: elM p d k rk M (i + 1) = _
  rw [frc_eq]
theorem elM_len (p d k : Nat) (rk : List Nat) : ∀ (M : List (List Nat)) (i : Nat), (elM p d k rk M i).length = M.length
  | [], _ => rfl
  | x :: M, i => by rw [elM_c, List.length_cons, List.length_cons, elM_len p d k rk M]
theorem gr_elM (p d k : Nat) (rk : List Nat) : ∀ (M : List (List Nat)) (i j : Nat), j < M.length → gr (elM p d k rk M i) j = cond (Nat.beq (i + j) k) (gr M j) (elR p (gt (gr M j) k) d (gr M j) rk)
  | [], _, _, h => by cases h
  | x :: M, i, 0, _ => by rw [elM_c]; rfl
  | x :: M, i, j + 1, h => by
    rw [elM_c]
    have := gr_elM p d k rk M (i + 1) j (by simpa using h)
    rw [show i + 1 + j = i + (j + 1) by omega] at this
    exact this
/-- numbers as the machine's long ones -/
def enc (n : Nat) : Int64 := Int64.ofNat n
theorem enc_bv (n : Nat) : (enc n).toBitVec = BitVec.ofNat 64 n := rfl
theorem enc_mul (a b : Nat) : enc a * enc b = enc (a * b) := by
  apply Int64.toBitVec_inj.1
  show BitVec.ofNat 64 a * BitVec.ofNat 64 b = BitVec.ofNat 64 (a * b)
  apply BitVec.eq_of_toNat_eq
  simp [Nat.mul_mod]
theorem enc_add (a b : Nat) : enc a + enc b = enc (a + b) := by
  apply Int64.toBitVec_inj.1
  show BitVec.ofNat 64 a + BitVec.ofNat 64 b = BitVec.ofNat 64 (a + b)
  apply BitVec.eq_of_toNat_eq
  simp [Nat.add_mod]
theorem enc_mod (a : Nat) : enc (a % 18446744073709551616) = enc a := by
  apply Int64.toBitVec_inj.1
  show BitVec.ofNat 64 _ = BitVec.ofNat 64 _
  apply BitVec.eq_of_toNat_eq
  simp
theorem enc_sub (a b : Nat) : enc a - enc b = enc (a + (18446744073709551616 - b % 18446744073709551616)) := by
  apply Int64.toBitVec_inj.1
  show BitVec.ofNat 64 a - BitVec.ofNat 64 b = BitVec.ofNat 64 _
  apply BitVec.eq_of_toNat_eq
  simp only [BitVec.toNat_sub, BitVec.toNat_ofNat]
  have e : 2 ^ 64 = 18446744073709551616 := rfl
  rw [e]
  omega
theorem enc_0 {a : Nat} : enc a = 0 ↔ a % 18446744073709551616 = 0 := by
  constructor
  · intro h
    have h2 : (enc a).toBitVec.toNat = 0 := by rw [h]; rfl
    simpa [enc_bv] using h2
  · intro h
    rw [← enc_mod, h]; rfl
theorem enc_div0 (a b : Nat) (ha : a < 18446744073709551616) (hb : b < 18446744073709551616) : enc a / enc b = enc (sdivP a b) := by
  apply Int64.toBitVec_inj.1
  show BitVec.sdiv (BitVec.ofNat 64 a) (BitVec.ofNat 64 b) = BitVec.ofNat 64 (sdivP a b)
  have ma : (BitVec.ofNat 64 a).msb = Nat.ble 9223372036854775808 a := by
    rw [BitVec.msb_eq_decide, BitVec.toNat_ofNat, Nat.mod_eq_of_lt (by exact ha)]
    rw [Bool.eq_iff_iff]; simp
  have mb : (BitVec.ofNat 64 b).msb = Nat.ble 9223372036854775808 b := by
    rw [BitVec.msb_eq_decide, BitVec.toNat_ofNat, Nat.mod_eq_of_lt (by exact hb)]
    rw [Bool.eq_iff_iff]; simp
  unfold BitVec.sdiv sdivP
  rw [ma, mb]
  have ea : (BitVec.ofNat 64 a).toNat = a := by rw [BitVec.toNat_ofNat, Nat.mod_eq_of_lt (by exact ha)]
  have eb : (BitVec.ofNat 64 b).toNat = b := by rw [BitVec.toNat_ofNat, Nat.mod_eq_of_lt (by exact hb)]
  cases ha1 : Nat.ble 9223372036854775808 a <;> cases hb1 : Nat.ble 9223372036854775808 b
  · apply BitVec.eq_of_toNat_eq
    show ((BitVec.ofNat 64 a).udiv (BitVec.ofNat 64 b)).toNat = (BitVec.ofNat 64 (a / b)).toNat
    rw [show ((BitVec.ofNat 64 a).udiv (BitVec.ofNat 64 b)).toNat = (BitVec.ofNat 64 a).toNat / (BitVec.ofNat 64 b).toNat from BitVec.toNat_udiv, ea, eb, BitVec.toNat_ofNat, Nat.mod_eq_of_lt]
    exact Nat.lt_of_le_of_lt (Nat.div_le_self _ _) ha
  · have hb2 := Nat.le_of_ble_eq_true hb1
    have e1 : (-(BitVec.ofNat 64 b)).toNat = 18446744073709551616 - b := by
      rw [BitVec.toNat_neg, eb, show 2 ^ 64 = 18446744073709551616 from rfl, Nat.mod_eq_of_lt (by omega)]
    apply BitVec.eq_of_toNat_eq
    show (-((BitVec.ofNat 64 a).udiv (-(BitVec.ofNat 64 b)))).toNat = (BitVec.ofNat 64 ((18446744073709551616 - a / (18446744073709551616 - b)) % 18446744073709551616)).toNat
    rw [BitVec.toNat_neg, show ((BitVec.ofNat 64 a).udiv (-(BitVec.ofNat 64 b))).toNat = (BitVec.ofNat 64 a).toNat / (-(BitVec.ofNat 64 b)).toNat from BitVec.toNat_udiv, ea, e1, BitVec.toNat_ofNat, show 2 ^ 64 = 18446744073709551616 from rfl, Nat.mod_mod]
  · have ha2 := Nat.le_of_ble_eq_true ha1
    have e1 : (-(BitVec.ofNat 64 a)).toNat = 18446744073709551616 - a := by
      rw [BitVec.toNat_neg, ea, show 2 ^ 64 = 18446744073709551616 from rfl, Nat.mod_eq_of_lt (by omega)]
    apply BitVec.eq_of_toNat_eq
    show (-((-(BitVec.ofNat 64 a)).udiv (BitVec.ofNat 64 b))).toNat = (BitVec.ofNat 64 ((18446744073709551616 - (18446744073709551616 - a) / b) % 18446744073709551616)).toNat
    rw [BitVec.toNat_neg, show ((-(BitVec.ofNat 64 a)).udiv (BitVec.ofNat 64 b)).toNat = (-(BitVec.ofNat 64 a)).toNat / (BitVec.ofNat 64 b).toNat from BitVec.toNat_udiv, eb, e1, BitVec.toNat_ofNat, show 2 ^ 64 = 18446744073709551616 from rfl, Nat.mod_mod]
  · have ha2 := Nat.le_of_ble_eq_true ha1
    have hb2 := Nat.le_of_ble_eq_true hb1
    have e1 : (-(BitVec.ofNat 64 a)).toNat = 18446744073709551616 - a := by
      rw [BitVec.toNat_neg, ea, show 2 ^ 64 = 18446744073709551616 from rfl, Nat.mod_eq_of_lt (by omega)]
    have e2 : (-(BitVec.ofNat 64 b)).toNat = 18446744073709551616 - b := by
      rw [BitVec.toNat_neg, eb, show 2 ^ 64 = 18446744073709551616 from rfl, Nat.mod_eq_of_lt (by omega)]
    apply BitVec.eq_of_toNat_eq
    show ((-(BitVec.ofNat 64 a)).udiv (-(BitVec.ofNat 64 b))).toNat = (BitVec.ofNat 64 ((18446744073709551616 - a) / (18446744073709551616 - b))).toNat
    rw [show ((-(BitVec.ofNat 64 a)).udiv (-(BitVec.ofNat 64 b))).toNat = (-(BitVec.ofNat 64 a)).toNat / (-(BitVec.ofNat 64 b)).toNat from BitVec.toNat_udiv, e1, e2, BitVec.toNat_ofNat, Nat.mod_eq_of_lt]
    exact Nat.lt_of_le_of_lt (Nat.div_le_self _ _) (by omega)
theorem enc_div (a b : Nat) : enc a / enc b = enc (sdivN a b) := by
  rw [← enc_mod a, ← enc_mod b, enc_div0 _ _ (Nat.mod_lt _ (by decide)) (Nat.mod_lt _ (by decide))]; rfl
theorem enc_el (p f d a b : Nat) : enc (elN p f d a b) = (enc p * enc a - enc f * enc b) / enc d := by
  unfold elN
  rw [enc_mul, enc_mul, enc_sub, enc_div]
theorem enc_i32 (v : Nat) : (enc v).toInt32 = nI v := by
  apply Int32.toBitVec_inj.1
  show (BitVec.signExtend 32 (BitVec.ofNat 64 v)) = BitVec.ofNat 32 v
  rw [BitVec.signExtend_eq_setWidth_of_le _ (by decide)]
  apply BitVec.eq_of_toNat_eq
  rw [BitVec.toNat_setWidth, BitVec.toNat_ofNat, BitVec.toNat_ofNat]
  omega
theorem lcmp0 (x : Int64) : (lg_cmp x 0 = 0) = (x = 0) := by
  unfold lg_cmp
  by_cases h : x > 0
  · rw [if_pos h]
    refine propext ⟨fun q => absurd q (by decide), fun q => ?_⟩
    subst q
    exact absurd h (by decide)
  · rw [if_neg h]
    by_cases h0 : x = 0
    · rw [if_pos h0]; exact propext ⟨fun _ => h0, fun _ => rfl⟩
    · rw [if_neg h0]; exact propext ⟨fun q => absurd q (by decide), fun q => absurd q h0⟩
/-- a matrix and its list -/
def AM (A : Nat → Nat → Int64) (M : List (List Nat)) (m : Nat) : Prop := ∀ i, i < m → ∀ j, j ≤ m → A i j = enc (gt (gr M i) j)
def SQ (M : List (List Nat)) (m : Nat) : Prop := M.length = m ∧ ∀ i, i < m → (gr M i).length = m + 1
theorem AM.stage {A B : Nat → Nat → Int64} {M : List (List Nat)} {m k d : Nat} (hA : AM A M m) (hS : SQ M m) (hk : k < m) (hB : ∀ i, i < m → ∀ j, j ≤ m → B i j = if i = k then A i j else (A k k * A i j - A i k * A k j) / enc d) : AM B (elM (gt (gr M k) k) d k (gr M k) M 0) m ∧ SQ (elM (gt (gr M k) k) d k (gr M k) M 0) m := by
  refine ⟨fun i hi j hj => ?_, by rw [elM_len]; exact hS.1, fun i hi => ?_⟩
  · rw [hB i hi j hj, gr_elM _ _ _ _ _ _ _ (by rw [hS.1]; exact hi), Nat.zero_add]
    by_cases e : i = k
    · rw [if_pos e, show Nat.beq i k = true from by rw [Nat.beq_eq]; exact e]
      exact hA i hi j hj
    · rw [if_neg e, show Nat.beq i k = false from by rw [Bool.eq_false_iff]; intro q; exact e (Nat.eq_of_beq_eq_true q)]
      show _ = enc (gt (elR _ _ _ _ _) j)
      rw [gt_elR _ _ _ _ _ _ (by rw [hS.2 i hi]; omega) (by rw [hS.2 k hk]; omega), enc_el, hA i hi j hj, hA k hk k (by omega), hA i hi k (by omega), hA k hk j hj]
  · rw [gr_elM _ _ _ _ _ _ _ (by rw [hS.1]; exact hi), Nat.zero_add]
    by_cases e : i = k
    · rw [show Nat.beq i k = true from by rw [Nat.beq_eq]; exact e]
      exact hS.2 i hi
    · rw [show Nat.beq i k = false from by rw [Bool.eq_false_iff]; intro q; exact e (Nat.eq_of_beq_eq_true q)]
      show (elR _ _ _ _ _).length = _
      rw [elR_len _ _ _ _ _ (by rw [hS.2 i hi, hS.2 k hk]), hS.2 i hi]
