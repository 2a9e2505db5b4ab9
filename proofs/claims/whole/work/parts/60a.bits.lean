/-! Bits: how many, and sets of rows. -/
def bcN (x : Nat) : Nat :=
  let y1 := x - (x / 2 &&& 1431655765)
  let y2 := (y1 &&& 858993459) + (y1 / 4 &&& 858993459)
  let y3 := (y2 + y2 / 16) &&& 252645135
  let y4 := y3 + y3 / 256
  (y4 + y4 / 65536) &&& 63
theorem ush {n : Nat} (hn : n < 2 ^ 32) (k : Nat) (hk : k < 32) : ((nI n).toUInt32 >>> ((nI k).toUInt32 &&& Int32.toUInt32 31)).toInt32 = nI (n / 2 ^ k) := by
  have h : ∀ k : Fin 32, (((nI k.val).toUInt32 &&& Int32.toUInt32 31).toBitVec % 32).toNat = k.val := by decide +kernel
  exact pk_ushrN hn _ k (h ⟨k, hk⟩)
theorem bcT {x : Nat} (hx : x < 65536) : D_J6_bitCount_0f7a4 (nI x) = some (nI (bcN x)) := by
  have a1 : (x / 2 &&& 1431655765) ≤ x := Nat.le_trans Nat.and_le_left (Nat.div_le_self _ _)
  have c : ∀ a m : Nat, a &&& m ≤ m := fun a m => Nat.and_le_right
  unfold D_J6_bitCount_0f7a4 D_J6_bitCount_0f7a4_b24 D_J6_bitCount_0f7a4_b41 bcN
  rw [show (1 : Int32) = nI 1 from rfl, show (2 : Int32) = nI 2 from rfl, show (4 : Int32) = nI 4 from rfl, show (8 : Int32) = nI 8 from rfl, show (16 : Int32) = nI 16 from rfl, show (1431655765 : Int32) = nI 1431655765 from rfl, show (858993459 : Int32) = nI 858993459 from rfl, show (252645135 : Int32) = nI 252645135 from rfl, show (63 : Int32) = nI 63 from rfl]
  rw [ush (by omega) 1 (by omega), andI, pk_sub a1]
  generalize hy1 : x - (x / 2 ^ 1 &&& 1431655765) = y1
  have l1 : y1 < 65536 := by omega
  rw [ush (by omega) 2 (by omega), andI, andI, nI_add]
  generalize hy2 : (y1 &&& 858993459) + (y1 / 2 ^ 2 &&& 858993459) = y2
  have l2 : y2 < 2 ^ 31 := by
    have := c y1 858993459
    have := c (y1 / 2 ^ 2) 858993459
    omega
  rw [ush (by omega) 4 (by omega), nI_add, andI]
  generalize hy3 : (y2 + y2 / 2 ^ 4) &&& 252645135 = y3
  have l3 : y3 ≤ 252645135 := by rw [← hy3]; exact c _ _
  rw [ush (by omega) 8 (by omega), nI_add]
  generalize hy4 : y3 + y3 / 2 ^ 8 = y4
  have l4 : y4 < 2 ^ 31 := by omega
  rw [ush (by omega) 16 (by omega), nI_add, andI]
  subst hy4 hy3 hy2 hy1
  rfl
def ps (n x : Nat) : Nat := Nat.rec 0 (fun i a => a + x / 2 ^ i % 2) n
theorem ps_s (n x : Nat) : ps (n + 1) x = ps n x + x / 2 ^ n % 2 := rfl
def p16 (x : Nat) : Nat := x % 2 + x / 2 % 2 + x / 4 % 2 + x / 8 % 2 + x / 16 % 2 + x / 32 % 2 + x / 64 % 2 + x / 128 % 2 + x / 256 % 2 + x / 512 % 2 + x / 1024 % 2 + x / 2048 % 2 + x / 4096 % 2 + x / 8192 % 2 + x / 16384 % 2 + x / 32768 % 2
noncomputable def al2 (f : Nat → Bool) (k : Nat) : Nat → Bool := Nat.rec (fun b => f b) (fun j ih b => cond (ih b) (frc (b + 2 ^ j) fun c => ih c) false) k
theorem al2_ok (f : Nat → Bool) : ∀ k b, al2 f k b = true → ∀ x, x < 2 ^ k → f (b + x) = true
  | 0, b, h, x, hx => by
    have : x = 0 := by have : (2 : Nat) ^ 0 = 1 := rfl; omega
    subst this
    exact h
  | k + 1, b, h, x, hx => by
    have h : cond (al2 f k b) (frc (b + 2 ^ k) fun c => al2 f k c) false = true := h
    cases h1 : al2 f k b with
    | false => rw [h1] at h; cases h
    | true =>
      rw [h1, cond_true, frc_eq] at h
      rcases Nat.lt_or_ge x (2 ^ k) with q | q
      · exact al2_ok f k b h1 x q
      · have := al2_ok f k (b + 2 ^ k) h (x - 2 ^ k) (by rw [Nat.pow_succ] at hx; omega)
        rw [show b + 2 ^ k + (x - 2 ^ k) = b + x by omega] at this
        exact this
theorem bc_all0 : al2 (fun x => Nat.beq (bcN x) (p16 x)) 14 0 = true := by decide +kernel
theorem bc_all1 : al2 (fun x => Nat.beq (bcN x) (p16 x)) 14 16384 = true := by decide +kernel
theorem bc_all2 : al2 (fun x => Nat.beq (bcN x) (p16 x)) 14 32768 = true := by decide +kernel
theorem bc_all3 : al2 (fun x => Nat.beq (bcN x) (p16 x)) 14 49152 = true := by decide +kernel
