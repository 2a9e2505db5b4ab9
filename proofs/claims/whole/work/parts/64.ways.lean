/-! odds: ways as weighted sums. -/
def ws (F u : Nat → Nat) (n : Nat) : Nat := Nat.rec 0 (fun i a => a + u i * F i) n
theorem ws_0 (F u : Nat → Nat) : ws F u 0 = 0 := rfl
theorem ws_s (F u : Nat → Nat) (n : Nat) : ws F u (n + 1) = ws F u n + u n * F n := rfl
theorem ws_c {F F' u u' : Nat → Nat} : ∀ n, (∀ x, x < n → u x * F x = u' x * F' x) → ws F u n = ws F' u' n
  | 0, _ => rfl
  | n + 1, h => by rw [ws_s, ws_s, ws_c n (fun x hx => h x (by omega)), h n (by omega)]
def uN (z : Nat → Nat) (y v : Nat) : Nat → Nat := fun x => if x = y then v else z x
theorem ws_up (F z : Nat → Nat) (y δ : Nat) : ∀ n, ws F (uN z y (z y + δ)) n = ws F z n + (if y < n then δ * F y else 0)
  | 0 => by rw [ws_0, ws_0, if_neg (Nat.not_lt_zero y)]
  | n + 1 => by
    rw [ws_s, ws_s, ws_up F z y δ n]
    unfold uN
    by_cases e : n = y
    · subst e
      rw [if_neg (Nat.lt_irrefl n), if_pos rfl, if_pos (Nat.lt_succ_self n), Nat.add_mul]
      omega
    · rw [if_neg e]
      by_cases q : y < n
      · rw [if_pos q, if_pos (by omega)]; omega
      · rw [if_neg q, if_neg (by omega)]; omega
theorem ws_z (F : Nat → Nat) : ∀ n, ws F (fun _ => 0) n = 0
  | 0 => rfl
  | n + 1 => by rw [ws_s, ws_z F n, Nat.zero_mul]
theorem ws_F0 (u : Nat → Nat) : ∀ n, ws (fun _ => 0) u n = 0
  | 0 => rfl
  | n + 1 => by rw [ws_s, ws_F0 u n, Nat.mul_zero]
theorem ws_1 (F : Nat → Nat) (y : Nat) (n : Nat) (h : y < n) : ws F (fun x => if x = y then 1 else 0) n = F y := by
  have e : (fun x => if x = y then 1 else 0) = uN (fun _ => 0) y ((fun _ => 0) y + 1) := rfl
  rw [e, ws_up, ws_z, if_pos h, Nat.one_mul, Nat.zero_add]
theorem ws_mono {F F' u : Nat → Nat} (h : ∀ x, F x ≤ F' x) : ∀ n, ws F u n ≤ ws F' u n
  | 0 => Nat.le_refl _
  | n + 1 => by
    rw [ws_s, ws_s]
    exact Nat.add_le_add (ws_mono h n) (Nat.mul_le_mul (Nat.le_refl _) (h n))
theorem ws_2 (u : Nat → Nat) : ∀ n, ws (fun _ => 2) u n = 2 * ws (fun _ => 1) u n
  | 0 => rfl
  | n + 1 => by rw [ws_s, ws_s, ws_2 u n]; omega
theorem ws_at (u : Nat → Nat) {x : Nat} : ∀ n, x < n → u x ≤ ws (fun _ => 1) u n
  | 0, h => absurd h (Nat.not_lt_zero x)
  | n + 1, h => by
    rw [ws_s]
    by_cases e : x = n
    · subst e; omega
    · have := ws_at u n (x := x) (by omega); omega
/-- a track as the reference has it: one toss less -/
def pj (sz t : Nat) : Nat := if t < 2 ^ sz then t else 2 ^ (sz - 1) + t % 2 ^ (sz - 1)
/-- the game is over behind the track y -/
def ov (np sz : Nat) (c : CO) (y : Nat) : Bool := Nat.ble (2 ^ sz) y && !(Nat.beq (wh sz c (y % 2 ^ sz) np) 0)
/-- he hits by it -/
def hi (sz : Nat) (c : CO) (p y : Nat) : Bool := Nat.beq (hp sz c p / 2 ^ (y % 2 ^ sz) % 2) 1
def hF (np sz : Nat) (c : CO) (p : Nat) (F : Nat → Nat) (e y : Nat) : Nat := cond (ov np sz c y) (cond (hi sz c p y) e 0) (F (pj sz y))
def HF (np sz : Nat) (c : CO) (p : Nat) (F : Nat → Nat) (e s : Nat) : Nat := hF np sz c p F e (2 * s) + hF np sz c p F e (2 * s + 1)
/-- in how many ways he wins by k tosses from a state -/
def GW (np sz : Nat) (c : CO) (p : Nat) : Nat → Nat → Nat
  | 0 => fun _ => 0
  | k + 1 => HF np sz c p (GW np sz c p k) (2 ^ k)
theorem GW_s (np sz : Nat) (c : CO) (p k : Nat) : GW np sz c p (k + 1) = HF np sz c p (GW np sz c p k) (2 ^ k) := rfl
theorem GW_le (np sz : Nat) (c : CO) (p : Nat) : ∀ k s, GW np sz c p k s ≤ 2 ^ k
  | 0, s => Nat.zero_le _
  | k + 1, s => by
    have h : ∀ y, hF np sz c p (GW np sz c p k) (2 ^ k) y ≤ 2 ^ k := fun y => by
      unfold hF
      cases ov np sz c y with
      | false => exact GW_le np sz c p k _
      | true => cases hi sz c p y with
        | false => exact Nat.zero_le _
        | true => exact Nat.le_refl _
    rw [GW_s]
    have h1 := h (2 * s)
    have h2 := h (2 * s + 1)
    unfold HF
    rw [Nat.pow_succ]
    omega
theorem HF_1 (np sz : Nat) (c : CO) (p s : Nat) : HF np sz c p (fun _ => 1) 1 s ≤ 2 := by
  have h : ∀ y, hF np sz c p (fun _ => 1) 1 y ≤ 1 := fun y => by
    unfold hF
    cases ov np sz c y with
    | false => exact Nat.le_refl _
    | true => cases hi sz c p y with
      | false => exact Nat.zero_le _
      | true => exact Nat.le_refl _
  have h1 := h (2 * s)
  have h2 := h (2 * s + 1)
  unfold HF
  omega
/-- all rows that are hit by one of the first players -/
def oal (sz : Nat) (c : CO) : Nat → Nat
  | 0 => 0
  | p + 1 => oal sz c p ||| hp sz c p
theorem oal_s (sz : Nat) (c : CO) (p : Nat) : oal sz c (p + 1) = oal sz c p ||| hp sz c p := rfl
theorem oal_lt {np sz : Nat} {c : CO} (hN : NS np sz) (hV : VC np sz c) : ∀ p, p ≤ np → oal sz c p < 65536
  | 0, _ => show 0 < 65536 by omega
  | p + 1, h => or16 (oal_lt hN hV p (by omega)) (hp_16 hN hV (by omega))
theorem orz {a b : Nat} : (a ||| b = 0) = (a = 0 ∧ b = 0) := by
  apply propext
  constructor
  · intro h
    have h1 : a ≤ a ||| b := Nat.left_le_or
    have h2 : b ≤ a ||| b := Nat.right_le_or
    omega
  · rintro ⟨rfl, rfl⟩; rfl
theorem tb01 (x j : Nat) : x / 2 ^ j % 2 = (x.testBit j).toNat := by
  rw [Nat.testBit_eq_decide_div_mod_eq]
  rcases bit01 x j with h | h <;> rw [h] <;> rfl
theorem oal_wh (sz : Nat) (c : CO) (t : Nat) : ∀ p, oal sz c p / 2 ^ t % 2 = if wh sz c t p = 0 then 0 else 1
  | 0 => by simp [oal, wh]
  | p + 1 => by
    have h := oal_wh sz c t p
    have h2 : 2 ^ p ≠ 0 := by simp
    rw [oal_s, wh_s, tb01, Nat.testBit_or]
    rw [tb01] at h
    have e := tb01 (hp sz c p) t
    rw [e]
    cases q : (hp sz c p).testBit t with
    | false =>
      rw [Bool.or_false, h]
      simp
    | true =>
      have h3 : ¬ ((wh sz c t p ||| 2 ^ p) = 0) := by
        rw [orz]; omega
      rw [Bool.or_true]
      show 1 = if (wh sz c t p ||| 2 ^ p) = 0 then 0 else 1
      rw [if_neg h3]
theorem ov_t {np sz y : Nat} {c : CO} (h : 2 ^ sz ≤ y) : ov np sz c y = !(Nat.beq (wh sz c (y % 2 ^ sz) np) 0) := by
  unfold ov
  rw [Nat.ble_eq_true_of_le h, Bool.true_and]
theorem ov_f {np sz y : Nat} {c : CO} (h : y < 2 ^ sz) : ov np sz c y = false := by
  unfold ov
  have : Nat.ble (2 ^ sz) y = false := by
    cases q : Nat.ble (2 ^ sz) y with
    | false => rfl
    | true => exact absurd (Nat.le_of_ble_eq_true q) (by omega)
  rw [this, Bool.false_and]
theorem th_all : ∀ s : Fin 3, ∀ t : Fin 32, ∀ d : Fin 2, t.val < 2 ^ (s.val + 3) → D_X8_trackBehind (pI τ0 2 (nI (s.val + 2))) (nI t.val) (nI d.val) = some (nI (2 * pj (s.val + 2) t.val + d.val)) ∧ pj (s.val + 2) t.val < 2 ^ (s.val + 2) ∧ (0 < t.val → 0 < pj (s.val + 2) t.val) := by decide +kernel
theorem bh_all : ∀ s : Fin 3, ∀ k : Fin 16, ∀ d : Fin 2, k.val < 2 ^ (s.val + 2) → D_X9_behind (pI τ0 2 (nI (s.val + 2))) (nI k.val) (nI d.val) = some (nI (pj (s.val + 2) (2 * k.val + d.val))) ∧ pj (s.val + 2) (2 * k.val + d.val) < 2 ^ (s.val + 2) ∧ (0 < k.val → 0 < pj (s.val + 2) (2 * k.val + d.val)) := by decide +kernel
theorem st_all : ∀ s : Fin 3, ∀ m : Fin 5, ∀ l : Fin 16, D_X9_stateNow (pI (pI (pI τ0 2 (nI (s.val + 2))) 3 (nI m.val)) 4 (nI l.val)) = some (nI (pj (s.val + 2) (trk (s.val + 2) m.val l.val))) := by decide +kernel
theorem behT {sz t d : Nat} {σ : ST} (h2 : gI σ 2 = nI sz) (hz : 2 ≤ sz) (hz4 : sz ≤ 4) (ht : t < 2 ^ (sz + 1)) (hd : d < 2) : D_X8_trackBehind σ (nI t) (nI d) = some (nI (2 * pj sz t + d)) ∧ pj sz t < 2 ^ sz ∧ (0 < t → 0 < pj sz t) := by
  obtain ⟨s, rfl⟩ : ∃ s, sz = s + 2 := ⟨sz - 2, by omega⟩
  have e : D_X8_trackBehind σ (nI t) (nI d) = D_X8_trackBehind (pI τ0 2 (gI σ 2)) (nI t) (nI d) := rfl
  rw [e, h2]
  have h32 : 2 ^ (s + 2 + 1) ≤ 2 ^ 5 := two_le (by omega)
  exact th_all ⟨s, by omega⟩ ⟨t, by omega⟩ ⟨d, hd⟩ ht
theorem behM {sz k d : Nat} {τ : ST} (h2 : gI τ 2 = nI sz) (hz : 2 ≤ sz) (hz4 : sz ≤ 4) (hk : k < 2 ^ sz) (hd : d < 2) : D_X9_behind τ (nI k) (nI d) = some (nI (pj sz (2 * k + d))) ∧ pj sz (2 * k + d) < 2 ^ sz ∧ (0 < k → 0 < pj sz (2 * k + d)) := by
  obtain ⟨s, rfl⟩ : ∃ s, sz = s + 2 := ⟨sz - 2, by omega⟩
  have e : D_X9_behind τ (nI k) (nI d) = D_X9_behind (pI τ0 2 (gI τ 2)) (nI k) (nI d) := rfl
  rw [e, h2]
  have := p2s hz4
  exact bh_all ⟨s, by omega⟩ ⟨k, by omega⟩ ⟨d, hd⟩ hk
theorem stateM {np sz : Nat} {c : CO} {τ : ST} (hN : NS np sz) (h0 : 0 < np) (hF : FM np sz c τ) (hV : VC np sz c) : D_X9_stateNow τ = some (nI (pj sz (trk sz (tg c) (la c)))) := by
  obtain ⟨n2, n3⟩ := hN.pos h0
  have h4 := hN.sz
  have htg : tg c ≤ ts c := hV.2.2.2.2.1
  have hts : ts c ≤ 9999 := hV.2.2.2.1
  obtain ⟨s, rfl⟩ : ∃ s, sz = s + 2 := ⟨sz - 2, by omega⟩
  have e : D_X9_stateNow τ = D_X9_stateNow (pI (pI (pI τ0 2 (gI τ 2)) 3 (gI τ 3)) 4 (gI τ 4)) := rfl
  rw [e, hF.2.1, show gI τ 3 = nI (tg c) from hF.2.2.2.2.2.2.2.2.2.2.1, show gI τ 4 = nI (la c) from hF.2.2.2.2.2.2.2.2.2.2.2]
  by_cases q : tg c ≤ 4
  · exact st_all ⟨s, by omega⟩ ⟨tg c, by omega⟩ ⟨la c, hV.2.2.2.2.2⟩
  · have hm : D_X9_stateNow (pI (pI (pI τ0 2 (nI (s + 2))) 3 (nI 4)) 4 (nI (la c))) = some (nI (pj (s + 2) (trk (s + 2) 4 (la c)))) := st_all ⟨s, by omega⟩ ⟨4, by omega⟩ ⟨la c, hV.2.2.2.2.2⟩
    have e1 : trk (s + 2) (tg c) (la c) = trk (s + 2) 4 (la c) := by
      unfold trk
      rw [Nat.min_eq_left (show s + 2 ≤ tg c by omega), Nat.min_eq_left (show s + 2 ≤ 4 by omega)]
    rw [e1, ← hm]
    have c1 : (nI (s + 2) - 1 ≤ nI (tg c)) = True := by
      rw [show nI (s + 2) - 1 = nI (s + 1) from nI_pred (s + 1)]
      exact ile (by omega) (by omega)
    have c2 : (nI (s + 2) - 1 ≤ nI 4) = True := by
      rw [show nI (s + 2) - 1 = nI (s + 1) from nI_pred (s + 1)]
      exact ile (by omega) (by omega)
    unfold D_X9_stateNow
    show (if nI (s + 2) - 1 ≤ nI (tg c) then _ else _) = (if nI (s + 2) - 1 ≤ nI 4 then _ else _)
    rw [if_pos (of_eq_true c1), if_pos (of_eq_true c2)]
    rfl
theorem shlI (x : Nat) {k : Nat} (hk : k < 32) : nI x <<< (nI k &&& 31) = nI (x * 2 ^ k) := by
  apply Int32.toBitVec_inj.1
  apply BitVec.eq_of_toNat_eq
  rw [pk_shl _ _ k (s31 ⟨k, hk⟩)]
  show BitVec.toNat (BitVec.ofNat 32 x) * 2 ^ k % 2 ^ 32 = BitVec.toNat (BitVec.ofNat 32 (x * 2 ^ k))
  rw [BitVec.toNat_ofNat, BitVec.toNat_ofNat, Nat.mod_mul_mod]
/-- a fraction by a power of two, in its lowest -/
def red : Nat → Nat → Nat × Nat
  | 0, a => (a, 0)
  | n + 1, a => if a % 2 = 0 then red n (a / 2) else (a, n + 1)
theorem red_s (n a : Nat) : red (n + 1) a = if a % 2 = 0 then red n (a / 2) else (a, n + 1) := rfl
theorem red_le : ∀ n a, (red n a).2 ≤ n
  | 0, a => Nat.le_refl _
  | n + 1, a => by
    rw [red_s]
    by_cases e : a % 2 = 0
    · rw [if_pos e]; have := red_le n (a / 2); omega
    · rw [if_neg e]; exact Nat.le_refl _
theorem red_gcd : ∀ n a, a / Nat.gcd a (2 ^ n) = (red n a).1 ∧ 2 ^ n / Nat.gcd a (2 ^ n) = 2 ^ (red n a).2
  | 0, a => by
    rw [Nat.pow_zero, Nat.gcd_one_right, Nat.div_one, Nat.div_one]
    exact ⟨rfl, rfl⟩
  | n + 1, a => by
    rw [red_s]
    by_cases e : a % 2 = 0
    · rw [if_pos e]
      obtain ⟨b, rfl⟩ : ∃ b, a = 2 * b := ⟨a / 2, by omega⟩
      have e2 : (2 : Nat) ^ (n + 1) = 2 * 2 ^ n := by rw [Nat.pow_succ, Nat.mul_comm]
      rw [show 2 * b / 2 = b by omega, e2, Nat.gcd_mul_left, Nat.mul_div_mul_left _ _ (by omega), Nat.mul_div_mul_left _ _ (by omega)]
      exact red_gcd n b
    · rw [if_neg e]
      have g1 : Nat.gcd a (2 ^ (n + 1)) = 1 := by
        have : Nat.Coprime a 2 := by
          have h := Nat.gcd_rec 2 a
          rw [show a % 2 = 1 by omega, Nat.gcd_one_left] at h
          exact (Nat.gcd_comm a 2).trans h
        exact Nat.Coprime.pow_right (n + 1) this
      rw [g1, Nat.div_one, Nat.div_one]
      exact ⟨rfl, rfl⟩
theorem redT (σ : ST) (x : Int32) : ∀ n a, n < 31 → a < 2 ^ 31 → ∀ m, n < m → itr (fun (rec45 : (ST × Int32 × Int32 × Int32) → Option (Int32 × ST)) (a : (ST × Int32 × Int32 × Int32)) => D_X8_odds_L45_body rec45 a.1 a.2.1 a.2.2.1 a.2.2.2) m (σ, x, nI a, nI n) = some (if x = 0 then nI (red n a).1 else nI (2 ^ (red n a).2), σ)
  | 0, a, _, ha, m, hm => by
    obtain ⟨m, rfl⟩ : ∃ q, m = q + 1 := ⟨m - 1, by omega⟩
    rw [itr_s]
    show D_X8_odds_L45_body _ σ x (nI a) (nI 0) = _
    simp only [D_X8_odds_L45_body, show (nI 0 ≤ 0) = True from eq_true (by decide), if_true, D_X8_odds_b69]
    by_cases q : x = 0
    · rw [if_pos q, if_pos q]; rfl
    · rw [if_neg q, if_neg q]; rfl
  | n + 1, a, hn, ha, m, hm => by
    obtain ⟨m, rfl⟩ : ∃ q, m = q + 1 := ⟨m - 1, by omega⟩
    rw [itr_s]
    show D_X8_odds_L45_body _ σ x (nI a) (nI (n + 1)) = _
    have e1 : nI a &&& (1 : Int32) = nI (a % 2) := pk_andN (by omega) 1 (by decide)
    have e2 : nI a >>> ((1 : Int32) &&& 31) = nI (a / 2) := pk_shrN ha _ 1 (by decide)
    simp only [D_X8_odds_L45_body, eq_false (nI_nle (show 0 < n + 1 by omega) (by omega)), if_false, e1, e2, pk_m1]
    rw [red_s]
    rcases (show a % 2 = 0 ∨ a % 2 = 1 by omega) with h | h
    · rw [h, if_pos (show nI 0 = 0 from rfl), if_pos rfl]
      exact redT σ x n (a / 2) (by omega) (by omega) m (by omega)
    · rw [if_neg (show ¬ nI (a % 2) = 0 by rw [h]; decide), if_neg (show ¬ a % 2 = 0 by omega)]
      unfold D_X8_odds_b69
      rw [sh1' (by omega)]
      by_cases q : x = 0
      · rw [if_pos q, if_pos q]
      · rw [if_neg q, if_neg q]
theorem eucl : ∀ k a b, a < 2 ^ 31 → b < 2 ^ 31 → b < 2 ^ k → ∀ m, 2 * k + 1 ≤ m → itr (fun (rec4 : (Int32 × Int32) → Option Int32) (a : (Int32 × Int32)) => D_X9_divisor_L4_body rec4 a.1 a.2) m (nI a, nI b) = some (nI (Nat.gcd a b))
  | 0, a, b, ha, hb, hk, m, hm => by
    obtain ⟨m, rfl⟩ : ∃ q, m = q + 1 := ⟨m - 1, by omega⟩
    have : b = 0 := by simpa using hk
    subst this
    rw [itr_s]
    show D_X9_divisor_L4_body _ (nI a) (nI 0) = _
    simp only [D_X9_divisor_L4_body, show (nI 0 = 0) = True from eq_true rfl, if_true, Nat.gcd_zero_right]
  | k + 1, a, b, ha, hb, hk, m, hm => by
    obtain ⟨m, rfl⟩ : ∃ q, m = q + 1 := ⟨m - 1, by omega⟩
    rw [itr_s]
    show D_X9_divisor_L4_body _ (nI a) (nI b) = _
    rcases Nat.eq_zero_or_pos b with h0 | h0
    · subst h0
      simp only [D_X9_divisor_L4_body, show (nI 0 = 0) = True from eq_true rfl, if_true, Nat.gcd_zero_right]
    · have h1 : a % b < b := Nat.mod_lt _ h0
      simp only [D_X9_divisor_L4_body, in0 h0 hb, if_false, pk_rem ha h0 hb]
      obtain ⟨m, rfl⟩ : ∃ q, m = q + 1 := ⟨m - 1, by omega⟩
      rw [itr_s]
      show D_X9_divisor_L4_body _ (nI b) (nI (a % b)) = _
      have g1 : Nat.gcd a b = Nat.gcd b (a % b) := by rw [Nat.gcd_comm a b, Nat.gcd_rec b a, Nat.gcd_comm]
      rcases Nat.eq_zero_or_pos (a % b) with q | q
      · rw [g1, q]
        simp only [D_X9_divisor_L4_body, show (nI 0 = 0) = True from eq_true rfl, if_true, Nat.gcd_zero_right]
      · have h2 : b % (a % b) < a % b := Nat.mod_lt _ q
        have h3 : b % (a % b) + (a % b) ≤ b := by
          have d := Nat.div_add_mod b (a % b)
          have p : 1 ≤ b / (a % b) := (Nat.one_le_div_iff q).mpr (Nat.le_of_lt h1)
          have p2 : (a % b) * 1 ≤ (a % b) * (b / (a % b)) := Nat.mul_le_mul (Nat.le_refl _) p
          omega
        simp only [D_X9_divisor_L4_body, in0 q (by omega), if_false, pk_rem hb q (by omega)]
        have g2 : Nat.gcd b (a % b) = Nat.gcd (a % b) (b % (a % b)) := by rw [Nat.gcd_comm b (a % b), Nat.gcd_rec (a % b) b, Nat.gcd_comm]
        rw [g1, g2]
        refine eucl k (a % b) (b % (a % b)) (by omega) (by omega) ?_ m (by omega)
        rw [Nat.pow_succ] at hk
        omega
