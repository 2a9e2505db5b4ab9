/-! ring. -/
theorem itr_hom {β ρ : Type} {σ τc : ST} {F F' : ((ST × β) → Option (ρ × ST)) → (ST × β) → Option (ρ × ST)} (hF : ∀ rec rec' : (ST × β) → Option (ρ × ST), (∀ b, rec' (σ, b) = (rec (τc, b)).map (fun r => (r.1, σ))) → ∀ b, F' rec' (σ, b) = (F rec (τc, b)).map (fun r => (r.1, σ))) : ∀ n b, itr F' n (σ, b) = (itr F n (τc, b)).map (fun r => (r.1, σ)) := by
  intro n
  induction n with
  | zero => intro b; rfl
  | succ n ih =>
    intro b
    rw [itr_s, itr_s]
    exact hF _ _ ih b
theorem map_ite {α β : Type} {c : Prop} [Decidable c] (g : α → β) (x y : Option α) : (if c then x else y).map g = if c then x.map g else y.map g := by
  by_cases h : c
  · rw [if_pos h, if_pos h]
  · rw [if_neg h, if_neg h]
theorem map_bd {α β γ : Type} (g : β → γ) (x : Option α) (f : α → Option β) : (x.bind f).map g = x.bind fun a => (f a).map g := by cases x <;> rfl
theorem map_som {α β : Type} (g : α → β) (x : α) : (some x).map g = some (g x) := rfl
theorem ringT_hom {σ τc : ST} (h : gI σ 1 = gI τc 1) (x1 x2 : Int32) : D_X8_ring_L17 σ x1 x2 = (D_X8_ring_L17 τc x1 x2).map (fun r => (r.1, σ)) := by
  unfold D_X8_ring_L17
  refine itr_hom (β := Int32 × Int32) (fun rec rec' hr b => ?_) 200 (x1, x2)
  show D_X8_ring_L17_body rec' σ b.1 b.2 = (D_X8_ring_L17_body rec τc b.1 b.2).map _
  have h27 : ∀ x1 x2 x3, D_X8_ring_L27 rec' σ x1 x2 x3 = (D_X8_ring_L27 rec τc x1 x2 x3).map (fun r => (r.1, σ)) := by
    intro x1 x2 x3
    unfold D_X8_ring_L27
    refine itr_hom (β := Int32 × Int32 × Int32) (fun rc rc' hc b => ?_) 200 (x1, x2, x3)
    show D_X8_ring_L27_body rec' rc' σ b.1 b.2.1 b.2.2 = (D_X8_ring_L27_body rec rc τc b.1 b.2.1 b.2.2).map _
    simp only [D_X8_ring_L27_body, D_X8_ring_b55, map_ite, map_bd, map_som, ← hr, ← hc, h]
  simp only [D_X8_ring_L17_body, map_ite, map_som, ← h27, h]
theorem isRound_c {σ τc : ST} (h : ∀ i, i < 16 → gA σ 7 i = gA τc 7 i) (a b c : Int32) : D_X9_isRound σ a b c = D_X9_isRound τc a b c := by
  unfold D_X9_isRound
  by_cases h1 : (((4 : Int32) * a) + b) < 0 ∨ 16 ≤ (((4 : Int32) * a) + b).toNatClampNeg
  · rw [if_pos h1, if_pos h1]
  · by_cases h2 : (((4 : Int32) * b) + c) < 0 ∨ 16 ≤ (((4 : Int32) * b) + c).toNatClampNeg
    · rw [if_neg h1, if_neg h1, if_pos h2, if_pos h2]
    · by_cases h3 : (((4 : Int32) * c) + a) < 0 ∨ 16 ≤ (((4 : Int32) * c) + a).toNatClampNeg
      · rw [if_neg h1, if_neg h1, if_neg h2, if_neg h2, if_pos h3, if_pos h3]
      · rw [if_neg h1, if_neg h1, if_neg h2, if_neg h2, if_neg h3, if_neg h3, h _ (by omega), h _ (by omega), h _ (by omega)]
theorem isRound4_c {σ τc : ST} (h : ∀ i, i < 16 → gA σ 7 i = gA τc 7 i) (a b c d : Int32) : D_X9_isRoundOfFour σ a b c d = D_X9_isRoundOfFour τc a b c d := by
  unfold D_X9_isRoundOfFour
  by_cases h1 : (((4 : Int32) * a) + b) < 0 ∨ 16 ≤ (((4 : Int32) * a) + b).toNatClampNeg
  · rw [if_pos h1, if_pos h1]
  · by_cases h2 : (((4 : Int32) * b) + c) < 0 ∨ 16 ≤ (((4 : Int32) * b) + c).toNatClampNeg
    · rw [if_neg h1, if_neg h1, if_pos h2, if_pos h2]
    · by_cases h3 : (((4 : Int32) * c) + d) < 0 ∨ 16 ≤ (((4 : Int32) * c) + d).toNatClampNeg
      · rw [if_neg h1, if_neg h1, if_neg h2, if_neg h2, if_pos h3, if_pos h3]
      · by_cases h5 : (((4 : Int32) * d) + a) < 0 ∨ 16 ≤ (((4 : Int32) * d) + a).toNatClampNeg
        · rw [if_neg h1, if_neg h1, if_neg h2, if_neg h2, if_neg h3, if_neg h3, if_pos h5, if_pos h5]
        · rw [if_neg h1, if_neg h1, if_neg h2, if_neg h2, if_neg h3, if_neg h3, if_neg h5, if_neg h5, h _ (by omega), h _ (by omega), h _ (by omega), h _ (by omega)]
theorem ringM_hom {σ τc : ST} (h : gI σ 1 = gI τc 1) (hA : ∀ i, i < 16 → gA σ 7 i = gA τc 7 i) (x1 x2 : Int32) : D_X9_ringNow_L8 σ x1 x2 = (D_X9_ringNow_L8 τc x1 x2).map (fun r => (r.1, σ)) := by
  unfold D_X9_ringNow_L8
  refine itr_hom (β := Int32 × Int32) (fun rec rec' hr b => ?_) 200 (x1, x2)
  show D_X9_ringNow_L8_body rec' σ b.1 b.2 = (D_X9_ringNow_L8_body rec τc b.1 b.2).map _
  have h18 : ∀ x1 x2 x3, D_X9_ringNow_L18 rec' σ x1 x2 x3 = (D_X9_ringNow_L18 rec τc x1 x2 x3).map (fun r => (r.1, σ)) := by
    intro x1 x2 x3
    unfold D_X9_ringNow_L18
    refine itr_hom (β := Int32 × Int32 × Int32) (fun r18 r18' h18 b => ?_) 200 (x1, x2, x3)
    show D_X9_ringNow_L18_body rec' r18' σ b.1 b.2.1 b.2.2 = (D_X9_ringNow_L18_body rec r18 τc b.1 b.2.1 b.2.2).map _
    have h26 : ∀ x1 x2 x3 x4, D_X9_ringNow_L26 rec' r18' σ x1 x2 x3 x4 = (D_X9_ringNow_L26 rec r18 τc x1 x2 x3 x4).map (fun r => (r.1, σ)) := by
      intro x1 x2 x3 x4
      unfold D_X9_ringNow_L26
      refine itr_hom (β := Int32 × Int32 × Int32 × Int32) (fun rc rc' hc b => ?_) 200 (x1, x2, x3, x4)
      show D_X9_ringNow_L26_body rec' r18' rc' σ b.1 b.2.1 b.2.2.1 b.2.2.2 = (D_X9_ringNow_L26_body rec r18 rc τc b.1 b.2.1 b.2.2.1 b.2.2.2).map _
      simp only [D_X9_ringNow_L26_body, D_X9_ringNow_b73, D_X9_ringNow_b68, D_X9_ringNow_b95, D_X9_ringNow_b90, D_X9_ringNow_b96, isRound_c hA, map_ite, map_bd, map_som, ← h18, ← hc]
    simp only [D_X9_ringNow_L18_body, map_ite, ← hr, ← h26]
  simp only [D_X9_ringNow_L8_body, D_X9_ringNow_b195, D_X9_ringNow_b200, isRound4_c hA, map_ite, map_bd, map_som, ← h18, h]
/-- who beats whom, of a pair: 0 none, 1 the first, 2 the second; as bits -/
def trt (f b : Nat) : Nat := if b < f then 1 else if f < b then 2 else 0
def bp (one other t : Nat) : Nat := if t = 1 then 2 ^ (4 * one + other) else if t = 2 then 2 ^ (4 * other + one) else 0
/-- of the pairs so far -/
def xin (tr : Nat → Nat → Nat) (one x : Nat) : Nat → Nat
  | 0 => x
  | j + 1 => xin tr one x j ||| bp one j (tr one j)
def xou (tr : Nat → Nat → Nat) : Nat → Nat
  | 0 => 0
  | i + 1 => xin tr i (xou tr i) i
/-- the reference's array -/
def bta (np : Nat) (tr : Nat → Nat → Nat) (k : Nat) : Nat := if k / 4 < np ∧ k % 4 < np ∧ k / 4 ≠ k % 4 then (if k % 4 < k / 4 then (if tr (k / 4) (k % 4) = 1 then 1 else 0) else (if tr (k % 4) (k / 4) = 2 then 1 else 0)) else 0
def tri (a b c d e f : Nat) (i j : Nat) : Nat := if i = 1 then a else if i = 2 then (if j = 0 then b else c) else (if j = 0 then d else if j = 1 then e else f)
noncomputable def rgT (np : Nat) (tr : Nat → Nat → Nat) : Option Int32 := (D_X8_ring_L17 (pI τ0 1 (nI np)) (nI (xou tr np)) 3).map Prod.fst
noncomputable def rgM (np : Nat) (tr : Nat → Nat → Nat) : Option Int32 := (D_X9_ringNow_L8 (pI (pF τ0 7 (fun i => nI (bta np tr i))) 1 (nI np)) 0 2).map Prod.fst
noncomputable def rgK (o p : Option Int32) : Bool := Option.rec false (fun v => Option.rec false (fun w => decide (v = w)) p) o
theorem rgK_ok {o p : Option Int32} (h : rgK o p = true) : ∃ v, o = some v ∧ p = some v := by
  cases o with
  | none => cases h
  | some v =>
    cases p with
    | none => cases h
    | some w =>
      have h : decide (v = w) = true := h
      exact ⟨v, rfl, by rw [of_decide_eq_true h]⟩
theorem rg2 : ∀ a : Fin 3, rgK (rgT 2 (tri a.val 0 0 0 0 0)) (rgM 2 (tri a.val 0 0 0 0 0)) = true := by decide +kernel
theorem rg3 : ∀ a b c : Fin 3, rgK (rgT 3 (tri a.val b.val c.val 0 0 0)) (rgM 3 (tri a.val b.val c.val 0 0 0)) = true := by decide +kernel
def pc (b : Nat) : Nat := b % 2 + b / 2 % 2 + b / 4 % 2 + b / 8 % 2
theorem pc_all : ∀ b : Fin 16, D_J6_bitCount_0f7a4 (nI b.val) = some (nI (pc b.val)) ∧ pc b.val < 5 := by decide +kernel
noncomputable abbrev F27 (rec17 : (ST × Int32 × Int32) → Option (Int32 × ST)) : ((ST × Int32 × Int32 × Int32) → Option (Int32 × ST)) → (ST × Int32 × Int32 × Int32) → Option (Int32 × ST) := fun rec27 a => D_X8_ring_L27_body rec17 rec27 a.1 a.2.1 a.2.2.1 a.2.2.2
theorem skip1 {σ : ST} {x1 : Int32} {rec17 : (ST × Int32 × Int32) → Option (Int32 × ST)} {i many : Nat} (hz : gI σ 1 = nI 4) (hi : i < 16) (hm : many < 100) (hp : pc i ≠ many) (fuel : Nat) : itr (F27 rec17) (fuel + 1) (σ, x1, nI many, nI i) = itr (F27 rec17) fuel (σ, x1, nI many, nI (i + 1)) := by
  rw [itr_s]
  have key : ∀ rc, F27 rec17 rc (σ, x1, nI many, nI i) = rc (σ, x1, nI many, nI (i + 1)) := fun rc => by
    show D_X8_ring_L27_body rec17 rc σ x1 (nI many) (nI i) = _
    have h := pc_all ⟨i, hi⟩
    have h16 : ((1 : Int32) <<< (nI 4 &&& 31)) = nI 16 := by decide
    simp only [D_X8_ring_L27_body, hz, h16, inle hi (by omega), if_false, h.1, Option.bind_some, ieq hp (show pc i < 2 ^ 31 from Nat.lt_of_lt_of_le h.2 (by decide)) (by omega), D_X8_ring_b55, nI_1]
  exact key _
theorem skipN {σ : ST} {x1 : Int32} {rec17 : (ST × Int32 × Int32) → Option (Int32 × ST)} {many : Nat} (hz : gI σ 1 = nI 4) (hm : many < 100) (fuel : Nat) : ∀ n i, i + n ≤ 16 → (∀ j, i ≤ j → j < i + n → pc j ≠ many) → itr (F27 rec17) (fuel + n) (σ, x1, nI many, nI i) = itr (F27 rec17) fuel (σ, x1, nI many, nI (i + n))
  | 0, i, _, _ => rfl
  | n + 1, i, hi, hp => by
    rw [show fuel + (n + 1) = (fuel + n) + 1 by omega, skip1 hz (by omega) hm (hp i (by omega) (by omega))]
    rw [skipN hz hm fuel n (i + 1) (by omega) (fun j h1 h2 => hp j (by omega) (by omega)), show i + 1 + n = i + (n + 1) by omega]
theorem hit1 {σ : ST} {x1 : Int32} {rec17 : (ST × Int32 × Int32) → Option (Int32 × ST)} {i many : Nat} (hz : gI σ 1 = nI 4) (hi : i < 16) (hp : pc i = many) (fuel : Nat) : itr (F27 rec17) (fuel + 1) (σ, x1, nI many, nI i) = (D_X8_isRing (nI i) x1).bind fun r => if r = 0 then itr (F27 rec17) fuel (σ, x1, nI many, nI (i + 1)) else some (nI i, σ) := by
  rw [itr_s]
  have key : ∀ rc, F27 rec17 rc (σ, x1, nI many, nI i) = (D_X8_isRing (nI i) x1).bind fun r => if r = 0 then rc (σ, x1, nI many, nI (i + 1)) else some (nI i, σ) := fun rc => by
    show D_X8_ring_L27_body rec17 rc σ x1 (nI many) (nI i) = _
    have h := pc_all ⟨i, hi⟩
    have h16 : ((1 : Int32) <<< (nI 4 &&& 31)) = nI 16 := by decide
    simp only [D_X8_ring_L27_body, hz, h16, inle hi (by omega), if_false, h.1, Option.bind_some, hp, if_true, D_X8_ring_b55, nI_1]
  exact key _
theorem end1 {σ : ST} {x1 : Int32} {rec17 : (ST × Int32 × Int32) → Option (Int32 × ST)} {many : Nat} (hz : gI σ 1 = nI 4) (fuel : Nat) : itr (F27 rec17) (fuel + 1) (σ, x1, nI many, nI 16) = rec17 (σ, x1, nI (many + 1)) := by
  rw [itr_s]
  have key : ∀ rc, F27 rec17 rc (σ, x1, nI many, nI 16) = rec17 (σ, x1, nI (many + 1)) := fun rc => by
    show D_X8_ring_L27_body rec17 rc σ x1 (nI many) (nI 16) = _
    have h16 : ((1 : Int32) <<< (nI 4 &&& 31)) = nI 16 := by decide
    simp only [D_X8_ring_L27_body, hz, h16, ile (Nat.le_refl 16) (by omega), if_true, nI_1]
  exact key _
noncomputable def rgT4 (x1 : Int32) : Option Int32 := (D_X8_isRing (nI 7) x1).bind fun r => if r = 0 then (D_X8_isRing (nI 11) x1).bind fun r => if r = 0 then (D_X8_isRing (nI 13) x1).bind fun r => if r = 0 then (D_X8_isRing (nI 14) x1).bind fun r => if r = 0 then (D_X8_isRing (nI 15) x1).bind fun r => if r = 0 then some 0 else some (nI 15) else some (nI 14) else some (nI 13) else some (nI 11) else some (nI 7)
theorem ringT4 {σ : ST} (hz : gI σ 1 = nI 4) (x1 : Int32) : D_X8_ring_L17 σ x1 3 = (rgT4 x1).map (fun v => (v, σ)) := by
  have three : ∀ rec17, D_X8_ring_L27 rec17 σ x1 (nI 3) (nI 0) = (D_X8_isRing (nI 7) x1).bind fun r => if r = 0 then (D_X8_isRing (nI 11) x1).bind fun r => if r = 0 then (D_X8_isRing (nI 13) x1).bind fun r => if r = 0 then (D_X8_isRing (nI 14) x1).bind fun r => if r = 0 then rec17 (σ, x1, nI 4) else some (nI 14, σ) else some (nI 13, σ) else some (nI 11, σ) else some (nI 7, σ) := by
    intro rec17
    show itr (F27 rec17) (193 + 7) (σ, x1, nI 3, nI 0) = _
    rw [skipN hz (by omega) 193 7 0 (by omega) (fun j h1 h2 => by rcases (show j = 0 ∨ j = 1 ∨ j = 2 ∨ j = 3 ∨ j = 4 ∨ j = 5 ∨ j = 6 by omega) with h | h | h | h | h | h | h <;> subst h <;> decide)]
    rw [show (193 : Nat) = 192 + 1 from rfl, show (0 + 7 : Nat) = 7 from rfl, hit1 hz (by omega) (by decide) 192]
    rw [show (192 : Nat) = 189 + 3 from rfl, skipN hz (by omega) 189 3 (7 + 1) (by omega) (fun j h1 h2 => by rcases (show j = 8 ∨ j = 9 ∨ j = 10 by omega) with h | h | h <;> subst h <;> decide)]
    rw [show (189 : Nat) = 188 + 1 from rfl, show (7 + 1 + 3 : Nat) = 11 from rfl, hit1 hz (by omega) (by decide) 188]
    rw [show (188 : Nat) = 187 + 1 from rfl, show (11 + 1 : Nat) = 12 from rfl, skip1 hz (by omega) (by omega) (by decide) 187]
    rw [show (187 : Nat) = 186 + 1 from rfl, show (12 + 1 : Nat) = 13 from rfl, hit1 hz (by omega) (by decide) 186]
    rw [show (186 : Nat) = 185 + 1 from rfl, show (13 + 1 : Nat) = 14 from rfl, hit1 hz (by omega) (by decide) 185]
    rw [show (185 : Nat) = 184 + 1 from rfl, show (14 + 1 : Nat) = 15 from rfl, skip1 hz (by omega) (by omega) (by decide) 184]
    rw [show (184 : Nat) = 183 + 1 from rfl, show (15 + 1 : Nat) = 16 from rfl, end1 hz 183]
  have four : ∀ rec17, D_X8_ring_L27 rec17 σ x1 (nI 4) (nI 0) = (D_X8_isRing (nI 15) x1).bind fun r => if r = 0 then rec17 (σ, x1, nI 5) else some (nI 15, σ) := by
    intro rec17
    show itr (F27 rec17) (185 + 15) (σ, x1, nI 4, nI 0) = _
    rw [skipN hz (by omega) 185 15 0 (by omega) (fun j h1 h2 => by rcases (show j = 0 ∨ j = 1 ∨ j = 2 ∨ j = 3 ∨ j = 4 ∨ j = 5 ∨ j = 6 ∨ j = 7 ∨ j = 8 ∨ j = 9 ∨ j = 10 ∨ j = 11 ∨ j = 12 ∨ j = 13 ∨ j = 14 by omega) with h | h | h | h | h | h | h | h | h | h | h | h | h | h | h <;> subst h <;> decide)]
    rw [show (185 : Nat) = 184 + 1 from rfl, show (0 + 15 : Nat) = 15 from rfl, hit1 hz (by omega) (by decide) 184]
    rw [show (184 : Nat) = 183 + 1 from rfl, show (15 + 1 : Nat) = 16 from rfl, end1 hz 183]
  unfold D_X8_ring_L17 rgT4
  have b3 : ∀ rc, D_X8_ring_L17_body rc σ x1 (nI 3) = D_X8_ring_L27 rc σ x1 (nI 3) (nI 0) := fun rc => by
    unfold D_X8_ring_L17_body
    rw [hz, if_neg (show ¬ nI 4 < nI 3 by decide)]; rfl
  have b4 : ∀ rc, D_X8_ring_L17_body rc σ x1 (nI 4) = D_X8_ring_L27 rc σ x1 (nI 4) (nI 0) := fun rc => by
    unfold D_X8_ring_L17_body
    rw [hz, if_neg (show ¬ nI 4 < nI 4 by decide)]; rfl
  have b5 : ∀ rc, D_X8_ring_L17_body rc σ x1 (nI 5) = some (0, σ) := fun rc => by
    unfold D_X8_ring_L17_body
    rw [hz, if_pos (show nI 4 < nI 5 by decide)]
  rw [show (200 : Nat) = 197 + 1 + 1 + 1 from rfl, itr_s]
  refine (b3 _).trans ?_
  rw [three, itr_s]
  simp only [map_bd, map_ite, map_som]
  have e5 : itr (fun (rec17 : (ST × Int32 × Int32) → Option (Int32 × ST)) (a : (ST × Int32 × Int32)) => D_X8_ring_L17_body rec17 a.1 a.2.1 a.2.2) (197 + 1) (σ, x1, nI 5) = some (0, σ) := by
    rw [itr_s]; exact b5 _
  rw [b4, four, e5]
