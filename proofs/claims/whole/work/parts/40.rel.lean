/-! What is related: the class's state σ and the reference's τ. -/
theorem gI_pI (σ : ST) (k j : Nat) (v : Int32) : gI (pI σ k v) j = if j = k then v else gI σ j := rfl
theorem gJ_pI (σ : ST) (k j : Nat) (v : Int32) : gJ (pI σ k v) j = gJ σ j := rfl
theorem gA_pI (σ : ST) (k j : Nat) (v : Int32) : gA (pI σ k v) j = gA σ j := rfl
theorem gB_pI (σ : ST) (k j : Nat) (v : Int32) : gB (pI σ k v) j = gB σ j := rfl
theorem gI_pJ (σ : ST) (k j : Nat) (v : Int64) : gI (pJ σ k v) j = gI σ j := rfl
theorem gJ_pJ (σ : ST) (k j : Nat) (v : Int64) : gJ (pJ σ k v) j = if j = k then v else gJ σ j := rfl
theorem gA_pJ (σ : ST) (k j : Nat) (v : Int64) : gA (pJ σ k v) j = gA σ j := rfl
theorem gB_pJ (σ : ST) (k j : Nat) (v : Int64) : gB (pJ σ k v) j = gB σ j := rfl
theorem gI_pF (σ : ST) (k j : Nat) (f : Nat → Int32) : gI (pF σ k f) j = gI σ j := rfl
theorem gJ_pF (σ : ST) (k j : Nat) (f : Nat → Int32) : gJ (pF σ k f) j = gJ σ j := rfl
theorem gA_pF (σ : ST) (k j : Nat) (f : Nat → Int32) : gA (pF σ k f) j = if j = k then f else gA σ j := rfl
theorem gB_pF (σ : ST) (k j : Nat) (f : Nat → Int32) : gB (pF σ k f) j = gB σ j := rfl
theorem gI_pA (σ : ST) (k i j : Nat) (v : Int32) : gI (pA σ k i v) j = gI σ j := rfl
theorem gJ_pA (σ : ST) (k i j : Nat) (v : Int32) : gJ (pA σ k i v) j = gJ σ j := rfl
theorem gA_pA (σ : ST) (k i j : Nat) (v : Int32) : gA (pA σ k i v) j = if j = k then upd (gA σ k) i v else gA σ j := rfl
theorem gB_pA (σ : ST) (k i j : Nat) (v : Int32) : gB (pA σ k i v) j = gB σ j := rfl
theorem gI_pB (σ : ST) (k i j : Nat) (v : Int64) : gI (pB σ k i v) j = gI σ j := rfl
theorem gJ_pB (σ : ST) (k i j : Nat) (v : Int64) : gJ (pB σ k i v) j = gJ σ j := rfl
theorem gA_pB (σ : ST) (k i j : Nat) (v : Int64) : gA (pB σ k i v) j = gA σ j := rfl
theorem gB_pB (σ : ST) (k i j : Nat) (v : Int64) : gB (pB σ k i v) j = if j = k then vp_updL (gB σ k) i v else gB σ j := rfl
/-- a course: kinds, rows, won, seen players, tails, hits; how much is seen, tosses, tosses of the game, the latest -/
abbrev CO : Type := (Nat → Nat) × (Nat → Nat) × (Nat → Int32) × (Nat → Nat) × (Nat → Nat) × (Nat → Nat) × Nat × Nat × Nat × Nat
abbrev kd (c : CO) : Nat → Nat := c.1
abbrev ro (c : CO) : Nat → Nat := c.2.1
abbrev wo (c : CO) : Nat → Int32 := c.2.2.1
abbrev sp (c : CO) : Nat → Nat := c.2.2.2.1
abbrev stl (c : CO) : Nat → Nat := c.2.2.2.2.1
abbrev sh (c : CO) : Nat → Nat := c.2.2.2.2.2.1
abbrev sn (c : CO) : Nat := c.2.2.2.2.2.2.1
abbrev ts (c : CO) : Nat := c.2.2.2.2.2.2.2.1
abbrev tg (c : CO) : Nat := c.2.2.2.2.2.2.2.2.1
abbrev la (c : CO) : Nat := c.2.2.2.2.2.2.2.2.2
/-- the class's track of a game's latest tosses -/
def trk (sz tg la : Nat) : Nat := 2 ^ (min sz tg) + la % 2 ^ (min sz tg)
def CTn (np sz : Nat) (c : CO) (σ : ST) : Prop :=
  (∀ p, p < np → gA σ 1 p = nI (kd c p)) ∧ (∀ p, p < np → gA σ 2 p = nI (ro c p)) ∧ (∀ p, p < 4 → gA σ 3 p = if p < np then wo c p else 0) ∧
  (∀ i, i < sn c → gA σ 4 i = nI (sp c i)) ∧ (∀ i, i < sn c → gA σ 5 i = nI (stl c i)) ∧ (∀ i, i < sn c → gA σ 6 i = nI (sh c i)) ∧
  gI σ 5 = nI (sn c) ∧ gI σ 6 = nI (ts c) ∧ gI σ 7 = nI (tg c) ∧ gI σ 8 = nI (trk sz (tg c) (la c))
def CTk (np sz : Nat) (c : CO) (σ : ST) : Prop :=
  (∀ p, p < np → gA σ 7 p = nI (kd c p)) ∧ (∀ p, p < np → gA σ 8 p = nI (ro c p)) ∧ (∀ p, p < 4 → gA σ 9 p = if p < np then wo c p else 0) ∧
  (∀ i, i < sn c → gA σ 10 i = nI (sp c i)) ∧ (∀ i, i < sn c → gA σ 11 i = nI (stl c i)) ∧ (∀ i, i < sn c → gA σ 12 i = nI (sh c i)) ∧
  gI σ 9 = nI (sn c) ∧ gI σ 10 = nI (ts c) ∧ gI σ 11 = nI (tg c) ∧ gI σ 12 = nI (trk sz (tg c) (la c))
def CMn (np : Nat) (c : CO) (τ : ST) : Prop :=
  (∀ p, p < np → gA τ 0 p = nI (kd c p)) ∧ (∀ p, p < np → gA τ 1 p = nI (ro c p)) ∧ (∀ p, p < np → gA τ 2 p = wo c p) ∧
  (∀ i, i < sn c → gA τ 3 i = nI (sp c i)) ∧ (∀ i, i < sn c → gA τ 4 i = nI (stl c i)) ∧ (∀ i, i < sn c → gA τ 5 i = nI (sh c i)) ∧
  gI τ 6 = nI (sn c) ∧ gI τ 5 = nI (ts c) ∧ gI τ 3 = nI (tg c) ∧ gI τ 4 = nI (la c)
def CMk (np : Nat) (c : CO) (τ : ST) : Prop :=
  (∀ p, p < np → gA τ 11 p = nI (kd c p)) ∧ (∀ p, p < np → gA τ 12 p = nI (ro c p)) ∧ (∀ p, p < np → gA τ 13 p = wo c p) ∧
  (∀ i, i < sn c → gA τ 14 i = nI (sp c i)) ∧ (∀ i, i < sn c → gA τ 15 i = nI (stl c i)) ∧ (∀ i, i < sn c → gA τ 16 i = nI (sh c i)) ∧
  gI τ 16 = nI (sn c) ∧ gI τ 15 = nI (ts c) ∧ gI τ 13 = nI (tg c) ∧ gI τ 14 = nI (la c)
def VC (np sz : Nat) (c : CO) : Prop := (∀ p, p < np → kd c p < 5 ∧ ro c p < 2 ^ sz) ∧ sn c ≤ 6 ∧ (∀ i, i < sn c → sp c i < np ∧ stl c i < 2 ^ sz ∧ sh c i < 2) ∧ ts c ≤ 9999 ∧ tg c ≤ ts c ∧ la c < 16
def NS (np sz : Nat) : Prop := (np = 0 ∧ sz = 0) ∨ (2 ≤ np ∧ np ≤ 4 ∧ 2 ≤ sz ∧ sz ≤ 4)
def PG (pl : Nat) (pg : Nat → Nat) (σ τ : ST) : Prop := (∀ j, j < pl → gA σ 0 j = nI (pg j) ∧ gA τ 6 j = nI (pg j) ∧ 32 ≤ pg j ∧ pg j ≤ 126) ∧ gI σ 4 = nI pl ∧ gI τ 7 = nI pl ∧ pl ≤ 28
def KP (np sz rd : Nat) (k : CO) (σ τ : ST) : Prop := (gI σ 0 = 1 ∧ gI τ 11 = 1 ∧ gI τ 12 = nI rd ∧ CTk np sz k σ ∧ CMk np k τ ∧ VC np sz k) ∨ (gI σ 0 = 0 ∧ (gI τ 11 = 0 ∨ ∃ kt, kt < rd ∧ gI τ 12 = nI kt))
/-- players, how long rows are, tables read: alike -/
def HD (n np sz rd : Nat) (σ τ : ST) : Prop := NS np sz ∧ gI σ 1 = nI np ∧ gI τ 1 = nI np ∧ gI σ 2 = nI sz ∧ gI τ 2 = nI sz ∧ gI σ 3 = nI rd ∧ gI τ 0 = nI rd ∧ rd ≤ n ∧ n ≤ 512
def RL1 (n np sz pl rd : Nat) (pg : Nat → Nat) (c k : CO) (σ τ : ST) : Prop := HD n np sz rd σ τ ∧ PG pl pg σ τ ∧ CTn np sz c σ ∧ CMn np c τ ∧ VC np sz c ∧ KP np sz rd k σ τ
def Rel (n : Nat) (σ τ : ST) : Prop := n ≤ 512 → ∃ (np sz pl rd : Nat) (pg : Nat → Nat) (c k : CO), RL1 n np sz pl rd pg c k σ τ
/-- the class's scratch apart, the same -/
def EqT (σ σ' : ST) : Prop := (∀ k, k ≠ 13 → gI σ' k = gI σ k) ∧ ∀ a, a < 13 → gA σ' a = gA σ a
def EqM (τ τ' : ST) : Prop := (∀ k, k ≠ 8 → k ≠ 9 → k ≠ 10 → gI τ' k = gI τ k) ∧ (∀ a, (a < 7 ∨ 10 < a) → gA τ' a = gA τ a) ∧ gJ τ' 1 = gJ τ 1
theorem EqT.rfl' {σ : ST} : EqT σ σ := ⟨fun _ _ => rfl, fun _ _ => rfl⟩
theorem EqM.rfl' {σ : ST} : EqM σ σ := ⟨fun _ _ _ _ => rfl, fun _ _ => rfl, rfl⟩
theorem EqT.trans {a b c : ST} (h1 : EqT a b) (h2 : EqT b c) : EqT a c := ⟨fun k hk => (h2.1 k hk).trans (h1.1 k hk), fun k hk => (h2.2 k hk).trans (h1.2 k hk)⟩
theorem EqM.trans {a b c : ST} (h1 : EqM a b) (h2 : EqM b c) : EqM a c := ⟨fun k h8 h9 h10 => (h2.1 k h8 h9 h10).trans (h1.1 k h8 h9 h10), fun k hk => (h2.2.1 k hk).trans (h1.2.1 k hk), h2.2.2.trans h1.2.2⟩
theorem RL1.eq {n np sz pl rd : Nat} {pg : Nat → Nat} {c k : CO} {σ τ σ' τ' : ST} (h : RL1 n np sz pl rd pg c k σ τ) (hT : EqT σ σ') (hM : EqM τ τ') : RL1 n np sz pl rd pg c k σ' τ' := by
  obtain ⟨tI, tA⟩ := hT
  obtain ⟨mI, mA, -⟩ := hM
  unfold RL1 HD PG CTn CMn KP CTk CMk at *
  simp only [tI 0 (by decide), tI 1 (by decide), tI 2 (by decide), tI 3 (by decide), tI 4 (by decide), tI 5 (by decide), tI 6 (by decide), tI 7 (by decide), tI 8 (by decide), tI 9 (by decide), tI 10 (by decide), tI 11 (by decide), tI 12 (by decide), tA 0 (by decide), tA 1 (by decide), tA 2 (by decide), tA 3 (by decide), tA 4 (by decide), tA 5 (by decide), tA 6 (by decide), tA 7 (by decide), tA 8 (by decide), tA 9 (by decide), tA 10 (by decide), tA 11 (by decide), tA 12 (by decide), mI 0 (by decide) (by decide) (by decide), mI 1 (by decide) (by decide) (by decide), mI 2 (by decide) (by decide) (by decide), mI 3 (by decide) (by decide) (by decide), mI 4 (by decide) (by decide) (by decide), mI 5 (by decide) (by decide) (by decide), mI 6 (by decide) (by decide) (by decide), mI 7 (by decide) (by decide) (by decide), mI 11 (by decide) (by decide) (by decide), mI 12 (by decide) (by decide) (by decide), mI 13 (by decide) (by decide) (by decide), mI 14 (by decide) (by decide) (by decide), mI 15 (by decide) (by decide) (by decide), mI 16 (by decide) (by decide) (by decide), mA 0 (by decide), mA 1 (by decide), mA 2 (by decide), mA 3 (by decide), mA 4 (by decide), mA 5 (by decide), mA 6 (by decide), mA 11 (by decide), mA 12 (by decide), mA 13 (by decide), mA 14 (by decide), mA 15 (by decide), mA 16 (by decide)]
  exact h
theorem HD.up {n np sz rd : Nat} {σ τ : ST} (h : HD n np sz rd σ τ) (hn : n < 512) : HD (n + 1) np sz rd σ τ := ⟨h.1, h.2.1, h.2.2.1, h.2.2.2.1, h.2.2.2.2.1, h.2.2.2.2.2.1, h.2.2.2.2.2.2.1, Nat.le_succ_of_le h.2.2.2.2.2.2.2.1, hn⟩
theorem Rel.mono (n : Nat) (σ τ : ST) (h : Rel n σ τ) : Rel (n + 1) σ τ := fun hn => by
  obtain ⟨np, sz, pl, rd, pg, c, k, h⟩ := h (by omega)
  exact ⟨np, sz, pl, rd, pg, c, k, h.1.up (by omega), h.2⟩
theorem Rel.start : Rel 0 σ0 τ0 := fun _ => by
  refine ⟨0, 0, 0, 0, fun _ => 0, (fun _ => 0, fun _ => 0, fun _ => 0, fun _ => 0, fun _ => 0, fun _ => 0, 0, 0, 0, 0), (fun _ => 0, fun _ => 0, fun _ => 0, fun _ => 0, fun _ => 0, fun _ => 0, 0, 0, 0, 0), ?_⟩
  refine ⟨⟨Or.inl ⟨rfl, rfl⟩, rfl, rfl, rfl, rfl, rfl, rfl, by omega, by omega⟩, ⟨fun j hj => absurd hj (Nat.not_lt_zero j), rfl, rfl, by omega⟩, ⟨fun j hj => absurd hj (Nat.not_lt_zero j), fun j hj => absurd hj (Nat.not_lt_zero j), fun p hp => rfl, fun j hj => absurd hj (Nat.not_lt_zero j), fun j hj => absurd hj (Nat.not_lt_zero j), fun j hj => absurd hj (Nat.not_lt_zero j), rfl, rfl, rfl, rfl⟩, ⟨fun j hj => absurd hj (Nat.not_lt_zero j), fun j hj => absurd hj (Nat.not_lt_zero j), fun j hj => absurd hj (Nat.not_lt_zero j), fun j hj => absurd hj (Nat.not_lt_zero j), fun j hj => absurd hj (Nat.not_lt_zero j), fun j hj => absurd hj (Nat.not_lt_zero j), rfl, rfl, rfl, rfl⟩, ⟨fun j hj => absurd hj (Nat.not_lt_zero j), by decide, fun j hj => absurd hj (Nat.not_lt_zero j), by decide, by decide, by decide⟩, Or.inr ⟨rfl, Or.inl rfl⟩⟩
/-- a query: both answer alike, and change scratch alone -/
theorem Rel.query {n : Nat} {σ τ σ' τ' : ST} (h : Rel n σ τ) (hn : n < 512) (hT : EqT σ σ') (hM : EqM τ τ') : Rel (n + 1) σ' τ' := fun _ => by
  obtain ⟨np, sz, pl, rd, pg, c, k, h⟩ := h (by omega)
  have h2 := h.eq hT hM
  exact ⟨np, sz, pl, rd, pg, c, k, h2.1.up hn, h2.2⟩
