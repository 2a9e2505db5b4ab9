/-! How long one waits, by the reference; and that both answer alike, counted out. -/
noncomputable def rsW (m k a1 a2 : Nat) (A : Nat → Int64) : Nat → Int64 :=
  let B := vp_updL A (9 * k + k) (A (9 * k + k) + 2)
  let C := vp_updL B (9 * k + m) 2
  let D := vp_updL C (9 * k + 2 * k % m) (C (9 * k + 2 * k % m) - enc (1 - a1))
  vp_updL D (9 * k + (2 * k + 1) % m) (D (9 * k + (2 * k + 1) % m) - enc (1 - a2))
theorem rsW_all : ∀ s : Fin 3, ∀ k : Fin 8, ∀ a1 a2 : Fin 2, ∀ c : Fin 9, k.val < 2 ^ (s.val + 1) → c.val ≤ 2 ^ (s.val + 1) → rsW (2 ^ (s.val + 1)) k.val a1.val a2.val (fun _ => 0) (9 * k.val + c.val) = enc (gt (rowB (2 ^ (s.val + 1)) k.val 1 1 a1.val a2.val) c.val) := by decide +kernel
theorem rsW_ok {m k a1 a2 : Nat} {A : Nat → Int64} (hm : m ≤ 8) (hm0 : 0 < m) (hk : k < m) (hz : ∀ c, c ≤ m → A (9 * k + c) = 0) : LK k m A (rsW m k a1 a2 A) (rsW m k a1 a2 (fun _ => 0)) := by
  have r1 : 2 * k % m ≤ m := Nat.le_of_lt (Nat.mod_lt _ hm0)
  have r2 : (2 * k + 1) % m ≤ m := Nat.le_of_lt (Nat.mod_lt _ hm0)
  have h0 : LK k m A A (fun _ => 0) := by
    intro x
    by_cases e : x / 9 = k ∧ x % 9 ≤ m
    · rw [if_pos e]
      have := hz (x % 9) e.2
      rw [show 9 * k + x % 9 = x by omega] at this
      exact this
    · rw [if_neg e]
  exact (((h0.up (g := fun v => v + 2) (c := k) (by omega) hm).up (g := fun _ => 2) (c := m) (Nat.le_refl m) hm).up (g := fun v => v - enc (1 - a1)) (c := 2 * k % m) r1 hm).up (g := fun v => v - enc (1 - a2)) (c := (2 * k + 1) % m) r2 hm
theorem b65 : ∀ k : Fin 8, 65535 / 2 ^ (2 * k.val) % 2 = 1 ∧ 65535 / 2 ^ (2 * k.val + 1) % 2 = 1 := by decide
theorem rsW_at {sz m : Nat} (h2 : 2 ≤ sz) (h4 : sz ≤ 4) (hm : 2 ^ (sz - 1) = m) (all : Nat) {k : Nat} (hk : k < m) (c : Nat) (hc : c ≤ m) : rsW m k (all / 2 ^ (2 * k) % 2) (all / 2 ^ (2 * k + 1) % 2) (fun _ => 0) (9 * k + c) = enc (gt (rB m 65535 all k) c) := by
  have h8 := m8 h4
  rw [hm] at h8
  obtain ⟨s, rfl⟩ : ∃ s, sz = s + 2 := ⟨sz - 2, by omega⟩
  have hm2 : 2 ^ (s + 1) = m := hm
  subst hm2
  have hb := b65 ⟨k, by omega⟩
  unfold rB
  rw [hb.1, hb.2]
  exact rsW_all ⟨s, by omega⟩ ⟨k, by omega⟩ ⟨_, Nat.mod_lt _ (by omega)⟩ ⟨_, Nat.mod_lt _ (by omega)⟩ ⟨c, by omega⟩ hk hc
theorem sideW {τ : ST} {m k s all : Nat} {F : Nat → Int64} {rec11 : (ST × Int32 × Int32 × Int32) → Option (Int32 × ST)} {rec50 : (ST × Int32 × Int32 × Int32 × Int32) → Option (Int32 × ST)} (hm : m ≤ 8) (hm0 : 0 < m) (hk : k < m) (hs : s < 2) (ho : all < 2 ^ 31) : D_X9_waitOf_L50_body rec11 rec50 (pG τ 0 F) (nI all) (nI m) (nI k) (nI s) = rec50 (pG τ 0 (vp_updL F (9 * k + (2 * k + s) % m) (F (9 * k + (2 * k + s) % m) - enc (1 - all / 2 ^ (2 * k + s) % 2))), nI all, nI m, nI k, nI (s + 1)) := by
  have r1 : (2 * k + s) % m < m := Nat.mod_lt _ hm0
  have q2 : ¬ 72 ≤ 9 * k + (2 * k + s) % m := by omega
  have c2 : ((2 : Int32) ≤ nI s) = False := inle (b := s) (a := 2) hs (by omega)
  simp only [D_X9_waitOf_L50_body, c2, if_false, N2, in0 hm0 (by omega), pk_rem (show 2 * k + s < 2 ^ 31 by omega) hm0 (by omega), N9, nI_pos (show 9 * k + (2 * k + s) % m < 2 ^ 31 by omega), cl (show 9 * k + (2 * k + s) % m < 2 ^ 31 by omega), q2, or_self, isInM ho (show 2 * k + s < 32 by omega), Option.bind_some, gB_pG, if_true]
  refine (if10 (fun w => D_X9_waitOf_b93 rec11 rec50 (pG τ 0 F) (nI all) (nI m) (nI k) (nI s) w (F (9 * k + (2 * k + s) % m)) (nI (9 * k + (2 * k + s) % m))) (Nat.mod_lt _ (by omega))).trans ?_
  simp only [D_X9_waitOf_b93, nI_pos (show 9 * k + (2 * k + s) % m < 2 ^ 31 by omega), cl (show 9 * k + (2 * k + s) % m < 2 ^ 31 by omega), q2, or_self, if_false, pB_pG, gB_pG, if_true, pG_pG, nI_1]
theorem rowW {τ : ST} {m k all : Nat} {F : Nat → Int64} {rec11 : (ST × Int32 × Int32 × Int32) → Option (Int32 × ST)} (hm : m ≤ 8) (hm0 : 0 < m) (hk : k < m) (ho : all < 2 ^ 31) : D_X9_waitOf_L50 rec11 (pG τ 0 (vp_updL (vp_updL F (9 * k + k) (F (9 * k + k) + 2)) (9 * k + m) 2)) (nI all) (nI m) (nI k) 0 = rec11 (pG τ 0 (rsW m k (all / 2 ^ (2 * k) % 2) (all / 2 ^ (2 * k + 1) % 2) F), nI all, nI m, nI (k + 1)) := by
  unfold D_X9_waitOf_L50
  rw [show (200 : Nat) = 197 + 1 + 1 + 1 from rfl, itr_s]
  refine (sideW (s := 0) hm hm0 hk (by omega) ho).trans ?_
  rw [itr_s]
  refine (sideW (s := 1) hm hm0 hk (by omega) ho).trans ?_
  rw [itr_s]
  generalize itr _ 197 = rc
  show D_X9_waitOf_L50_body rec11 rc _ _ _ _ (nI 2) = _
  have c2 : ((2 : Int32) ≤ nI 2) = True := eq_true (by decide)
  simp only [D_X9_waitOf_L50_body, c2, if_true, nI_1]
  rfl
theorem waitM {τ : ST} {sz a v : Nat} (h : gI τ 2 = nI sz) (ha : a < 2 ^ 31) (h2 : 2 ≤ sz) (h4 : sz ≤ 4) (hv : wtM sz a = some v) : ∃ f, D_X9_waitOf τ (nI a) = some (nI v, pG τ 0 f) := by
  have h8 := m8 h4
  have hpos : 0 < 2 ^ (sz - 1) := Nat.pos_of_ne_zero (by simp)
  generalize hm : 2 ^ (sz - 1) = m at h8 hpos
  unfold wtM at hv
  rw [hm] at hv
  cases c2 : br m 0 1 (M0M m 65535 a) with
  | none => rw [c2] at hv; cases hv
  | some r =>
    rw [c2, Option.bind_some] at hv
    cases c3 : mdM m 1000 r with
    | none => rw [c3] at hv; cases hv
    | some w =>
      rw [c3, Option.bind_some] at hv
      cases hv
      obtain ⟨f, e1, e2⟩ := answM (τ := τ) (A := fun x => if x < 72 then 0 else gB τ 0 x) h h2 h4 hm c2 c3
      refine ⟨f, ?_⟩
      unfold D_X9_waitOf D_X9_waitOf_L11
      rw [unkM h h2 h4, Option.bind_some, clearM, Option.bind_some, hm]
      have e0 : (pG τ 0 (fun x => if x < 72 then 0 else gB τ 0 x), nI a, nI m, (0 : Int32)) = (fun k : Nat => (pG τ 0 (bF (fun x => if x < 72 then 0 else gB τ 0 x) m 65535 a k), nI a, nI m, nI k)) 0 := by
        show _ = (pG τ 0 (bF (fun x => if x < 72 then 0 else gB τ 0 x) m 65535 a 0), nI a, nI m, nI 0)
        rw [bF_0]; rfl
      rw [e0]
      refine itr_f (f := fun k : Nat => (pG τ 0 (bF (fun x => if x < 72 then 0 else gB τ 0 x) m 65535 a k), nI a, nI m, nI k)) (N := m) (by omega) (fun k hk rec => ?_) (fun rec => ?_)
      · show D_X9_waitOf_L11_body rec (pG τ 0 (bF (fun x => if x < 72 then 0 else gB τ 0 x) m 65535 a k)) (nI a) (nI m) (nI k) = rec (pG τ 0 (bF (fun x => if x < 72 then 0 else gB τ 0 x) m 65535 a (k + 1)), nI a, nI m, nI (k + 1))
        have q1 : ¬ 72 ≤ 9 * k + k := by omega
        have q2 : ¬ 72 ≤ 9 * k + m := by omega
        simp only [D_X9_waitOf_L11_body, inle hk (by omega), if_false, N9, nI_pos (show 9 * k + k < 2 ^ 31 by omega), cl (show 9 * k + k < 2 ^ 31 by omega), nI_pos (show 9 * k + m < 2 ^ 31 by omega), cl (show 9 * k + m < 2 ^ 31 by omega), q1, q2, or_self, pB_pG, gB_pG, if_true, pG_pG]
        rw [rowW h8 hpos hk ha]
        rw [bF_s h8 hk (rsW_ok h8 hpos hk (bF_z h8 hk (fun x hx => if_pos hx))) (fun c hc => rsW_at h2 h4 hm a hk c hc)]
      · show D_X9_waitOf_L11_body rec (pG τ 0 (bF (fun x => if x < 72 then 0 else gB τ 0 x) m 65535 a m)) (nI a) (nI m) (nI m) = _
        simp only [D_X9_waitOf_L11_body, ile (Nat.le_refl m) (by omega), if_true, e1, Option.bind_some, gI_pG, h]
        rw [show (1000 : Int64) = enc 1000 from rfl, e2, Option.bind_some, enc_i32, show nI sz - 1 = nI (sz - 1) from pk_sub (b := 1) (by omega), show (1000 : Int32) = nI 1000 from rfl, pk_mul, nI_add]
noncomputable def okD (sz a b : Nat) : Bool := Option.rec false (fun v => Option.rec false (fun w => cond (Nat.beq v w) (Nat.ble v 1000000) false) (chM sz a b)) (chT sz a b)
noncomputable def okW (sz a : Nat) : Bool := Option.rec false (fun v => Option.rec false (fun w => Nat.beq v w) (wtM sz a)) (wtT sz a)
theorem okD_ok {sz a b : Nat} (h : okD sz a b = true) : ∃ v, chT sz a b = some v ∧ chM sz a b = some v ∧ v ≤ 1000000 := by
  unfold okD at h
  cases c1 : chT sz a b with
  | none => rw [c1] at h; cases h
  | some v =>
    cases c2 : chM sz a b with
    | none => rw [c1, c2] at h; cases h
    | some w =>
      rw [c1, c2] at h
      have h : cond (Nat.beq v w) (Nat.ble v 1000000) false = true := h
      cases c3 : Nat.beq v w with
      | false => rw [c3] at h; cases h
      | true =>
        rw [c3] at h
        exact ⟨v, rfl, by rw [Nat.eq_of_beq_eq_true c3], Nat.le_of_ble_eq_true h⟩
theorem okW_ok {sz a : Nat} (h : okW sz a = true) : ∃ v, wtT sz a = some v ∧ wtM sz a = some v := by
  unfold okW at h
  cases c1 : wtT sz a with
  | none => rw [c1] at h; cases h
  | some v =>
    cases c2 : wtM sz a with
    | none => rw [c1, c2] at h; cases h
    | some w =>
      rw [c1, c2] at h
      have h : Nat.beq v w = true := h
      exact ⟨v, rfl, by rw [Nat.eq_of_beq_eq_true h]⟩
def H2 : List Nat := [1, 2, 4, 6, 8, 9]
def H3 : List Nat := [1, 2, 4, 8, 16, 24, 26, 32, 36, 64, 66, 74, 82, 88, 128, 129]
def H4a : List Nat := [1, 2, 4, 8, 16, 32, 64, 128]
def H4b : List Nat := [256, 384, 386, 512, 576, 1024, 1056, 2048]
def H4c : List Nat := [2064, 2068, 4096, 4104, 8192, 8196, 8212, 10244]
def H4d : List Nat := [10256, 16384, 16386, 16514, 16642, 16768, 32768, 32769]
def H4 : List Nat := H4a ++ (H4b ++ (H4c ++ H4d))
def HS (sz : Nat) : List Nat := if sz = 2 then H2 else if sz = 3 then H3 else H4
theorem HS_all : ∀ s : Fin 3, ∀ k : Fin 5, ∀ r : Fin 16, r.val < 2 ^ (s.val + 2) → HB (s.val + 2) k.val r.val ∈ HS (s.val + 2) := by decide +kernel
theorem HS_in {sz k r : Nat} (h2 : 2 ≤ sz) (h4 : sz ≤ 4) (hk : k < 5) (hr : r < 2 ^ sz) : HB sz k r ∈ HS sz := by
  have h16 := p2s h4
  obtain ⟨s, rfl⟩ : ∃ s, sz = s + 2 := ⟨sz - 2, by omega⟩
  exact HS_all ⟨s, by omega⟩ ⟨k, hk⟩ ⟨r, by omega⟩ hr
theorem ok2 : (H2.all fun a => H2.all fun b => okD 2 a b) = true := by decide +kernel
theorem ok3 : (H3.all fun a => H3.all fun b => okD 3 a b) = true := by decide +kernel
theorem okw : ((H2.all fun a => okW 2 a) && (H3.all fun a => okW 3 a) && (H4.all fun a => okW 4 a)) = true := by decide +kernel
