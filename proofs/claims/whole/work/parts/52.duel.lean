noncomputable def rB (m one all k : Nat) : List Nat := rowB m k (one / 2 ^ (2 * k) % 2) (one / 2 ^ (2 * k + 1) % 2) (all / 2 ^ (2 * k) % 2) (all / 2 ^ (2 * k + 1) % 2)
noncomputable def bF (A : Nat → Int64) (m one all k : Nat) : Nat → Int64 := fun x => if x / 9 < k ∧ x % 9 ≤ m then enc (gt (rB m one all (x / 9)) (x % 9)) else A x
theorem bF_0 (A : Nat → Int64) (m one all : Nat) : bF A m one all 0 = A := funext fun x => if_neg (fun q => Nat.not_lt_zero _ q.1)
theorem bF_s {A Z R : Nat → Int64} {m one all k : Nat} (hm : m ≤ 8) (hk : k < m) (hL : LK k m (bF A m one all k) R Z) (hZ : ∀ c, c ≤ m → Z (9 * k + c) = enc (gt (rB m one all k) c)) : R = bF A m one all (k + 1) := by
  funext x
  have h := hL x
  by_cases e : x / 9 = k ∧ x % 9 ≤ m
  · rw [if_pos e] at h
    rw [h]
    have := hZ (x % 9) e.2
    rw [show 9 * k + x % 9 = x by omega] at this
    rw [this]
    unfold bF
    rw [if_pos ⟨by omega, e.2⟩, e.1]
  · rw [if_neg e] at h
    rw [h]
    exact ifc ⟨fun q => ⟨by omega, q.2⟩, fun q => ⟨by omega, q.2⟩⟩
theorem bF_z {A : Nat → Int64} {m one all k : Nat} (hm : m ≤ 8) (hk : k < m) (hz : ∀ x, x < 72 → A x = 0) (c : Nat) (hc : c ≤ m) : bF A m one all k (9 * k + c) = 0 := by
  unfold bF
  rw [if_neg (fun q => by omega)]
  exact hz _ (by omega)
theorem rs_at {sz m : Nat} (h2 : 2 ≤ sz) (h4 : sz ≤ 4) (hm : 2 ^ (sz - 1) = m) (one all : Nat) {k : Nat} (hk : k < m) (c : Nat) (hc : c ≤ m) : rsF m k (one / 2 ^ (2 * k) % 2) (one / 2 ^ (2 * k + 1) % 2) (all / 2 ^ (2 * k) % 2) (all / 2 ^ (2 * k + 1) % 2) (fun _ => 0) (9 * k + c) = enc (gt (rB m one all k) c) := by
  have h8 := m8 h4
  rw [hm] at h8
  obtain ⟨s, rfl⟩ : ∃ s, sz = s + 2 := ⟨sz - 2, by omega⟩
  have hm2 : 2 ^ (s + 1) = m := hm
  subst hm2
  exact rs_all ⟨s, by omega⟩ ⟨k, by omega⟩ ⟨_, Nat.mod_lt _ (by omega)⟩ ⟨_, Nat.mod_lt _ (by omega)⟩ ⟨_, Nat.mod_lt _ (by omega)⟩ ⟨_, Nat.mod_lt _ (by omega)⟩ ⟨c, by omega⟩ hk hc
theorem if01 {α : Type} (X : Int64 → α) {b : Nat} (hb : b < 2) : (if nI b = 0 then X 0 else X 1) = X (enc b) := by
  rcases (show b = 0 ∨ b = 1 by omega) with rfl | rfl
  · rw [if_pos (show nI 0 = 0 from rfl)]; rfl
  · rw [if_neg (show ¬ nI 1 = 0 by decide)]; rfl
theorem if10 {α : Type} (X : Int64 → α) {b : Nat} (hb : b < 2) : (if nI b = 0 then X 1 else X 0) = X (enc (1 - b)) := by
  rcases (show b = 0 ∨ b = 1 by omega) with rfl | rfl
  · rw [if_pos (show nI 0 = 0 from rfl)]; rfl
  · rw [if_neg (show ¬ nI 1 = 0 by decide)]; rfl
theorem sideM {τ : ST} {m k s one other : Nat} {F : Nat → Int64} {rec12 : (ST × Int32 × Int32 × Int32 × Int32) → Option (Int32 × ST)} {rec40 : (ST × Int32 × Int32 × Int32 × Int32 × Int32) → Option (Int32 × ST)} (hm : m ≤ 8) (hm0 : 0 < m) (hk : k < m) (hs : s < 2) (ho : one < 2 ^ 31) (hoo : one ||| other < 2 ^ 31) : D_X9_duelOf_L40_body rec12 rec40 (pG τ 0 F) (nI one) (nI other) (nI m) (nI k) (nI s) = rec40 (pG τ 0 (vp_updL (vp_updL F (9 * k + m) (F (9 * k + m) + enc (one / 2 ^ (2 * k + s) % 2))) (9 * k + (2 * k + s) % m) (vp_updL F (9 * k + m) (F (9 * k + m) + enc (one / 2 ^ (2 * k + s) % 2)) (9 * k + (2 * k + s) % m) - enc (1 - (one ||| other) / 2 ^ (2 * k + s) % 2))), nI one, nI other, nI m, nI k, nI (s + 1)) := by
  have r1 : (2 * k + s) % m < m := Nat.mod_lt _ hm0
  have q1 : ¬ 72 ≤ 9 * k + m := by omega
  have q2 : ¬ 72 ≤ 9 * k + (2 * k + s) % m := by omega
  have b82 : ∀ v : Int64, D_X9_duelOf_b82 rec12 rec40 (pG τ 0 F) (nI one) (nI other) (nI m) (nI k) (nI s) (nI (2 * k + s)) v (F (9 * k + m)) (nI (9 * k + m)) = rec40 (pG τ 0 (vp_updL (vp_updL F (9 * k + m) (F (9 * k + m) + v)) (9 * k + (2 * k + s) % m) (vp_updL F (9 * k + m) (F (9 * k + m) + v) (9 * k + (2 * k + s) % m) - enc (1 - (one ||| other) / 2 ^ (2 * k + s) % 2))), nI one, nI other, nI m, nI k, nI (s + 1)) := by
    intro v
    unfold D_X9_duelOf_b82
    simp only [nI_pos (show 9 * k + m < 2 ^ 31 by omega), cl (show 9 * k + m < 2 ^ 31 by omega), q1, or_self, if_false, in0 hm0 (by omega), pk_rem (show 2 * k + s < 2 ^ 31 by omega) hm0 (by omega), N9, nI_pos (show 9 * k + (2 * k + s) % m < 2 ^ 31 by omega), cl (show 9 * k + (2 * k + s) % m < 2 ^ 31 by omega), q2, orI, isInM hoo (show 2 * k + s < 32 by omega), Option.bind_some, pB_pG, gB_pG, if_true, pG_pG]
    refine (if10 (fun w => D_X9_duelOf_b116 rec12 rec40 (pG τ 0 (vp_updL F (9 * k + m) (F (9 * k + m) + v))) (nI one) (nI other) (nI m) (nI k) (nI s) w (vp_updL F (9 * k + m) (F (9 * k + m) + v) (9 * k + (2 * k + s) % m)) (nI (9 * k + (2 * k + s) % m))) (Nat.mod_lt _ (by omega))).trans ?_
    simp only [D_X9_duelOf_b116, nI_pos (show 9 * k + (2 * k + s) % m < 2 ^ 31 by omega), cl (show 9 * k + (2 * k + s) % m < 2 ^ 31 by omega), q2, or_self, if_false, pB_pG, gB_pG, if_true, pG_pG, nI_1]
  have c2 : ((2 : Int32) ≤ nI s) = False := inle (b := s) (a := 2) hs (by omega)
  simp only [D_X9_duelOf_L40_body, c2, if_false, N9, N2, nI_pos (show 9 * k + m < 2 ^ 31 by omega), cl (show 9 * k + m < 2 ^ 31 by omega), q1, or_self, isInM ho (show 2 * k + s < 32 by omega), Option.bind_some, gB_pG, if_true]
  refine (if01 (fun w => D_X9_duelOf_b82 rec12 rec40 (pG τ 0 F) (nI one) (nI other) (nI m) (nI k) (nI s) (nI (2 * k + s)) w (F (9 * k + m)) (nI (9 * k + m))) (Nat.mod_lt _ (by omega))).trans ?_
  exact b82 _
theorem rowM {τ : ST} {m k one other : Nat} {F : Nat → Int64} {rec12 : (ST × Int32 × Int32 × Int32 × Int32) → Option (Int32 × ST)} (hm : m ≤ 8) (hm0 : 0 < m) (hk : k < m) (ho : one < 2 ^ 31) (hoo : one ||| other < 2 ^ 31) : D_X9_duelOf_L40 rec12 (pG τ 0 (vp_updL F (9 * k + k) (F (9 * k + k) + 2))) (nI one) (nI other) (nI m) (nI k) 0 = rec12 (pG τ 0 (rsF m k (one / 2 ^ (2 * k) % 2) (one / 2 ^ (2 * k + 1) % 2) ((one ||| other) / 2 ^ (2 * k) % 2) ((one ||| other) / 2 ^ (2 * k + 1) % 2) F), nI one, nI other, nI m, nI (k + 1)) := by
  unfold D_X9_duelOf_L40
  rw [show (200 : Nat) = 197 + 1 + 1 + 1 from rfl, itr_s]
  refine (sideM (s := 0) hm hm0 hk (by omega) ho hoo).trans ?_
  rw [itr_s]
  refine (sideM (s := 1) hm hm0 hk (by omega) ho hoo).trans ?_
  rw [itr_s]
  generalize itr _ 197 = rc
  show D_X9_duelOf_L40_body rec12 rc _ _ _ _ _ (nI 2) = _
  have c2 : ((2 : Int32) ≤ nI 2) = True := eq_true (by decide)
  simp only [D_X9_duelOf_L40_body, c2, if_true, nI_1]
  rfl
theorem gt_getD : ∀ (l : List Nat) (i : Nat), gt l i = l.getD i 0
  | [], i => by simp; rfl
  | x :: l, 0 => rfl
  | x :: l, i + 1 => (gt_getD l i).trans (by simp)
theorem gt_range {m k : Nat} (h : k < m) : gt (List.range m) k = k := by
  rw [gt_getD]
  simp [h]
noncomputable def M0M (m one all : Nat) : List (List Nat) := (List.range m).map fun k => rB m one all k
theorem M0M_ok (A : Nat → Int64) {m : Nat} (one all : Nat) (hm : m ≤ 8) : AM (fun i j => bF A m one all m (9 * i + j)) (M0M m one all) m ∧ SQ (M0M m one all) m := by
  unfold M0M
  refine ⟨fun i hi j hj => ?_, by rw [List.length_map, List.length_range], fun i hi => ?_⟩
  · show bF A m one all m (9 * i + j) = _
    unfold bF
    have e1 : (9 * i + j) / 9 = i := by omega
    have e2 : (9 * i + j) % 9 = j := by omega
    rw [e1, e2, if_pos ⟨hi, hj⟩, gr_map _ _ _ (by rw [List.length_range]; exact hi), gt_range hi]
  · rw [gr_map _ _ _ (by rw [List.length_range]; exact hi)]
    unfold rB rowB
    rw [List.length_append, List.length_map, List.length_range, List.length_singleton]
/-- what the reference answers -/
noncomputable def mdM (m t : Nat) (r : List (List Nat) × Nat) : Option Nat := frc (gt (gr r.1 0) 0 * m % 18446744073709551616) fun o => cond (Nat.beq o 0) none (cond (Nat.ble 9223372036854775808 o) none (frc (smA m r.1 m) fun s => some (sdivN (t * s) (gt (gr r.1 0) 0 * m))))
noncomputable def chM (sz a b : Nat) : Option Nat := (br (2 ^ (sz - 1)) 0 1 (M0M (2 ^ (sz - 1)) a (a ||| b))).bind fun r => mdM (2 ^ (sz - 1)) 1000000 r
noncomputable def wtM (sz a : Nat) : Option Nat := (br (2 ^ (sz - 1)) 0 1 (M0M (2 ^ (sz - 1)) 65535 a)).bind fun r => (mdM (2 ^ (sz - 1)) 1000 r).bind fun v => some (1000 * (sz - 1) + v)
theorem answM {τ : ST} {sz m t v d' one all : Nat} {A : Nat → Int64} {M' : List (List Nat)} (h : gI τ 2 = nI sz) (h2 : 2 ≤ sz) (h4 : sz ≤ 4) (hm : 2 ^ (sz - 1) = m) (hbr : br m 0 1 (M0M m one all) = some (M', d')) (hv : mdM m t (M', d') = some v) : ∃ f, D_X9_solve (pG τ 0 (bF A m one all m)) = some (pG τ 0 f) ∧ D_X9_middle (pG τ 0 f) (enc t) = some (enc v) := by
  have h8 := m8 h4
  have hpos : 0 < 2 ^ (sz - 1) := Nat.pos_of_ne_zero (by simp)
  rw [hm] at h8 hpos
  obtain ⟨hA, hS⟩ := M0M_ok A one all h8
  obtain ⟨f, h1, hA'⟩ := solveM h2 h4 hm m 0 (pG τ 0 (bF A m one all m)) 1 _ M' d' (by omega) h hA hS (by decide) hbr 200 (by omega)
  rw [pG_pG] at h1
  refine ⟨f, ?_, ?_⟩
  · unfold D_X9_solve D_X9_solve_L10
    rw [unkM (τ := pG τ 0 (bF A m one all m)) h h2 h4, Option.bind_some, hm]
    exact h1
  · unfold mdM at hv
    rw [frc_eq] at hv
    cases c1 : Nat.beq (gt (gr M' 0) 0 * m % 18446744073709551616) 0 with
    | true => simp only [c1] at hv; cases hv
    | false =>
      simp only [c1, cond_false] at hv
      cases c2 : Nat.ble 9223372036854775808 (gt (gr M' 0) 0 * m % 18446744073709551616) with
      | true => simp only [c2] at hv; cases hv
      | false =>
        simp only [c2, cond_false] at hv
        rw [frc_eq] at hv
        cases hv
        refine middleM (τ := pG τ 0 f) h h2 h4 hm hA' (beq_f c1) ?_
        rcases Nat.lt_or_ge (gt (gr M' 0) 0 * m % 18446744073709551616) 9223372036854775808 with q | q
        · exact q
        · rw [Nat.ble_eq_true_of_le q] at c2; cases c2
theorem duelM {τ : ST} {sz a b v : Nat} (h : gI τ 2 = nI sz) (ha : a < 2 ^ 31) (hab : a ||| b < 2 ^ 31) (h2 : 2 ≤ sz) (h4 : sz ≤ 4) (hv : chM sz a b = some v) : ∃ f, D_X9_duelOf τ (nI a) (nI b) = some (nI v, pG τ 0 f) := by
  have h8 := m8 h4
  have hpos : 0 < 2 ^ (sz - 1) := Nat.pos_of_ne_zero (by simp)
  generalize hm : 2 ^ (sz - 1) = m at h8 hpos
  unfold chM at hv
  rw [hm] at hv
  cases c2 : br m 0 1 (M0M m a (a ||| b)) with
  | none => rw [c2] at hv; cases hv
  | some r =>
    rw [c2, Option.bind_some] at hv
    obtain ⟨f, e1, e2⟩ := answM (τ := τ) (A := fun x => if x < 72 then 0 else gB τ 0 x) h h2 h4 hm c2 hv
    refine ⟨f, ?_⟩
    unfold D_X9_duelOf D_X9_duelOf_L12
    rw [unkM h h2 h4, Option.bind_some, clearM, Option.bind_some, hm]
    have e0 : (pG τ 0 (fun x => if x < 72 then 0 else gB τ 0 x), nI a, nI b, nI m, (0 : Int32)) = (fun k : Nat => (pG τ 0 (bF (fun x => if x < 72 then 0 else gB τ 0 x) m a (a ||| b) k), nI a, nI b, nI m, nI k)) 0 := by
      show _ = (pG τ 0 (bF (fun x => if x < 72 then 0 else gB τ 0 x) m a (a ||| b) 0), nI a, nI b, nI m, nI 0)
      rw [bF_0]; rfl
    rw [e0]
    refine itr_f (f := fun k : Nat => (pG τ 0 (bF (fun x => if x < 72 then 0 else gB τ 0 x) m a (a ||| b) k), nI a, nI b, nI m, nI k)) (N := m) (by omega) (fun k hk rec => ?_) (fun rec => ?_)
    · show D_X9_duelOf_L12_body rec (pG τ 0 (bF (fun x => if x < 72 then 0 else gB τ 0 x) m a (a ||| b) k)) (nI a) (nI b) (nI m) (nI k) = rec (pG τ 0 (bF (fun x => if x < 72 then 0 else gB τ 0 x) m a (a ||| b) (k + 1)), nI a, nI b, nI m, nI (k + 1))
      have q1 : ¬ 72 ≤ 9 * k + k := by omega
      simp only [D_X9_duelOf_L12_body, inle hk (by omega), if_false, N9, nI_pos (show 9 * k + k < 2 ^ 31 by omega), cl (show 9 * k + k < 2 ^ 31 by omega), q1, or_self, pB_pG, gB_pG, if_true, pG_pG]
      rw [rowM h8 hpos hk ha hab]
      rw [bF_s h8 hk (rsF_ok h8 hpos hk (bF_z h8 hk (fun x hx => if_pos hx))) (fun c hc => rs_at h2 h4 hm a (a ||| b) hk c hc)]
    · show D_X9_duelOf_L12_body rec (pG τ 0 (bF (fun x => if x < 72 then 0 else gB τ 0 x) m a (a ||| b) m)) (nI a) (nI b) (nI m) (nI m) = _
      simp only [D_X9_duelOf_L12_body, ile (Nat.le_refl m) (by omega), if_true, e1, Option.bind_some]
      rw [show (1000000 : Int64) = enc 1000000 from rfl, e2, Option.bind_some, enc_i32]
