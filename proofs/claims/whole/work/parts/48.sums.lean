/-! The rows and the sums of the class's race; its answers. -/
def ovl (sz come hoped : Nat) : Nat := Nat.rec 0 (fun r a => a + cond (Nat.beq (come % 2 ^ (r + 1)) (hoped / 2 ^ (sz - (r + 1)))) (2 ^ (r + 1)) 0) sz
def rws (bits n : Nat) : List Nat := Nat.rec [] (fun i l => cond (Nat.beq (bits / 2 ^ i % 2) 1) (l ++ [i]) l) n
theorem rws_s (bits n : Nat) : rws bits (n + 1) = cond (Nat.beq (bits / 2 ^ n % 2) 1) (rws bits n ++ [n]) (rws bits n) := rfl
theorem rws_1 {bits n : Nat} (h : bits / 2 ^ n % 2 = 1) : rws bits (n + 1) = rws bits n ++ [n] := by rw [rws_s, h]; rfl
theorem rws_0 {bits n : Nat} (h : bits / 2 ^ n % 2 = 0) : rws bits (n + 1) = rws bits n := by rw [rws_s, h]; rfl
theorem gt_app (a : Nat) : ∀ (l : List Nat) (j : Nat), gt (l ++ [a]) j = if j < l.length then gt l j else if j = l.length then a else 0
  | [], 0 => rfl
  | [], j + 1 => by rw [List.length_nil, if_neg (Nat.not_lt_zero _), if_neg (show ¬ j + 1 = 0 by omega)]; rfl
  | x :: l, 0 => by rw [List.length_cons, if_pos (Nat.zero_lt_succ _)]; rfl
  | x :: l, j + 1 => by
    rw [List.length_cons]
    refine (gt_app a l j).trans ?_
    by_cases h : j < l.length
    · rw [if_pos h, if_pos (by omega)]; rfl
    · rw [if_neg h, if_neg (show ¬ j + 1 < l.length + 1 by omega)]
      by_cases e : j = l.length
      · rw [if_pos e, if_pos (by omega)]
      · rw [if_neg e, if_neg (by omega)]
theorem gt_map (g : Nat → Nat) : ∀ (l : List Nat) (j : Nat), j < l.length → gt (l.map g) j = g (gt l j)
  | [], _, h => by cases h
  | x :: l, 0, _ => rfl
  | x :: l, j + 1, h => gt_map g l j (by simpa using h)
theorem gr_map (g : Nat → List Nat) : ∀ (l : List Nat) (j : Nat), j < l.length → gr (l.map g) j = g (gt l j)
  | [], _, h => by cases h
  | x :: l, 0, _ => rfl
  | x :: l, j + 1, h => gr_map g l j (by simpa using h)
theorem rws_lt (bits : Nat) : ∀ n i, i < (rws bits n).length → gt (rws bits n) i < n
  | 0, i, h => absurd h (Nat.not_lt_zero i)
  | n + 1, i, h => by
    rcases bit01 bits n with q | q
    · rw [rws_0 q] at h ⊢
      have := rws_lt bits n i h
      omega
    · rw [rws_1 q] at h ⊢
      rw [gt_app]
      by_cases e : i < (rws bits n).length
      · rw [if_pos e]
        have := rws_lt bits n i e
        omega
      · rw [if_neg e]
        by_cases e2 : i = (rws bits n).length
        · rw [if_pos e2]; omega
        · rw [if_neg e2]; omega
theorem rws_up (bits x : Nat) : ∀ n, (rws bits x).length ≤ (rws bits (x + n)).length ∧ ((rws bits (x + n)).length = (rws bits x).length → rws bits (x + n) = rws bits x)
  | 0 => ⟨Nat.le_refl _, fun _ => rfl⟩
  | n + 1 => by
    have h := rws_up bits x n
    rw [show x + (n + 1) = x + n + 1 by omega]
    rcases bit01 bits (x + n) with q | q
    · rw [rws_0 q]; exact h
    · rw [rws_1 q, List.length_append, List.length_singleton]
      exact ⟨by omega, fun e => absurd e (by omega)⟩
noncomputable def srS (σ : ST) (bits x : Nat) : ST := pI (pF σ 13 (fun i => if i < (rws bits x).length then nI (gt (rws bits x) i) else gA σ 13 i)) 13 (nI (rws bits x).length)
theorem gI_srS (σ : ST) (bits x : Nat) : gI (srS σ bits x) 13 = nI (rws bits x).length := rfl
theorem st_ext {a b : ST} (h1 : ∀ j, gI a j = gI b j) (h2 : ∀ j, gJ a j = gJ b j) (h3 : ∀ j, gA a j = gA b j) (h4 : ∀ j, gB a j = gB b j) : a = b := by
  obtain ⟨a1, a2, a3, a4⟩ := a
  obtain ⟨b1, b2, b3, b4⟩ := b
  have e1 : a1 = b1 := funext h1
  have e2 : a2 = b2 := funext h2
  have e3 : a3 = b3 := funext h3
  have e4 : a4 = b4 := funext h4
  rw [e1, e2, e3, e4]
theorem srS_0 (σ : ST) (bits : Nat) : srS σ bits 0 = pI σ 13 0 := by
  refine st_ext (fun j => rfl) (fun j => rfl) (fun j => ?_) (fun j => rfl)
  show (if j = 13 then _ else _) = _
  by_cases e : j = 13
  · rw [if_pos e, e]; rfl
  · rw [if_neg e]; rfl
theorem srS_1 (σ : ST) {bits x : Nat} (h : bits / 2 ^ x % 2 = 1) : pI (pA (srS σ bits x) 13 (rws bits x).length (nI x)) 13 (nI ((rws bits x).length + 1)) = srS σ bits (x + 1) := by
  unfold srS
  rw [rws_1 h, List.length_append, List.length_singleton]
  refine st_ext (fun j => ?_) (fun j => rfl) (fun j => ?_) (fun j => rfl)
  · show (if j = 13 then _ else if j = 13 then _ else _) = (if j = 13 then _ else _)
    by_cases e : j = 13
    · rw [if_pos e, if_pos e]
    · rw [if_neg e, if_neg e, if_neg e]; rfl
  · show (if j = 13 then upd _ _ _ else if j = 13 then _ else _) = (if j = 13 then _ else _)
    by_cases e : j = 13
    · rw [if_pos e, if_pos e]
      funext i
      by_cases e2 : i = (rws bits x).length
      · subst e2
        rw [upd_at, if_pos (by omega), gt_app, if_neg (Nat.lt_irrefl _), if_pos rfl]
      · rw [upd_ne _ _ e2]
        show (if i < (rws bits x).length then _ else _) = _
        by_cases e3 : i < (rws bits x).length
        · rw [if_pos e3, if_pos (by omega), gt_app, if_pos e3]
        · rw [if_neg e3, if_neg (by omega)]
    · rw [if_neg e, if_neg e, if_neg e]
theorem setRowsT {σ : ST} {bits sz : Nat} (hb : bits < 2 ^ 31) (hz : sz ≤ 4) (hl : (rws bits (2 ^ sz)).length ≤ 6) : D_X7_setRows σ (nI bits) (nI sz) = some (srS σ bits (2 ^ sz)) := by
  have h16 := p2s hz
  have main : ∀ n x, x + n = 2 ^ sz → ∀ fuel, n < fuel → itr (fun (rec7 : (ST × Int32 × Int32 × Int32) → Option ST) (a : (ST × Int32 × Int32 × Int32)) => D_X7_setRows_L7_body rec7 a.1 a.2.1 a.2.2.1 a.2.2.2) fuel (srS σ bits x, nI bits, nI sz, nI x) = some (srS σ bits (2 ^ sz)) := by
    intro n
    induction n with
    | zero =>
      intro x hx fuel hf
      obtain ⟨fuel, rfl⟩ : ∃ q, fuel = q + 1 := ⟨fuel - 1, by omega⟩
      have key : ∀ rc, D_X7_setRows_L7_body rc (srS σ bits x) (nI bits) (nI sz) (nI x) = some (srS σ bits (2 ^ sz)) := fun rc => by
        simp only [D_X7_setRows_L7_body, sh1' (show sz < 31 by omega), ile (show 2 ^ sz ≤ x by omega) (by omega), if_true]
        rw [show x = 2 ^ sz by omega]
      rw [itr_s]
      exact key _
    | succ n ih =>
      intro x hx fuel hf
      obtain ⟨fuel, rfl⟩ : ∃ q, fuel = q + 1 := ⟨fuel - 1, by omega⟩
      have hu := rws_up bits x (n + 1)
      rw [hx] at hu
      have h1 := ih (x + 1) (by omega) fuel (by omega)
      by_cases h6 : (rws bits x).length = 6
      · have hr : rws bits (2 ^ sz) = rws bits x := hu.2 (by omega)
        have key : ∀ rc, D_X7_setRows_L7_body rc (srS σ bits x) (nI bits) (nI sz) (nI x) = some (srS σ bits (2 ^ sz)) := fun rc => by
          simp only [D_X7_setRows_L7_body, sh1' (show sz < 31 by omega), inle (show x < 2 ^ sz by omega) (by omega), if_false, gI_srS, h6, L6, ile (Nat.le_refl 6) (by omega), if_true]
          unfold srS
          rw [hr]
        rw [itr_s]
        exact key _
      · have hl6 : (rws bits x).length < 6 := by omega
        have key : ∀ rc, D_X7_setRows_L7_body rc (srS σ bits x) (nI bits) (nI sz) (nI x) = rc (srS σ bits (x + 1), nI bits, nI sz, nI (x + 1)) := fun rc => by
          rcases bit01 bits x with q | q
          · simp only [D_X7_setRows_L7_body, sh1' (show sz < 31 by omega), inle (show x < 2 ^ sz by omega) (by omega), if_false, gI_srS, L6, inle hl6 (by omega), hasT hb (show x < 32 by omega), Option.bind_some, q, show nI 0 = 0 from rfl, if_true, D_X7_setRows_b51, nI_1]
            unfold srS
            rw [rws_0 q]
          · simp only [D_X7_setRows_L7_body, sh1' (show sz < 31 by omega), inle (show x < 2 ^ sz by omega) (by omega), if_false, gI_srS, L6, inle hl6 (by omega), hasT hb (show x < 32 by omega), Option.bind_some, q, in0 (show 0 < 1 by omega) (by omega), gin hl6 (by omega), cl (show (rws bits x).length < 2 ^ 31 by omega), D_X7_setRows_b51, nI_1, gI_pA, srS_1 σ q]
        rw [itr_s]
        exact (key _).trans h1
  unfold D_X7_setRows D_X7_setRows_L7
  rw [← srS_0 σ bits]
  exact main (2 ^ sz) 0 (by omega) 200 (by omega)
theorem ovl_all : ∀ s : Fin 3, ∀ a b : Fin 16, a.val < 2 ^ (s.val + 2) → b.val < 2 ^ (s.val + 2) → D_X7_overlap (nI a.val) (nI b.val) (nI (s.val + 2)) = some (nI (ovl (s.val + 2) a.val b.val)) ∧ ovl (s.val + 2) a.val b.val < 100 := by decide +kernel
theorem i64 {v : Nat} (h : v < 2 ^ 31) : (nI v).toInt64 = enc v := by
  apply Int64.toInt_inj.1
  rw [Int32.toInt_toInt64, nI_toInt h]
  exact (Int64.toInt_ofNat_of_lt (by omega)).symm
theorem overlapT {sz a b : Nat} (h2 : 2 ≤ sz) (h4 : sz ≤ 4) (ha : a < 2 ^ sz) (hb : b < 2 ^ sz) : D_X7_overlap (nI a) (nI b) (nI sz) = some (nI (ovl sz a b)) ∧ (nI (ovl sz a b)).toInt64 = enc (ovl sz a b) := by
  have h16 := p2s h4
  obtain ⟨s, rfl⟩ : ∃ s, sz = s + 2 := ⟨sz - 2, by omega⟩
  have h := ovl_all ⟨s, by omega⟩ ⟨a, by omega⟩ ⟨b, by omega⟩ ha hb
  exact ⟨h.1, i64 (Nat.lt_of_lt_of_le h.2 (by decide))⟩
noncomputable def ssS (σ : ST) (sz m : Nat) (R : List Nat) (j i : Nat) : ST := (σ.1, σ.2.1, σ.2.2.1, fun r => if r < j then (fun c => if c < m then enc (ovl sz (gt R c) (gt R r)) else if c = m then 1 else gB σ r c) else if r = j then (fun c => if c < i then enc (ovl sz (gt R c) (gt R r)) else gB σ r c) else gB σ r)
theorem gB_ssS (σ : ST) (sz m : Nat) (R : List Nat) (j i r : Nat) : gB (ssS σ sz m R j i) r = if r < j then (fun c => if c < m then enc (ovl sz (gt R c) (gt R r)) else if c = m then 1 else gB σ r c) else if r = j then (fun c => if c < i then enc (ovl sz (gt R c) (gt R r)) else gB σ r c) else gB σ r := rfl
theorem gI_ssS (σ : ST) (sz m : Nat) (R : List Nat) (j i r : Nat) : gI (ssS σ sz m R j i) r = gI σ r := rfl
theorem gA_ssS (σ : ST) (sz m : Nat) (R : List Nat) (j i r : Nat) : gA (ssS σ sz m R j i) r = gA σ r := rfl
theorem ssS_0 (σ : ST) (sz m : Nat) (R : List Nat) : ssS σ sz m R 0 0 = σ := by
  unfold ssS
  obtain ⟨a, b, c, d⟩ := σ
  congr 3
  funext r
  rw [if_neg (Nat.not_lt_zero r)]
  by_cases e : r = 0
  · rw [if_pos e]; rfl
  · rw [if_neg e]; rfl
theorem ssS_i (σ : ST) (sz m : Nat) (R : List Nat) (j i : Nat) : pB (ssS σ sz m R j i) j i (enc (ovl sz (gt R i) (gt R j))) = ssS σ sz m R j (i + 1) := by
  rw [pB_pG, gB_ssS, if_neg (Nat.lt_irrefl j), if_pos rfl]
  unfold ssS pG
  congr 3
  funext r
  by_cases e : r = j
  · subst e
    rw [if_pos rfl, if_neg (Nat.lt_irrefl r), if_pos rfl]
    funext c
    by_cases q : c = i
    · subst q
      rw [updL_at, if_pos (by omega)]
    · rw [updL_ne _ _ q]
      exact ifc ⟨fun _ => by omega, fun _ => by omega⟩
  · simp only [e, if_false]
theorem ssS_j (σ : ST) (sz m : Nat) (R : List Nat) (j : Nat) : pB (ssS σ sz m R j m) j m 1 = ssS σ sz m R (j + 1) 0 := by
  rw [pB_pG, gB_ssS, if_neg (Nat.lt_irrefl j), if_pos rfl]
  unfold ssS pG
  congr 3
  funext r
  by_cases e : r = j
  · subst e
    rw [if_pos rfl, if_pos (Nat.lt_succ_self r)]
    funext c
    by_cases q : c = m
    · subst q
      rw [updL_at, if_neg (Nat.lt_irrefl c), if_pos rfl]
    · rw [updL_ne _ _ q]
      simp only [q, if_false]
  · rw [if_neg e]
    show (if r < j then _ else if r = j then _ else _) = _
    rw [if_neg e]
    by_cases q : r < j
    · rw [if_pos q, if_pos (by omega)]
    · rw [if_neg q, if_neg (by omega)]
      by_cases q2 : r = j + 1
      · rw [if_pos q2]; rfl
      · rw [if_neg q2]
theorem setSumsT {σ : ST} {sz m : Nat} {R : List Nat} (h2 : 2 ≤ sz) (h4 : sz ≤ 4) (hm : gI σ 13 = nI m) (h6 : m ≤ 6) (hR : ∀ i, i < m → gA σ 13 i = nI (gt R i) ∧ gt R i < 2 ^ sz) : D_X7_setSums σ (nI sz) = some (ssS σ sz m R m 0) := by
  have inner : ∀ (rec2 : (ST × Int32 × Int32) → Option ST) (j : Nat), j < m → D_X7_setSums_L12 rec2 (ssS σ sz m R j 0) (nI sz) (nI j) 0 = rec2 (ssS σ sz m R (j + 1) 0, nI sz, nI (j + 1)) := by
    intro rec2 j hj
    have c6 : ¬ 6 ≤ j := by omega
    unfold D_X7_setSums_L12
    refine itr_f (f := fun i : Nat => (ssS σ sz m R j i, nI sz, nI j, nI i)) (N := m) (by omega) (fun i hi rec => ?_) (fun rec => ?_)
    · show D_X7_setSums_L12_body rec2 rec (ssS σ sz m R j i) (nI sz) (nI j) (nI i) = rec (ssS σ sz m R j (i + 1), nI sz, nI j, nI (i + 1))
      have d6 : ¬ 6 ≤ i := by omega
      have d7 : ¬ 7 ≤ i := by omega
      obtain ⟨o1, o2⟩ := overlapT h2 h4 (hR i hi).2 (hR j hj).2
      simp only [D_X7_setSums_L12_body, gI_ssS, hm, inle hi (by omega), if_false, nI_pos (show j < 2 ^ 31 by omega), nI_pos (show i < 2 ^ 31 by omega), cl (show j < 2 ^ 31 by omega), cl (show i < 2 ^ 31 by omega), c6, d6, d7, or_self, gA_ssS, (hR i hi).1, (hR j hj).1, o1, Option.bind_some, o2, ssS_i, nI_1]
    · show D_X7_setSums_L12_body rec2 rec (ssS σ sz m R j m) (nI sz) (nI j) (nI m) = _
      have d7 : ¬ 7 ≤ m := by omega
      simp only [D_X7_setSums_L12_body, gI_ssS, hm, ile (Nat.le_refl m) (by omega), if_true, nI_pos (show j < 2 ^ 31 by omega), nI_pos (show m < 2 ^ 31 by omega), cl (show j < 2 ^ 31 by omega), cl (show m < 2 ^ 31 by omega), c6, d7, or_self, if_false, ssS_j, nI_1]
  unfold D_X7_setSums D_X7_setSums_L2
  have e0 : (σ, nI sz, (0 : Int32)) = (fun j : Nat => (ssS σ sz m R j 0, nI sz, nI j)) 0 := by
    show _ = (ssS σ sz m R 0 0, nI sz, nI 0)
    rw [ssS_0]; rfl
  rw [e0]
  refine itr_f (f := fun j : Nat => (ssS σ sz m R j 0, nI sz, nI j)) (N := m) (by omega) (fun i hi rec => ?_) (fun rec => ?_)
  · show D_X7_setSums_L2_body rec (ssS σ sz m R i 0) (nI sz) (nI i) = rec (ssS σ sz m R (i + 1) 0, nI sz, nI (i + 1))
    simp only [D_X7_setSums_L2_body, gI_ssS, hm, inle hi (by omega), if_false, inner rec i hi]
  · show D_X7_setSums_L2_body rec (ssS σ sz m R m 0) (nI sz) (nI m) = _
    simp only [D_X7_setSums_L2_body, gI_ssS, hm, ile (Nat.le_refl m) (by omega), if_true]
noncomputable def M0T (sz : Nat) (R : List Nat) : List (List Nat) := R.map fun j => R.map (fun i => ovl sz i j) ++ [1]
theorem M0T_ok {σ : ST} {sz : Nat} {R : List Nat} : AM (gB (ssS σ sz R.length R R.length 0)) (M0T sz R) R.length ∧ SQ (M0T sz R) R.length := by
  unfold M0T
  refine ⟨fun i hi j hj => ?_, by rw [List.length_map], fun i hi => ?_⟩
  · rw [gB_ssS, if_pos hi, gr_map _ _ _ hi, gt_app, List.length_map]
    by_cases e : j < R.length
    · rw [if_pos e]
      simp only [e, if_true]
      rw [gt_map _ _ _ e]
    · have : j = R.length := by omega
      simp only [this, Nat.lt_irrefl, if_false, if_true]
      rfl
  · rw [gr_map _ _ _ hi, List.length_append, List.length_map, List.length_singleton]
noncomputable def smN (bits m : Nat) (R : List Nat) (M : List (List Nat)) (n : Nat) : Nat := Nat.rec 0 (fun i a => a + cond (Nat.beq (bits / 2 ^ gt R i % 2) 1) (gt (gr M i) m) 0) n
theorem sharesT {σ : ST} {sz m bits : Nat} {R : List Nat} {M : List (List Nat)} (h4 : sz ≤ 4) (hb : bits < 2 ^ 31) (hm : gI σ 13 = nI m) (h6 : m ≤ 6) (hR : ∀ i, i < m → gA σ 13 i = nI (gt R i) ∧ gt R i < 2 ^ sz) (hA : AM (gB σ) M m) : D_X7_sharesOf σ (nI bits) = some (enc (smN bits m R M m)) := by
  have h16 := p2s h4
  unfold D_X7_sharesOf D_X7_sharesOf_L5
  refine itr_f (f := fun i : Nat => (nI bits, enc (smN bits m R M i), nI i)) (N := m) (by omega) (fun i hi rec => ?_) (fun rec => ?_)
  · show D_X7_sharesOf_L5_body rec σ (nI bits) (enc (smN bits m R M i)) (nI i) = rec (nI bits, enc (smN bits m R M (i + 1)), nI (i + 1))
    have hr := (hR i hi).2
    have c6 : ¬ 6 ≤ i := by omega
    have c7 : ¬ 7 ≤ m := by omega
    have es : smN bits m R M (i + 1) = smN bits m R M i + cond (Nat.beq (bits / 2 ^ gt R i % 2) 1) (gt (gr M i) m) 0 := rfl
    simp only [D_X7_sharesOf_L5_body, hm, inle hi (by omega), if_false, nI_pos (show i < 2 ^ 31 by omega), nI_pos (show m < 2 ^ 31 by omega), cl (show m < 2 ^ 31 by omega), cl (show i < 2 ^ 31 by omega), c6, c7, or_self, (hR i hi).1, hasT hb (show gt R i < 32 by omega), Option.bind_some, D_X7_sharesOf_b43, nI_1, hA i hi m (Nat.le_refl m), enc_add, es]
    rcases bit01 bits (gt R i) with q | q <;> rw [q]
    · rw [if_pos (show nI 0 = 0 from rfl)]; rfl
    · rw [if_neg (show ¬ nI 1 = 0 by decide)]; rfl
  · show D_X7_sharesOf_L5_body rec σ (nI bits) (enc (smN bits m R M m)) (nI m) = _
    simp only [D_X7_sharesOf_L5_body, hm, ile (Nat.le_refl m) (by omega), if_true]
