theorem orI (a b : Nat) : nI a ||| nI b = nI (a ||| b) := by
  apply Int32.toBitVec_inj.1
  show BitVec.ofNat 32 a ||| BitVec.ofNat 32 b = BitVec.ofNat 32 (a ||| b)
  apply BitVec.eq_of_getLsbD_eq
  intro i hi
  simp [hi]
theorem andI (a b : Nat) : nI a &&& nI b = nI (a &&& b) := by
  apply Int32.toBitVec_inj.1
  show BitVec.ofNat 32 a &&& BitVec.ofNat 32 b = BitVec.ofNat 32 (a &&& b)
  apply BitVec.eq_of_getLsbD_eq
  intro i hi
  simp [hi]
theorem maskI (a k : Nat) : nI a &&& nI (2 ^ k - 1) = nI (a % 2 ^ k) := by rw [andI, Nat.and_two_pow_sub_one_eq_mod]
/-- who hits by a tail, of the first p players, as bits -/
def wh (sz : Nat) (c : CO) (tail : Nat) : Nat → Nat
  | 0 => 0
  | p + 1 => wh sz c tail p ||| (if hp sz c p / 2 ^ tail % 2 = 1 then 2 ^ p else 0)
theorem wh_s (sz : Nat) (c : CO) (tail p : Nat) : wh sz c tail (p + 1) = wh sz c tail p ||| (if hp sz c p / 2 ^ tail % 2 = 1 then 2 ^ p else 0) := rfl
theorem wh_lt (sz : Nat) (c : CO) (tail : Nat) : ∀ p, wh sz c tail p < 2 ^ p
  | 0 => by simp [wh]
  | p + 1 => by
    have h := wh_lt sz c tail p
    have h2 : 2 ^ p < 2 ^ (p + 1) := Nat.pow_lt_pow_right (by omega) (by omega)
    rw [wh_s]
    refine Nat.or_lt_two_pow (by omega) ?_
    by_cases e : hp sz c p / 2 ^ tail % 2 = 1
    · rw [if_pos e]; exact h2
    · rw [if_neg e]; omega
def PT (np sz : Nat) (c : CO) (σ : ST) : Prop := gI σ 1 = nI np ∧ gI σ 2 = nI sz ∧ (∀ p, p < np → gA σ 1 p = nI (kd c p)) ∧ (∀ p, p < np → gA σ 2 p = nI (ro c p))
def PM (np sz : Nat) (c : CO) (τ : ST) : Prop := gI τ 1 = nI np ∧ gI τ 2 = nI sz ∧ (∀ p, p < np → gA τ 0 p = nI (kd c p)) ∧ (∀ p, p < np → gA τ 1 p = nI (ro c p))
theorem two_le {a b : Nat} (h : a ≤ b) : 2 ^ a ≤ 2 ^ b := Nat.pow_le_pow_right (by omega) h
theorem hittersT {np sz tail : Nat} {c : CO} {σ : ST} (hN : NS np sz) (h0 : 0 < np) (hP : PT np sz c σ) (hV : VC np sz c) (ht : tail < 2 ^ sz) : D_X8_hittersAt σ (nI (2 ^ sz + tail)) = some (nI (wh sz c tail np)) := by
  have h4 := hN.np
  have h16 := p2s hN.sz
  have e1 : D_X8_tailOf σ (nI (2 ^ sz + tail)) = some (nI tail) := by
    unfold D_X8_tailOf
    rw [hP.1, if_neg (nI_nle h0 (by omega)), hP.2.1, sh1' (by have := hN.sz; omega), if_neg (nI_nlt (by omega) (by omega)), pk_sub (by omega), show 2 ^ sz + tail - 2 ^ sz = tail by omega]
  unfold D_X8_hittersAt
  rw [e1, Option.bind_some, if_neg (show ¬ nI tail = (-1 : Int32) from fun q => by
    have h1 : (nI tail).toInt = tail := nI_toInt (by omega)
    rw [q] at h1
    have h2 : ((-1 : Int32)).toInt = -1 := by decide
    omega)]
  unfold D_X8_hittersAt_L18
  refine itr_f (f := fun i => (nI tail, nI (wh sz c tail i), nI i)) (N := np) (by omega) (fun i hi rec => ?_) (fun rec => ?_)
  · show D_X8_hittersAt_L18_body rec σ (nI tail) (nI (wh sz c tail i)) (nI i) = rec (nI tail, nI (wh sz c tail (i + 1)), nI (i + 1))
    have hh := hp_16 hN hV hi
    simp only [D_X8_hittersAt_L18_body, hP.1, inle hi (by omega), if_false, rowsHitByT hN hP.1 hP.2.1 hP.2.2.1 hP.2.2.2 hV hi, Option.bind_some, hasT (show hp sz c i < 2 ^ 31 by omega) (show tail < 32 by omega), D_X8_hittersAt_b47, nI_1, sh1' (show i < 31 by omega), orI]
    rw [wh_s]
    rcases bit01 (hp sz c i) tail with h | h <;> rw [h]
    · rw [if_pos (show nI 0 = 0 from rfl), if_neg (by omega), Nat.or_zero]
    · rw [if_neg (show ¬ nI 1 = 0 by decide), if_pos rfl]
  · show D_X8_hittersAt_L18_body rec σ (nI tail) (nI (wh sz c tail np)) (nI np) = _
    simp only [D_X8_hittersAt_L18_body, hP.1, ile (Nat.le_refl np) (by omega), if_true]
theorem hittersT0 {np sz t : Nat} {c : CO} {σ : ST} (hN : NS np sz) (h0 : 0 < np) (hP : PT np sz c σ) (ht : t < 2 ^ sz) : D_X8_hittersAt σ (nI t) = some 0 := by
  have h4 := hN.np
  have h16 := p2s hN.sz
  have e1 : D_X8_tailOf σ (nI t) = some (-1) := by
    unfold D_X8_tailOf
    rw [hP.1, if_neg (nI_nle h0 (by omega)), hP.2.1, sh1' (by have := hN.sz; omega), if_pos (nI_lt ht (by omega))]
  unfold D_X8_hittersAt
  rw [e1, Option.bind_some, if_pos rfl]
theorem whoM {np sz many bits : Nat} {c : CO} {τ : ST} (hN : NS np sz) (h0 : 0 < np) (hP : PM np sz c τ) (hV : VC np sz c) (hm : many < 2 ^ 31) : D_X9_whoHits τ (nI many) (nI bits) = some (nI (if sz ≤ many then wh sz c (bits % 2 ^ sz) np else 0)) := by
  have h4 := hN.np
  have hz := hN.sz
  have h16 := p2s hN.sz
  have hpos : 0 < 2 ^ sz := Nat.pos_of_ne_zero (by simp)
  have hr : D_X9_rows τ = some (nI (2 ^ sz)) := by unfold D_X9_rows; rw [hP.2.1, sh1' (by omega)]
  unfold D_X9_whoHits D_X9_whoHits_L5
  by_cases hs : sz ≤ many
  · rw [if_pos hs]
    have hb : bits % 2 ^ sz < 2 ^ sz := Nat.mod_lt _ hpos
    refine itr_f (f := fun i => (nI many, nI bits, nI (wh sz c (bits % 2 ^ sz) i), nI i)) (N := np) (by omega) (fun i hi rec => ?_) (fun rec => ?_)
    · show D_X9_whoHits_L5_body rec τ (nI many) (nI bits) (nI (wh sz c (bits % 2 ^ sz) i)) (nI i) = rec (nI many, nI bits, nI (wh sz c (bits % 2 ^ sz) (i + 1)), nI (i + 1))
      have hh := hp_16 hN hV hi
      simp only [D_X9_whoHits_L5_body, hP.1, inle hi (by omega), if_false, hP.2.1, inlt hs hm, hitsOfM hN hP.2.1 hP.2.2.1 hP.2.2.2 hV hi, Option.bind_some, hr, show (1 : Int32) = nI 1 from rfl, pk_sub hpos, maskI, isInM (show hp sz c i < 2 ^ 31 by omega) (show bits % 2 ^ sz < 32 by omega), D_X9_whoHits_b51, nI_add]
      rw [show nI 1 <<< (nI i &&& 31) = nI (2 ^ i) from sh1' (by omega)]
      rw [wh_s]
      rcases bit01 (hp sz c i) (bits % 2 ^ sz) with h | h <;> rw [h]
      · rw [if_pos (show nI 0 = 0 from rfl), if_neg (by omega)]
        show rec (_, _, nI _ ||| nI 0, _) = _
        rw [orI]
      · rw [if_neg (show ¬ nI 1 = 0 by decide), if_pos rfl, orI]
    · show D_X9_whoHits_L5_body rec τ (nI many) (nI bits) (nI (wh sz c (bits % 2 ^ sz) np)) (nI np) = _
      simp only [D_X9_whoHits_L5_body, hP.1, ile (Nat.le_refl np) (by omega), if_true]
  · rw [if_neg hs]
    refine itr_f (f := fun i => (nI many, nI bits, nI 0, nI i)) (N := 0) (by omega) (fun i hi rec => absurd hi (Nat.not_lt_zero i)) (fun rec => ?_)
    show D_X9_whoHits_L5_body rec τ (nI many) (nI bits) (nI 0) (nI 0) = _
    simp only [D_X9_whoHits_L5_body, hP.1, inle h0 (by omega), if_false, hP.2.1, ilt (show many < sz by omega) (by omega), if_true]
noncomputable def nxW (a w i : Nat) (t : ST) : ST := pA t a i (gA t a i + nI (w / 2 ^ i % 2))
theorem nxW_I (a w N : Nat) (t : ST) (k : Nat) : gI (lp (nxW a w) N t) k = gI t k := lp_ind (P := fun _ u => gI u k = gI t k) rfl (fun i hi u hu => hu)
theorem nxW_J (a w N : Nat) (t : ST) (k : Nat) : gJ (lp (nxW a w) N t) k = gJ t k := lp_ind (P := fun _ u => gJ u k = gJ t k) rfl (fun i hi u hu => hu)
theorem nxW_A (a w N : Nat) (t : ST) (k : Nat) (hk : k ≠ a) : gA (lp (nxW a w) N t) k = gA t k := lp_ind (P := fun _ u => gA u k = gA t k) rfl (fun i hi u hu => by
  show gA (pA u a i _) k = _
  rw [gA_pA, if_neg hk]; exact hu)
theorem nxW_W (a w N : Nat) (t : ST) : ∀ p, gA (lp (nxW a w) N t) a p = if p < N then gA t a p + nI (w / 2 ^ p % 2) else gA t a p := lp_ind (P := fun i u => ∀ p, gA u a p = if p < i then gA t a p + nI (w / 2 ^ p % 2) else gA t a p) (fun p => by rw [if_neg (Nat.not_lt_zero p)]) (fun i hi u hu p => by
  show gA (pA u a i _) a p = _
  rw [gA_pA, if_pos rfl]
  by_cases e : p = i
  · rw [e, upd_at, hu i, if_neg (Nat.lt_irrefl i), if_pos (Nat.lt_succ_self i)]
  · rw [upd_ne _ _ e, hu p]
    by_cases q : p < i
    · rw [if_pos q, if_pos (by omega)]
    · rw [if_neg q, if_neg (by omega)])
theorem addT {w : Nat} (σ : ST) (hw : w < 2 ^ 31) : D_X8_addWins_6 σ (nI w) = some (lp (nxW 3 w) 4 σ) := by
  unfold D_X8_addWins_6 D_X8_addWins_6_L2
  refine itr_f (f := fun i => (lp (nxW 3 w) i σ, nI w, nI i)) (N := 4) (by omega) (fun i hi rec => ?_) (fun rec => ?_)
  · show D_X8_addWins_6_L2_body rec (lp (nxW 3 w) i σ) (nI w) (nI i) = rec (lp (nxW 3 w) (i + 1) σ, nI w, nI (i + 1))
    simp only [D_X8_addWins_6_L2_body, L4, inle hi (by omega), if_false, cl (show i < 2 ^ 31 by omega), gin hi (by omega), hasT hw (show i < 32 by omega), Option.bind_some, D_X8_addWins_6_b25, nI_1]
    rw [lp_s]
    unfold nxW
    rcases bit01 w i with h | h <;> rw [h]
    · rw [if_pos (show nI 0 = 0 from rfl)]; rfl
    · rw [if_neg (show ¬ nI 1 = 0 by decide)]; rfl
  · show D_X8_addWins_6_L2_body rec (lp (nxW 3 w) 4 σ) (nI w) (nI 4) = _
    simp only [D_X8_addWins_6_L2_body, L4, ile (Nat.le_refl 4) (by omega), if_true]
theorem addT2 {w : Nat} (σ : ST) (hw : w < 2 ^ 31) : D_X8_addWins_32 σ (nI w) = some (lp (nxW 14 w) 4 σ) := by
  unfold D_X8_addWins_32 D_X8_addWins_32_L2
  refine itr_f (f := fun i => (lp (nxW 14 w) i σ, nI w, nI i)) (N := 4) (by omega) (fun i hi rec => ?_) (fun rec => ?_)
  · show D_X8_addWins_32_L2_body rec (lp (nxW 14 w) i σ) (nI w) (nI i) = rec (lp (nxW 14 w) (i + 1) σ, nI w, nI (i + 1))
    simp only [D_X8_addWins_32_L2_body, L4, inle hi (by omega), if_false, cl (show i < 2 ^ 31 by omega), gin hi (by omega), hasT hw (show i < 32 by omega), Option.bind_some, D_X8_addWins_32_b25, nI_1]
    rw [lp_s]
    unfold nxW
    rcases bit01 w i with h | h <;> rw [h]
    · rw [if_pos (show nI 0 = 0 from rfl)]; rfl
    · rw [if_neg (show ¬ nI 1 = 0 by decide)]; rfl
  · show D_X8_addWins_32_L2_body rec (lp (nxW 14 w) 4 σ) (nI w) (nI 4) = _
    simp only [D_X8_addWins_32_L2_body, L4, ile (Nat.le_refl 4) (by omega), if_true]
theorem tossM {np w : Nat} {τ : ST} (h1 : gI τ 1 = nI np) (h4 : np ≤ 4) (hw : w < 2 ^ 31) : D_X9_toss_L85 τ (nI w) 0 = some (nI w, if w = 0 then lp (nxW 2 w) np τ else pI (pI (lp (nxW 2 w) np τ) 3 0) 4 0) := by
  unfold D_X9_toss_L85
  refine itr_f (f := fun i => (lp (nxW 2 w) i τ, nI w, nI i)) (N := np) (by omega) (fun i hi rec => ?_) (fun rec => ?_)
  · show D_X9_toss_L85_body rec (lp (nxW 2 w) i τ) (nI w) (nI i) = rec (lp (nxW 2 w) (i + 1) τ, nI w, nI (i + 1))
    simp only [D_X9_toss_L85_body, nxW_I, h1, inle hi (by omega), if_false, cl (show i < 2 ^ 31 by omega), gin (show i < 4 by omega) (by omega), bitI hw (show i < 32 by omega), nI_1]
    rfl
  · show D_X9_toss_L85_body rec (lp (nxW 2 w) np τ) (nI w) (nI np) = _
    simp only [D_X9_toss_L85_body, nxW_I, h1, ile (Nat.le_refl np) (by omega), if_true]
    by_cases e : w = 0
    · subst e; rw [if_pos (show nI 0 = 0 from rfl), if_pos rfl]
    · rw [if_neg (nI_ne0 (by omega) hw), if_neg e]
/-- the latest four tosses behind one more -/
def lat (l s : Nat) : Nat := (2 * l + s) % 16
theorem tb_all : ∀ s : Fin 3, ∀ m : Fin 5, ∀ l : Fin 16, ∀ d : Fin 2, m.val ≤ s.val + 2 → D_X8_trackBehind (pI τ0 2 (nI (s.val + 2))) (nI (2 ^ m.val + l.val % 2 ^ m.val)) (nI d.val) = some (nI (2 ^ (min (s.val + 2) (m.val + 1)) + lat l.val d.val % 2 ^ (min (s.val + 2) (m.val + 1)))) := by decide +kernel
theorem lat_all : ∀ l : Fin 16, ∀ d : Fin 2, ((nI l.val <<< ((1 : Int32) &&& 31)) ||| nI d.val) &&& 15 = nI (lat l.val d.val) := by decide +kernel
theorem lat_lt (l s : Nat) : lat l s < 16 := Nat.mod_lt _ (by omega)
theorem trackT {sz tg l d : Nat} {σ : ST} (h2 : gI σ 2 = nI sz) (hz : 2 ≤ sz) (hz4 : sz ≤ 4) (hl : l < 16) (hd : d < 2) : D_X8_trackBehind σ (nI (trk sz tg l)) (nI d) = some (nI (trk sz (tg + 1) (lat l d))) := by
  obtain ⟨s, rfl⟩ : ∃ s, sz = s + 2 := ⟨sz - 2, by omega⟩
  have e : D_X8_trackBehind σ (nI (trk (s + 2) tg l)) (nI d) = D_X8_trackBehind (pI τ0 2 (gI σ 2)) (nI (trk (s + 2) tg l)) (nI d) := rfl
  rw [e, h2]
  have h := tb_all ⟨s, by omega⟩ ⟨min (s + 2) tg, by omega⟩ ⟨l, hl⟩ ⟨d, hd⟩ (Nat.min_le_left _ _)
  have e2 : min (s + 2) (min (s + 2) tg + 1) = min (s + 2) (tg + 1) := by omega
  unfold trk
  rw [← e2]
  exact h
theorem trk_ge {sz tg l : Nat} (h : sz ≤ tg) : trk sz tg l = 2 ^ sz + l % 2 ^ sz := by unfold trk; rw [Nat.min_eq_left h]
theorem trk_lt {sz tg l : Nat} (h : tg < sz) : trk sz tg l < 2 ^ sz := by
  unfold trk
  rw [Nat.min_eq_right (by omega)]
  have h1 : l % 2 ^ tg < 2 ^ tg := Nat.mod_lt _ (Nat.pos_of_ne_zero (by simp))
  have h2 : 2 ^ (tg + 1) ≤ 2 ^ sz := two_le h
  rw [Nat.pow_succ] at h2
  omega
/-- who hits behind a track -/
def whT (np sz : Nat) (c : CO) (tg l : Nat) : Nat := if sz ≤ tg then wh sz c (l % 2 ^ sz) np else 0
theorem whT_lt (np sz : Nat) (c : CO) (tg l : Nat) : whT np sz c tg l < 2 ^ np := by
  unfold whT
  by_cases h : sz ≤ tg
  · rw [if_pos h]; exact wh_lt _ _ _ _
  · rw [if_neg h]; exact Nat.pos_of_ne_zero (by simp)
theorem hitTrk {np sz tg l : Nat} {c : CO} {σ : ST} (hN : NS np sz) (h0 : 0 < np) (hP : PT np sz c σ) (hV : VC np sz c) : D_X8_hittersAt σ (nI (trk sz tg l)) = some (nI (whT np sz c tg l)) := by
  unfold whT
  by_cases h : sz ≤ tg
  · rw [if_pos h, trk_ge h]
    exact hittersT hN h0 hP hV (Nat.mod_lt _ (Nat.pos_of_ne_zero (by simp)))
  · rw [if_neg h]
    exact hittersT0 hN h0 hP (trk_lt (by omega))
theorem S_toss_ok : S_toss Rel := by
  intro n σ τ a hR hn
  have hR' := hR
  obtain ⟨np, sz, pl, rd, pg, c, k, hH, hP, hT, hM, hV, hK⟩ := hR (by omega)
  have hs : (∃ d : Nat, d < 2 ∧ a = nI d ∧ D_X8_toss σ a = D_X8_toss_b12 σ a ∧ D_X9_within a 0 1 = some 1) ∨ (D_X8_toss σ a = some (-102, σ) ∧ D_X9_within a 0 1 = some 0) := by
    rcases pk_ix a (n := 2) (by omega) with ha | ha | ⟨j, hj, rfl⟩
    · refine Or.inr ⟨?_, win_neg ha⟩
      unfold D_X8_toss
      rw [if_neg (fun q => by rw [q] at ha; exact absurd ha (by decide)), if_neg (fun q => by rw [q] at ha; exact absurd ha (by decide))]
    · refine Or.inr ⟨?_, win_big (m := 1) ha (by omega)⟩
      unfold D_X8_toss
      rw [if_neg (fun q => by rw [q] at ha; exact absurd ha (by decide)), if_neg (fun q => by rw [q] at ha; exact absurd ha (by decide))]
    · refine Or.inl ⟨j, hj, rfl, ?_, win_in (m := 1) (by omega) (by omega)⟩
      unfold D_X8_toss
      rcases (show j = 0 ∨ j = 1 by omega) with rfl | rfl
      · rw [if_pos (show nI 0 = 0 from rfl)]
      · rw [if_neg (show ¬ nI 1 = 0 by decide), if_pos (show nI 1 = 1 from rfl)]
  rcases hs with ⟨d, hd, rfl, e1, e2⟩ | ⟨e1, e2⟩
  · by_cases h0 : np = 0
    · refine ⟨-103, σ, τ, ?_, ?_, Rel.query hR' hn EqT.rfl' EqM.rfl'⟩
      · rw [e1]; unfold D_X8_toss_b12; rw [hH.2.1, h0, if_pos (show nI 0 = 0 from rfl)]
      · unfold D_X9_toss; rw [e2, Option.bind_some, if_neg (by decide), hH.2.2.1, h0, if_pos (show nI 0 = 0 from rfl)]
    · have hnp := hH.1.np
      obtain ⟨np2, sz2⟩ := hH.1.pos (by omega)
      have hz4 := hH.1.sz
      have n0 : ¬ nI np = 0 := nI_ne0 (by omega) (by omega)
      have hts := hV.2.2.2.1
      have htg := hV.2.2.2.2.1
      have hla := hV.2.2.2.2.2
      rcases Nat.lt_or_ge (ts c) 9999 with h9 | h9
      · obtain ⟨w, hw⟩ : ∃ w, w = whT np sz c (tg c + 1) (lat (la c) d) := ⟨_, rfl⟩
        have hwl : w < 2 ^ np := by rw [hw]; exact whT_lt _ _ _ _ _
        have hw16 : w < 16 := Nat.lt_of_lt_of_le hwl (two_le (b := 4) hnp)
        -- the class
        generalize hσ2 : pI (pI (pI σ 6 (nI (ts c + 1))) 7 (nI (tg c + 1))) 8 (nI (trk sz (tg c + 1) (lat (la c) d))) = σ2
        have sI : ∀ j, gI σ2 j = if j = 8 then nI (trk sz (tg c + 1) (lat (la c) d)) else if j = 7 then nI (tg c + 1) else if j = 6 then nI (ts c + 1) else gI σ j := fun j => by rw [← hσ2]; rfl
        have sA : ∀ j, gA σ2 j = gA σ j := fun j => by rw [← hσ2]; rfl
        have hPT : PT np sz c σ2 := by
          refine ⟨?_, ?_, ?_, ?_⟩
          · rw [sI]; exact hH.2.1
          · rw [sI]; exact hH.2.2.2.1
          · rw [sA]; exact hT.1
          · rw [sA]; exact hT.2.1
        have eT : D_X8_toss σ (nI d) = some (nI w, if w = 0 then σ2 else pI (pI (lp (nxW 3 w) 4 σ2) 7 0) 8 1) := by
          rw [e1]
          unfold D_X8_toss_b12
          rw [hH.2.1, if_neg n0, hT.2.2.2.2.2.2.2.1, if_pos (show nI (ts c) < (9999 : Int32) from nI_lt (b := 9999) h9 (by omega))]
          rw [show nI (ts c) + 1 = nI (ts c + 1) from nI_1 _]
          rw [show gI (pI σ 6 (nI (ts c + 1))) 7 = nI (tg c) from hT.2.2.2.2.2.2.2.2.1, show nI (tg c) + 1 = nI (tg c + 1) from nI_1 _]
          rw [show gI (pI (pI σ 6 (nI (ts c + 1))) 7 (nI (tg c + 1))) 8 = nI (trk sz (tg c) (la c)) from hT.2.2.2.2.2.2.2.2.2]
          rw [trackT (σ := pI (pI σ 6 (nI (ts c + 1))) 7 (nI (tg c + 1))) hH.2.2.2.1 sz2 hz4 hla hd, Option.bind_some, hσ2]
          rw [show gI σ2 8 = nI (trk sz (tg c + 1) (lat (la c) d)) by rw [sI]; rfl]
          rw [hitTrk hH.1 (by omega) hPT hV, ← hw, Option.bind_some]
          by_cases e : w = 0
          · rw [e, if_pos (show nI 0 = 0 from rfl), if_pos rfl]
          · rw [if_neg (nI_ne0 (by omega) (by omega)), if_neg e, addT σ2 (by omega), Option.bind_some]
            unfold D_X1_beginGame
            rfl
        -- the reference
        generalize hτ2 : pI (pI (pI τ 5 (nI (ts c + 1))) 3 (nI (tg c + 1))) 4 (nI (lat (la c) d)) = τ2
        have mI : ∀ j, gI τ2 j = if j = 4 then nI (lat (la c) d) else if j = 3 then nI (tg c + 1) else if j = 5 then nI (ts c + 1) else gI τ j := fun j => by rw [← hτ2]; rfl
        have mA : ∀ j, gA τ2 j = gA τ j := fun j => by rw [← hτ2]; rfl
        have hPM : PM np sz c τ2 := by
          refine ⟨?_, ?_, ?_, ?_⟩
          · rw [mI]; exact hH.2.2.1
          · rw [mI]; exact hH.2.2.2.2.1
          · rw [mA]; exact hM.1
          · rw [mA]; exact hM.2.1
        have eM : D_X9_toss τ (nI d) = some (nI w, if w = 0 then lp (nxW 2 w) np τ2 else pI (pI (lp (nxW 2 w) np τ2) 3 0) 4 0) := by
          unfold D_X9_toss
          rw [e2, Option.bind_some, if_neg (by decide), hH.2.2.1, if_neg n0, hM.2.2.2.2.2.2.2.1, if_neg (show ¬ nI (ts c) = (9999 : Int32) from fun q => absurd ((nI_eq (b := 9999) (by omega) (by omega)).mp q) (by omega))]
          rw [show nI (ts c) + 1 = nI (ts c + 1) from nI_1 _]
          rw [show gI (pI τ 5 (nI (ts c + 1))) 3 = nI (tg c) from hM.2.2.2.2.2.2.2.2.1, show nI (tg c) + 1 = nI (tg c + 1) from nI_1 _]
          rw [show gI (pI (pI τ 5 (nI (ts c + 1))) 3 (nI (tg c + 1))) 4 = nI (la c) from hM.2.2.2.2.2.2.2.2.2]
          rw [show ((nI (la c) <<< ((1 : Int32) &&& 31)) ||| nI d) &&& 15 = nI (lat (la c) d) from lat_all ⟨la c, hla⟩ ⟨d, hd⟩, hτ2]
          unfold D_X9_toss_b70
          rw [show gI τ2 3 = nI (tg c + 1) by rw [mI]; rfl, show gI τ2 4 = nI (lat (la c) d) by rw [mI]; rfl]
          rw [whoM hH.1 (by omega) hPM hV (by omega), Option.bind_some]
          show D_X9_toss_L85 τ2 (nI (whT np sz c (tg c + 1) (lat (la c) d))) 0 = _
          rw [← hw]
          exact tossM hPM.1 hnp (by omega)
        have wz : ∀ p, np ≤ p → w / 2 ^ p % 2 = 0 := fun p hp => by
          have : w < 2 ^ p := Nat.lt_of_lt_of_le hwl (two_le hp)
          rw [Nat.div_eq_of_lt this]
        have hx : ∀ v : Int32, v + nI 0 = v := fun v => Int32.add_zero v
        obtain ⟨σ', hσ'⟩ : ∃ σ', σ' = (if w = 0 then σ2 else pI (pI (lp (nxW 3 w) 4 σ2) 7 0) 8 1) := ⟨_, rfl⟩
        obtain ⟨τ', hτ'⟩ : ∃ τ', τ' = (if w = 0 then lp (nxW 2 w) np τ2 else pI (pI (lp (nxW 2 w) np τ2) 3 0) 4 0) := ⟨_, rfl⟩
        have s'A : ∀ j, j ≠ 3 → gA σ' j = gA σ j := fun j hj => by
          rw [hσ']
          by_cases e : w = 0
          · rw [if_pos e, sA]
          · rw [if_neg e]; show gA (lp (nxW 3 w) 4 σ2) j = _; rw [nxW_A _ _ _ _ _ hj, sA]
        have s'W : ∀ p, p < 4 → gA σ' 3 p = gA σ 3 p + nI (w / 2 ^ p % 2) := fun p hp => by
          rw [hσ']
          by_cases e : w = 0
          · rw [if_pos e, sA, e, Nat.zero_div]; exact (hx _).symm
          · rw [if_neg e]; show gA (lp (nxW 3 w) 4 σ2) 3 p = _; rw [nxW_W, if_pos hp, sA]
        have s'I : ∀ j, gI σ' j = if j = 8 then nI (trk sz (if w = 0 then tg c + 1 else 0) (if w = 0 then lat (la c) d else 0)) else if j = 7 then nI (if w = 0 then tg c + 1 else 0) else if j = 6 then nI (ts c + 1) else gI σ j := fun j => by
          rw [hσ']
          by_cases e : w = 0
          · rw [if_pos e, if_pos e, if_pos e, sI]
          · rw [if_neg e, if_neg e, if_neg e]
            show (if j = 8 then (1 : Int32) else if j = 7 then 0 else gI (lp (nxW 3 w) 4 σ2) j) = _
            rw [nxW_I, sI, trk0]
            by_cases e8 : j = 8
            · rw [if_pos e8, if_pos e8]; rfl
            · rw [if_neg e8, if_neg e8]
              by_cases e7 : j = 7
              · rw [if_pos e7, if_pos e7, if_neg e8]; rfl
              · rw [if_neg e7, if_neg e7, if_neg e8, if_neg e7]
        have m'A : ∀ j, j ≠ 2 → gA τ' j = gA τ j := fun j hj => by
          rw [hτ']
          by_cases e : w = 0
          · rw [if_pos e, nxW_A _ _ _ _ _ hj, mA]
          · rw [if_neg e]; show gA (lp (nxW 2 w) np τ2) j = _; rw [nxW_A _ _ _ _ _ hj, mA]
        have m'W : ∀ p, p < np → gA τ' 2 p = gA τ 2 p + nI (w / 2 ^ p % 2) := fun p hp => by
          rw [hτ']
          by_cases e : w = 0
          · rw [if_pos e, nxW_W, if_pos hp, mA]
          · rw [if_neg e]; show gA (lp (nxW 2 w) np τ2) 2 p = _; rw [nxW_W, if_pos hp, mA]
        have m'I : ∀ j, gI τ' j = if j = 4 then nI (if w = 0 then lat (la c) d else 0) else if j = 3 then nI (if w = 0 then tg c + 1 else 0) else if j = 5 then nI (ts c + 1) else gI τ j := fun j => by
          rw [hτ']
          by_cases e : w = 0
          · rw [if_pos e, if_pos e, if_pos e, nxW_I, mI]
          · rw [if_neg e, if_neg e, if_neg e]
            show (if j = 4 then (0 : Int32) else if j = 3 then 0 else gI (lp (nxW 2 w) np τ2) j) = _
            rw [nxW_I, mI]
            by_cases e8 : j = 4
            · rw [if_pos e8, if_pos e8]; rfl
            · rw [if_neg e8, if_neg e8]
              by_cases e7 : j = 3
              · rw [if_pos e7, if_pos e7, if_neg e8]; rfl
              · rw [if_neg e7, if_neg e7, if_neg e8, if_neg e7]
        refine ⟨nI w, σ', τ', by rw [eT, hσ'], by rw [eM, hτ'], fun _ => ⟨np, sz, pl, rd, pg, (kd c, ro c, (fun p => wo c p + nI (w / 2 ^ p % 2)), sp c, stl c, sh c, sn c, ts c + 1, (if w = 0 then tg c + 1 else 0), (if w = 0 then lat (la c) d else 0)), k, ?_, ?_, ?_, ?_, ?_, ?_⟩⟩
        · refine ⟨hH.1, ?_, ?_, ?_, ?_, ?_, ?_, by have := hH.2.2.2.2.2.2.2.1; omega, by omega⟩
          · rw [s'I]; exact hH.2.1
          · rw [m'I]; exact hH.2.2.1
          · rw [s'I]; exact hH.2.2.2.1
          · rw [m'I]; exact hH.2.2.2.2.1
          · rw [s'I]; exact hH.2.2.2.2.2.1
          · rw [m'I]; exact hH.2.2.2.2.2.2.1
        · unfold PG; rw [s'A 0 (by decide), m'A 6 (by decide), s'I, m'I]; exact hP
        · refine ⟨?_, ?_, fun p hp => ?_, ?_, ?_, ?_, ?_, ?_, ?_, ?_⟩
          · rw [s'A 1 (by decide)]; exact hT.1
          · rw [s'A 2 (by decide)]; exact hT.2.1
          · rw [s'W p hp, hT.2.2.1 p hp]
            by_cases q : p < np
            · rw [if_pos q, if_pos q]
            · rw [if_neg q, if_neg q, wz p (by omega)]; exact hx 0
          · rw [s'A 4 (by decide)]; exact hT.2.2.2.1
          · rw [s'A 5 (by decide)]; exact hT.2.2.2.2.1
          · rw [s'A 6 (by decide)]; exact hT.2.2.2.2.2.1
          · rw [s'I]; exact hT.2.2.2.2.2.2.1
          · rw [s'I]; rfl
          · rw [s'I]; rfl
          · rw [s'I]; rfl
        · refine ⟨?_, ?_, fun p hp => ?_, ?_, ?_, ?_, ?_, ?_, ?_, ?_⟩
          · rw [m'A 0 (by decide)]; exact hM.1
          · rw [m'A 1 (by decide)]; exact hM.2.1
          · rw [m'W p hp, hM.2.2.1 p hp]
          · rw [m'A 3 (by decide)]; exact hM.2.2.2.1
          · rw [m'A 4 (by decide)]; exact hM.2.2.2.2.1
          · rw [m'A 5 (by decide)]; exact hM.2.2.2.2.2.1
          · rw [m'I]; exact hM.2.2.2.2.2.2.1
          · rw [m'I]; rfl
          · rw [m'I]; rfl
          · rw [m'I]; rfl
        · refine ⟨hV.1, hV.2.1, hV.2.2.1, ?_, ?_, ?_⟩
          · show ts c + 1 ≤ 9999; omega
          · show (if w = 0 then tg c + 1 else 0) ≤ ts c + 1
            by_cases e : w = 0
            · rw [if_pos e]; omega
            · rw [if_neg e]; omega
          · show (if w = 0 then lat (la c) d else 0) < 16
            by_cases e : w = 0
            · rw [if_pos e]; exact lat_lt _ _
            · rw [if_neg e]; omega
        · unfold KP CTk CMk
          rw [s'I, m'I, m'I, s'A 7 (by decide), s'A 8 (by decide), s'A 9 (by decide), s'A 10 (by decide), s'A 11 (by decide), s'A 12 (by decide), s'I 9, s'I 10, s'I 11, s'I 12, m'A 11 (by decide), m'A 12 (by decide), m'A 13 (by decide), m'A 14 (by decide), m'A 15 (by decide), m'A 16 (by decide), m'I 16, m'I 15, m'I 13, m'I 14]
          exact hK
      · have e9 : ts c = 9999 := by omega
        refine ⟨-104, σ, τ, ?_, ?_, Rel.query hR' hn EqT.rfl' EqM.rfl'⟩
        · rw [e1]; unfold D_X8_toss_b12; rw [hH.2.1, if_neg n0, hT.2.2.2.2.2.2.2.1, e9, if_neg (show ¬ nI 9999 < (9999 : Int32) by decide)]
        · unfold D_X9_toss; rw [e2, Option.bind_some, if_neg (by decide), hH.2.2.1, if_neg n0, hM.2.2.2.2.2.2.2.1, e9, if_pos (show nI 9999 = 9999 from rfl)]
  · refine ⟨-102, σ, τ, e1, ?_, Rel.query hR' hn EqT.rfl' EqM.rfl'⟩
    unfold D_X9_toss; rw [e2, Option.bind_some, if_pos rfl]
