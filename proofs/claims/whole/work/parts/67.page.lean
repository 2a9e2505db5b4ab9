/-! The page: which letters can stand, for both. -/
def szp (pl : Nat) (pg : Nat → Nat) : Nat := if 0 < pl ∧ 50 ≤ pg 0 ∧ pg 0 ≤ 52 then pg 0 - 48 else 0
def kdx (x : Nat) : Nat := if x = 112 then 0 else if x = 109 then 1 else if x = 111 then 2 else if x = 101 then 3 else if x = 98 then 4 else 5
def PGT (pl : Nat) (pg : Nat → Nat) (σ : ST) : Prop := gI σ 4 = nI pl ∧ ∀ j, j < pl → gA σ 0 j = nI (pg j)
def PGM (pl : Nat) (pg : Nat → Nat) (τ : ST) : Prop := gI τ 7 = nI pl ∧ ∀ j, j < pl → gA τ 6 j = nI (pg j)
def PGV (pl : Nat) (pg : Nat → Nat) : Prop := pl ≤ 28 ∧ ∀ j, j < pl → pg j < 127
theorem szp_ok (pl : Nat) (pg : Nat → Nat) : szp pl pg = 0 ∨ (2 ≤ szp pl pg ∧ szp pl pg ≤ 4 ∧ 0 < pl) := by
  unfold szp
  by_cases h : 0 < pl ∧ 50 ≤ pg 0 ∧ pg 0 ≤ 52
  · rw [if_pos h]; omega
  · rw [if_neg h]; exact Or.inl rfl
theorem nar_ok : ∀ j : Fin 127, vp_nar .char (nI j.val) = nI j.val := by decide +kernel
theorem ix_all : ∀ x : Fin 127, D_indexOf (nI x.val) = some (if kdx x.val < 5 then nI (kdx x.val) else -1) := by decide +kernel
theorem kb_all : ∀ x : Fin 127, D_X9_kindBy (nI x.val) = some (if kdx x.val < 5 then nI (kdx x.val) else -1) := by decide +kernel
theorem sT_all : ∀ x : Fin 127, (if (nI x.val - (48 : Int32)) < (2 : Int32) then (some (0 : Int32)) else (if (4 : Int32) < (nI x.val - (48 : Int32)) then (some (0 : Int32)) else (some (nI x.val - (48 : Int32))))) = some (nI (if 50 ≤ x.val ∧ x.val ≤ 52 then x.val - 48 else 0)) := by decide +kernel
theorem sM_all : ∀ x : Fin 127, D_X9_within (nI x.val - (48 : Int32)) 2 4 = some (if 50 ≤ x.val ∧ x.val ≤ 52 then 1 else 0) := by decide +kernel
theorem atT {pl k : Nat} {pg : Nat → Nat} {σ : ST} (hV : PGV pl pg) (h : PGT pl pg σ) (hk : k < pl) : D_X5_at σ (nI k) = some (nI (pg k)) := by
  have h28 := hV.1
  have e := nar_ok ⟨pg k, hV.2 k hk⟩
  simp only [D_X5_at, eq_false (nI_pos (show k < 2 ^ 31 by omega)), if_false, h.1, inle hk (by omega), cl (show k < 2 ^ 31 by omega), false_or, show ¬ 28 ≤ k by omega, h.2 k hk, e, not_true_eq_false]
theorem atT0 {pl k : Nat} {pg : Nat → Nat} {σ : ST} (h : PGT pl pg σ) (hk : pl ≤ k) (hk2 : k < 2 ^ 31) : D_X5_at σ (nI k) = some 32 := by
  simp only [D_X5_at, eq_false (nI_pos hk2), if_false, h.1, ile hk hk2, if_true]
theorem sizeT {pl : Nat} {pg : Nat → Nat} {σ : ST} (hV : PGV pl pg) (h : PGT pl pg σ) : D_X5_size σ = some (nI (szp pl pg)) := by
  unfold D_X5_size
  rcases Nat.eq_zero_or_pos pl with h0 | h0
  · rw [show (0 : Int32) = nI 0 from rfl, atT0 h (by omega) (by omega), Option.bind_some]
    have : szp pl pg = 0 := by unfold szp; rw [if_neg (by omega)]
    rw [this]
    decide
  · rw [show (0 : Int32) = nI 0 from rfl, atT hV h h0, Option.bind_some]
    have e := sT_all ⟨pg 0, hV.2 0 h0⟩
    have : szp pl pg = if 50 ≤ pg 0 ∧ pg 0 ≤ 52 then pg 0 - 48 else 0 := by
      unfold szp
      by_cases q : 50 ≤ pg 0 ∧ pg 0 ≤ 52
      · rw [if_pos ⟨h0, q⟩, if_pos q]
      · rw [if_neg (fun w => q w.2), if_neg q]
    rw [this]
    exact e
theorem stepT {pl : Nat} {pg : Nat → Nat} {σ : ST} (hV : PGV pl pg) (h : PGT pl pg σ) : D_X5_step σ = some (nI (szp pl pg + 2)) := by
  unfold D_X5_step
  rw [sizeT hV h, Option.bind_some, L2, nI_add]
theorem atM {pl k : Nat} {pg : Nat → Nat} {τ : ST} (hV : PGV pl pg) (h : PGM pl pg τ) (hk2 : k < 2 ^ 31) : D_X9_at τ (nI k) = some (nI (if k < pl then pg k else 0)) := by
  have h28 := hV.1
  rcases Nat.lt_or_ge k pl with hk | hk
  · simp only [D_X9_at, h.1, inle hk (by omega), if_false, cl hk2, eq_false (nI_pos hk2), false_or, show ¬ 28 ≤ k by omega, h.2 k hk, hk, if_true]
  · simp only [D_X9_at, h.1, ile hk hk2, if_true, show ¬ k < pl by omega, if_false]
    rfl
/-- the letter at k can stand, if those ahead of it can -/
def CR (pl : Nat) (pg : Nat → Nat) (k : Nat) : Prop := k < pl ∧ szp pl pg ≠ 0 ∧ (k = 0 ∨ (k = 1 ∧ pg 1 = 59) ∨ (2 ≤ k ∧ (((k - 2) % (szp pl pg + 2) = 0 ∧ kdx (pg k) < 5) ∨ ((k - 2) % (szp pl pg + 2) ≠ 0 ∧ (k - 2) % (szp pl pg + 2) ≤ szp pl pg ∧ (pg k = 104 ∨ pg k = 116)) ∨ (szp pl pg < (k - 2) % (szp pl pg + 2) ∧ pg k = 44 ∧ (k - 2) / (szp pl pg + 2) + 1 < 4))))
theorem kdx_le (x : Nat) : kdx x ≤ 5 := by
  unfold kdx
  repeat' split
  all_goals omega
theorem can0 {pl k s : Nat} {pg : Nat → Nat} {σ : ST} (hpk : pg k < 127) (ea : D_X5_at σ (nI k) = some (nI (pg k))) (es : D_X5_size σ = some (nI s)) (s0 : 0 < s) (s4 : s ≤ 4) (k2 : k < 2) : D_X5_canStand σ (nI k) = if k = 0 then some 1 else if pg k = 59 then some 1 else some 0 := by
  have c2 : ((2 : Int32) ≤ nI k) = False := inle (b := k) (a := 2) k2 (by omega)
  simp only [D_X5_canStand, es, Option.bind_some, in0 (show 0 < s by omega) (by omega), if_false, c2, ea]
  rcases (show k = 0 ∨ k = 1 by omega) with rfl | rfl
  · rw [if_pos (show nI 0 = 0 from rfl), if_pos rfl]
  · rw [if_neg (show ¬ nI 1 = 0 by decide), if_neg (show ¬ (1 : Nat) = 0 by omega)]
    by_cases q : pg 1 = 59
    · rw [if_pos (show nI (pg 1) = (59 : Int32) by rw [q]; rfl), if_pos q]
    · rw [if_neg (show ¬ nI (pg 1) = (59 : Int32) from fun w => q ((nI_eq (b := 59) (by omega) (by omega)).mp w)), if_neg q]
theorem can1 {k s r d : Nat} {pg : Nat → Nat} {σ : ST} (hk : k < 28) (hpk : pg k < 127) (ea : D_X5_at σ (nI k) = some (nI (pg k))) (es : D_X5_size σ = some (nI s)) (est : D_X5_step σ = some (nI (s + 2))) (s0 : 0 < s) (s4 : s ≤ 4) (k2 : 2 ≤ k) (hr : (k - 2) % (s + 2) = r) (hd : (k - 2) / (s + 2) = d) : D_X5_canStand σ (nI k) = if r = 0 then ((D_indexOf (nI (pg k))).bind fun r17 => if r17 < 0 then (some (0 : Int32)) else (some (1 : Int32))) else if s < r then (if pg k = 44 then (if 4 ≤ d + 1 then some 0 else some 1) else some 0) else (if pg k = 104 then some 1 else if pg k = 116 then some 1 else some 0) := by
  have c2 : ((2 : Int32) ≤ nI k) = True := ile (a := 2) k2 (by omega)
  have e2 : nI k - (2 : Int32) = nI (k - 2) := pk_sub (b := 2) k2
  have er : nI (k - 2) - nI (k - 2) / nI (s + 2) * nI (s + 2) = nI r := by rw [← hr]; exact pk_rem (by omega) (by omega) (by omega)
  have ed : nI (k - 2) / nI (s + 2) = nI d := by rw [← hd]; exact pk_div (by omega) (by omega) (by omega)
  have hr2 : r < s + 2 := by rw [← hr]; exact Nat.mod_lt _ (by omega)
  have hd2 : d ≤ k - 2 := by rw [← hd]; exact Nat.div_le_self _ _
  clear hr hd
  rw [ed] at er
  simp only [D_X5_canStand, es, est, Option.bind_some, in0 s0 (show s < 2 ^ 31 by omega), if_false, c2, if_true, in0 (show 0 < s + 2 by omega) (show s + 2 < 2 ^ 31 by omega), e2, ed, er, ea]
  by_cases r0 : r = 0
  · rw [if_pos r0, if_pos (show nI r = 0 by rw [r0]; rfl)]
  · rw [if_neg r0, if_neg (nI_ne0 (by omega) (by omega))]
    by_cases q : s < r
    · rw [if_pos q, if_pos (nI_lt q (by omega))]
      by_cases q1 : pg k = 44
      · rw [if_pos q1, if_pos (show nI (pg k) = (44 : Int32) by rw [q1]; rfl), nI_1]
        by_cases q2 : 4 ≤ d + 1
        · rw [if_pos q2, if_pos (show (4 : Int32) ≤ nI (d + 1) from nI_le (a := 4) q2 (by omega))]
        · rw [if_neg q2, if_neg (show ¬ (4 : Int32) ≤ nI (d + 1) from nI_ge (b := 4) (by omega) (by omega))]
      · rw [if_neg q1, if_neg (show ¬ nI (pg k) = (44 : Int32) from fun w => q1 ((nI_eq (b := 44) (by omega) (by omega)).mp w))]
    · rw [if_neg q, if_neg (nI_nlt (by omega) (by omega))]
      by_cases q1 : pg k = 104
      · rw [if_pos q1, if_pos (show nI (pg k) = (104 : Int32) by rw [q1]; rfl)]
      · rw [if_neg q1, if_neg (show ¬ nI (pg k) = (104 : Int32) from fun w => q1 ((nI_eq (b := 104) (by omega) (by omega)).mp w))]
        by_cases q2 : pg k = 116
        · rw [if_pos q2, if_pos (show nI (pg k) = (116 : Int32) by rw [q2]; rfl)]
        · rw [if_neg q2, if_neg (show ¬ nI (pg k) = (116 : Int32) from fun w => q2 ((nI_eq (b := 116) (by omega) (by omega)).mp w))]
theorem ixT {x : Nat} (h : x < 127) : D_indexOf (nI x) = some (if kdx x < 5 then nI (kdx x) else -1) := ix_all ⟨x, h⟩
theorem kbM {x : Nat} (h : x < 127) : D_X9_kindBy (nI x) = some (if kdx x < 5 then nI (kdx x) else -1) := kb_all ⟨x, h⟩
theorem canT {pl k : Nat} {pg : Nat → Nat} {σ : ST} (hV : PGV pl pg) (h : PGT pl pg σ) (hk : k < pl) : (CR pl pg k → D_X5_canStand σ (nI k) = some 1) ∧ (¬ CR pl pg k → D_X5_canStand σ (nI k) = some 0) := by
  have h28 := hV.1
  have hpk := hV.2 k hk
  have ea := atT hV h hk
  have es := sizeT hV h
  have est := stepT hV h
  have hs4 := szp_ok pl pg
  unfold CR
  generalize szp pl pg = s at *
  by_cases s0 : s = 0
  · subst s0
    refine ⟨fun q => absurd rfl q.2.1, fun _ => ?_⟩
    simp only [D_X5_canStand, es, Option.bind_some, show (nI 0 = 0) = True from eq_true rfl, if_true]
  · rcases Nat.lt_or_ge k 2 with k2 | k2
    · have base := can0 (pl := pl) hpk ea es (by omega) (by omega) k2
      rw [base]
      rcases (show k = 0 ∨ k = 1 by omega) with rfl | rfl
      · exact ⟨fun _ => if_pos rfl, fun q => absurd ⟨hk, s0, Or.inl rfl⟩ q⟩
      · rw [if_neg (show ¬ 1 = 0 by omega)]
        by_cases q : pg 1 = 59
        · exact ⟨fun _ => if_pos q, fun w => absurd ⟨hk, s0, Or.inr (Or.inl ⟨rfl, q⟩)⟩ w⟩
        · refine ⟨fun w => ?_, fun _ => if_neg q⟩
          rcases w.2.2 with w | w | w
          · omega
          · exact absurd w.2 q
          · omega
    · have base := can1 (r := (k - 2) % (s + 2)) (d := (k - 2) / (s + 2)) (by omega) hpk ea es est (by omega) (by omega) k2 rfl rfl
      rw [base]
      generalize (k - 2) % (s + 2) = r
      generalize (k - 2) / (s + 2) = d
      by_cases r0 : r = 0
      · subst r0
        rw [if_pos rfl, ixT hpk, Option.bind_some]
        by_cases q : kdx (pg k) < 5
        · rw [if_pos q, if_neg (nI_pos (by omega))]
          exact ⟨fun _ => rfl, fun w => absurd ⟨hk, s0, Or.inr (Or.inr ⟨k2, Or.inl ⟨rfl, q⟩⟩)⟩ w⟩
        · rw [if_neg q, if_pos (by decide)]
          refine ⟨fun w => ?_, fun _ => rfl⟩
          rcases w.2.2 with w | w | ⟨_, w | w | w⟩
          · omega
          · omega
          · exact absurd w.2 q
          · exact absurd rfl w.1
          · omega
      · rw [if_neg r0]
        by_cases q : s < r
        · rw [if_pos q]
          refine ⟨fun w => ?_, fun w => ?_⟩
          · have w2 : pg k = 44 ∧ d + 1 < 4 := by
              rcases w.2.2 with w | w | ⟨_, w | w | w⟩
              · omega
              · omega
              · exact absurd w.1 r0
              · omega
              · exact w.2
            rw [if_pos w2.1, if_neg (by omega)]
          · by_cases q1 : pg k = 44
            · rw [if_pos q1]
              by_cases q2 : d + 1 < 4
              · exact absurd ⟨hk, s0, Or.inr (Or.inr ⟨k2, Or.inr (Or.inr ⟨q, q1, q2⟩)⟩)⟩ w
              · rw [if_pos (by omega)]
            · rw [if_neg q1]
        · rw [if_neg q]
          refine ⟨fun w => ?_, fun w => ?_⟩
          · have w2 : pg k = 104 ∨ pg k = 116 := by
              rcases w.2.2 with w | w | ⟨_, w | w | w⟩
              · omega
              · omega
              · exact absurd w.1 r0
              · exact w.2.2
              · omega
            by_cases q1 : pg k = 104
            · rw [if_pos q1]
            · rw [if_neg q1, if_pos (by omega)]
          · have w2 : ¬ (pg k = 104 ∨ pg k = 116) := fun v => w ⟨hk, s0, Or.inr (Or.inr ⟨k2, Or.inr (Or.inl ⟨r0, by omega, v⟩)⟩)⟩
            rw [if_neg (by omega), if_neg (by omega)]
/-- the first place whose letter can't stand -/
theorem fw_ex (pl : Nat) (pg : Nat → Nat) : ∃ j, j ≤ pl ∧ ¬ CR pl pg j ∧ ∀ i, i < j → CR pl pg i := by
  obtain ⟨j, h1, h2⟩ := pk_least (fun k => ¬ CR pl pg k) ⟨pl, fun h => absurd h.1 (Nat.lt_irrefl pl)⟩
  refine ⟨j, ?_, h1, fun i hi => Classical.byContradiction (h2 i hi)⟩
  rcases Nat.lt_or_ge pl j with q | q
  · exact absurd (h2 pl q) (fun w => w (fun h => absurd h.1 (Nat.lt_irrefl pl)))
  · exact q
theorem firstT {pl j : Nat} {pg : Nat → Nat} {σ : ST} (hV : PGV pl pg) (h : PGT pl pg σ) (hj : j ≤ pl) (h1 : ¬ CR pl pg j) (h2 : ∀ i, i < j → CR pl pg i) : D_X5_firstWrong σ = some (nI j) := by
  have h28 := hV.1
  unfold D_X5_firstWrong D_X5_firstWrong_L2
  refine itr_f (f := fun i => nI i) (N := j) (by omega) (fun i hi rec => ?_) (fun rec => ?_)
  · show D_X5_firstWrong_L2_body rec σ (nI i) = rec (nI (i + 1))
    simp only [D_X5_firstWrong_L2_body, h.1, inle (show i < pl by omega) (by omega), if_false, (canT hV h (show i < pl by omega)).1 (h2 i hi), Option.bind_some, i10, nI_1]
  · show D_X5_firstWrong_L2_body rec σ (nI j) = _
    rcases Nat.lt_or_ge j pl with q | q
    · simp only [D_X5_firstWrong_L2_body, h.1, inle q (by omega), if_false, (canT hV h q).2 h1, Option.bind_some, i00, if_true]
    · simp only [D_X5_firstWrong_L2_body, h.1, ile q (by omega), if_true]
      rw [show pl = j by omega]
/-- how many players the table has that the letters are -/
def pot (pl s j : Nat) : Nat := if s = 0 ∨ j < pl then 0 else if (pl - 1) % (s + 2) = 0 ∧ 2 ≤ (pl - 1) / (s + 2) then (pl - 1) / (s + 2) else 0
theorem potT {pl j : Nat} {pg : Nat → Nat} {σ : ST} (hV : PGV pl pg) (h : PGT pl pg σ) (hj : j ≤ pl) (h1 : ¬ CR pl pg j) (h2 : ∀ i, i < j → CR pl pg i) : D_X5_playersOfTable σ = some (nI (pot pl (szp pl pg) j)) := by
  have h28 := hV.1
  have es := sizeT hV h
  have est := stepT hV h
  have hs4 := szp_ok pl pg
  generalize szp pl pg = s at *
  unfold pot
  by_cases s0 : s = 0
  · subst s0
    rw [if_pos (Or.inl rfl)]
    simp only [D_X5_playersOfTable, es, Option.bind_some, show (nI 0 = 0) = True from eq_true rfl, if_true]
    rfl
  · rcases Nat.lt_or_ge j pl with q | q
    · rw [if_pos (Or.inr q)]
      simp only [D_X5_playersOfTable, es, Option.bind_some, in0 (show 0 < s by omega) (by omega), if_false, firstT hV h hj h1 h2, h.1, inle q (by omega)]
      rfl
    · rw [if_neg (by omega)]
      have e1 : nI pl + 1 - 2 = nI (pl - 1) := by
        rw [nI_1]
        have := pk_sub (a := pl + 1) (b := 2) (by omega)
        rw [show pl + 1 - 2 = pl - 1 by omega] at this
        exact this
      have er : nI (pl - 1) - nI (pl - 1) / nI (s + 2) * nI (s + 2) = nI ((pl - 1) % (s + 2)) := pk_rem (by omega) (by omega) (by omega)
      have ed : nI (pl - 1) / nI (s + 2) = nI ((pl - 1) / (s + 2)) := pk_div (by omega) (by omega) (by omega)
      rw [ed] at er
      have hr : (pl - 1) % (s + 2) < s + 2 := Nat.mod_lt _ (by omega)
      have hd : (pl - 1) / (s + 2) ≤ pl - 1 := Nat.div_le_self _ _
      have base : D_X5_playersOfTable σ = if nI ((pl - 1) % (s + 2)) = 0 then (if nI ((pl - 1) / (s + 2)) < 2 then some 0 else some (nI ((pl - 1) / (s + 2)))) else some 0 := by
        simp only [D_X5_playersOfTable, es, est, Option.bind_some, in0 (show 0 < s by omega) (by omega), if_false, firstT hV h hj h1 h2, h.1, ile q (by omega), if_true, in0 (show 0 < s + 2 by omega) (by omega), e1, er, ed]
      rw [base]
      generalize (pl - 1) % (s + 2) = r at *
      generalize (pl - 1) / (s + 2) = d at *
      by_cases r0 : r = 0
      · subst r0
        rw [if_pos (show nI 0 = 0 from rfl)]
        rcases Nat.lt_or_ge d 2 with q2 | q2
        · rw [if_pos (show nI d < 2 from nI_lt (b := 2) q2 (by omega)), if_neg (by omega)]; rfl
        · rw [if_neg (show ¬ nI d < 2 from nI_nlt (b := 2) q2 (by omega)), if_pos ⟨rfl, q2⟩]
      · rw [if_neg (nI_ne0 (by omega) (by omega)), if_neg (fun w => r0 w.1)]; rfl
