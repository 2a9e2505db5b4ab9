/-! The page as the reference reads it. -/
theorem CRd {pl m r : Nat} {pg : Nat → Nat} (hs : szp pl pg ≠ 0) (hr : r ≤ szp pl pg + 1) : CR pl pg (2 + m * (szp pl pg + 2) + r) ↔ 2 + m * (szp pl pg + 2) + r < pl ∧ ((r = 0 ∧ kdx (pg (2 + m * (szp pl pg + 2) + r)) < 5) ∨ (r ≠ 0 ∧ r ≤ szp pl pg ∧ (pg (2 + m * (szp pl pg + 2) + r) = 104 ∨ pg (2 + m * (szp pl pg + 2) + r) = 116)) ∨ (szp pl pg < r ∧ pg (2 + m * (szp pl pg + 2) + r) = 44 ∧ m + 1 < 4)) := by
  have e1 : 2 + m * (szp pl pg + 2) + r - 2 = r + m * (szp pl pg + 2) := by omega
  have e2 : (r + m * (szp pl pg + 2)) % (szp pl pg + 2) = r := by rw [Nat.add_mul_mod_self_right, Nat.mod_eq_of_lt (by omega)]
  have e3 : (r + m * (szp pl pg + 2)) / (szp pl pg + 2) = m := by rw [Nat.add_mul_div_right _ _ (by omega), Nat.div_eq_of_lt (by omega), Nat.zero_add]
  unfold CR
  rw [e1, e2, e3]
  constructor
  · rintro ⟨h1, -, h | h | ⟨-, h⟩⟩
    · omega
    · omega
    · exact ⟨h1, h⟩
  · rintro ⟨h1, h⟩
    exact ⟨h1, hs, Or.inr (Or.inr ⟨by omega, h⟩)⟩
theorem atI {pl k v : Nat} {pg : Nat → Nat} (hV : PGV pl pg) (hv : 0 < v) (hv2 : v < 2 ^ 31) : (nI (if k < pl then pg k else 0) = nI v) = (k < pl ∧ pg k = v) := by
  apply propext
  by_cases h : k < pl
  · have := hV.2 k h
    rw [if_pos h, nI_eq (by omega) hv2]
    exact ⟨fun q => ⟨h, q⟩, fun q => q.2⟩
  · rw [if_neg h, nI_eq (by omega) hv2]
    exact ⟨fun q => by omega, fun q => absurd q.1 h⟩
theorem plM {pl m j k : Nat} {pg : Nat → Nat} {τ : ST} (hV : PGV pl pg) (h : PGM pl pg τ) (hs : szp pl pg ≠ 0) (h9 : gI τ 9 = nI (szp pl pg)) (hj : j ≤ pl) (h1 : ¬ CR pl pg j) (h2 : ∀ i, i < j → CR pl pg i) (hk : k = 2 + m * (szp pl pg + 2)) (hkj : k ≤ j) : D_X9_readPlayer τ (nI k) = some (nI (min j (k + szp pl pg + 1))) := by
  have h28 := hV.1
  have hs4 := szp_ok pl pg
  have hd : ∀ r, r ≤ szp pl pg + 1 → _ := fun r hr => CRd (m := m) (r := r) hs hr
  rw [← hk] at hd
  generalize szp pl pg = s at *
  have hx : (if k < pl then pg k else 0) < 127 := by
    by_cases q : k < pl
    · rw [if_pos q]; exact hV.2 k q
    · rw [if_neg q]; omega
  have c0 := hd 0 (by omega)
  rw [Nat.add_zero] at c0
  unfold D_X9_readPlayer
  rw [atM hV h (by omega), Option.bind_some, kbM hx, Option.bind_some]
  by_cases q : j = k
  · subst q
    have : ¬ kdx (if j < pl then pg j else 0) < 5 := fun w => by
      by_cases q2 : j < pl
      · rw [if_pos q2] at w
        exact h1 (c0.mpr ⟨q2, Or.inl ⟨rfl, w⟩⟩)
      · rw [if_neg q2] at w
        exact absurd w (by decide)
    rw [if_neg this, if_pos rfl, Nat.min_eq_left (by omega)]
  · have hc := c0.mp (h2 k (by omega))
    have hkd : kdx (if k < pl then pg k else 0) < 5 := by
      rw [if_pos hc.1]
      rcases hc.2 with w | w | w
      · exact w.2
      · exact absurd rfl w.1
      · omega
    rw [if_pos hkd, if_neg (show ¬ nI (kdx (if k < pl then pg k else 0)) = -1 from of_eq_false (nm1 (by omega))), nI_1]
    obtain ⟨x, hxe⟩ : ∃ x, x = min j (k + s + 1) := ⟨_, rfl⟩
    rw [← hxe]
    unfold D_X9_readPlayer_L18
    refine itr_f (f := fun i => (nI k, nI (k + 1 + i))) (N := x - (k + 1)) (by omega) (fun i hi rec => ?_) (fun rec => ?_)
    · show D_X9_readPlayer_L18_body rec τ (nI k) (nI (k + 1 + i)) = rec (nI k, nI (k + 1 + i + 1))
      have hc := (hd (1 + i) (by omega)).mp (by rw [show k + (1 + i) = k + 1 + i by omega]; exact h2 _ (by omega))
      rw [show k + (1 + i) = k + 1 + i by omega] at hc
      have hht : pg (k + 1 + i) = 104 ∨ pg (k + 1 + i) = 116 := by
        rcases hc.2 with w | w | w
        · omega
        · exact w.2.2
        · omega
      have ea := atM hV h (k := k + 1 + i) (by omega)
      rw [if_pos hc.1] at ea
      simp only [D_X9_readPlayer_L18_body, h9, nI_add, inlt (show k + 1 + i ≤ k + s by omega) (by omega), if_false, ea, Option.bind_some, D_X9_readPlayer_b48, nI_1]
      rcases hht with w | w
      · rw [if_pos (show nI (pg (k + 1 + i)) = (104 : Int32) by rw [w]; rfl)]
      · rw [if_neg (show ¬ nI (pg (k + 1 + i)) = (104 : Int32) by rw [w]; decide), if_pos (show nI (pg (k + 1 + i)) = (116 : Int32) by rw [w]; rfl)]
    · show D_X9_readPlayer_L18_body rec τ (nI k) (nI (k + 1 + (x - (k + 1)))) = _
      rw [show k + 1 + (x - (k + 1)) = x by omega]
      by_cases qx : k + s < x
      · simp only [D_X9_readPlayer_L18_body, h9, nI_add, ilt qx (by omega), if_true]
      · have hxj : x = j := by omega
        have hn : ¬ (x < pl ∧ (pg x = 104 ∨ pg x = 116)) := fun w => by
          refine h1 ?_
          have := (hd (j - k) (by omega)).mpr
          rw [show k + (j - k) = j by omega] at this
          rw [hxj] at w
          exact this ⟨w.1, Or.inr (Or.inl ⟨by omega, by omega, w.2⟩)⟩
        have ea := atM hV h (k := x) (by omega)
        have a1 : (nI (if x < pl then pg x else 0) = (104 : Int32)) = (x < pl ∧ pg x = 104) := atI (v := 104) hV (by omega) (by omega)
        have a2 : (nI (if x < pl then pg x else 0) = (116 : Int32)) = (x < pl ∧ pg x = 116) := atI (v := 116) hV (by omega) (by omega)
        simp only [D_X9_readPlayer_L18_body, h9, nI_add, inlt (show x ≤ k + s by omega) (by omega), if_false, ea, Option.bind_some, a1, a2]
        rw [if_neg (fun w => hn ⟨w.1, Or.inl w.2⟩), if_neg (fun w => hn ⟨w.1, Or.inr w.2⟩)]
/-- what read leaves: whether it is a table, and of how many players -/
def WH (pl s j : Nat) (τ : ST) : Prop := (gI τ 8 = 1 ∧ gI τ 9 = nI s ∧ s ≠ 0 ∧ j = pl ∧ ∃ M, 2 ≤ M ∧ M ≤ 4 ∧ pl = M * (s + 2) + 1 ∧ gI τ 10 = nI M) ∨ (gI τ 8 = 0 ∧ (s = 0 ∨ ¬ (j = pl ∧ ∃ M, 2 ≤ M ∧ pl = M * (s + 2) + 1)))
theorem loopM {pl j : Nat} {pg : Nat → Nat} {τ : ST} (hV : PGV pl pg) (hs : szp pl pg ≠ 0) (hj : j ≤ pl) (h1 : ¬ CR pl pg j) (h2 : ∀ i, i < j → CR pl pg i) : ∀ (d m : Nat), m + d = 3 → ∀ fuel, d < fuel → ∀ τ' : ST, EqM τ τ' → PGM pl pg τ' → gI τ' 9 = nI (szp pl pg) → gI τ' 10 = nI m → gI τ' 8 = 0 → 2 + m * (szp pl pg + 2) ≤ j → ∃ τ'', itr (fun (rec50 : (ST × Int32) → Option (Int32 × ST)) (a : (ST × Int32)) => D_X9_read_L50_body rec50 a.1 a.2) fuel (τ', nI (2 + m * (szp pl pg + 2))) = some (nI j, τ'') ∧ EqM τ τ'' ∧ WH pl (szp pl pg) j τ'' := by
  have h28 := hV.1
  intro d
  induction d with
  | zero =>
    intro m hm fuel hf τ' hE hP h9 h10 h8 hk
    obtain rfl : m = 3 := by omega
    obtain ⟨fuel, rfl⟩ : ∃ q, fuel = q + 1 := ⟨fuel - 1, by omega⟩
    have er := plM hV hP hs h9 hj h1 h2 rfl hk
    have hd := CRd (m := 3) (r := szp pl pg + 1) hs (Nat.le_refl _)
    have hs4 := szp_ok pl pg
    generalize szp pl pg = s at *
    generalize hke : 2 + 3 * (s + 2) = k at *
    rw [itr_s]
    show ∃ τ'', D_X9_read_L50_body _ τ' (nI k) = some (nI j, τ'') ∧ EqM τ τ'' ∧ WH pl s j τ''
    rcases Nat.lt_or_ge j (k + s + 1) with q | q
    · rw [Nat.min_eq_left (by omega)] at er
      refine ⟨τ', ?_, hE, Or.inr ⟨h8, Or.inr ?_⟩⟩
      · simp only [D_X9_read_L50_body, h10, show ((4 : Int32) ≤ nI 3) = False from eq_false (by decide), if_false, er, Option.bind_some, nI_1, h9, nI_add, ieq (show j ≠ k + 1 + s by omega) (by omega) (by omega)]
      · rintro ⟨w1, M, w2, w3⟩
        rcases (show s = 2 ∨ s = 3 ∨ s = 4 by omega) with rfl | rfl | rfl <;> omega
    · rw [Nat.min_eq_right (by omega)] at er
      have hjk : j = k + s + 1 := by
        rcases Nat.lt_or_ge (k + s + 1) j with w | w
        · have := hd.mp (by rw [show k + (s + 1) = k + s + 1 by omega]; exact h2 _ w)
          omega
        · omega
      by_cases qp : j = pl
      · refine ⟨pI (pI τ' 10 (nI 4)) 8 1, ?_, hE.trans ⟨fun a a8 a9 a10 => by rw [gI_pI, if_neg a8, gI_pI, if_neg a10], fun _ _ => rfl, rfl⟩, Or.inl ⟨rfl, h9, by omega, qp, 4, by omega, by omega, by omega, rfl⟩⟩
        simp only [D_X9_read_L50_body, h10, show ((4 : Int32) ≤ nI 3) = False from eq_false (by decide), if_false, er, Option.bind_some, nI_1, h9, nI_add, show k + s + 1 = k + 1 + s by omega, if_true, gI_pI, hP.1, show (7 = 10) = False from eq_false (by decide), show nI (k + 1 + s) = nI pl by rw [← qp, hjk, show k + 1 + s = k + s + 1 by omega], show (nI (3 + 1) ≤ 1) = False from eq_false (by decide), D_X9_read_b112v1, show (10 = 8) = False from eq_false (by decide), show (nI (3 + 1) = (4 : Int32)) = True from eq_true (by decide)]
        rw [qp]
      · refine ⟨pI (pI τ' 10 (nI 4)) 8 0, ?_, hE.trans ⟨fun a a8 a9 a10 => by rw [gI_pI, if_neg a8, gI_pI, if_neg a10], fun _ _ => rfl, rfl⟩, Or.inr ⟨rfl, Or.inr (fun w => qp w.1)⟩⟩
        simp only [D_X9_read_L50_body, h10, show ((4 : Int32) ≤ nI 3) = False from eq_false (by decide), if_false, er, Option.bind_some, nI_1, h9, nI_add, show k + s + 1 = k + 1 + s by omega, if_true, gI_pI, hP.1, show (7 = 10) = False from eq_false (by decide), ieq (show k + 1 + s ≠ pl by omega) (by omega) (by omega), D_X9_read_b111, D_X9_read_b112, show (10 = 8) = False from eq_false (by decide), show (nI (3 + 1) = (4 : Int32)) = True from eq_true (by decide), hjk]
  | succ d ih =>
    intro m hm fuel hf τ' hE hP h9 h10 h8 hk
    obtain ⟨fuel, rfl⟩ : ∃ q, fuel = q + 1 := ⟨fuel - 1, by omega⟩
    have er := plM hV hP hs h9 hj h1 h2 rfl hk
    have hd := CRd (m := m) (r := szp pl pg + 1) hs (Nat.le_refl _)
    have hs4 := szp_ok pl pg
    have ih := ih (m + 1) (by omega) fuel (by omega)
    generalize szp pl pg = s at *
    rw [show 2 + (m + 1) * (s + 2) = 2 + m * (s + 2) + s + 2 by rw [Nat.add_mul, Nat.one_mul]; omega] at ih
    have hpM : (m + 1) * (s + 2) = m * (s + 2) + s + 2 := by rw [Nat.add_mul, Nat.one_mul]; omega
    have hno : ∀ M, 2 + m * (s + 2) ≤ pl → pl < 2 + m * (s + 2) + s + 1 → pl ≠ M * (s + 2) + 1 := fun M w1 w2 w3 => by
      rcases (show s = 2 ∨ s = 3 ∨ s = 4 by omega) with rfl | rfl | rfl <;> omega
    generalize hke : 2 + m * (s + 2) = k at *
    rw [itr_s]
    show ∃ τ'', D_X9_read_L50_body _ τ' (nI k) = some (nI j, τ'') ∧ EqM τ τ'' ∧ WH pl s j τ''
    have c4 : ((4 : Int32) ≤ nI m) = False := inle (b := m) (a := 4) (by omega) (by omega)
    rcases Nat.lt_or_ge j (k + s + 1) with q | q
    · rw [Nat.min_eq_left (by omega)] at er
      refine ⟨τ', ?_, hE, Or.inr ⟨h8, Or.inr ?_⟩⟩
      · simp only [D_X9_read_L50_body, h10, c4, if_false, er, Option.bind_some, nI_1, h9, nI_add, ieq (show j ≠ k + 1 + s by omega) (by omega) (by omega)]
      · rintro ⟨w1, M, w2, w3⟩
        exact hno M (by omega) (by omega) w3
    · rw [Nat.min_eq_right (by omega)] at er
      have hEi : ∀ v, EqM τ (pI (pI τ' 10 (nI (m + 1))) 8 v) := fun v => hE.trans ⟨fun a a8 a9 a10 => by rw [gI_pI, if_neg a8, gI_pI, if_neg a10], fun _ _ => rfl, rfl⟩
      have n4 : (nI (m + 1) = (4 : Int32)) = False := ieq (b := 4) (by omega) (by omega) (by omega)
      have hPi : ∀ v, PGM pl pg (pI (pI τ' 10 (nI (m + 1))) 8 v) := fun v => hP
      have a44 : (nI (if k + 1 + s < pl then pg (k + 1 + s) else 0) = (44 : Int32)) = (k + 1 + s < pl ∧ pg (k + 1 + s) = 44) := atI (v := 44) hV (by omega) (by omega)
      have ea : ∀ v, D_X9_at (pI (pI τ' 10 (nI (m + 1))) 8 v) (nI (k + 1 + s)) = some (nI (if k + 1 + s < pl then pg (k + 1 + s) else 0)) := fun v => atM hV (hPi v) (by omega)
      rw [show k + s + 1 = k + 1 + s by omega] at er q
      rw [show k + (s + 1) = k + 1 + s by omega] at hd
      by_cases qp : k + 1 + s = pl
      · have hjp : j = pl := by omega
        have nc : ¬ (k + 1 + s < pl ∧ pg (k + 1 + s) = 44) := fun w => by omega
        by_cases m0 : m = 0
        · subst m0
          refine ⟨pI (pI τ' 10 (nI (0 + 1))) 8 0, ?_, hEi 0, Or.inr ⟨rfl, Or.inr ?_⟩⟩
          · simp only [D_X9_read_L50_body, h10, c4, if_false, er, Option.bind_some, nI_1, h9, nI_add, if_true, gI_pI, hP.1, show (7 = 10) = False from eq_false (by decide), show (nI (k + 1 + s) = nI pl) = True from eq_true (by rw [qp]), show (nI (0 + 1) ≤ 1) = True from eq_true (by decide), D_X9_read_b111, D_X9_read_b112, show (10 = 8) = False from eq_false (by decide), n4, ea, a44, nc]
            rw [qp, hjp]
          · rintro ⟨w1, M, w2, w3⟩
            rcases (show s = 2 ∨ s = 3 ∨ s = 4 by omega) with rfl | rfl | rfl <;> omega
        · refine ⟨pI (pI τ' 10 (nI (m + 1))) 8 1, ?_, hEi 1, Or.inl ⟨rfl, h9, by omega, hjp, m + 1, by omega, by omega, by omega, rfl⟩⟩
          simp only [D_X9_read_L50_body, h10, c4, if_false, er, Option.bind_some, nI_1, h9, nI_add, if_true, gI_pI, hP.1, show (7 = 10) = False from eq_false (by decide), show (nI (k + 1 + s) = nI pl) = True from eq_true (by rw [qp]), show (nI (m + 1) ≤ 1) = False from inle (a := m + 1) (b := 1) (by omega) (by omega), D_X9_read_b112v1, show (10 = 8) = False from eq_false (by decide), n4, ea, a44, nc]
          rw [qp, hjp]
      · have base : ∀ rec, D_X9_read_L50_body rec τ' (nI k) = if k + 1 + s < pl ∧ pg (k + 1 + s) = 44 then rec (pI (pI τ' 10 (nI (m + 1))) 8 0, nI (k + 1 + s + 1)) else some (nI (k + 1 + s), pI (pI τ' 10 (nI (m + 1))) 8 0) := fun rec => by
          simp only [D_X9_read_L50_body, h10, c4, if_false, er, Option.bind_some, nI_1, h9, nI_add, if_true, gI_pI, hP.1, show (7 = 10) = False from eq_false (by decide), ieq qp (show k + 1 + s < 2 ^ 31 by omega) (by omega), D_X9_read_b111, D_X9_read_b112, show (10 = 8) = False from eq_false (by decide), n4, ea, a44]
        rw [base]
        by_cases qc : k + 1 + s < pl ∧ pg (k + 1 + s) = 44
        · rw [if_pos qc]
          have hc := hd.mpr ⟨qc.1, Or.inr (Or.inr ⟨by omega, qc.2, by omega⟩)⟩
          have hlt : k + 1 + s < j := by
            rcases Nat.lt_or_ge (k + 1 + s) j with w | w
            · exact w
            · exact absurd (show CR pl pg j by rw [show j = k + 1 + s by omega]; exact hc) h1
          rw [show k + 1 + s + 1 = k + s + 2 by omega]
          exact ih _ (hEi 0) (hPi 0) h9 rfl rfl (by omega)
        · rw [if_neg qc]
          have hjk : j = k + 1 + s := by
            rcases Nat.lt_or_ge (k + 1 + s) j with w | w
            · have := hd.mp (h2 _ w)
              rcases this.2 with v | v | v
              · omega
              · omega
              · exact absurd ⟨this.1, v.2.1⟩ qc
            · omega
          refine ⟨_, by rw [hjk], hEi 0, Or.inr ⟨rfl, Or.inr (fun w => qp (by omega))⟩⟩
theorem readM {pl j : Nat} {pg : Nat → Nat} {τ : ST} (hV : PGV pl pg) (h : PGM pl pg τ) (hj : j ≤ pl) (h1 : ¬ CR pl pg j) (h2 : ∀ i, i < j → CR pl pg i) : ∃ τ', D_X9_read τ = some (nI j, τ') ∧ EqM τ τ' ∧ WH pl (szp pl pg) j τ' := by
  have h28 := hV.1
  have hE : ∀ v, EqM τ (pI (pI (pI τ 8 0) 10 0) 9 v) := fun v => ⟨fun a a8 a9 a10 => by rw [gI_pI, if_neg a9, gI_pI, if_neg a10, gI_pI, if_neg a8], fun _ _ => rfl, rfl⟩
  have hP : ∀ v, PGM pl pg (pI (pI (pI τ 8 0) 10 0) 9 v) := fun v => h
  have ea0 : D_X9_at (pI (pI τ 8 0) 10 0) 0 = some (nI (if 0 < pl then pg 0 else 0)) := atM (τ := pI (pI τ 8 0) 10 0) (k := 0) hV h (by omega)
  have hx : (if 0 < pl then pg 0 else 0) < 127 := by
    by_cases q : 0 < pl
    · rw [if_pos q]; exact hV.2 0 q
    · rw [if_neg q]; omega
  have hsz : szp pl pg = if 50 ≤ (if 0 < pl then pg 0 else 0) ∧ (if 0 < pl then pg 0 else 0) ≤ 52 then (if 0 < pl then pg 0 else 0) - 48 else 0 := by
    unfold szp
    by_cases q : 0 < pl
    · rw [if_pos q]
      by_cases q2 : 50 ≤ pg 0 ∧ pg 0 ≤ 52
      · rw [if_pos ⟨q, q2⟩, if_pos q2]
      · rw [if_neg (fun w => q2 w.2), if_neg q2]
    · rw [if_neg q, if_neg (fun w => q w.1), if_neg (by omega)]
  obtain ⟨x, hxe⟩ : ∃ x, x = if 0 < pl then pg 0 else 0 := ⟨_, rfl⟩
  rw [← hxe] at ea0 hx hsz
  have ew : D_X9_within (nI x - 48) 2 4 = some (if 50 ≤ x ∧ x ≤ 52 then 1 else 0) := sM_all ⟨x, hx⟩
  unfold D_X9_read
  rw [ea0, Option.bind_some, gI_pI, if_pos rfl, ew, Option.bind_some]
  by_cases q : 50 ≤ x ∧ x ≤ 52
  · rw [if_pos q, if_neg (by decide)]
    rw [if_pos q] at hsz
    have hs : szp pl pg ≠ 0 := by omega
    have h0 : 0 < pl := by
      rcases Nat.eq_zero_or_pos pl with w | w
      · rw [w, if_neg (by omega)] at hxe; omega
      · exact w
    have e9 : nI x - 48 = nI (szp pl pg) := by rw [hsz]; exact pk_sub (b := 48) (by omega)
    rw [e9]
    have c0 : CR pl pg 0 := ⟨h0, hs, Or.inl rfl⟩
    have hj0 : 0 < j := by
      rcases Nat.eq_zero_or_pos j with w | w
      · rw [w] at h1; exact absurd c0 h1
      · exact w
    have ea1 : D_X9_at (pI (pI (pI τ 8 0) 10 0) 9 (nI (szp pl pg))) 1 = some (nI (if 1 < pl then pg 1 else 0)) := atM (k := 1) hV (hP _) (by omega)
    have a59 : (nI (if 1 < pl then pg 1 else 0) = (59 : Int32)) = (1 < pl ∧ pg 1 = 59) := atI (v := 59) hV (by omega) (by omega)
    rw [ea1, Option.bind_some]
    simp only [a59]
    by_cases q1 : 1 < pl ∧ pg 1 = 59
    · rw [if_pos q1]
      have c1 : CR pl pg 1 := ⟨q1.1, hs, Or.inr (Or.inl ⟨rfl, q1.2⟩)⟩
      have hj2 : 2 ≤ j := by
        rcases (show j = 1 ∨ 2 ≤ j by omega) with w | w
        · rw [w] at h1; exact absurd c1 h1
        · exact w
      have := loopM (τ := τ) hV hs hj h1 h2 3 0 rfl 200 (by omega) (pI (pI (pI τ 8 0) 10 0) 9 (nI (szp pl pg))) (hE _) (hP _) rfl rfl rfl (by omega)
      rw [Nat.zero_mul] at this
      exact this
    · rw [if_neg q1]
      have hj1 : j = 1 := by
        rcases (show j = 1 ∨ 1 < j by omega) with w | w
        · exact w
        · rcases (h2 1 w).2.2 with v | v | v
          · omega
          · exact absurd ⟨(h2 1 w).1, v.2⟩ q1
          · omega
      refine ⟨_, by rw [hj1]; rfl, hE _, Or.inr ⟨rfl, Or.inr ?_⟩⟩
      rintro ⟨w1, M, w2, w3⟩
      have : 2 * (szp pl pg + 2) ≤ M * (szp pl pg + 2) := Nat.mul_le_mul w2 (Nat.le_refl _)
      omega
  · rw [if_neg q, if_pos rfl]
    rw [if_neg q] at hsz
    have hj0 : j = 0 := by
      rcases Nat.eq_zero_or_pos j with w | w
      · exact w
      · exact absurd hsz (h2 0 w).2.1
    exact ⟨_, by rw [hj0]; rfl, hE _, Or.inr ⟨rfl, Or.inl hsz⟩⟩
theorem PG.v {pl : Nat} {pg : Nat → Nat} {σ τ : ST} (h : PG pl pg σ τ) : PGV pl pg ∧ PGT pl pg σ ∧ PGM pl pg τ := ⟨⟨h.2.2.2, fun j hj => by have := (h.1 j hj).2.2.2; omega⟩, ⟨h.2.1, fun j hj => (h.1 j hj).1⟩, ⟨h.2.2.1, fun j hj => (h.1 j hj).2.1⟩⟩
theorem S_fault_ok : S_fault Rel := by
  intro n σ τ hR hn
  have hR' := hR
  obtain ⟨np, sz, pl, rd, pg, c, k, hH, hP, hC⟩ := hR (by omega)
  obtain ⟨v1, v2, v3⟩ := hP.v
  obtain ⟨j, hj, h1, h2⟩ := fw_ex pl pg
  obtain ⟨τ', e, hE, -⟩ := readM v1 v3 hj h1 h2
  refine ⟨nI j, τ', ?_, ?_, Rel.query hR' hn EqT.rfl' hE⟩
  · unfold D_X8_fault
    rw [firstT v1 v2 hj h1 h2, Option.bind_some]
  · unfold D_X9_fault
    rw [e, Option.bind_some]
