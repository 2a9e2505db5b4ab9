/-! player, count. -/
noncomputable def pv (sz : Nat) (c : CO) (p w : Nat) : Int32 := if w = 0 then nI (kd c p) else if w = 1 then nI (ro c p) else if w = 2 then wo c p else if w = 3 then nI (wt sz (hp sz c p)) else if w = 4 then nI (ps 16 (hp sz c p)) else if w = 5 then nI (lf sz c p) else tv sz c p
theorem playerT {np sz p w : Nat} {c : CO} {σ : ST} (hN : NS np sz) (hF : FT np sz c σ) (hV : VC np sz c) (hp0 : p < np) (hw : w ≤ 6) : ∃ σ', D_X8_player σ (nI p) (nI w) = some (pv sz c p w, σ') ∧ EqT σ σ' := by
  have hnp := hN.np
  have h4 := hN.sz
  obtain ⟨n2, n3⟩ := hN.pos (show 0 < np by omega)
  have e1 := isPlT hF.1 hnp hp0
  have hh := hp_16 hN hV hp0
  have x3 : gA σ 3 p = wo c p := by rw [hF.2.2.2.2.1 p (by omega), if_pos hp0]
  rcases (show w = 0 ∨ w = 1 ∨ w = 2 ∨ w = 3 ∨ w = 4 ∨ w = 5 ∨ w = 6 by omega) with rfl | rfl | rfl | rfl | rfl | rfl | rfl
  · refine ⟨σ, ?_, EqT.rfl'⟩
    simp only [D_X8_player, e1, Option.bind_some, i10, if_false, show ((nI 0).toInt < 0 ∨ 6 < (nI 0).toInt) = False from eq_false (by decide), show (nI 0 = 0) = True from eq_true (by decide), if_true, gin (show p < 4 by omega) (by omega), cl (show p < 2 ^ 31 by omega), hF.2.2.1 p hp0]
    rfl
  · refine ⟨σ, ?_, EqT.rfl'⟩
    simp only [D_X8_player, e1, Option.bind_some, i10, if_false, show ((nI 1).toInt < 0 ∨ 6 < (nI 1).toInt) = False from eq_false (by decide), show (nI 1 = 0) = False from eq_false (by decide), show (nI 1 = 1) = True from eq_true (by decide), if_true, gin (show p < 4 by omega) (by omega), cl (show p < 2 ^ 31 by omega), hF.2.2.2.1 p hp0]
    rfl
  · refine ⟨σ, ?_, EqT.rfl'⟩
    simp only [D_X8_player, e1, Option.bind_some, i10, if_false, show ((nI 2).toInt < 0 ∨ 6 < (nI 2).toInt) = False from eq_false (by decide), show (nI 2 = 0) = False from eq_false (by decide), show (nI 2 = 1) = False from eq_false (by decide), show (nI 2 = 2) = True from eq_true (by decide), if_true, gin (show p < 4 by omega) (by omega), cl (show p < 2 ^ 31 by omega), x3]
    rfl
  · obtain ⟨σ', g, gE⟩ := wtT' σ n3 h4 (hp_in hN hV hp0)
    refine ⟨σ', ?_, gE⟩
    simp only [D_X8_player, e1, Option.bind_some, i10, if_false, show ((nI 3).toInt < 0 ∨ 6 < (nI 3).toInt) = False from eq_false (by decide), show (nI 3 = 0) = False from eq_false (by decide), show (nI 3 = 1) = False from eq_false (by decide), show (nI 3 = 2) = False from eq_false (by decide), show (nI 3 = 3) = True from eq_true (by decide), if_true, rHT hN hF.pt hV hp0, hF.2.1, g]
    rfl
  · refine ⟨σ, ?_, EqT.rfl'⟩
    simp only [D_X8_player, e1, Option.bind_some, i10, if_false, show ((nI 4).toInt < 0 ∨ 6 < (nI 4).toInt) = False from eq_false (by decide), show (nI 4 = 0) = False from eq_false (by decide), show (nI 4 = 1) = False from eq_false (by decide), show (nI 4 = 2) = False from eq_false (by decide), show (nI 4 = 3) = False from eq_false (by decide), show (nI 4 = 4) = True from eq_true (by decide), if_true, rHT hN hF.pt hV hp0, bitT hh]
    rfl
  · refine ⟨σ, ?_, EqT.rfl'⟩
    simp only [D_X8_player, e1, Option.bind_some, i10, if_false, show ((nI 5).toInt < 0 ∨ 6 < (nI 5).toInt) = False from eq_false (by decide), show (nI 5 = 0) = False from eq_false (by decide), show (nI 5 = 1) = False from eq_false (by decide), show (nI 5 = 2) = False from eq_false (by decide), show (nI 5 = 3) = False from eq_false (by decide), show (nI 5 = 4) = False from eq_false (by decide), show (nI 5 = 5) = True from eq_true (by decide), if_true, leftT hN hF hV hp0]
    rfl
  · refine ⟨σ, ?_, EqT.rfl'⟩
    simp only [D_X8_player, e1, Option.bind_some, i10, if_false, show ((nI 6).toInt < 0 ∨ 6 < (nI 6).toInt) = False from eq_false (by decide), show (nI 6 = 0) = False from eq_false (by decide), show (nI 6 = 1) = False from eq_false (by decide), show (nI 6 = 2) = False from eq_false (by decide), show (nI 6 = 3) = False from eq_false (by decide), show (nI 6 = 4) = False from eq_false (by decide), show (nI 6 = 5) = False from eq_false (by decide), show (nI 6 = 6) = True from eq_true (by decide), if_true, tryT hN hF hV hp0]
    rfl
theorem playerM {np sz p w : Nat} {c : CO} {τ : ST} (hN : NS np sz) (hF : FM np sz c τ) (hV : VC np sz c) (hp0 : p < np) (hw : w ≤ 6) : ∃ τ', D_X9_playerNow τ (nI p) (nI w) = some (pv sz c p w, τ') ∧ EqM τ τ' := by
  have hnp := hN.np
  have h4 := hN.sz
  obtain ⟨n2, n3⟩ := hN.pos (show 0 < np by omega)
  have hh := hp_16 hN hV hp0
  rcases (show w = 0 ∨ w = 1 ∨ w = 2 ∨ w = 3 ∨ w = 4 ∨ w = 5 ∨ w = 6 by omega) with rfl | rfl | rfl | rfl | rfl | rfl | rfl
  · refine ⟨τ, ?_, EqM.rfl'⟩
    simp only [D_X9_playerNow, if_false, show ((nI 0).toInt < 0 ∨ 5 < (nI 0).toInt) = False from eq_false (by decide), show (nI 0 = 0) = True from eq_true (by decide), if_true, gin (show p < 4 by omega) (by omega), cl (show p < 2 ^ 31 by omega), hF.2.2.1 p hp0]
    rfl
  · refine ⟨τ, ?_, EqM.rfl'⟩
    simp only [D_X9_playerNow, if_false, show ((nI 1).toInt < 0 ∨ 5 < (nI 1).toInt) = False from eq_false (by decide), show (nI 1 = 0) = False from eq_false (by decide), show (nI 1 = 1) = True from eq_true (by decide), if_true, gin (show p < 4 by omega) (by omega), cl (show p < 2 ^ 31 by omega), hF.2.2.2.1 p hp0]
    rfl
  · refine ⟨τ, ?_, EqM.rfl'⟩
    simp only [D_X9_playerNow, if_false, show ((nI 2).toInt < 0 ∨ 5 < (nI 2).toInt) = False from eq_false (by decide), show (nI 2 = 0) = False from eq_false (by decide), show (nI 2 = 1) = False from eq_false (by decide), show (nI 2 = 2) = True from eq_true (by decide), if_true, gin (show p < 4 by omega) (by omega), cl (show p < 2 ^ 31 by omega), hF.2.2.2.2.1 p hp0]
    rfl
  · obtain ⟨f, g⟩ := wtM' hF.2.1 n3 h4 (hp_in hN hV hp0)
    refine ⟨pG τ 0 f, ?_, EqM.pG _ _ _⟩
    simp only [D_X9_playerNow, if_false, show ((nI 3).toInt < 0 ∨ 5 < (nI 3).toInt) = False from eq_false (by decide), show (nI 3 = 0) = False from eq_false (by decide), show (nI 3 = 1) = False from eq_false (by decide), show (nI 3 = 2) = False from eq_false (by decide), show (nI 3 = 3) = True from eq_true (by decide), if_true, hOM hN hF.pm hV hp0, Option.bind_some, g]
    rfl
  · refine ⟨τ, ?_, EqM.rfl'⟩
    simp only [D_X9_playerNow, if_false, show ((nI 4).toInt < 0 ∨ 5 < (nI 4).toInt) = False from eq_false (by decide), show (nI 4 = 0) = False from eq_false (by decide), show (nI 4 = 1) = False from eq_false (by decide), show (nI 4 = 2) = False from eq_false (by decide), show (nI 4 = 3) = False from eq_false (by decide), show (nI 4 = 4) = True from eq_true (by decide), if_true, hOM hN hF.pm hV hp0, Option.bind_some, sizeM (show hp sz c p < 2 ^ 31 by omega)]
    rfl
  · refine ⟨τ, ?_, EqM.rfl'⟩
    simp only [D_X9_playerNow, if_false, show ((nI 5).toInt < 0 ∨ 5 < (nI 5).toInt) = False from eq_false (by decide), show (nI 5 = 0) = False from eq_false (by decide), show (nI 5 = 1) = False from eq_false (by decide), show (nI 5 = 2) = False from eq_false (by decide), show (nI 5 = 3) = False from eq_false (by decide), show (nI 5 = 4) = False from eq_false (by decide), show (nI 5 = 5) = True from eq_true (by decide), if_true, leftM hN hF hV hp0, Option.bind_some]
    rfl
  · refine ⟨τ, ?_, EqM.rfl'⟩
    simp only [D_X9_playerNow, show ((nI 6).toInt < 0 ∨ 5 < (nI 6).toInt) = True from eq_true (by decide), if_true, tryM hN hF hV hp0, Option.bind_some]
    rfl
/-- a number in a range, or not -/
theorem rng (b : Int32) {m : Nat} (hm : m + 1 < 2 ^ 31) : (∃ w, w ≤ m ∧ b = nI w) ∨ ((b.toInt < 0 ∨ (m : Int) < b.toInt) ∧ D_X9_within b 0 (nI m) = some 0) := by
  rcases pk_ix b (n := m + 1) hm with h | h | ⟨j, hj, rfl⟩
  · refine Or.inr ⟨Or.inl ?_, win_neg h⟩
    rw [Int32.lt_iff_toInt_lt] at h
    exact h
  · refine Or.inr ⟨Or.inr ?_, win_big h hm⟩
    rw [Int32.le_iff_toInt_le, nI_toInt hm] at h
    omega
  · exact Or.inl ⟨j, by omega, rfl⟩
theorem S_player_ok : S_player Rel := by
  intro n σ τ a b hR hn
  have hR' := hR
  obtain ⟨np, sz, pl, rd, pg, c, k, hH, hP, hT, hM, hV, hK⟩ := hR (by omega)
  have hFT : FT np sz c σ := ⟨hH.2.1, hH.2.2.2.1, hT⟩
  have hFM : FM np sz c τ := ⟨hH.2.2.1, hH.2.2.2.2.1, hM⟩
  rcases plr hH a with ⟨j, hj, rfl, e1, e2⟩ | ⟨e1, e2⟩
  · rcases rng b (m := 6) (by omega) with ⟨w, hw, rfl⟩ | ⟨h1, h2⟩
    · obtain ⟨σ', g1, gE⟩ := playerT hH.1 hFT hV hj hw
      obtain ⟨τ', g2, gM⟩ := playerM hH.1 hFM hV hj hw
      refine ⟨pv sz c j w, σ', τ', g1, ?_, Rel.query hR' hn gE gM⟩
      simp only [D_X9_player, e2, Option.bind_some, i10, if_false, show D_X9_within (nI w) 0 6 = some 1 from win_in (m := 6) hw (by omega), g2]
    · refine ⟨-102, σ, τ, ?_, ?_, Rel.query hR' hn EqT.rfl' EqM.rfl'⟩
      · simp only [D_X8_player, e1, Option.bind_some, i10, if_false]
        rw [if_pos (show b.toInt < 0 ∨ 6 < b.toInt from h1)]
      · simp only [D_X9_player, e2, Option.bind_some, i10, if_false, show D_X9_within b 0 6 = some 0 from h2, i00, if_true]
  · refine ⟨-101, σ, τ, ?_, ?_, Rel.query hR' hn EqT.rfl' EqM.rfl'⟩
    · simp only [D_X8_player, e1, Option.bind_some, i00, if_true]
    · simp only [D_X9_player, e2, Option.bind_some, i00, if_true]
theorem wonT {np sz : Nat} {c : CO} {σ : ST} (hnp : np ≤ 4) (hT : CTn np sz c σ) : D_X1_wonByAll σ = some (lp (fun i (a : Int32) => a + wo c i) np 0) := by
  have e : lp (fun i (a : Int32) => a + gA σ 3 i) 4 0 = lp (fun i (a : Int32) => a + wo c i) np 0 := by
    have z : ∀ a : Int32, a + 0 = a := fun a => by simp
    have h3 : ∀ p, p < 4 → gA σ 3 p = if p < np then wo c p else 0 := hT.2.2.1
    have m : ∀ i, i ≤ 4 → lp (fun i (a : Int32) => a + gA σ 3 i) i 0 = lp (fun i (a : Int32) => a + wo c i) (min i np) 0 := by
      intro i
      induction i with
      | zero => intro _; rw [Nat.zero_min]; rfl
      | succ i ih =>
        intro hi
        rw [lp_s, ih (by omega), h3 i (by omega)]
        by_cases q : i < np
        · rw [if_pos q, show min (i + 1) np = min i np + 1 by omega, lp_s, show min i np = i by omega]
        · rw [if_neg q, show min (i + 1) np = min i np by omega, z]
    rw [m 4 (Nat.le_refl 4), show min 4 np = np by omega]
  rw [← e]
  unfold D_X1_wonByAll D_X1_wonByAll_L4
  refine itr_f (f := fun i : Nat => (lp (fun i (a : Int32) => a + gA σ 3 i) i 0, nI i)) (N := 4) (by omega) (fun i hi rec => ?_) (fun rec => ?_)
  · show D_X1_wonByAll_L4_body rec σ (lp (fun i (a : Int32) => a + gA σ 3 i) i 0) (nI i) = rec (lp (fun i (a : Int32) => a + gA σ 3 i) (i + 1) 0, nI (i + 1))
    have c4 : ((4 : Int32) ≤ nI i) = False := inle (b := i) (a := 4) hi (by omega)
    simp only [D_X1_wonByAll_L4_body, c4, if_false, gin hi (by omega), cl (show i < 2 ^ 31 by omega), nI_1, lp_s]
  · show D_X1_wonByAll_L4_body rec σ (lp (fun i (a : Int32) => a + gA σ 3 i) 4 0) (nI 4) = _
    have c4 : ((4 : Int32) ≤ nI 4) = True := eq_true (by decide)
    simp only [D_X1_wonByAll_L4_body, c4, if_true]
theorem wonM {np : Nat} {c : CO} {τ : ST} (hnp : np ≤ 4) (h1 : gI τ 1 = nI np) (hM : CMn np c τ) : D_X9_wonByAll τ = some (lp (fun i (a : Int32) => a + wo c i) np 0) := by
  unfold D_X9_wonByAll D_X9_wonByAll_L4
  refine itr_f (f := fun i : Nat => (lp (fun i (a : Int32) => a + wo c i) i 0, nI i)) (N := np) (by omega) (fun i hi rec => ?_) (fun rec => ?_)
  · show D_X9_wonByAll_L4_body rec τ (lp (fun i (a : Int32) => a + wo c i) i 0) (nI i) = rec (lp (fun i (a : Int32) => a + wo c i) (i + 1) 0, nI (i + 1))
    simp only [D_X9_wonByAll_L4_body, h1, inle hi (by omega), if_false, gin (show i < 4 by omega) (by omega), cl (show i < 2 ^ 31 by omega), nI_1, lp_s, hM.2.2.1 i hi]
  · show D_X9_wonByAll_L4_body rec τ (lp (fun i (a : Int32) => a + wo c i) np 0) (nI np) = _
    simp only [D_X9_wonByAll_L4_body, h1, ile (Nat.le_refl np) (by omega), if_true]
/-- what count tells -/
noncomputable def cv (np sz pl rd : Nat) (c : CO) (w : Nat) : Int32 := if w = 0 then nI np else if w = 1 then nI sz else if w = 2 then nI (tg c) else if w = 3 then nI (ts c) else if w = 4 then (if np = 0 ∨ tg c < sz then -1 else nI (la c % 2 ^ sz)) else if w = 5 then (lp (fun i (a : Int32) => a + wo c i) np 0) else if w = 6 then nI (sn c) else if w = 7 then nI pl else nI rd
theorem tailT {np sz : Nat} {c : CO} {σ : ST} (hN : NS np sz) (hF : FT np sz c σ) : D_X8_tailOf σ (gI σ 8) = some (if np = 0 ∨ tg c < sz then -1 else nI (la c % 2 ^ sz)) := by
  have hnp := hN.np
  have h4 := hN.sz
  have h16 := p2s h4
  unfold D_X8_tailOf
  rw [hF.1]
  by_cases h0 : np = 0
  · rw [if_pos (Or.inl h0), h0, if_pos (show nI 0 ≤ 0 by decide)]
  · rw [if_neg (nI_nle (by omega) (by omega)), hF.2.1, sh1' (by omega), show gI σ 8 = nI (trk sz (tg c) (la c)) from hF.2.2.2.2.2.2.2.2.2.2.2]
    rcases Nat.lt_or_ge (tg c) sz with q | q
    · rw [if_pos (nI_lt (trk_lt q) (by omega)), if_pos (Or.inr q)]
    · have hl : la c % 2 ^ sz < 2 ^ sz := Nat.mod_lt _ (Nat.pos_of_ne_zero (by simp))
      rw [trk_ge q, if_neg (nI_nlt (by omega) (by omega)), if_neg (by omega), pk_sub (by omega), show 2 ^ sz + la c % 2 ^ sz - 2 ^ sz = la c % 2 ^ sz by omega]
theorem tailM {np sz : Nat} {c : CO} {τ : ST} (hN : NS np sz) (hF : FM np sz c τ) (hV : VC np sz c) : D_X9_tailNow τ = some (if np = 0 ∨ tg c < sz then -1 else nI (la c % 2 ^ sz)) := by
  have hnp := hN.np
  have h4 := hN.sz
  have h16 := p2s h4
  have htg : tg c ≤ ts c := hV.2.2.2.2.1
  have hts : ts c ≤ 9999 := hV.2.2.2.1
  have hpos : 0 < 2 ^ sz := Nat.pos_of_ne_zero (by simp)
  unfold D_X9_tailNow
  rw [hF.1]
  by_cases h0 : np = 0
  · rw [if_pos (Or.inl h0), h0, if_pos (show nI 0 = 0 from rfl)]
  · rw [if_neg (nI_ne0 (by omega) (by omega)), hF.2.1, show gI τ 3 = nI (tg c) from hF.2.2.2.2.2.2.2.2.2.2.1, show gI τ 4 = nI (la c) from hF.2.2.2.2.2.2.2.2.2.2.2]
    rcases Nat.lt_or_ge (tg c) sz with q | q
    · rw [if_neg (nI_ge q (by omega)), if_pos (Or.inr q)]
    · rw [if_pos (nI_le q (by omega)), if_neg (by omega), rowsM hF.2.1 h4, Option.bind_some, show nI (2 ^ sz) - 1 = nI (2 ^ sz - 1) from pk_sub (b := 1) hpos, maskI]
theorem countT {np sz pl rd w : Nat} {c : CO} {σ : ST} (hN : NS np sz) (hF : FT np sz c σ) (h4 : gI σ 4 = nI pl) (h3 : gI σ 3 = nI rd) (hw : w ≤ 8) : D_X8_count σ (nI w) = some (cv np sz pl rd c w) := by
  have hnp := hN.np
  rcases (show w = 0 ∨ w = 1 ∨ w = 2 ∨ w = 3 ∨ w = 4 ∨ w = 5 ∨ w = 6 ∨ w = 7 ∨ w = 8 by omega) with rfl | rfl | rfl | rfl | rfl | rfl | rfl | rfl | rfl
  · simp only [D_X8_count, if_false, show ((nI 0).toInt < 0 ∨ 8 < (nI 0).toInt) = False from eq_false (by decide), show (nI 0 = 0) = True from eq_true (by decide), if_true, hF.1]
    rfl
  · simp only [D_X8_count, if_false, show ((nI 1).toInt < 0 ∨ 8 < (nI 1).toInt) = False from eq_false (by decide), show (nI 1 = 0) = False from eq_false (by decide), show (nI 1 = 1) = True from eq_true (by decide), if_true, hF.2.1]
    rfl
  · simp only [D_X8_count, if_false, show ((nI 2).toInt < 0 ∨ 8 < (nI 2).toInt) = False from eq_false (by decide), show (nI 2 = 0) = False from eq_false (by decide), show (nI 2 = 1) = False from eq_false (by decide), show (nI 2 = 2) = True from eq_true (by decide), if_true, show gI σ 7 = nI (tg c) from hF.2.2.2.2.2.2.2.2.2.2.1]
    rfl
  · simp only [D_X8_count, if_false, show ((nI 3).toInt < 0 ∨ 8 < (nI 3).toInt) = False from eq_false (by decide), show (nI 3 = 0) = False from eq_false (by decide), show (nI 3 = 1) = False from eq_false (by decide), show (nI 3 = 2) = False from eq_false (by decide), show (nI 3 = 3) = True from eq_true (by decide), if_true, show gI σ 6 = nI (ts c) from hF.2.2.2.2.2.2.2.2.2.1]
    rfl
  · simp only [D_X8_count, if_false, show ((nI 4).toInt < 0 ∨ 8 < (nI 4).toInt) = False from eq_false (by decide), show (nI 4 = 0) = False from eq_false (by decide), show (nI 4 = 1) = False from eq_false (by decide), show (nI 4 = 2) = False from eq_false (by decide), show (nI 4 = 3) = False from eq_false (by decide), show (nI 4 = 4) = True from eq_true (by decide), if_true, tailT hN hF, Option.bind_some]
    rfl
  · simp only [D_X8_count, if_false, show ((nI 5).toInt < 0 ∨ 8 < (nI 5).toInt) = False from eq_false (by decide), show (nI 5 = 0) = False from eq_false (by decide), show (nI 5 = 1) = False from eq_false (by decide), show (nI 5 = 2) = False from eq_false (by decide), show (nI 5 = 3) = False from eq_false (by decide), show (nI 5 = 4) = False from eq_false (by decide), show (nI 5 = 5) = True from eq_true (by decide), if_true, wonT hnp hF.2.2, Option.bind_some]
    rfl
  · simp only [D_X8_count, if_false, show ((nI 6).toInt < 0 ∨ 8 < (nI 6).toInt) = False from eq_false (by decide), show (nI 6 = 0) = False from eq_false (by decide), show (nI 6 = 1) = False from eq_false (by decide), show (nI 6 = 2) = False from eq_false (by decide), show (nI 6 = 3) = False from eq_false (by decide), show (nI 6 = 4) = False from eq_false (by decide), show (nI 6 = 5) = False from eq_false (by decide), show (nI 6 = 6) = True from eq_true (by decide), if_true, show gI σ 5 = nI (sn c) from hF.2.2.2.2.2.2.2.2.1]
    rfl
  · simp only [D_X8_count, if_false, show ((nI 7).toInt < 0 ∨ 8 < (nI 7).toInt) = False from eq_false (by decide), show (nI 7 = 0) = False from eq_false (by decide), show (nI 7 = 1) = False from eq_false (by decide), show (nI 7 = 2) = False from eq_false (by decide), show (nI 7 = 3) = False from eq_false (by decide), show (nI 7 = 4) = False from eq_false (by decide), show (nI 7 = 5) = False from eq_false (by decide), show (nI 7 = 6) = False from eq_false (by decide), show (nI 7 = 7) = True from eq_true (by decide), if_true, D_X5_length, h4, Option.bind_some]
    rfl
  · simp only [D_X8_count, if_false, show ((nI 8).toInt < 0 ∨ 8 < (nI 8).toInt) = False from eq_false (by decide), show (nI 8 = 0) = False from eq_false (by decide), show (nI 8 = 1) = False from eq_false (by decide), show (nI 8 = 2) = False from eq_false (by decide), show (nI 8 = 3) = False from eq_false (by decide), show (nI 8 = 4) = False from eq_false (by decide), show (nI 8 = 5) = False from eq_false (by decide), show (nI 8 = 6) = False from eq_false (by decide), show (nI 8 = 7) = False from eq_false (by decide), show (nI 8 = 8) = True from eq_true (by decide), if_true, h3]
    rfl
theorem countM {np sz pl rd w : Nat} {c : CO} {τ : ST} (hN : NS np sz) (hF : FM np sz c τ) (hV : VC np sz c) (h7 : gI τ 7 = nI pl) (h0 : gI τ 0 = nI rd) (hw : w ≤ 8) : D_X9_howMany τ (nI w) = some (cv np sz pl rd c w) := by
  have hnp := hN.np
  rcases (show w = 0 ∨ w = 1 ∨ w = 2 ∨ w = 3 ∨ w = 4 ∨ w = 5 ∨ w = 6 ∨ w = 7 ∨ w = 8 by omega) with rfl | rfl | rfl | rfl | rfl | rfl | rfl | rfl | rfl
  · simp only [D_X9_howMany, if_false, show ((nI 0).toInt < 0 ∨ 8 < (nI 0).toInt) = False from eq_false (by decide), show (nI 0 = 0) = True from eq_true (by decide), if_true, hF.1]
    rfl
  · simp only [D_X9_howMany, if_false, show ((nI 1).toInt < 0 ∨ 8 < (nI 1).toInt) = False from eq_false (by decide), show (nI 1 = 0) = False from eq_false (by decide), show (nI 1 = 1) = True from eq_true (by decide), if_true, hF.2.1]
    rfl
  · simp only [D_X9_howMany, if_false, show ((nI 2).toInt < 0 ∨ 8 < (nI 2).toInt) = False from eq_false (by decide), show (nI 2 = 0) = False from eq_false (by decide), show (nI 2 = 1) = False from eq_false (by decide), show (nI 2 = 2) = True from eq_true (by decide), if_true, show gI τ 3 = nI (tg c) from hF.2.2.2.2.2.2.2.2.2.2.1]
    rfl
  · simp only [D_X9_howMany, if_false, show ((nI 3).toInt < 0 ∨ 8 < (nI 3).toInt) = False from eq_false (by decide), show (nI 3 = 0) = False from eq_false (by decide), show (nI 3 = 1) = False from eq_false (by decide), show (nI 3 = 2) = False from eq_false (by decide), show (nI 3 = 3) = True from eq_true (by decide), if_true, show gI τ 5 = nI (ts c) from hF.2.2.2.2.2.2.2.2.2.1]
    rfl
  · simp only [D_X9_howMany, if_false, show ((nI 4).toInt < 0 ∨ 8 < (nI 4).toInt) = False from eq_false (by decide), show (nI 4 = 0) = False from eq_false (by decide), show (nI 4 = 1) = False from eq_false (by decide), show (nI 4 = 2) = False from eq_false (by decide), show (nI 4 = 3) = False from eq_false (by decide), show (nI 4 = 4) = True from eq_true (by decide), if_true, tailM hN hF hV, Option.bind_some]
    rfl
  · simp only [D_X9_howMany, if_false, show ((nI 5).toInt < 0 ∨ 8 < (nI 5).toInt) = False from eq_false (by decide), show (nI 5 = 0) = False from eq_false (by decide), show (nI 5 = 1) = False from eq_false (by decide), show (nI 5 = 2) = False from eq_false (by decide), show (nI 5 = 3) = False from eq_false (by decide), show (nI 5 = 4) = False from eq_false (by decide), show (nI 5 = 5) = True from eq_true (by decide), if_true, wonM hnp hF.1 hF.2.2, Option.bind_some]
    rfl
  · simp only [D_X9_howMany, if_false, show ((nI 6).toInt < 0 ∨ 8 < (nI 6).toInt) = False from eq_false (by decide), show (nI 6 = 0) = False from eq_false (by decide), show (nI 6 = 1) = False from eq_false (by decide), show (nI 6 = 2) = False from eq_false (by decide), show (nI 6 = 3) = False from eq_false (by decide), show (nI 6 = 4) = False from eq_false (by decide), show (nI 6 = 5) = False from eq_false (by decide), show (nI 6 = 6) = True from eq_true (by decide), if_true, show gI τ 6 = nI (sn c) from hF.2.2.2.2.2.2.2.2.1]
    rfl
  · simp only [D_X9_howMany, if_false, show ((nI 7).toInt < 0 ∨ 8 < (nI 7).toInt) = False from eq_false (by decide), show (nI 7 = 0) = False from eq_false (by decide), show (nI 7 = 1) = False from eq_false (by decide), show (nI 7 = 2) = False from eq_false (by decide), show (nI 7 = 3) = False from eq_false (by decide), show (nI 7 = 4) = False from eq_false (by decide), show (nI 7 = 5) = False from eq_false (by decide), show (nI 7 = 6) = False from eq_false (by decide), show (nI 7 = 7) = True from eq_true (by decide), if_true, h7]
    rfl
  · simp only [D_X9_howMany, if_false, show ((nI 8).toInt < 0 ∨ 8 < (nI 8).toInt) = False from eq_false (by decide), show (nI 8 = 0) = False from eq_false (by decide), show (nI 8 = 1) = False from eq_false (by decide), show (nI 8 = 2) = False from eq_false (by decide), show (nI 8 = 3) = False from eq_false (by decide), show (nI 8 = 4) = False from eq_false (by decide), show (nI 8 = 5) = False from eq_false (by decide), show (nI 8 = 6) = False from eq_false (by decide), show (nI 8 = 7) = False from eq_false (by decide), show (nI 8 = 8) = True from eq_true (by decide), if_true, h0]
    rfl
theorem S_count_ok : S_count Rel := by
  intro n σ τ a hR hn
  have hR' := hR
  obtain ⟨np, sz, pl, rd, pg, c, k, hH, hP, hT, hM, hV, hK⟩ := hR (by omega)
  have hFT : FT np sz c σ := ⟨hH.2.1, hH.2.2.2.1, hT⟩
  have hFM : FM np sz c τ := ⟨hH.2.2.1, hH.2.2.2.2.1, hM⟩
  rcases rng a (m := 8) (by omega) with ⟨w, hw, rfl⟩ | ⟨h1, -⟩
  · refine ⟨cv np sz pl rd c w, countT hH.1 hFT hP.2.1 hH.2.2.2.2.2.1 hw, ?_, Rel.query hR' hn EqT.rfl' EqM.rfl'⟩
    unfold D_X9_count
    rw [countM hH.1 hFM hV hP.2.2.1 hH.2.2.2.2.2.2.1 hw, Option.bind_some]
  · refine ⟨-102, ?_, ?_, Rel.query hR' hn EqT.rfl' EqM.rfl'⟩
    · unfold D_X8_count
      rw [if_pos (show a.toInt < 0 ∨ 8 < a.toInt from h1)]
    · unfold D_X9_count D_X9_howMany
      rw [if_pos (show a.toInt < 0 ∨ 8 < a.toInt from h1), Option.bind_some]
