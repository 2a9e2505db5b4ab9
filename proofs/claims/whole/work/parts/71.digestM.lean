/-! digest of the reference. -/
def EqN (τ τ' : ST) : Prop := (∀ k, k ≠ 8 → k ≠ 9 → k ≠ 10 → gI τ' k = gI τ k) ∧ ∀ a, (a < 7 ∨ 10 < a) → gA τ' a = gA τ a
theorem EqM.n {τ τ' : ST} (h : EqM τ τ') : EqN τ τ' := ⟨h.1, h.2.1⟩
theorem EqN.m {τ τ' : ST} (h : EqN τ τ') : EqM τ (pJ τ' 1 (gJ τ 1)) := ⟨h.1, h.2, rfl⟩
theorem EqN.trans {a b c : ST} (h1 : EqN a b) (h2 : EqN b c) : EqN a c := ⟨fun k h8 h9 h10 => (h2.1 k h8 h9 h10).trans (h1.1 k h8 h9 h10), fun k hk => (h2.2 k hk).trans (h1.2 k hk)⟩
theorem EqN.pJ (τ : ST) (k : Nat) (v : Int64) : EqN τ (pJ τ k v) := ⟨fun _ _ _ _ => rfl, fun _ _ => rfl⟩
theorem FM.eqN {np sz : Nat} {c : CO} {τ τ' : ST} (h : FM np sz c τ) (hE : EqN τ τ') : FM np sz c τ' := by
  have h2 : FM np sz c (pJ τ' 1 (gJ τ 1)) := h.eq hE.m
  exact h2
theorem mixS {τ τ' τ1 : ST} {h : Int64} (v : Int32) (hE : EqN τ τ') (h1 : EqM τ' τ1) (hj : gJ τ' 1 = h) : ∃ τ2, D_X9_mix τ1 v.toInt64 = some τ2 ∧ EqN τ τ2 ∧ gJ τ2 1 = mx h v := by
  refine ⟨pJ τ1 1 (31 * gJ τ1 1 + v.toInt64), rfl, (hE.trans h1.n).trans (EqN.pJ _ _ _), ?_⟩
  rw [gJ_pJ, if_pos rfl, h1.2.2, hj]
  rfl
theorem mixPl {np sz p : Nat} {c : CO} {τ : ST} {h : Int64} (hN : NS np sz) (hF : FM np sz c τ) (hV : VC np sz c) (hp0 : p < np) (hj : gJ τ 1 = h) : ∃ τ', D_X9_mixPlayer τ (nI p) = some τ' ∧ EqN τ τ' ∧ gJ τ' 1 = dpl np sz c h p := by
  unfold D_X9_mixPlayer D_X9_mixPlayer_L2
  refine itr_i (fun i a => ∃ τ', a = (τ', nI p, nI i) ∧ EqN τ τ' ∧ gJ τ' 1 = lp (fun w (a : Int64) => mx a (pv sz c p w)) i h) (fun r => ∃ τ', r = some τ' ∧ EqN τ τ' ∧ gJ τ' 1 = dpl np sz c h p) (N := 7) (by omega) ⟨τ, rfl, ⟨fun _ _ _ _ => rfl, fun _ _ => rfl⟩, hj⟩ ?_ ?_
  · rintro i hi a ⟨τ', rfl, hE, hh⟩
    obtain ⟨τ1, g, gE⟩ := playerM hN (hF.eqN hE) hV hp0 (show i ≤ 6 by omega)
    obtain ⟨τ2, g2, hE2, hj2⟩ := mixS (pv sz c p i) hE gE hh
    refine ⟨_, ⟨τ2, rfl, hE2, hj2⟩, fun rec => ?_⟩
    show D_X9_mixPlayer_L2_body rec τ' (nI p) (nI i) = _
    have c7 : ((7 : Int32) ≤ nI i) = False := inle (b := i) (a := 7) hi (by omega)
    simp only [D_X9_mixPlayer_L2_body, c7, if_false, g, Option.bind_some, g2, nI_1]
  · rintro a ⟨τ', rfl, hE, hh⟩
    obtain ⟨t1, g1, E1⟩ := answerM (w := 0) hN (hF.eqN hE).pm hV hp0
    obtain ⟨u1, m1, F1, j1⟩ := mixS (ansv sz c p 0) hE E1 hh
    obtain ⟨t2, g2, E2⟩ := answerM (w := 1) hN (hF.eqN F1).pm hV hp0
    obtain ⟨u2, m2, F2, j2⟩ := mixS (ansv sz c p 1) F1 E2 j1
    obtain ⟨t3, g3, E3⟩ := oddsR (x := 0) (n := 9) hN (hF.eqN F2) hV hp0 (by omega) (by omega)
    obtain ⟨u3, m3, F3, j3⟩ := mixS (odv np sz c p 9 0) F2 E3 j2
    obtain ⟨t4, g4, E4⟩ := oddsR (x := 1) (n := 9) hN (hF.eqN F3) hV hp0 (by omega) (by omega)
    obtain ⟨u4, m4, F4, j4⟩ := mixS (odv np sz c p 9 1) F3 E4 j3
    refine ⟨_, ⟨u4, rfl, F4, j4⟩, fun rec => ?_⟩
    show D_X9_mixPlayer_L2_body rec τ' (nI p) (nI 7) = _
    have g1' : D_X9_answerNow τ' (nI p) 0 = some (ansv sz c p 0, t1) := g1
    have g2' : D_X9_answerNow u1 (nI p) 1 = some (ansv sz c p 1, t2) := g2
    have g3' : D_X9_oddsNow u2 (nI p) 9 0 = some (odv np sz c p 9 0, t3) := g3
    have g4' : D_X9_oddsNow u3 (nI p) 9 1 = some (odv np sz c p 9 1, t4) := g4
    simp only [D_X9_mixPlayer_L2_body, show ((7 : Int32) ≤ nI 7) = True from eq_true (by decide), if_true, g1', g2', g3', g4', m1, m2, m3, m4, Option.bind_some]
theorem isPlM {τ : ST} {np p : Nat} (h1 : gI τ 1 = nI np) (h4 : np ≤ 4) (hp0 : p < np) : D_X9_isPlayer τ (nI p) = some 1 := by
  have no : vp_nar .boolean 1 = 1 := by decide
  unfold D_X9_isPlayer
  obtain ⟨m, rfl⟩ : ∃ m, np = m + 1 := ⟨np - 1, by omega⟩
  rw [h1, nI_pred, win_in (by omega) (by omega), Option.bind_some, no, if_neg (fun q => q rfl)]
theorem duR {np sz a b : Nat} {c : CO} {τ : ST} (hN : NS np sz) (hP : PM np sz c τ) (hV : VC np sz c) (ha : a < np) (hb : b < np) (hab : a ≠ b) : ∃ τ', D_X9_duel τ (nI a) (nI b) = some (nI (dl sz (hp sz c a) (hp sz c b)), τ') ∧ EqM τ τ' := by
  have hnp := hN.np
  obtain ⟨f, g⟩ := duelNowM hN hP hV ha hb
  refine ⟨pG τ 0 f, ?_, EqM.pG _ _ _⟩
  simp only [D_X9_duel, isPlM hP.1 hnp ha, isPlM hP.1 hnp hb, Option.bind_some, i10, if_false, ieq hab (show a < 2 ^ 31 by omega) (by omega), g]
theorem tail95 {np sz pl rd : Nat} {c : CO} {τ τ0' : ST} {h : Int64} (hN : NS np sz) (hF : FM np sz c τ) (hV : VC np sz c) (h7 : gI τ 7 = nI pl) (h0 : gI τ 0 = nI rd) (hE0 : EqN τ τ0') (hj : gJ τ0' 1 = h) : ∃ τ', D_X9_digest_L95 τ0' 0 = some (lp (fun w (a : Int64) => mx a (cv np sz pl rd c w)) 9 h, τ') ∧ EqN τ τ' := by
  unfold D_X9_digest_L95
  refine itr_i (fun i a => ∃ τ', a = (τ', nI i) ∧ EqN τ τ' ∧ gJ τ' 1 = lp (fun w (a : Int64) => mx a (cv np sz pl rd c w)) i h) (fun r => ∃ τ', r = some (lp (fun w (a : Int64) => mx a (cv np sz pl rd c w)) 9 h, τ') ∧ EqN τ τ') (N := 9) (by omega) ⟨τ0', rfl, hE0, hj⟩ ?_ ?_
  · rintro i hi a ⟨τ', rfl, hE, hh⟩
    have g := countM (pl := pl) (rd := rd) hN (hF.eqN hE) hV ((hE.1 7 (by decide) (by decide) (by decide)).trans h7) ((hE.1 0 (by decide) (by decide) (by decide)).trans h0) (show i ≤ 8 by omega)
    obtain ⟨τ2, g2, hE2, hj2⟩ := mixS (cv np sz pl rd c i) hE EqM.rfl' hh
    refine ⟨_, ⟨τ2, rfl, hE2, hj2⟩, fun rec => ?_⟩
    show D_X9_digest_L95_body rec τ' (nI i) = _
    have c9 : ((9 : Int32) ≤ nI i) = False := inle (b := i) (a := 9) hi (by omega)
    simp only [D_X9_digest_L95_body, c9, if_false, g, Option.bind_some, g2, nI_1]
  · rintro a ⟨τ', rfl, hE, hh⟩
    refine ⟨_, ⟨τ', rfl, hE⟩, fun rec => ?_⟩
    show D_X9_digest_L95_body rec τ' (nI 9) = _
    simp only [D_X9_digest_L95_body, show ((9 : Int32) ≤ nI 9) = True from eq_true (by decide), if_true, hh]
theorem tail66 {np sz pl rd : Nat} {pg : Nat → Nat} {c : CO} {τ τ0' : ST} {h : Int64} (hN : NS np sz) (hF : FM np sz c τ) (hV : VC np sz c) (hW : PGV pl pg) (hP : PGM pl pg τ) (h0 : gI τ 0 = nI rd) (hE0 : EqN τ τ0') (hj : gJ τ0' 1 = h) : ∃ τ', D_X9_digest_b66 τ0' = some (dfin np sz pl rd pg c h, τ') ∧ EqN τ τ' := by
  have h28 := hW.1
  unfold D_X9_digest_b66 D_X9_digest_L68
  refine itr_i (fun i a => ∃ τ', a = (τ', nI i) ∧ EqN τ τ' ∧ gJ τ' 1 = lp (fun i (a : Int64) => mx a (nI (pg i))) i h) (fun r => ∃ τ', r = some (dfin np sz pl rd pg c h, τ') ∧ EqN τ τ') (N := pl) (by omega) ⟨τ0', rfl, hE0, hj⟩ ?_ ?_
  · rintro i hi a ⟨τ', rfl, hE, hh⟩
    obtain ⟨τ2, g2, hE2, hj2⟩ := mixS (nI (pg i)) hE EqM.rfl' hh
    refine ⟨_, ⟨τ2, rfl, hE2, hj2⟩, fun rec => ?_⟩
    show D_X9_digest_L68_body rec τ' (nI i) = _
    have p7 : gI τ' 7 = nI pl := (hE.1 7 (by decide) (by decide) (by decide)).trans hP.1
    have p6 : gA τ' 6 i = nI (pg i) := by rw [hE.2 6 (by decide)]; exact hP.2 i hi
    simp only [D_X9_digest_L68_body, p7, inle hi (show pl < 2 ^ 31 by omega), if_false, gin (show i < 28 by omega) (by omega), cl (show i < 2 ^ 31 by omega), p6, g2, Option.bind_some, nI_1]
  · rintro a ⟨τ', rfl, hE, hh⟩
    obtain ⟨τ2, g2, hE2⟩ := tail95 (pl := pl) (rd := rd) hN hF hV hP.1 h0 hE hh
    refine ⟨_, ⟨τ2, rfl, hE2⟩, fun rec => ?_⟩
    show D_X9_digest_L68_body rec τ' (nI pl) = _
    have p7 : gI τ' 7 = nI pl := (hE.1 7 (by decide) (by decide) (by decide)).trans hP.1
    simp only [D_X9_digest_L68_body, p7, ile (Nat.le_refl pl) (show pl < 2 ^ 31 by omega), if_true, g2]
    rfl
theorem digM {np sz pl rd : Nat} {pg : Nat → Nat} {c : CO} {τ : ST} {rv : Int32} (hN : NS np sz) (hF : FM np sz c τ) (hV : VC np sz c) (hW : PGV pl pg) (hP : PGM pl pg τ) (h0 : gI τ 0 = nI rd) (hr : 0 < np → ∀ τ, PM np sz c τ → ∃ τ', D_X9_ringNow τ = some (rv, τ') ∧ EqM τ τ') : ∃ τ', D_X9_digest τ = some (dgv np sz pl rd pg c rv, τ') ∧ EqN τ τ' := by
  have hnp := hN.np
  unfold D_X9_digest D_X9_digest_L9
  refine itr_i (fun i a => ∃ τ', a = (τ', nI i) ∧ EqN τ τ' ∧ gJ τ' 1 = lp (fun p (a : Int64) => dpl np sz c a p) i 1297) (fun r => ∃ τ', r = some (dgv np sz pl rd pg c rv, τ') ∧ EqN τ τ') (N := np) (by omega) ⟨_, rfl, EqN.pJ _ _ _, by rw [gJ_pJ, if_pos rfl]; rfl⟩ ?_ ?_
  · rintro i hi a ⟨τ', rfl, hE, hh⟩
    have hF1 := hF.eqN hE
    obtain ⟨τ2, g, E2, j2⟩ := mixPl hN hF1 hV hi hh
    refine ⟨_, ⟨τ2, rfl, hE.trans E2, j2⟩, fun rec => ?_⟩
    show D_X9_digest_L9_body rec τ' (nI i) = _
    simp only [D_X9_digest_L9_body, hF1.1, inle hi (show np < 2 ^ 31 by omega), if_false, g, Option.bind_some, nI_1]
  · rintro a ⟨τ', rfl, hE, hh⟩
    have hF1 := hF.eqN hE
    unfold dgv
    generalize lp (fun p (a : Int64) => dpl np sz c a p) np 1297 = H at *
    by_cases q0 : np = 0
    · have e0 : ∀ (t : ST) (v : Int32), gI t 1 = nI np → (v = 0 ∨ v = 1) → D_X9_isPlayer t v = some 0 := fun t v ht hv => by
        unfold D_X9_isPlayer
        rw [ht, q0]
        rcases hv with rfl | rfl <;> decide
      have d01 : D_X9_duel τ' 0 1 = some (-101, τ') := by
        simp only [D_X9_duel, e0 τ' 0 hF1.1 (Or.inl rfl), Option.bind_some, i00, if_true]
      obtain ⟨τ1, g1, E1, j1⟩ := mixS (-101) hE EqM.rfl' hh
      have hF2 := hF.eqN E1
      have d10 : D_X9_duel τ1 1 0 = some (-101, τ1) := by
        simp only [D_X9_duel, e0 τ1 1 hF2.1 (Or.inr rfl), Option.bind_some, i00, if_true]
      obtain ⟨τ2, g2, E2, j2⟩ := mixS (-101) E1 EqM.rfl' j1
      have hF3 := hF.eqN E2
      obtain ⟨τ3, g3, E3⟩ := tail66 (rd := rd) hN hF hV hW hP h0 E2 j2
      refine ⟨_, ⟨τ3, rfl, E3⟩, fun rec => ?_⟩
      show D_X9_digest_L9_body rec τ' (nI np) = _
      rw [if_pos q0]
      simp only [D_X9_digest_L9_body, hF1.1, ile (Nat.le_refl np) (show np < 2 ^ 31 by omega), if_true, d01, d10, Option.bind_some, g1, g2, hF3.1, show (nI np ≤ 0) = True from eq_true (by rw [q0]; decide), g3]
    · obtain ⟨n2, n3⟩ := hN.pos (show 0 < np by omega)
      obtain ⟨t1, g1, E1⟩ := duR (a := 0) (b := 1) hN hF1.pm hV (by omega) (by omega) (by omega)
      obtain ⟨u1, m1, F1, j1⟩ := mixS (nI (dl sz (hp sz c 0) (hp sz c 1))) hE E1 hh
      obtain ⟨t2, g2, E2⟩ := duR (a := 1) (b := 0) hN (hF.eqN F1).pm hV (by omega) (by omega) (by omega)
      obtain ⟨u2, m2, F2, j2⟩ := mixS (nI (dl sz (hp sz c 1) (hp sz c 0))) F1 E2 j1
      have hF3 := hF.eqN F2
      obtain ⟨t3, g3, E3⟩ := hr (by omega) u2 hF3.pm
      obtain ⟨u3, m3, F3, j3⟩ := mixS rv F2 E3 j2
      obtain ⟨t4, g4, E4⟩ := tail66 (rd := rd) hN hF hV hW hP h0 F3 j3
      refine ⟨_, ⟨t4, rfl, E4⟩, fun rec => ?_⟩
      show D_X9_digest_L9_body rec τ' (nI np) = _
      rw [if_neg q0]
      have g1' : D_X9_duel τ' 0 1 = some (nI (dl sz (hp sz c 0) (hp sz c 1)), t1) := g1
      have g2' : D_X9_duel u1 1 0 = some (nI (dl sz (hp sz c 1) (hp sz c 0)), t2) := g2
      simp only [D_X9_digest_L9_body, hF1.1, ile (Nat.le_refl np) (show np < 2 ^ 31 by omega), if_true, g1', g2', m1, m2, Option.bind_some, hF3.1, eq_false (nI_nle (show 0 < np by omega) (show np < 2 ^ 31 by omega)), if_false, g3, m3, g4]
theorem S_digest_ok : S_digest Rel := by
  intro n σ τ hR hn
  have hR' := hR
  obtain ⟨np, sz, pl, rd, pg, c, k, hH, hP, hT, hM, hV, hK⟩ := hR (by omega)
  obtain ⟨v1, v2, v3⟩ := hP.v
  have hFT : FT np sz c σ := ⟨hH.2.1, hH.2.2.2.1, hT⟩
  have hFM : FM np sz c τ := ⟨hH.2.2.1, hH.2.2.2.2.1, hM⟩
  obtain ⟨rv, r1, r2⟩ : ∃ rv : Int32, (0 < np → ∀ σ, PT np sz c σ → ∃ σ', D_X8_ring σ = some (rv, σ') ∧ EqT σ σ') ∧ (0 < np → ∀ τ, PM np sz c τ → ∃ τ', D_X9_ringNow τ = some (rv, τ') ∧ EqM τ τ') := by
    by_cases h0 : 0 < np
    · obtain ⟨v, a, b⟩ := ringB hH.1 h0 hV
      exact ⟨v, fun _ => a, fun _ => b⟩
    · exact ⟨0, fun q => absurd q h0, fun q => absurd q h0⟩
  obtain ⟨σ', g1, gE⟩ := digT hH.1 hFT hV v1 v2 hH.2.2.2.2.2.1 r1
  obtain ⟨τ', g2, gM⟩ := digM hH.1 hFM hV v1 v3 hH.2.2.2.2.2.2.1 r2
  refine ⟨dgv np sz pl rd pg c rv, σ', τ', g1, g2, ?_⟩
  have h := Rel.query hR' hn gE gM.m
  exact h
