/-! digest. -/
noncomputable def mx (h : Int64) (v : Int32) : Int64 := 31 * h + v.toInt64
noncomputable def ansv (sz : Nat) (c : CO) (p : Nat) (x : Int32) : Int32 := if x = 0 then nI (bs sz (hp sz c p) (2 ^ sz)).1 else nI (dl sz (2 ^ (bs sz (hp sz c p) (2 ^ sz)).1) (hp sz c p))
noncomputable def dpl (np sz : Nat) (c : CO) (h : Int64) (p : Nat) : Int64 := mx (mx (mx (mx (lp (fun w (a : Int64) => mx a (pv sz c p w)) 7 h) (ansv sz c p 0)) (ansv sz c p 1)) (odv np sz c p 9 0)) (odv np sz c p 9 1)
noncomputable def dfin (np sz pl rd : Nat) (pg : Nat → Nat) (c : CO) (h : Int64) : Int64 := lp (fun w (a : Int64) => mx a (cv np sz pl rd c w)) 9 (lp (fun i (a : Int64) => mx a (nI (pg i))) pl h)
noncomputable def dgv (np sz pl rd : Nat) (pg : Nat → Nat) (c : CO) (rv : Int32) : Int64 := dfin np sz pl rd pg c (if np = 0 then mx (mx (lp (fun p (a : Int64) => dpl np sz c a p) np 1297) (-101)) (-101) else mx (mx (mx (lp (fun p (a : Int64) => dpl np sz c a p) np 1297) (nI (dl sz (hp sz c 0) (hp sz c 1)))) (nI (dl sz (hp sz c 1) (hp sz c 0)))) rv)
theorem ansC {np sz p : Nat} {c : CO} {σ : ST} {x : Int32} (hN : NS np sz) (hP : PT np sz c σ) (hV : VC np sz c) (hp0 : p < np) (hx : x = 0 ∨ x = 1) : ∃ σ', D_X8_answer σ (nI p) x = some (ansv sz c p x, σ') ∧ EqT σ σ' := by
  obtain ⟨σ', g1, gE⟩ := answerT (w := x) hN hP hV hp0
  refine ⟨σ', ?_, gE⟩
  have e1 := isPlT hP.1 hN.np hp0
  rcases hx with rfl | rfl
  · simp only [D_X8_answer, e1, Option.bind_some, i10, i00, if_false, if_true, g1]
    rfl
  · simp only [D_X8_answer, e1, Option.bind_some, i10, i00, if_false, if_true, g1]
    rfl
theorem odC {np sz p : Nat} {c : CO} {σ : ST} {x : Int32} (hN : NS np sz) (hF : FT np sz c σ) (hV : VC np sz c) (hp0 : p < np) (hx : x = 0 ∨ x = 1) : ∃ σ', D_X8_odds σ (nI p) 9 x = some (odv np sz c p 9 x, σ') ∧ EqT σ σ' := by
  obtain ⟨σ', g1, gE⟩ := oddsC (x := x) (n := 9) hN hF hV hp0 (by omega)
  refine ⟨σ', ?_, gE⟩
  have e1 := isPlT hF.1 hN.np hp0
  have x0 : ¬ x < 0 := by rcases hx with rfl | rfl <;> decide
  have x1 : x ≤ 1 := by rcases hx with rfl | rfl <;> decide
  unfold D_X8_odds
  rw [e1, Option.bind_some, if_neg (by decide), if_neg (by decide), if_neg (by decide), if_neg x0, if_pos x1]
  exact g1
theorem duC {np sz a b : Nat} {c : CO} {σ : ST} (hN : NS np sz) (hP : PT np sz c σ) (hV : VC np sz c) (ha : a < np) (hb : b < np) (hab : a ≠ b) : ∃ σ', D_X8_duel σ (nI a) (nI b) = some (nI (dl sz (hp sz c a) (hp sz c b)), σ') ∧ EqT σ σ' := by
  have hnp := hN.np
  obtain ⟨n2, n3⟩ := hN.pos (show 0 < np by omega)
  obtain ⟨σ', g1, gE⟩ := dlT σ n3 hN.sz (hp_in hN hV ha) (hp_in hN hV hb)
  refine ⟨σ', ?_, gE⟩
  simp only [D_X8_duel, isPlT hP.1 hnp ha, isPlT hP.1 hnp hb, Option.bind_some, i10, if_false, ieq hab (show a < 2 ^ 31 by omega) (by omega), rHT hN hP hV ha, rHT hN hP hV hb, hP.2.1, g1]
theorem digTail {np sz pl rd : Nat} {pg : Nat → Nat} {c : CO} {σ : ST} (hN : NS np sz) (hF : FT np sz c σ) (hV : PGV pl pg) (hP : PGT pl pg σ) (h3 : gI σ 3 = nI rd) (h : Int64) : D_X8_digest_b136 σ h = some (dfin np sz pl rd pg c h, σ) := by
  have h28 := hV.1
  unfold D_X8_digest_b136 D_X8_digest_L138
  refine itr_f (f := fun i => (σ, lp (fun i (a : Int64) => mx a (nI (pg i))) i h, nI i)) (N := pl) (by omega) (fun i hi rec => ?_) (fun rec => ?_)
  · show D_X8_digest_L138_body rec σ (lp (fun i (a : Int64) => mx a (nI (pg i))) i h) (nI i) = rec (σ, lp (fun i (a : Int64) => mx a (nI (pg i))) (i + 1) h, nI (i + 1))
    simp only [D_X8_digest_L138_body, D_X5_length, hP.1, Option.bind_some, inle hi (show pl < 2 ^ 31 by omega), if_false, atT hV hP hi, D_X8_with, nI_1, lp_s, mx]
  · show D_X8_digest_L138_body rec σ (lp (fun i (a : Int64) => mx a (nI (pg i))) pl h) (nI pl) = _
    simp only [D_X8_digest_L138_body, D_X5_length, hP.1, Option.bind_some, ile (Nat.le_refl pl) (show pl < 2 ^ 31 by omega), if_true]
    unfold D_X8_digest_L171 dfin
    generalize lp (fun i (a : Int64) => mx a (nI (pg i))) pl h = H
    refine itr_f (f := fun w => (σ, lp (fun w (a : Int64) => mx a (cv np sz pl rd c w)) w H, nI w)) (N := 9) (by omega) (fun w hw rec => ?_) (fun rec => ?_)
    · show D_X8_digest_L171_body rec σ (lp (fun w (a : Int64) => mx a (cv np sz pl rd c w)) w H) (nI w) = rec (σ, lp (fun w (a : Int64) => mx a (cv np sz pl rd c w)) (w + 1) H, nI (w + 1))
      have c8 : ((8 : Int32) < nI w) = False := inlt (b := w) (a := 8) (by omega) (by omega)
      simp only [D_X8_digest_L171_body, c8, if_false, countT hN hF hP.1 h3 (show w ≤ 8 by omega), Option.bind_some, D_X8_with, nI_1, lp_s, mx]
    · show D_X8_digest_L171_body rec σ (lp (fun w (a : Int64) => mx a (cv np sz pl rd c w)) 9 H) (nI 9) = _
      simp only [D_X8_digest_L171_body, show ((8 : Int32) < nI 9) = True from eq_true (by decide), if_true]
theorem digPl {np sz p : Nat} {c : CO} {σ : ST} (hN : NS np sz) (hF : FT np sz c σ) (hV : VC np sz c) (hp0 : p < np) (h : Int64) : ∃ b, (∃ σ', b = (σ', dpl np sz c h p, nI (p + 1)) ∧ EqT σ σ') ∧ ∀ κ, D_X8_digest_L17 κ σ h (nI p) 0 = κ b := by
  have main := itr_k (F := fun κ rec (a : (ST × Int64 × Int32 × Int32)) => D_X8_digest_L17_body κ rec a.1 a.2.1 a.2.2.1 a.2.2.2) (fuel := 200) (a0 := (σ, h, nI p, 0)) (fun i a => ∃ σ', a = (σ', lp (fun w (a : Int64) => mx a (pv sz c p w)) i h, nI p, nI i) ∧ EqT σ σ') (fun b => ∃ σ', b = (σ', dpl np sz c h p, nI (p + 1)) ∧ EqT σ σ') (N := 7) (by omega) ⟨σ, rfl, EqT.rfl'⟩ ?_ ?_
  · obtain ⟨b, hb, hk⟩ := main
    exact ⟨b, hb, fun κ => hk κ⟩
  · rintro i hi a ⟨σ', rfl, hE⟩
    obtain ⟨σ2, g, gE⟩ := playerT hN (hF.eq hE) hV hp0 (show i ≤ 6 by omega)
    refine ⟨_, ⟨σ2, rfl, hE.trans gE⟩, fun κ rec => ?_⟩
    show D_X8_digest_L17_body κ rec σ' (lp (fun w (a : Int64) => mx a (pv sz c p w)) i h) (nI p) (nI i) = _
    have c6 : ((6 : Int32) < nI i) = False := inlt (b := i) (a := 6) (by omega) (by omega)
    simp only [D_X8_digest_L17_body, c6, if_false, g, Option.bind_some, D_X8_with, nI_1, lp_s, mx]
  · rintro a ⟨σ', rfl, hE⟩
    have hF1 := hF.eq hE
    obtain ⟨σ1, g1, E1⟩ := ansC (x := 0) hN hF1.pt hV hp0 (Or.inl rfl)
    have hF2 := hF1.eq E1
    obtain ⟨σ2, g2, E2⟩ := ansC (x := 1) hN hF2.pt hV hp0 (Or.inr rfl)
    have hF3 := hF2.eq E2
    obtain ⟨σ3, g3, E3⟩ := odC (x := 0) hN hF3 hV hp0 (Or.inl rfl)
    have hF4 := hF3.eq E3
    obtain ⟨σ4, g4, E4⟩ := odC (x := 1) hN hF4 hV hp0 (Or.inr rfl)
    refine ⟨_, ⟨σ4, rfl, (((hE.trans E1).trans E2).trans E3).trans E4⟩, fun κ rec => ?_⟩
    show D_X8_digest_L17_body κ rec σ' (lp (fun w (a : Int64) => mx a (pv sz c p w)) 7 h) (nI p) (nI 7) = _
    unfold dpl
    generalize lp (fun w (a : Int64) => mx a (pv sz c p w)) 7 h = H
    simp only [D_X8_digest_L17_body, show ((6 : Int32) < nI 7) = True from eq_true (by decide), if_true, g1, g2, g3, g4, Option.bind_some, D_X8_with, nI_1, mx]
theorem digT {np sz pl rd : Nat} {pg : Nat → Nat} {c : CO} {σ : ST} {rv : Int32} (hN : NS np sz) (hF : FT np sz c σ) (hV : VC np sz c) (hW : PGV pl pg) (hP : PGT pl pg σ) (h3 : gI σ 3 = nI rd) (hr : 0 < np → ∀ σ, PT np sz c σ → ∃ σ', D_X8_ring σ = some (rv, σ') ∧ EqT σ σ') : ∃ σ', D_X8_digest σ = some (dgv np sz pl rd pg c rv, σ') ∧ EqT σ σ' := by
  have hnp := hN.np
  have tail : ∀ σ' h, EqT σ σ' → D_X8_digest_b136 σ' h = some (dfin np sz pl rd pg c h, σ') := fun σ' h hE => digTail hN (hF.eq hE) hW ⟨(hE.1 4 (by decide)).trans hP.1, fun j hj => by rw [hE.2 0 (by decide)]; exact hP.2 j hj⟩ ((hE.1 3 (by decide)).trans h3) h
  unfold D_X8_digest D_X8_digest_L6
  refine itr_i (fun i a => ∃ σ', a = (σ', lp (fun p (a : Int64) => dpl np sz c a p) i 1297, nI i) ∧ EqT σ σ') (fun r => ∃ σ', r = some (dgv np sz pl rd pg c rv, σ') ∧ EqT σ σ') (N := np) (by omega) ⟨σ, rfl, EqT.rfl'⟩ ?_ ?_
  · rintro i hi a ⟨σ', rfl, hE⟩
    have hF1 := hF.eq hE
    obtain ⟨b, ⟨σ2, hb, E2⟩, hk⟩ := digPl hN hF1 hV hi (lp (fun p (a : Int64) => dpl np sz c a p) i 1297)
    refine ⟨_, ⟨σ2, hb, hE.trans E2⟩, fun rec => ?_⟩
    show D_X8_digest_L6_body rec σ' (lp (fun p (a : Int64) => dpl np sz c a p) i 1297) (nI i) = _
    simp only [D_X8_digest_L6_body, hF1.1, inle hi (show np < 2 ^ 31 by omega), if_false, hk]
  · rintro a ⟨σ', rfl, hE⟩
    have hF1 := hF.eq hE
    unfold dgv
    generalize lp (fun p (a : Int64) => dpl np sz c a p) np 1297 = H
    by_cases h0 : np = 0
    · have e0 : ∀ v : Int32, (v = 0 ∨ v = 1) → D_X8_isPlayer σ' v = some 0 := fun v hv => by
        unfold D_X8_isPlayer
        rw [hF1.1, h0]
        rcases hv with rfl | rfl <;> rfl
      have d01 : D_X8_duel σ' 0 1 = some (-101, σ') := by
        simp only [D_X8_duel, e0 0 (Or.inl rfl), Option.bind_some, i00, if_true]
      have d10 : D_X8_duel σ' 1 0 = some (-101, σ') := by
        simp only [D_X8_duel, e0 1 (Or.inr rfl), Option.bind_some, i00, if_true]
      refine ⟨_, ⟨σ', rfl, hE⟩, fun rec => ?_⟩
      show D_X8_digest_L6_body rec σ' H (nI np) = _
      rw [if_pos h0]
      simp only [D_X8_digest_L6_body, hF1.1, ile (Nat.le_refl np) (show np < 2 ^ 31 by omega), if_true, d01, d10, Option.bind_some, D_X8_with, show (nI np ≤ 0) = True from eq_true (by rw [h0]; decide), tail σ' _ hE, mx]
    · obtain ⟨n2, n3⟩ := hN.pos (show 0 < np by omega)
      obtain ⟨σ1, g1, E1⟩ := duC (a := 0) (b := 1) hN hF1.pt hV (by omega) (by omega) (by omega)
      have hF2 := hF1.eq E1
      obtain ⟨σ2, g2, E2⟩ := duC (a := 1) (b := 0) hN hF2.pt hV (by omega) (by omega) (by omega)
      have hF3 := hF2.eq E2
      obtain ⟨σ3, g3, E3⟩ := hr (by omega) σ2 hF3.pt
      have E := ((hE.trans E1).trans E2).trans E3
      refine ⟨_, ⟨σ3, rfl, E⟩, fun rec => ?_⟩
      show D_X8_digest_L6_body rec σ' H (nI np) = _
      rw [if_neg h0]
      have g1' : D_X8_duel σ' 0 1 = _ := g1
      have g2' : D_X8_duel σ1 1 0 = _ := g2
      simp only [D_X8_digest_L6_body, hF1.1, ile (Nat.le_refl np) (show np < 2 ^ 31 by omega), if_true, g1', g2', g3, Option.bind_some, D_X8_with, hF3.1, eq_false (nI_nle (show 0 < np by omega) (show np < 2 ^ 31 by omega)), if_false, tail σ3 _ E, mx]
