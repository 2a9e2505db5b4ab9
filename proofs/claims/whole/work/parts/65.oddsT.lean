/-! odds of the class. -/
def AR (σ : ST) (a n : Nat) (u : Nat → Nat) : Prop := ∀ x, x < n → gA σ a x = nI (u x)
def gd (sz : Nat) (u : Nat → Nat) : Prop := u 0 = 0 ∧ ∀ x, 2 ^ (sz + 1) ≤ x → u x = 0
theorem gd_up {sz y : Nat} {z : Nat → Nat} (h : gd sz z) (h0 : 0 < y) (hy : y < 2 ^ (sz + 1)) (v : Nat) : gd sz (uN z y v) := by
  refine ⟨?_, fun x hx => ?_⟩
  · unfold uN; rw [if_neg (by omega)]; exact h.1
  · unfold uN; rw [if_neg (by omega)]; exact h.2 x hx
theorem AR_pA {σ : ST} {a n y v : Nat} {z : Nat → Nat} (h : AR σ a n z) : AR (pA σ a y (nI v)) a n (uN z y v) := fun x hx => by
  rw [gA_pA, if_pos rfl]
  unfold uN
  by_cases e : x = y
  · rw [if_pos e, e, upd_at]
  · rw [if_neg e, upd_ne _ _ e]; exact h x hx
theorem AR_ne {σ : ST} {a b n y : Nat} {v : Int32} {z : Nat → Nat} (h : AR σ a n z) (hab : a ≠ b) : AR (pA σ b y v) a n z := fun x hx => by
  rw [gA_pA, if_neg hab]; exact h x hx
theorem nm1 {t : Nat} (h : t < 2 ^ 31) : (nI t = (-1 : Int32)) = False := eq_false (fun q => by
    have h1 : (nI t).toInt = t := nI_toInt h
    rw [q] at h1
    have h2 : ((-1 : Int32)).toInt = -1 := by decide
    omega)
theorem mod_s {sz y : Nat} (h1 : 2 ^ sz ≤ y) (h2 : y < 2 ^ (sz + 1)) : y % 2 ^ sz = y - 2 ^ sz := by
  rw [Nat.pow_succ] at h2
  rw [Nat.mod_eq_sub_mod h1, Nat.mod_eq_of_lt (by omega)]
theorem sideC {np sz t d w p : Nat} {c : CO} {σ : ST} {u z : Nat → Nat} (hN : NS np sz) (hP : PT np sz c σ) (hV : VC np sz c) (hp0 : p < np) (ht : 0 < t) (ht2 : t < 2 ^ (sz + 1)) (hd : d < 2) (hu : AR σ 15 32 u) (hz : AR σ 16 32 z) (hg : gd sz z) : ∃ σ' w' z', (∀ rec13 rec39, D_X8_winsByToss_L39_body rec13 rec39 σ (nI (hp sz c p)) (nI (oal sz c np)) (nI w) (nI t) (nI d) = rec39 (σ', nI (hp sz c p), nI (oal sz c np), nI w', nI t, nI (d + 1))) ∧ EqT σ σ' ∧ AR σ' 15 32 u ∧ AR σ' 16 32 z' ∧ gd sz z' ∧ ∀ F e, ws (fun x => F (pj sz x)) z' 32 + w' * e = ws (fun x => F (pj sz x)) z 32 + w * e + u t * hF np sz c p F e (2 * pj sz t + d) := by
  have hnp := hN.np
  have h4 := hN.sz
  obtain ⟨n2, n3⟩ := hN.pos (show 0 < np by omega)
  obtain ⟨e1, hpj, hpj0⟩ := behT hP.2.1 n3 h4 ht2 hd
  have hpj0 := hpj0 ht
  have h16 := p2s h4
  have h32 : 2 ^ (sz + 1) ≤ 2 ^ 5 := two_le (by omega)
  have hh := hp_16 hN hV hp0
  have ha := oal_lt hN hV np (Nat.le_refl np)
  obtain ⟨y, hy⟩ : ∃ y, y = 2 * pj sz t + d := ⟨_, rfl⟩
  have hy2 : y < 2 ^ (sz + 1) := by rw [Nat.pow_succ]; omega
  have hy0 : 0 < y := by omega
  rw [← hy] at e1 ⊢
  have b109 : ∀ rec13 rec39, D_X8_winsByToss_b109 rec13 rec39 σ (nI (hp sz c p)) (nI (oal sz c np)) (nI w) (nI t) (nI d) (nI y) 0 = rec39 (pA σ 16 y (nI (z y + u t)), nI (hp sz c p), nI (oal sz c np), nI w, nI t, nI (d + 1)) := fun rec13 rec39 => by
    simp only [D_X8_winsByToss_b109, i00, if_true, eq_false (nI_pos (show y < 2 ^ 31 by omega)), if_false, show (32 : Int32) = nI 32 from rfl, inle (show y < 32 by omega) (by omega), cl (show y < 2 ^ 31 by omega), false_or, show ¬ 32 ≤ y by omega, gin (show t < 32 by omega) (by omega), cl (show t < 2 ^ 31 by omega), hz y (by omega), hu t (by omega), nI_add, D_X8_winsByToss_b146, nI_1, show ¬ 32 ≤ t by omega, eq_false (nI_pos (show t < 2 ^ 31 by omega))]
  have fin0 : ov np sz c y = false → (∀ rec13 rec39, D_X8_winsByToss_L39_body rec13 rec39 σ (nI (hp sz c p)) (nI (oal sz c np)) (nI w) (nI t) (nI d) = D_X8_winsByToss_b109 rec13 rec39 σ (nI (hp sz c p)) (nI (oal sz c np)) (nI w) (nI t) (nI d) (nI y) 0) → ∃ σ' w' z', (∀ rec13 rec39, D_X8_winsByToss_L39_body rec13 rec39 σ (nI (hp sz c p)) (nI (oal sz c np)) (nI w) (nI t) (nI d) = rec39 (σ', nI (hp sz c p), nI (oal sz c np), nI w', nI t, nI (d + 1))) ∧ EqT σ σ' ∧ AR σ' 15 32 u ∧ AR σ' 16 32 z' ∧ gd sz z' ∧ ∀ F e, ws (fun x => F (pj sz x)) z' 32 + w' * e = ws (fun x => F (pj sz x)) z 32 + w * e + u t * hF np sz c p F e y := fun ho hm => by
    refine ⟨pA σ 16 y (nI (z y + u t)), w, uN z y (z y + u t), fun r1 r2 => by rw [hm, b109], EqT.pA σ (by omega) _ _, AR_ne hu (by decide), AR_pA hz, gd_up hg hy0 hy2 _, fun F e => ?_⟩
    rw [ws_up, if_pos (by omega)]
    unfold hF
    rw [ho]
    show _ = _ + u t * F (pj sz y)
    omega
  rcases Nat.lt_or_ge y (2 ^ sz) with q | q
  · have e2 : D_X8_tailOf σ (nI y) = some (-1) := by
      unfold D_X8_tailOf
      rw [hP.1, if_neg (nI_nle (by omega) (by omega)), hP.2.1, sh1' (by omega), if_pos (nI_lt q (by omega))]
    refine fin0 (ov_f q) (fun r1 r2 => ?_)
    simp only [D_X8_winsByToss_L39_body, L2, inle hd (by omega), if_false, e1, Option.bind_some, e2, if_true, D_X8_winsByToss_b82, D_X8_winsByToss_b83, i00]
  · have e2 : D_X8_tailOf σ (nI y) = some (nI (y % 2 ^ sz)) := by
      unfold D_X8_tailOf
      rw [hP.1, if_neg (nI_nle (by omega) (by omega)), hP.2.1, sh1' (by omega), if_neg (nI_nlt q (by omega)), pk_sub q, mod_s q hy2]
    have hm : y % 2 ^ sz < 16 := by rw [mod_s q hy2]; rw [Nat.pow_succ] at hy2; omega
    have e3 := hasT (m := oal sz c np) (j := y % 2 ^ sz) (by omega) (by omega)
    rw [oal_wh] at e3
    by_cases hw : wh sz c (y % 2 ^ sz) np = 0
    · rw [if_pos hw] at e3
      refine fin0 (by rw [ov_t q, hw]; rfl) (fun r1 r2 => ?_)
      simp only [D_X8_winsByToss_L39_body, L2, inle hd (by omega), if_false, e1, Option.bind_some, e2, nm1 (show y % 2 ^ sz < 2 ^ 31 by omega), e3, show (nI 0 = 0) = True from eq_true rfl, if_true, D_X8_winsByToss_b82, D_X8_winsByToss_b83, i00]
    · rw [if_neg hw] at e3
      have ho : ov np sz c y = true := by
        rw [ov_t q]
        cases hb : Nat.beq (wh sz c (y % 2 ^ sz) np) 0 with
        | false => rfl
        | true => exact absurd (Nat.eq_of_beq_eq_true hb) hw
      have e4 := hasT (m := hp sz c p) (j := y % 2 ^ sz) (by omega) (by omega)
      rcases bit01 (hp sz c p) (y % 2 ^ sz) with hb | hb
      · rw [hb] at e4
        refine ⟨σ, w, z, fun r1 r2 => ?_, EqT.rfl', hu, hz, hg, fun F e => ?_⟩
        · simp only [D_X8_winsByToss_L39_body, L2, inle hd (by omega), if_false, e1, Option.bind_some, e2, nm1 (show y % 2 ^ sz < 2 ^ 31 by omega), e3, show (nI 1 = 0) = False from eq_false (by decide), D_X8_winsByToss_b83, i10, e4, show (nI 0 = 0) = True from eq_true rfl, if_true, D_X8_winsByToss_b109, D_X8_winsByToss_b146, nI_1]
        · unfold hF hi
          rw [ho, hb]
          show _ = _ + u t * 0
          omega
      · rw [hb] at e4
        refine ⟨σ, w + u t, z, fun r1 r2 => ?_, EqT.rfl', hu, hz, hg, fun F e => ?_⟩
        · simp only [D_X8_winsByToss_L39_body, L2, inle hd (by omega), if_false, e1, Option.bind_some, e2, nm1 (show y % 2 ^ sz < 2 ^ 31 by omega), e3, show (nI 1 = 0) = False from eq_false (by decide), D_X8_winsByToss_b83, i10, e4, D_X8_winsByToss_b109, D_X8_winsByToss_b146, nI_1, gin (show t < 32 by omega) (by omega), cl (show t < 2 ^ 31 by omega), hu t (by omega), nI_add, false_or, show ¬ 32 ≤ t by omega, eq_false (nI_pos (show t < 2 ^ 31 by omega))]
        · unfold hF hi
          rw [ho, hb]
          show _ = _ + u t * e
          rw [Nat.add_mul]
          omega
theorem trackC {np sz t w p : Nat} {c : CO} {σ : ST} {u z : Nat → Nat} (hN : NS np sz) (hP : PT np sz c σ) (hV : VC np sz c) (hp0 : p < np) (ht : 0 < t) (ht2 : t < 2 ^ (sz + 1)) (hu : AR σ 15 32 u) (hz : AR σ 16 32 z) (hg : gd sz z) : ∃ σ' w' z', (∀ rec13, D_X8_winsByToss_L39 rec13 σ (nI (hp sz c p)) (nI (oal sz c np)) (nI w) (nI t) 0 = rec13 (σ', nI (hp sz c p), nI (oal sz c np), nI w', nI (t + 1))) ∧ EqT σ σ' ∧ AR σ' 15 32 u ∧ AR σ' 16 32 z' ∧ gd sz z' ∧ ∀ F e, ws (fun x => F (pj sz x)) z' 32 + w' * e = ws (fun x => F (pj sz x)) z 32 + w * e + u t * HF np sz c p F e (pj sz t) := by
  obtain ⟨σ1, w1, z1, e1, E1, u1, y1, g1, s1⟩ := sideC (d := 0) (w := w) hN hP hV hp0 ht ht2 (by omega) hu hz hg
  obtain ⟨σ2, w2, z2, e2, E2, u2, y2, g2, s2⟩ := sideC (d := 1) (w := w1) hN (hP.eq E1) hV hp0 ht ht2 (by omega) u1 y1 g1
  refine ⟨σ2, w2, z2, fun rec13 => ?_, E1.trans E2, u2, y2, g2, fun F e => ?_⟩
  · unfold D_X8_winsByToss_L39
    rw [show (200 : Nat) = 197 + 1 + 1 + 1 from rfl, itr_s]
    show D_X8_winsByToss_L39_body rec13 _ σ (nI (hp sz c p)) (nI (oal sz c np)) (nI w) (nI t) (nI 0) = _
    rw [e1, itr_s]
    show D_X8_winsByToss_L39_body rec13 _ σ1 (nI (hp sz c p)) (nI (oal sz c np)) (nI w1) (nI t) (nI 1) = _
    rw [e2, itr_s]
    show D_X8_winsByToss_L39_body rec13 _ σ2 (nI (hp sz c p)) (nI (oal sz c np)) (nI w2) (nI t) (nI 2) = _
    simp only [D_X8_winsByToss_L39_body, L2, ile (Nat.le_refl 2) (by omega), if_true, D_X8_winsByToss_b152, nI_1]
  · have a1 := s1 F e
    have a2 := s2 F e
    unfold HF
    rw [Nat.mul_add]
    rw [show 2 * pj sz t + 0 = 2 * pj sz t from rfl] at a1
    omega
theorem fill34 (σ : ST) : D_J7_fill_53178_34 σ 0 = some (lp (zr 16) 32 σ) := by
  unfold D_J7_fill_53178_34 D_J7_fill_53178_34_L5
  refine itr_f (f := fun i => (lp (zr 16) i σ, (0 : Int32), nI i, (32 : Int32))) (N := 32) (by omega) (fun i hi rec => ?_) (fun rec => ?_)
  · show D_J7_fill_53178_34_L5_body rec (lp (zr 16) i σ) 0 (nI i) 32 = rec (lp (zr 16) (i + 1) σ, 0, nI (i + 1), 32)
    simp only [D_J7_fill_53178_34_L5_body, show (32 : Int32) = nI 32 from rfl, inle hi (by omega), if_false, cl (show i < 2 ^ 31 by omega), gin hi (by omega), nI_1, lp_s, zr]
  · show D_J7_fill_53178_34_L5_body rec (lp (zr 16) 32 σ) 0 (nI 32) 32 = _
    simp only [D_J7_fill_53178_34_L5_body, show (32 : Int32) = nI 32 from rfl, ile (Nat.le_refl 32) (by omega), if_true]
theorem fill33 (σ : ST) : D_J7_fill_53178_33 σ 0 = some (lp (zr 15) 32 σ) := by
  unfold D_J7_fill_53178_33 D_J7_fill_53178_33_L5
  refine itr_f (f := fun i => (lp (zr 15) i σ, (0 : Int32), nI i, (32 : Int32))) (N := 32) (by omega) (fun i hi rec => ?_) (fun rec => ?_)
  · show D_J7_fill_53178_33_L5_body rec (lp (zr 15) i σ) 0 (nI i) 32 = rec (lp (zr 15) (i + 1) σ, 0, nI (i + 1), 32)
    simp only [D_J7_fill_53178_33_L5_body, show (32 : Int32) = nI 32 from rfl, inle hi (by omega), if_false, cl (show i < 2 ^ 31 by omega), gin hi (by omega), nI_1, lp_s, zr]
  · show D_J7_fill_53178_33_L5_body rec (lp (zr 15) 32 σ) 0 (nI 32) 32 = _
    simp only [D_J7_fill_53178_33_L5_body, show (32 : Int32) = nI 32 from rfl, ile (Nat.le_refl 32) (by omega), if_true]
theorem winsC {np sz p : Nat} {c : CO} {σ : ST} {u : Nat → Nat} (hN : NS np sz) (hP : PT np sz c σ) (hV : VC np sz c) (hp0 : p < np) (hu : AR σ 15 32 u) (hg : gd sz u) (hb : ∀ x, x < 32 → u x < 2 ^ 31) : ∃ σ' w z, D_X8_winsByToss σ (nI (hp sz c p)) (nI (oal sz c np)) = some (nI w, σ') ∧ EqT σ σ' ∧ AR σ' 16 32 z ∧ gd sz z ∧ ∀ F e, ws (fun x => F (pj sz x)) z 32 + w * e = ws (fun x => HF np sz c p F e (pj sz x)) u 32 := by
  have main : ∃ r, D_X8_winsByToss σ (nI (hp sz c p)) (nI (oal sz c np)) = r ∧ ∃ σ' w z, r = some (nI w, σ') ∧ EqT σ σ' ∧ AR σ' 16 32 z ∧ gd sz z ∧ ∀ F e, ws (fun x => F (pj sz x)) z 32 + w * e = ws (fun x => HF np sz c p F e (pj sz x)) u 32 := by
    refine ⟨_, rfl, ?_⟩
    unfold D_X8_winsByToss
    rw [fill34, Option.bind_some]
    unfold D_X8_winsByToss_L13
    refine itr_i (fun i a => ∃ σ' w z, a = (σ', nI (hp sz c p), nI (oal sz c np), nI w, nI (i + 1)) ∧ EqT σ σ' ∧ AR σ' 15 32 u ∧ AR σ' 16 32 z ∧ gd sz z ∧ ∀ F e, ws (fun x => F (pj sz x)) z 32 + w * e = ws (fun x => HF np sz c p F e (pj sz x)) u (i + 1)) (fun r => ∃ σ' w z, r = some (nI w, σ') ∧ EqT σ σ' ∧ AR σ' 16 32 z ∧ gd sz z ∧ ∀ F e, ws (fun x => F (pj sz x)) z 32 + w * e = ws (fun x => HF np sz c p F e (pj sz x)) u 32) (N := 31) (by omega) ?_ ?_ ?_
    · refine ⟨lp (zr 16) 32 σ, 0, fun _ => 0, rfl, zr_T (by omega) 32 σ, fun x hx => ?_, fun x hx => zr_Z 16 32 σ x hx, ⟨rfl, fun _ _ => rfl⟩, fun F e => ?_⟩
      · rw [zr_A _ _ _ _ (by decide)]; exact hu x hx
      · rw [ws_z, ws_s, ws_0, hg.1]; omega
    · rintro i hi a ⟨σ', w, z, rfl, hE, h15, h16, gz, hs⟩
      by_cases q : u (i + 1) = 0
      · refine ⟨_, ⟨σ', w, z, rfl, hE, h15, h16, gz, fun F e => ?_⟩, fun rec => ?_⟩
        · rw [ws_s _ _ (i + 1), q, Nat.zero_mul, Nat.add_zero]; exact hs F e
        · show D_X8_winsByToss_L13_body rec σ' (nI (hp sz c p)) (nI (oal sz c np)) (nI w) (nI (i + 1)) = _
          simp only [D_X8_winsByToss_L13_body, show (32 : Int32) = nI 32 from rfl, inle (show i + 1 < 32 by omega) (by omega), if_false, gin (show i + 1 < 32 by omega) (by omega), cl (show i + 1 < 2 ^ 31 by omega), h15 (i + 1) (by omega), q, show (nI 0 = 0) = True from eq_true rfl, if_true, D_X8_winsByToss_b152, nI_1]
      · have ht2 : i + 1 < 2 ^ (sz + 1) := by
          rcases Nat.lt_or_ge (i + 1) (2 ^ (sz + 1)) with h | h
          · exact h
          · exact absurd (hg.2 _ h) q
        obtain ⟨σ2, w2, z2, e2, E2, u2, y2, g2, s2⟩ := trackC (w := w) hN (hP.eq hE) hV hp0 (show 0 < i + 1 by omega) ht2 h15 h16 gz
        refine ⟨_, ⟨σ2, w2, z2, rfl, hE.trans E2, u2, y2, g2, fun F e => ?_⟩, fun rec => ?_⟩
        · rw [ws_s _ _ (i + 1), s2 F e, hs F e]
        · show D_X8_winsByToss_L13_body rec σ' (nI (hp sz c p)) (nI (oal sz c np)) (nI w) (nI (i + 1)) = _
          simp only [D_X8_winsByToss_L13_body, show (32 : Int32) = nI 32 from rfl, inle (show i + 1 < 32 by omega) (by omega), if_false, gin (show i + 1 < 32 by omega) (by omega), cl (show i + 1 < 2 ^ 31 by omega), h15 (i + 1) (by omega), in0 (show 0 < u (i + 1) by omega) (hb (i + 1) (by omega)), e2]
    · rintro a ⟨σ', w, z, rfl, hE, h15, h16, gz, hs⟩
      refine ⟨some (nI w, σ'), ⟨σ', w, z, rfl, hE, h16, gz, hs⟩, fun rec => ?_⟩
      show D_X8_winsByToss_L13_body rec σ' (nI (hp sz c p)) (nI (oal sz c np)) (nI w) (nI 32) = _
      simp only [D_X8_winsByToss_L13_body, show (32 : Int32) = nI 32 from rfl, ile (Nat.le_refl 32) (by omega), if_true]
  obtain ⟨r, hr, σ', w, z, h1, h2⟩ := main
  exact ⟨σ', w, z, hr.trans h1, h2⟩
theorem trk_in {sz tg l : Nat} : 0 < trk sz tg l ∧ trk sz tg l < 2 ^ (sz + 1) := by
  unfold trk
  have h1 : 0 < 2 ^ min sz tg := Nat.pos_of_ne_zero (by simp)
  have h2 : l % 2 ^ min sz tg < 2 ^ min sz tg := Nat.mod_lt _ h1
  have h3 : 2 ^ (min sz tg + 1) ≤ 2 ^ (sz + 1) := two_le (by omega)
  rw [Nat.pow_succ] at h3
  omega
theorem waysC {np sz p n : Nat} {c : CO} {σ : ST} (hN : NS np sz) (hF : FT np sz c σ) (hV : VC np sz c) (hp0 : p < np) (hn : n ≤ 20) : ∃ σ', D_X8_waysToWin σ (nI p) (nI n) = some (nI (GW np sz c p n (pj sz (trk sz (tg c) (la c)))), σ') ∧ EqT σ σ' := by
  have hnp := hN.np
  have h4 := hN.sz
  obtain ⟨n2, n3⟩ := hN.pos (show 0 < np by omega)
  have h32 : 2 ^ (sz + 1) ≤ 2 ^ 5 := two_le (by omega)
  obtain ⟨t, ht⟩ : ∃ t, t = trk sz (tg c) (la c) := ⟨_, rfl⟩
  have ht0 : 0 < t ∧ t < 2 ^ (sz + 1) := by rw [ht]; exact trk_in
  rw [← ht]
  obtain ⟨σ1, hσ1⟩ : ∃ σ1, σ1 = pA (lp (zr 15) 32 σ) 15 t 1 := ⟨_, rfl⟩
  have hE1 : EqT σ σ1 := by rw [hσ1]; exact (zr_T (by omega) 32 σ).trans (EqT.pA _ (by omega) _ _)
  have e1 : D_X8_waysToWin σ (nI p) (nI n) = D_X8_waysToWin_L90 σ1 (nI n) (nI (hp sz c p)) (nI (oal sz c np)) 0 0 := by
    unfold D_X8_waysToWin
    rw [rHT hN hF.pt hV hp0, Option.bind_some]
    unfold D_X8_waysToWin_L12
    refine itr_f (f := fun i => (σ, nI n, nI (hp sz c p), nI (oal sz c i), nI i)) (N := np) (by omega) (fun i hi rec => ?_) (fun rec => ?_)
    · show D_X8_waysToWin_L12_body rec σ (nI n) (nI (hp sz c p)) (nI (oal sz c i)) (nI i) = rec (σ, nI n, nI (hp sz c p), nI (oal sz c (i + 1)), nI (i + 1))
      simp only [D_X8_waysToWin_L12_body, hF.1, inle hi (by omega), if_false, rHT hN hF.pt hV hi, Option.bind_some, orI, nI_1, oal_s]
    · show D_X8_waysToWin_L12_body rec σ (nI n) (nI (hp sz c p)) (nI (oal sz c np)) (nI np) = _
      have e8 : gI (lp (zr 15) 32 σ) 8 = nI t := by rw [zr_I, ht]; exact hF.2.2.2.2.2.2.2.2.2.2.2
      simp only [D_X8_waysToWin_L12_body, hF.1, ile (Nat.le_refl np) (by omega), if_true, fill33, Option.bind_some, e8, eq_false (nI_pos (show t < 2 ^ 31 by omega)), if_false, show (32 : Int32) = nI 32 from rfl, inle (show t < 32 by omega) (by omega), cl (show t < 2 ^ 31 by omega), false_or, show ¬ 32 ≤ t by omega, D_X8_waysToWin_b84, ← hσ1]
  rw [e1]
  unfold D_X8_waysToWin_L90
  refine itr_i (fun i a => ∃ σ' u w, a = (σ', nI n, nI (hp sz c p), nI (oal sz c np), nI w, nI i) ∧ EqT σ σ' ∧ AR σ' 15 32 u ∧ gd sz u ∧ ws (fun _ => 1) u 32 ≤ 2 ^ i ∧ w * 2 ^ (n - i) + ws (fun x => GW np sz c p (n - i) (pj sz x)) u 32 = GW np sz c p n (pj sz t)) (fun r => ∃ σ', r = some (nI (GW np sz c p n (pj sz t)), σ') ∧ EqT σ σ') (N := n) (by omega) ?_ ?_ ?_
  · refine ⟨σ1, fun x => if x = t then 1 else 0, 0, rfl, hE1, fun x hx => ?_, ⟨?_, fun x hx => ?_⟩, ?_, ?_⟩
    · rw [hσ1, gA_pA, if_pos rfl]
      by_cases e : x = t
      · rw [e, upd_at]; show 1 = nI (if t = t then 1 else 0); rw [if_pos rfl]; rfl
      · rw [upd_ne _ _ e, zr_Z 15 32 σ x hx]; show 0 = nI (if x = t then 1 else 0); rw [if_neg e]; rfl
    · exact if_neg (by omega)
    · exact if_neg (by omega)
    · rw [ws_1 _ _ _ (by omega)]; exact Nat.le_refl _
    · rw [ws_1 _ _ _ (by omega), Nat.zero_mul, Nat.zero_add, Nat.sub_zero]
  · rintro i hi a ⟨σ', u, w, rfl, hE, h15, gu, hT, hA⟩
    have h2i : 2 ^ i ≤ 2 ^ 20 := two_le (by omega)
    obtain ⟨σ2, v, z, e2, E2, y2, g2, s2⟩ := winsC hN (hF.pt.eq hE) hV hp0 h15 gu (fun x hx => by have := ws_at u 32 hx; omega)
    refine ⟨_, ⟨pF σ2 15 (va_cpy (gA σ2 16) (gA σ2 15) 0 0 32), z, 2 * w + v, rfl, (hE.trans E2).trans (EqT.pF _ (by omega) _), fun x hx => ?_, g2, ?_, ?_⟩, fun rec => ?_⟩
    · rw [gA_pF, if_pos rfl, pk_cpy_in (by omega) (by omega)]
      rw [show 0 + (x - 0) = x by omega]; exact y2 x hx
    · have h := s2 (fun _ => 1) 1
      have h5 : ws (fun x => HF np sz c p (fun _ => 1) 1 (pj sz x)) u 32 ≤ ws (fun _ => 2) u 32 := ws_mono (fun x => HF_1 np sz c p (pj sz x)) 32
      rw [ws_2] at h5
      rw [Nat.pow_succ]
      omega
    · obtain ⟨k, hk⟩ : ∃ k, n - i = k + 1 := ⟨n - i - 1, by omega⟩
      have h := s2 (GW np sz c p k) (2 ^ k)
      rw [hk, GW_s] at hA
      rw [show n - (i + 1) = k by omega, ← hA, ← h, Nat.add_mul, Nat.pow_succ]
      rw [show 2 * w * 2 ^ k = w * (2 ^ k * 2) by rw [Nat.mul_comm 2 w, Nat.mul_assoc, Nat.mul_comm 2]]
      omega
    · show D_X8_waysToWin_L90_body rec σ' (nI n) (nI (hp sz c p)) (nI (oal sz c np)) (nI w) (nI i) = _
      simp only [D_X8_waysToWin_L90_body, inle hi (by omega), if_false, e2, Option.bind_some, L2, pk_mul, nI_add, nI_1]
      rfl
  · rintro a ⟨σ', u, w, rfl, hE, h15, gu, hT, hA⟩
    rw [Nat.sub_self] at hA
    have hw : w = GW np sz c p n (pj sz t) := by
      rw [← hA, show (fun x => GW np sz c p 0 (pj sz x)) = (fun _ => 0) from rfl, ws_F0]; omega
    refine ⟨some (nI w, σ'), ⟨σ', by rw [hw], hE⟩, fun rec => ?_⟩
    show D_X8_waysToWin_L90_body rec σ' (nI n) (nI (hp sz c p)) (nI (oal sz c np)) (nI w) (nI n) = _
    simp only [D_X8_waysToWin_L90_body, ile (Nat.le_refl n) (show n < 2 ^ 31 by omega), if_true]
noncomputable def odv (np sz : Nat) (c : CO) (p n : Nat) (x : Int32) : Int32 := if x = 0 then nI (red n (GW np sz c p n (pj sz (trk sz (tg c) (la c))))).1 else nI (2 ^ (red n (GW np sz c p n (pj sz (trk sz (tg c) (la c))))).2)
theorem oddsC {np sz p n : Nat} {c : CO} {σ : ST} {x : Int32} (hN : NS np sz) (hF : FT np sz c σ) (hV : VC np sz c) (hp0 : p < np) (hn : n ≤ 20) : ∃ σ', ((D_X8_waysToWin σ (nI p) (nI n)).bind fun r3 => D_X8_odds_L45 r3.2 x r3.1 (nI n)) = some (odv np sz c p n x, σ') ∧ EqT σ σ' := by
  obtain ⟨σ', e, hE⟩ := waysC hN hF hV hp0 hn
  refine ⟨σ', ?_, hE⟩
  have h1 := GW_le np sz c p n (pj sz (trk sz (tg c) (la c)))
  have h2 : 2 ^ n ≤ 2 ^ 20 := two_le hn
  rw [e, Option.bind_some]
  exact redT σ' x n _ (by omega) (by omega) 200 (by omega)
