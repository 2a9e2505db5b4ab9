/-! odds of the reference. -/
def gM (sz : Nat) (u : Nat → Nat) : Prop := u 0 = 0 ∧ ∀ x, 2 ^ sz ≤ x → u x = 0
theorem gM_up {sz y : Nat} {z : Nat → Nat} (h : gM sz z) (h0 : 0 < y) (hy : y < 2 ^ sz) (v : Nat) : gM sz (uN z y v) := by
  refine ⟨?_, fun x hx => ?_⟩
  · unfold uN; rw [if_neg (by omega)]; exact h.1
  · unfold uN; rw [if_neg (by omega)]; exact h.2 x hx
theorem sideR {np sz s d w p : Nat} {c : CO} {σ : ST} {v z : Nat → Nat} (hN : NS np sz) (hP : PM np sz c σ) (hV : VC np sz c) (hp0 : p < np) (hs : 0 < s) (hs2 : s < 2 ^ sz) (hd : d < 2) (hv : AR σ 8 16 v) (hz : AR σ 9 16 z) (hg : gM sz z) : ∃ σ' w' z', (∀ rec5, D_X9_tossWays_L5_body rec5 σ (nI s) (nI (hp sz c p)) (nI w) (nI d) = rec5 (σ', nI s, nI (hp sz c p), nI w', nI (d + 1))) ∧ EqM σ σ' ∧ AR σ' 8 16 v ∧ AR σ' 9 16 z' ∧ gM sz z' ∧ ∀ F e, ws F z' 16 + w' * e = ws F z 16 + w * e + v s * hF np sz c p F e (2 * s + d) := by
  have hnp := hN.np
  have h4 := hN.sz
  obtain ⟨n2, n3⟩ := hN.pos (show 0 < np by omega)
  obtain ⟨e1, hpj, hpj0⟩ := behM hP.2.1 n3 h4 hs2 hd
  have hpj0 := hpj0 hs
  have h16 := p2s h4
  have hpos : 0 < 2 ^ sz := Nat.pos_of_ne_zero (by simp)
  have hh := hp_16 hN hV hp0
  obtain ⟨y, hy⟩ : ∃ y, y = 2 * s + d := ⟨_, rfl⟩
  have hy2 : y < 2 ^ (sz + 1) := by rw [Nat.pow_succ]; omega
  rw [← hy] at e1 hpj hpj0 ⊢
  have ey : nI 2 * nI s + nI d = nI y := by rw [pk_mul, nI_add, hy]
  have b42 : ∀ rec5, D_X9_tossWays_b42 rec5 σ (nI s) (nI (hp sz c p)) (nI w) (nI d) (nI y) 0 = rec5 (pA σ 9 (pj sz y) (nI (z (pj sz y) + v s)), nI s, nI (hp sz c p), nI w, nI (d + 1)) := fun rec5 => by
    simp only [D_X9_tossWays_b42, i00, if_true, e1, Option.bind_some, gin (show pj sz y < 16 by omega) (by omega), cl (show pj sz y < 2 ^ 31 by omega), gin (show s < 16 by omega) (by omega), cl (show s < 2 ^ 31 by omega), if_false, hz (pj sz y) (by omega), hv s (by omega), nI_add, D_X9_tossWays_b98, nI_1]
  have fin0 : ov np sz c y = false → (∀ rec5, D_X9_tossWays_L5_body rec5 σ (nI s) (nI (hp sz c p)) (nI w) (nI d) = D_X9_tossWays_b42 rec5 σ (nI s) (nI (hp sz c p)) (nI w) (nI d) (nI y) 0) → ∃ σ' w' z', (∀ rec5, D_X9_tossWays_L5_body rec5 σ (nI s) (nI (hp sz c p)) (nI w) (nI d) = rec5 (σ', nI s, nI (hp sz c p), nI w', nI (d + 1))) ∧ EqM σ σ' ∧ AR σ' 8 16 v ∧ AR σ' 9 16 z' ∧ gM sz z' ∧ ∀ F e, ws F z' 16 + w' * e = ws F z 16 + w * e + v s * hF np sz c p F e y := fun ho hm => by
    refine ⟨pA σ 9 (pj sz y) (nI (z (pj sz y) + v s)), w, uN z (pj sz y) (z (pj sz y) + v s), fun r1 => by rw [hm, b42], EqM.pA σ (by omega) (by omega) _ _, AR_ne hv (by decide), AR_pA hz, gM_up hg hpj0 hpj _, fun F e => ?_⟩
    rw [ws_up, if_pos (by omega)]
    unfold hF
    rw [ho]
    show _ = _ + v s * F (pj sz y)
    omega
  have er := rowsM hP.2.1 h4
  rcases Nat.lt_or_ge y (2 ^ sz) with q | q
  · refine fin0 (ov_f q) (fun r1 => ?_)
    simp only [D_X9_tossWays_L5_body, L2, inle hd (by omega), if_false, er, Option.bind_some, ey, inle q (by omega)]
  · have e2 : D_X9_whoHits σ (nI sz) (nI y) = some (nI (wh sz c (y % 2 ^ sz) np)) := by
      rw [whoM hN (show 0 < np by omega) hP hV (by omega), if_pos (Nat.le_refl sz)]
    have hm : y % 2 ^ sz < 16 := by rw [mod_s q hy2]; rw [Nat.pow_succ] at hy2; omega
    have hwl : wh sz c (y % 2 ^ sz) np < 16 := Nat.lt_of_lt_of_le (wh_lt _ _ _ _) (two_le (b := 4) hnp)
    by_cases hw : wh sz c (y % 2 ^ sz) np = 0
    · refine fin0 (by rw [ov_t q, hw]; rfl) (fun r1 => ?_)
      simp only [D_X9_tossWays_L5_body, L2, inle hd (by omega), if_false, er, Option.bind_some, ey, ile q (by omega), if_true, hP.2.1, e2, hw]
      rfl
    · have ho : ov np sz c y = true := by
        rw [ov_t q]
        cases hb : Nat.beq (wh sz c (y % 2 ^ sz) np) 0 with
        | false => rfl
        | true => exact absurd (Nat.eq_of_beq_eq_true hb) hw
      have e4 := isInM (m := hp sz c p) (j := y % 2 ^ sz) (by omega) (by omega)
      have em : nI y &&& (nI (2 ^ sz) - 1) = nI (y % 2 ^ sz) := by
        rw [show nI (2 ^ sz) - 1 = nI (2 ^ sz - 1) from pk_sub (b := 1) hpos, maskI]
      rcases bit01 (hp sz c p) (y % 2 ^ sz) with hb | hb
      · rw [hb] at e4
        refine ⟨σ, w, z, fun r1 => ?_, EqM.rfl', hv, hz, hg, fun F e => ?_⟩
        · simp only [D_X9_tossWays_L5_body, L2, inle hd (by omega), if_false, er, Option.bind_some, ey, ile q (by omega), if_true, hP.2.1, e2, D_X9_tossWays_b42, in0 (show 0 < wh sz c (y % 2 ^ sz) np by omega) (by omega), em, e4, show (nI 0 = 0) = True from eq_true rfl, D_X9_tossWays_b98, nI_1]
        · unfold hF hi
          rw [ho, hb]
          show _ = _ + v s * 0
          omega
      · rw [hb] at e4
        refine ⟨σ, w + v s, z, fun r1 => ?_, EqM.rfl', hv, hz, hg, fun F e => ?_⟩
        · simp only [D_X9_tossWays_L5_body, L2, inle hd (by omega), if_false, er, Option.bind_some, ey, ile q (by omega), if_true, hP.2.1, e2, D_X9_tossWays_b42, in0 (show 0 < wh sz c (y % 2 ^ sz) np by omega) (by omega), em, e4, show (nI 1 = 0) = False from eq_false (by decide), D_X9_tossWays_b98, nI_1, gin (show s < 16 by omega) (by omega), cl (show s < 2 ^ 31 by omega), hv s (by omega), nI_add]
        · unfold hF hi
          rw [ho, hb]
          show _ = _ + v s * e
          rw [Nat.add_mul]
          omega
theorem tossR {np sz s p : Nat} {c : CO} {σ : ST} {v z : Nat → Nat} (hN : NS np sz) (hP : PM np sz c σ) (hV : VC np sz c) (hp0 : p < np) (hs : 0 < s) (hs2 : s < 2 ^ sz) (hv : AR σ 8 16 v) (hz : AR σ 9 16 z) (hg : gM sz z) : ∃ σ' w' z', D_X9_tossWays σ (nI s) (nI (hp sz c p)) = some (nI w', σ') ∧ EqM σ σ' ∧ AR σ' 8 16 v ∧ AR σ' 9 16 z' ∧ gM sz z' ∧ ∀ F e, ws F z' 16 + w' * e = ws F z 16 + v s * HF np sz c p F e s := by
  obtain ⟨σ1, w1, z1, e1, E1, u1, y1, g1, s1⟩ := sideR (d := 0) (w := 0) hN hP hV hp0 hs hs2 (by omega) hv hz hg
  obtain ⟨σ2, w2, z2, e2, E2, u2, y2, g2, s2⟩ := sideR (d := 1) (w := w1) hN (hP.eq E1) hV hp0 hs hs2 (by omega) u1 y1 g1
  refine ⟨σ2, w2, z2, ?_, E1.trans E2, u2, y2, g2, fun F e => ?_⟩
  · unfold D_X9_tossWays D_X9_tossWays_L5
    rw [show (200 : Nat) = 197 + 1 + 1 + 1 from rfl, itr_s]
    show D_X9_tossWays_L5_body _ σ (nI s) (nI (hp sz c p)) (nI 0) (nI 0) = _
    rw [e1, itr_s]
    show D_X9_tossWays_L5_body _ σ1 (nI s) (nI (hp sz c p)) (nI w1) (nI 1) = _
    rw [e2, itr_s]
    show D_X9_tossWays_L5_body _ σ2 (nI s) (nI (hp sz c p)) (nI w2) (nI 2) = _
    simp only [D_X9_tossWays_L5_body, L2, ile (Nat.le_refl 2) (by omega), if_true]
  · have a1 := s1 F e
    have a2 := s2 F e
    unfold HF
    rw [Nat.mul_add]
    rw [show 2 * s + 0 = 2 * s from rfl, Nat.zero_mul] at a1
    omega
noncomputable def cy8 (i : Nat) (t : ST) : ST := pA t 8 i (gA t 9 i)
theorem cy8_A (N : Nat) (t : ST) : EqM t (lp cy8 N t) ∧ (∀ x, gA (lp cy8 N t) 9 x = gA t 9 x) ∧ ∀ x, x < N → gA (lp cy8 N t) 8 x = gA t 9 x := lp_ind (P := fun i u => EqM t u ∧ (∀ x, gA u 9 x = gA t 9 x) ∧ ∀ x, x < i → gA u 8 x = gA t 9 x) ⟨EqM.rfl', fun _ => rfl, fun x hx => absurd hx (Nat.not_lt_zero x)⟩ (fun i hi u hu => by
  obtain ⟨h1, h2, h3⟩ := hu
  refine ⟨h1.trans (EqM.pA u (by omega) (by omega) _ _), fun x => ?_, fun x hx => ?_⟩
  · show gA (pA u 8 i _) 9 x = _
    rw [gA_pA, if_neg (by decide)]; exact h2 x
  · show gA (pA u 8 i _) 8 x = _
    rw [gA_pA, if_pos rfl]
    by_cases e : x = i
    · rw [e, upd_at]; exact h2 i
    · rw [upd_ne _ _ e]; exact h3 x (by omega))
theorem ws_cut (F u : Nat → Nat) {m : Nat} (h : ∀ x, m ≤ x → u x = 0) : ∀ n, m ≤ n → ws F u n = ws F u m
  | 0, hn => by rw [show m = 0 by omega]
  | n + 1, hn => by
    by_cases e : m = n + 1
    · rw [e]
    · rw [ws_s, h n (by omega), Nat.zero_mul, Nat.add_zero]
      exact ws_cut F u h n (by omega)
theorem stepR {np sz p n ab left : Nat} {x : Int32} {c : CO} {σ : ST} {v : Nat → Nat} (hN : NS np sz) (hP : PM np sz c σ) (hV : VC np sz c) (hp0 : p < np) (hl : left < 20) (hv : AR σ 8 16 v) (hgv : gM sz v) (hb : ∀ x, x < 16 → v x < 2 ^ 31) : ∃ σ' w z, (∀ κ, D_X9_oddsNow_L42_body κ σ (nI p) (nI n) x (nI ab) (nI left) = κ (σ', nI p, nI n, x, nI (ab + w * 2 ^ left), nI left + (-1))) ∧ EqM σ σ' ∧ AR σ' 8 16 z ∧ gM sz z ∧ ∀ F e, ws F z 16 + w * e = ws (HF np sz c p F e) v 16 := by
  have hnp := hN.np
  have h4 := hN.sz
  have h16 := p2s h4
  have hpos : 0 < 2 ^ sz := Nat.pos_of_ne_zero (by simp)
  have e0 : ∀ κ, D_X9_oddsNow_L42_body κ σ (nI p) (nI n) x (nI ab) (nI left) = D_X9_oddsNow_L74 κ (lp (zr 9) 16 σ) (nI p) (nI n) x (nI ab) (nI left) 1 := fun κ => by
    simp only [D_X9_oddsNow_L42_body, eq_false (nI_pos (show left < 2 ^ 31 by omega)), if_false]
    unfold D_X9_oddsNow_L50
    refine itr_f (f := fun i => (lp (zr 9) i σ, nI p, nI n, x, nI ab, nI left, nI i)) (N := 16) (by omega) (fun i hi rec => ?_) (fun rec => ?_)
    · show D_X9_oddsNow_L50_body κ rec (lp (zr 9) i σ) (nI p) (nI n) x (nI ab) (nI left) (nI i) = rec (lp (zr 9) (i + 1) σ, nI p, nI n, x, nI ab, nI left, nI (i + 1))
      simp only [D_X9_oddsNow_L50_body, show (16 : Int32) = nI 16 from rfl, inle hi (by omega), if_false, cl (show i < 2 ^ 31 by omega), gin hi (by omega), nI_1, lp_s, zr]
    · show D_X9_oddsNow_L50_body κ rec (lp (zr 9) 16 σ) (nI p) (nI n) x (nI ab) (nI left) (nI 16) = _
      simp only [D_X9_oddsNow_L50_body, show (16 : Int32) = nI 16 from rfl, ile (Nat.le_refl 16) (by omega), if_true]
  have main := itr_k (F := fun κ rec (a : (ST × Int32 × Int32 × Int32 × Int32 × Int32 × Int32)) => D_X9_oddsNow_L74_body κ rec a.1 a.2.1 a.2.2.1 a.2.2.2.1 a.2.2.2.2.1 a.2.2.2.2.2.1 a.2.2.2.2.2.2) (fuel := 200) (a0 := (lp (zr 9) 16 σ, nI p, nI n, x, nI ab, nI left, 1)) (fun i a => ∃ σ' w z, a = (σ', nI p, nI n, x, nI (ab + w * 2 ^ left), nI left, nI (i + 1)) ∧ EqM σ σ' ∧ AR σ' 8 16 v ∧ AR σ' 9 16 z ∧ gM sz z ∧ ∀ F e, ws F z 16 + w * e = ws (HF np sz c p F e) v (i + 1)) (fun b => ∃ σ' w z, b = (σ', nI p, nI n, x, nI (ab + w * 2 ^ left), nI left + (-1)) ∧ EqM σ σ' ∧ AR σ' 8 16 z ∧ gM sz z ∧ ∀ F e, ws F z 16 + w * e = ws (HF np sz c p F e) v 16) (N := 2 ^ sz - 1) (by omega) ?_ ?_ ?_
  · obtain ⟨b, ⟨σ', w, z, rfl, h1, h2, h3, h5⟩, hk⟩ := main
    refine ⟨σ', w, z, fun κ => ?_, h1, h2, h3, h5⟩
    rw [e0]
    exact hk κ
  · refine ⟨lp (zr 9) 16 σ, 0, fun _ => 0, by rw [Nat.zero_mul]; rfl, zr_M (by omega) (by omega) 16 σ, fun y hy => ?_, fun y hy => zr_Z 9 16 σ y hy, ⟨rfl, fun _ _ => rfl⟩, fun F e => ?_⟩
    · rw [zr_A _ _ _ _ (by decide)]; exact hv y hy
    · rw [ws_z, ws_s, ws_0, hgv.1]; omega
  · rintro i hi a ⟨σ', w, z, rfl, hE, h8, h9, gz, hs⟩
    have hP' := hP.eq hE
    have er := rowsM hP'.2.1 h4
    by_cases q : v (i + 1) = 0
    · refine ⟨_, ⟨σ', w, z, rfl, hE, h8, h9, gz, fun F e => ?_⟩, fun κ rec => ?_⟩
      · rw [ws_s _ _ (i + 1), q, Nat.zero_mul, Nat.add_zero]; exact hs F e
      · show D_X9_oddsNow_L74_body κ rec σ' (nI p) (nI n) x (nI (ab + w * 2 ^ left)) (nI left) (nI (i + 1)) = _
        simp only [D_X9_oddsNow_L74_body, er, Option.bind_some, inle (show i + 1 < 2 ^ sz by omega) (by omega), if_false, gin (show i + 1 < 16 by omega) (by omega), cl (show i + 1 < 2 ^ 31 by omega), h8 (i + 1) (by omega), q, show (nI 0 ≤ 0) = True from eq_true (by decide), if_true, D_X9_oddsNow_b113, nI_1, Int32.add_zero]
    · obtain ⟨σ2, w2, z2, e2, E2, u2, y2, g2, s2⟩ := tossR hN hP' hV hp0 (show 0 < i + 1 by omega) (show i + 1 < 2 ^ sz by omega) h8 h9 gz
      refine ⟨_, ⟨σ2, w + w2, z2, rfl, hE.trans E2, u2, y2, g2, fun F e => ?_⟩, fun κ rec => ?_⟩
      · have a1 := s2 F e
        have a2 := hs F e
        rw [ws_s _ _ (i + 1), Nat.add_mul]
        omega
      · show D_X9_oddsNow_L74_body κ rec σ' (nI p) (nI n) x (nI (ab + w * 2 ^ left)) (nI left) (nI (i + 1)) = _
        simp only [D_X9_oddsNow_L74_body, er, Option.bind_some, inle (show i + 1 < 2 ^ sz by omega) (by omega), if_false, gin (show i + 1 < 16 by omega) (by omega), cl (show i + 1 < 2 ^ 31 by omega), h8 (i + 1) (by omega), eq_false (nI_nle (show 0 < v (i + 1) by omega) (hb (i + 1) (by omega))), hOM hN hP' hV hp0, e2, D_X9_oddsNow_b113, shlI _ (show left < 32 by omega), nI_add, nI_1, Nat.add_mul, Nat.add_assoc]
  · rintro a ⟨σ', w, z, rfl, hE, h8, h9, gz, hs⟩
    have hP' := hP.eq hE
    have er := rowsM hP'.2.1 h4
    obtain ⟨c1, c2, c3⟩ := cy8_A 16 σ'
    refine ⟨(lp cy8 16 σ', nI p, nI n, x, nI (ab + w * 2 ^ left), nI left + (-1)), ⟨_, w, z, rfl, hE.trans c1, fun y hy => (c3 y hy).trans (h9 y hy), gz, fun F e => ?_⟩, fun κ rec => ?_⟩
    · rw [hs F e, show 2 ^ sz - 1 + 1 = 2 ^ sz by omega]
      exact (ws_cut _ v hgv.2 16 h16).symm
    · show D_X9_oddsNow_L74_body κ rec σ' (nI p) (nI n) x (nI (ab + w * 2 ^ left)) (nI left) (nI (2 ^ sz - 1 + 1)) = _
      rw [show 2 ^ sz - 1 + 1 = 2 ^ sz by omega]
      simp only [D_X9_oddsNow_L74_body, er, Option.bind_some, ile (Nat.le_refl (2 ^ sz)) (show 2 ^ sz < 2 ^ 31 by omega), if_true]
      unfold D_X9_oddsNow_L125
      refine itr_f (f := fun i => (lp cy8 i σ', nI p, nI n, x, nI (ab + w * 2 ^ left), nI left, nI i)) (N := 16) (by omega) (fun i hi rec => ?_) (fun rec => ?_)
      · show D_X9_oddsNow_L125_body κ rec (lp cy8 i σ') (nI p) (nI n) x (nI (ab + w * 2 ^ left)) (nI left) (nI i) = rec (lp cy8 (i + 1) σ', nI p, nI n, x, nI (ab + w * 2 ^ left), nI left, nI (i + 1))
        simp only [D_X9_oddsNow_L125_body, show (16 : Int32) = nI 16 from rfl, inle hi (by omega), if_false, cl (show i < 2 ^ 31 by omega), gin hi (by omega), nI_1, lp_s, cy8]
      · show D_X9_oddsNow_L125_body κ rec (lp cy8 16 σ') (nI p) (nI n) x (nI (ab + w * 2 ^ left)) (nI left) (nI 16) = _
        simp only [D_X9_oddsNow_L125_body, show (16 : Int32) = nI 16 from rfl, ile (Nat.le_refl 16) (by omega), if_true]
theorem eN_s (k : Nat) : eN (k + 1) = nI k := by unfold eN; rw [if_neg (by omega)]; rfl
theorem eN_m (k : Nat) : nI k + (-1) = eN k := by
  cases k with
  | zero => rfl
  | succ k => rw [pk_m1, eN_s]
theorem oddsR {np sz p n : Nat} {c : CO} {τ : ST} {x : Int32} (hN : NS np sz) (hF : FM np sz c τ) (hV : VC np sz c) (hp0 : p < np) (hn0 : 0 < n) (hn : n ≤ 20) : ∃ τ', D_X9_oddsNow τ (nI p) (nI n) x = some (odv np sz c p n x, τ') ∧ EqM τ τ' := by
  have hnp := hN.np
  have h4 := hN.sz
  obtain ⟨n2, n3⟩ := hN.pos (show 0 < np by omega)
  have h16 := p2s h4
  obtain ⟨t, ht⟩ : ∃ t, t = pj sz (trk sz (tg c) (la c)) := ⟨_, rfl⟩
  have hb := behT (σ := pI τ0 2 (nI sz)) (d := 0) rfl n3 h4 (trk_in (sz := sz) (tg := tg c) (l := la c)).2 (by omega)
  have ht0 : 0 < t ∧ t < 2 ^ sz := by rw [ht]; exact ⟨hb.2.2 trk_in.1, hb.2.1⟩
  have hA1 := GW_le np sz c p n t
  have hn2 : 2 ^ n ≤ 2 ^ 20 := two_le hn
  obtain ⟨τ1, hτ1⟩ : ∃ τ1, τ1 = pA (lp (zr 8) 16 τ) 8 t 1 := ⟨_, rfl⟩
  have hE1 : EqM τ τ1 := by rw [hτ1]; exact (zr_M (by omega) (by omega) 16 τ).trans (EqM.pA _ (by omega) (by omega) _ _)
  have e1 : D_X9_oddsNow τ (nI p) (nI n) x = D_X9_oddsNow_L42 τ1 (nI p) (nI n) x 0 (eN n) := by
    unfold D_X9_oddsNow D_X9_oddsNow_L3
    refine itr_f (f := fun i => (lp (zr 8) i τ, nI p, nI n, x, nI i)) (N := 16) (by omega) (fun i hi rec => ?_) (fun rec => ?_)
    · show D_X9_oddsNow_L3_body rec (lp (zr 8) i τ) (nI p) (nI n) x (nI i) = rec (lp (zr 8) (i + 1) τ, nI p, nI n, x, nI (i + 1))
      simp only [D_X9_oddsNow_L3_body, show (16 : Int32) = nI 16 from rfl, inle hi (by omega), if_false, cl (show i < 2 ^ 31 by omega), gin hi (by omega), nI_1, lp_s, zr]
    · show D_X9_oddsNow_L3_body rec (lp (zr 8) 16 τ) (nI p) (nI n) x (nI 16) = _
      have es := stateM hN (show 0 < np by omega) (hF.eq (zr_M (a := 8) (by omega) (by omega) 16 τ)) hV
      rw [← ht] at es
      obtain ⟨m, rfl⟩ : ∃ m, n = m + 1 := ⟨n - 1, by omega⟩
      simp only [D_X9_oddsNow_L3_body, show (16 : Int32) = nI 16 from rfl, ile (Nat.le_refl 16) (by omega), if_true, es, Option.bind_some, gin (show t < 16 by omega) (by omega), if_false, cl (show t < 2 ^ 31 by omega), ← hτ1, nI_pred, eN_s]
  rw [e1]
  unfold D_X9_oddsNow_L42
  refine itr_i (fun i a => ∃ τ' v ab, a = (τ', nI p, nI n, x, nI ab, eN (n - i)) ∧ EqM τ τ' ∧ AR τ' 8 16 v ∧ gM sz v ∧ ws (fun _ => 1) v 16 ≤ 2 ^ i ∧ ab + ws (GW np sz c p (n - i)) v 16 = GW np sz c p n t) (fun r => ∃ τ', r = some (odv np sz c p n x, τ') ∧ EqM τ τ') (N := n) (by omega) ?_ ?_ ?_
  · refine ⟨τ1, fun y => if y = t then 1 else 0, 0, rfl, hE1, fun y hy => ?_, ⟨?_, fun y hy => ?_⟩, ?_, ?_⟩
    · rw [hτ1, gA_pA, if_pos rfl]
      by_cases e : y = t
      · rw [e, upd_at]; show 1 = nI (if t = t then 1 else 0); rw [if_pos rfl]; rfl
      · rw [upd_ne _ _ e, zr_Z 8 16 τ y hy]; show 0 = nI (if y = t then 1 else 0); rw [if_neg e]; rfl
    · exact if_neg (by omega)
    · exact if_neg (by omega)
    · rw [ws_1 _ _ _ (by omega)]; exact Nat.le_refl _
    · rw [ws_1 _ _ _ (by omega), Nat.zero_add, Nat.sub_zero]
  · rintro i hi a ⟨τ', v, ab, rfl, hE, h8, gv', hT, hA⟩
    have h2i : 2 ^ i ≤ 2 ^ 20 := two_le (by omega)
    obtain ⟨k, hk⟩ : ∃ k, n - i = k + 1 := ⟨n - i - 1, by omega⟩
    obtain ⟨τ2, w, z, e2, E2, y2, g2, s2⟩ := stepR (n := n) (ab := ab) (left := k) (x := x) hN (hF.pm.eq hE) hV hp0 (by omega) h8 gv' (fun y hy => by have := ws_at v 16 hy; omega)
    refine ⟨_, ⟨τ2, z, ab + w * 2 ^ k, rfl, hE.trans E2, y2, g2, ?_, ?_⟩, fun rec => ?_⟩
    · have h := s2 (fun _ => 1) 1
      have h5 : ws (HF np sz c p (fun _ => 1) 1) v 16 ≤ ws (fun _ => 2) v 16 := ws_mono (fun x => HF_1 np sz c p x) 16
      rw [ws_2] at h5
      rw [Nat.pow_succ]
      omega
    · have h := s2 (GW np sz c p k) (2 ^ k)
      rw [hk, GW_s] at hA
      rw [show n - (i + 1) = k by omega]
      omega
    · show D_X9_oddsNow_L42_body rec τ' (nI p) (nI n) x (nI ab) (eN (n - i)) = _
      rw [hk, eN_s, e2, eN_m, show n - (i + 1) = k by omega]
  · rintro a ⟨τ', v, ab, rfl, hE, h8, gv', hT, hA⟩
    rw [Nat.sub_self, show GW np sz c p 0 = (fun _ => 0) from rfl, ws_F0, Nat.add_zero] at hA
    refine ⟨some (odv np sz c p n x, τ'), ⟨τ', rfl, hE⟩, fun rec => ?_⟩
    show D_X9_oddsNow_L42_body rec τ' (nI p) (nI n) x (nI ab) (eN (n - n)) = _
    have hg : 0 < Nat.gcd ab (2 ^ n) := Nat.gcd_pos_of_pos_right _ (Nat.pos_of_ne_zero (by simp))
    have hg2 : Nat.gcd ab (2 ^ n) ≤ 2 ^ n := Nat.le_of_dvd (Nat.pos_of_ne_zero (by simp)) (Nat.gcd_dvd_right _ _)
    have ed : D_X9_divisor (nI ab) (nI (2 ^ n)) = some (nI (Nat.gcd ab (2 ^ n))) := eucl 21 ab (2 ^ n) (by omega) (by omega) (by omega) 200 (by omega)
    obtain ⟨r1, r2⟩ := red_gcd n ab
    rw [Nat.sub_self]
    simp only [D_X9_oddsNow_L42_body, show (eN 0 < 0) = True from eq_true (by decide), if_true, sh1' (show n < 31 by omega), ed, Option.bind_some, in0 hg (show Nat.gcd ab (2 ^ n) < 2 ^ 31 by omega), if_false, pk_div (show ab < 2 ^ 31 by omega) hg (show Nat.gcd ab (2 ^ n) < 2 ^ 31 by omega), pk_div (show 2 ^ n < 2 ^ 31 by omega) hg (show Nat.gcd ab (2 ^ n) < 2 ^ 31 by omega), r1, r2]
    unfold odv
    rw [← ht, ← hA]
    by_cases q : x = 0
    · rw [if_pos q, if_pos q]
    · rw [if_neg q, if_neg q]
theorem S_odds_ok : S_odds Rel := by
  intro n σ τ a b d hR hn
  have hR' := hR
  obtain ⟨np, sz, pl, rd, pg, c, k, hH, hP, hT, hM, hV, hK⟩ := hR (by omega)
  have hFT : FT np sz c σ := ⟨hH.2.1, hH.2.2.2.1, hT⟩
  have hFM : FM np sz c τ := ⟨hH.2.2.1, hH.2.2.2.2.1, hM⟩
  have out : D_X8_odds σ a b d = some (-102, σ) → D_X9_odds τ a b d = some (-102, τ) → ∃ (v : Int32) (σ' : ST) (τ' : ST), D_X8_odds σ a b d = some (v, σ') ∧ D_X9_odds τ a b d = some (v, τ') ∧ Rel (n + 1) σ' τ' := fun h1 h2 => ⟨_, _, _, h1, h2, Rel.query hR' hn EqT.rfl' EqM.rfl'⟩
  rcases plr hH a with ⟨j, hj, rfl, e1, e2⟩ | ⟨e1, e2⟩
  · by_cases b1 : b < 1
    · apply out
      · simp only [D_X8_odds, e1, Option.bind_some, i10, b1, if_true, if_false]
      · simp only [D_X9_odds, e2, Option.bind_some, i10, D_X9_within, b1, if_true, if_false, i00]
    by_cases b2 : (20 : Int32) < b
    · apply out
      · simp only [D_X8_odds, e1, Option.bind_some, i10, b1, b2, if_true, if_false]
      · simp only [D_X9_odds, e2, Option.bind_some, i10, D_X9_within, b1, b2, if_true, if_false, i00]
    by_cases d1 : d < 0
    · apply out
      · simp only [D_X8_odds, e1, Option.bind_some, i10, b1, b2, d1, if_true, if_false]
      · simp only [D_X9_odds, e2, Option.bind_some, i10, D_X9_within, b1, b2, d1, if_true, if_false, i00]
    by_cases d2 : (1 : Int32) < d
    · apply out
      · simp only [D_X8_odds, e1, Option.bind_some, i10, b1, b2, d1, ilq, d2, if_true, if_false, not_true_eq_false]
      · simp only [D_X9_odds, e2, Option.bind_some, i10, D_X9_within, b1, b2, d1, d2, if_true, if_false, i00]
    have b0 : ¬ b < 0 := fun q => b1 (by rw [Int32.lt_iff_toInt_lt] at q ⊢; have e : (1 : Int32).toInt = 1 := by decide
                                         have e0 : (0 : Int32).toInt = 0 := by decide
                                         omega)
    obtain ⟨t, ht, rfl⟩ := nI_of2 (M := 20) (n := 20) rfl b0 (by rw [ilq]; exact b2)
    have ht0 : 0 < t := by
      rcases Nat.eq_zero_or_pos t with h | h
      · subst h; exact absurd (show nI 0 < 1 by decide) b1
      · exact h
    obtain ⟨σ', g1, gE⟩ := oddsC (x := d) hH.1 hFT hV hj ht
    obtain ⟨τ', g2, gM⟩ := oddsR (x := d) hH.1 hFM hV hj ht0 ht
    refine ⟨odv np sz c j t d, σ', τ', ?_, ?_, Rel.query hR' hn gE gM⟩
    · simp only [D_X8_odds, e1, Option.bind_some, i10, b1, b2, d1, ilq, d2, if_true, if_false, not_false_eq_true]
      exact g1
    · simp only [D_X9_odds, e2, Option.bind_some, i10, D_X9_within, b1, b2, d1, d2, if_false, g2]
  · refine ⟨-101, σ, τ, ?_, ?_, Rel.query hR' hn EqT.rfl' EqM.rfl'⟩
    · simp only [D_X8_odds, e1, Option.bind_some, i00, if_true]
    · simp only [D_X9_odds, e2, Option.bind_some, i00, if_true]
