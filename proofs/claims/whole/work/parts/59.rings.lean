theorem itr_k {α ρ β : Type} {F : (β → Option ρ) → (α → Option ρ) → α → Option ρ} (P : Nat → α → Prop) (Q : β → Prop) {N fuel : Nat} {a0 : α} (hN : N < fuel) (h0 : P 0 a0) (hs : ∀ i, i < N → ∀ a, P i a → ∃ a', P (i + 1) a' ∧ ∀ κ rec, F κ rec a = rec a') (he : ∀ a, P N a → ∃ b, Q b ∧ ∀ κ rec, F κ rec a = κ b) : ∃ b, Q b ∧ ∀ κ, itr (F κ) fuel a0 = κ b := by
  have : ∀ k i, i + k = N → ∀ m, k < m → ∀ a, P i a → ∃ b, Q b ∧ ∀ κ, itr (F κ) m a = κ b := by
    intro k
    induction k with
    | zero =>
      intro i hi m hm a ha
      obtain ⟨m, rfl⟩ : ∃ q, m = q + 1 := ⟨m - 1, by omega⟩
      obtain ⟨b, hb, hf⟩ := he a (by rw [show N = i by omega]; exact ha)
      exact ⟨b, hb, fun κ => by rw [itr_s, hf]⟩
    | succ k ih =>
      intro i hi m hm a ha
      obtain ⟨m, rfl⟩ : ∃ q, m = q + 1 := ⟨m - 1, by omega⟩
      obtain ⟨a', ha', hf⟩ := hs i (by omega) a ha
      obtain ⟨b, hb, hg⟩ := ih (i + 1) (by omega) m (by omega) a' ha'
      exact ⟨b, hb, fun κ => by rw [itr_s, hf, hg]⟩
  exact this N 0 (by omega) fuel hN a0 h0
/-- who beats whom in a course -/
noncomputable def trC (sz : Nat) (c : CO) (one other : Nat) : Nat := trt (dl sz (hp sz c one) (hp sz c other)) (dl sz (hp sz c other) (hp sz c one))
theorem xin_s (tr : Nat → Nat → Nat) (one x j : Nat) : xin tr one x (j + 1) = xin tr one x j ||| bp one j (tr one j) := rfl
theorem beatT (p q : Nat) (h : p * 4 + q < 31) : D_X8_beatBit (nI p) (nI q) = some (nI (2 ^ (4 * p + q))) := by
  unfold D_X8_beatBit
  rw [show (4 : Int32) = nI 4 from rfl, pk_mul, nI_add, sh1' h, Nat.mul_comm p 4]
theorem beatsInT {np sz one x : Nat} {c : CO} {σ : ST} (hN : NS np sz) (hP : PT np sz c σ) (hV : VC np sz c) (ho : one < np) : ∃ σ', EqT σ σ' ∧ ∀ rec4, D_X8_whoBeatsWhom_L14 rec4 σ (nI x) (nI one) 0 = rec4 (σ', nI (xin (trC sz c) one x one), nI (one + 1)) := by
  have hnp := hN.np
  obtain ⟨n2, n3⟩ := hN.pos (show 0 < np by omega)
  have h4 := hN.sz
  suffices key : ∃ b, (∃ σ', b = (σ', nI (xin (trC sz c) one x one), nI (one + 1)) ∧ EqT σ σ') ∧ ∀ κ, itr ((fun (rec4 : (ST × Int32 × Int32) → Option (Int32 × ST)) (rec14 : (ST × Int32 × Int32 × Int32) → Option (Int32 × ST)) (a : (ST × Int32 × Int32 × Int32)) => D_X8_whoBeatsWhom_L14_body rec4 rec14 a.1 a.2.1 a.2.2.1 a.2.2.2) κ) 200 (σ, nI x, nI one, 0) = κ b from by
    obtain ⟨b, ⟨σ', rfl, hE⟩, hf⟩ := key
    exact ⟨σ', hE, hf⟩
  refine itr_k (P := fun j a => ∃ σ', a = (σ', nI (xin (trC sz c) one x j), nI one, nI j) ∧ EqT σ σ') (Q := fun b => ∃ σ', b = (σ', nI (xin (trC sz c) one x one), nI (one + 1)) ∧ EqT σ σ') (N := one) (by omega) ⟨σ, rfl, EqT.rfl'⟩ ?_ ?_
  · rintro j hj a ⟨σ1, rfl, hE⟩
    have hP1 := hP.eq hE
    obtain ⟨σ2, g1, gE⟩ := dlT σ1 n3 h4 (hp_in hN hV ho) (hp_in hN hV (show j < np by omega))
    have hP2 := hP1.eq gE
    obtain ⟨σ3, g2, gE2⟩ := dlT σ2 n3 h4 (hp_in hN hV (show j < np by omega)) (hp_in hN hV ho)
    have d1 := dl_le n3 h4 (hp_in hN hV ho) (hp_in hN hV (show j < np by omega))
    have d2 := dl_le n3 h4 (hp_in hN hV (show j < np by omega)) (hp_in hN hV ho)
    refine ⟨(σ3, nI (xin (trC sz c) one x (j + 1)), nI one, nI (j + 1)), ⟨σ3, rfl, (hE.trans gE).trans gE2⟩, fun κ rec => ?_⟩
    show D_X8_whoBeatsWhom_L14_body κ rec σ1 (nI (xin (trC sz c) one x j)) (nI one) (nI j) = _
    simp only [D_X8_whoBeatsWhom_L14_body, inle hj (by omega), if_false, rHT hN hP1 hV ho, rHT hN hP1 hV (show j < np by omega), Option.bind_some, hP1.2.1, g1, rHT hN hP2 hV ho, rHT hN hP2 hV (show j < np by omega), hP2.2.1, g2, D_X8_whoBeatsWhom_b98, beatT one j (by omega), beatT j one (by omega), orI, nI_1]
    rw [xin_s]
    have et : trC sz c one j = trt (dl sz (hp sz c one) (hp sz c j)) (dl sz (hp sz c j) (hp sz c one)) := rfl
    rcases Nat.lt_trichotomy (dl sz (hp sz c one) (hp sz c j)) (dl sz (hp sz c j) (hp sz c one)) with q | q | q
    · rw [if_pos (nI_le (by omega) (by omega)), if_neg (nI_ge q (by omega)), et, show trt (dl sz (hp sz c one) (hp sz c j)) (dl sz (hp sz c j) (hp sz c one)) = 2 from by unfold trt; rw [if_neg (by omega), if_pos q]]
      rfl
    · rw [if_pos (nI_le (by omega) (by omega)), if_pos (nI_le (by omega) (by omega)), et, show trt (dl sz (hp sz c one) (hp sz c j)) (dl sz (hp sz c j) (hp sz c one)) = 0 from by unfold trt; rw [if_neg (by omega), if_neg (by omega)]]
      show _ = rec (σ3, nI (xin (trC sz c) one x j ||| 0), nI one, nI (j + 1))
      rw [Nat.or_zero]
    · rw [if_neg (nI_ge q (by omega)), et, show trt (dl sz (hp sz c one) (hp sz c j)) (dl sz (hp sz c j) (hp sz c one)) = 1 from by unfold trt; rw [if_pos q]]
      rfl
  · rintro a ⟨σ1, rfl, hE⟩
    refine ⟨_, ⟨σ1, rfl, hE⟩, fun κ rec => ?_⟩
    show D_X8_whoBeatsWhom_L14_body κ rec σ1 (nI (xin (trC sz c) one x one)) (nI one) (nI one) = _
    simp only [D_X8_whoBeatsWhom_L14_body, ile (Nat.le_refl one) (by omega), if_true, nI_1]
theorem beatsT {np sz : Nat} {c : CO} {σ : ST} (hN : NS np sz) (hP : PT np sz c σ) (hV : VC np sz c) : ∃ σ', D_X8_whoBeatsWhom σ = some (nI (xou (trC sz c) np), σ') ∧ EqT σ σ' := by
  have hnp := hN.np
  unfold D_X8_whoBeatsWhom D_X8_whoBeatsWhom_L4
  refine itr_i (P := fun i a => ∃ σ', a = (σ', nI (xou (trC sz c) i), nI i) ∧ EqT σ σ') (Q := fun r => ∃ σ', r = some (nI (xou (trC sz c) np), σ') ∧ EqT σ σ') (N := np) (by omega) ⟨σ, rfl, EqT.rfl'⟩ ?_ ?_
  · rintro i hi a ⟨σ1, rfl, hE⟩
    have hP1 := hP.eq hE
    obtain ⟨σ2, gE, hf⟩ := beatsInT (x := xou (trC sz c) i) hN hP1 hV hi
    refine ⟨(σ2, nI (xou (trC sz c) (i + 1)), nI (i + 1)), ⟨σ2, rfl, hE.trans gE⟩, fun rec => ?_⟩
    show D_X8_whoBeatsWhom_L4_body rec σ1 (nI (xou (trC sz c) i)) (nI i) = _
    simp only [D_X8_whoBeatsWhom_L4_body, hP1.1, inle hi (by omega), if_false, hf]
    rfl
  · rintro a ⟨σ1, rfl, hE⟩
    have hP1 := hP.eq hE
    refine ⟨_, ⟨σ1, rfl, hE⟩, fun rec => ?_⟩
    show D_X8_whoBeatsWhom_L4_body rec σ1 (nI (xou (trC sz c) np)) (nI np) = _
    simp only [D_X8_whoBeatsWhom_L4_body, hP1.1, ile (Nat.le_refl np) (by omega), if_true]
theorem duelNowM {np sz a b : Nat} {c : CO} {τ : ST} (hN : NS np sz) (hP : PM np sz c τ) (hV : VC np sz c) (ha : a < np) (hb : b < np) : ∃ f, D_X9_duelNow τ (nI a) (nI b) = some (nI (dl sz (hp sz c a) (hp sz c b)), pG τ 0 f) := by
  obtain ⟨n2, n3⟩ := hN.pos (show 0 < np by omega)
  obtain ⟨f, g⟩ := dlM hP.2.1 n3 hN.sz (hp_in hN hV ha) (hp_in hN hV hb)
  refine ⟨f, ?_⟩
  simp only [D_X9_duelNow, hOM hN hP hV ha, hOM hN hP hV hb, Option.bind_some, g]
theorem layM {np sz : Nat} {c : CO} {τ : ST} (hN : NS np sz) (hP : PM np sz c τ) (hV : VC np sz c) : ∃ τ', D_X9_layBeats τ = some τ' ∧ EqM τ τ' ∧ ∀ i, i < 16 → gA τ' 7 i = nI (bta np (trC sz c) i) := by
  have hnp := hN.np
  have h4 := hN.sz
  unfold D_X9_layBeats D_X9_layBeats_L2
  refine itr_i (P := fun k a => ∃ τ', a = (τ', nI k) ∧ EqM τ τ' ∧ ∀ i, i < k → gA τ' 7 i = nI (bta np (trC sz c) i)) (Q := fun r => ∃ τ', r = some τ' ∧ EqM τ τ' ∧ ∀ i, i < 16 → gA τ' 7 i = nI (bta np (trC sz c) i)) (N := 16) (by omega) ⟨τ, rfl, EqM.rfl', fun i hi => absurd hi (Nat.not_lt_zero i)⟩ ?_ ?_
  · rintro k hk a ⟨τ1, rfl, hE, hA⟩
    have hP1 := hP.eq hE
    have c16 : ((16 : Int32) ≤ nI k) = False := inle (b := k) (a := 16) hk (by omega)
    have e4 : nI k / (4 : Int32) = nI (k / 4) := pk_div (d := 4) (by omega) (by omega) (by omega)
    have e5 : nI k - nI (k / 4) * (4 : Int32) = nI (k % 4) := by rw [← e4]; exact pk_rem (d := 4) (by omega) (by omega) (by omega)
    have put : ∀ (τ2 : ST) (v : Nat), EqM τ1 τ2 → gA τ2 7 = gA τ1 7 → v = bta np (trC sz c) k → EqM τ (pA τ2 7 k (nI v)) ∧ ∀ i, i < k + 1 → gA (pA τ2 7 k (nI v)) 7 i = nI (bta np (trC sz c) i) := by
      intro τ2 v hE2 hs hv
      refine ⟨(hE.trans hE2).trans ⟨fun _ _ _ _ => rfl, fun j hj => ?_, rfl⟩, fun i hi => ?_⟩
      · rw [gA_pA, if_neg (by omega)]
      · rw [gA_pA, if_pos rfl, hs]
        by_cases e : i = k
        · rw [e, upd_at, hv]
        · rw [upd_ne _ _ e]; exact hA i (by omega)
    by_cases hm : k / 4 < np ∧ k % 4 < np ∧ k / 4 ≠ k % 4
    · obtain ⟨f1, g1⟩ := duelNowM hN hP1 hV hm.1 hm.2.1
      obtain ⟨f2, g2⟩ := duelNowM (τ := pG τ1 0 f1) hN hP1 hV hm.2.1 hm.1
      rw [pG_pG] at g2
      obtain ⟨n2, n3⟩ := hN.pos (show 0 < np by omega)
      have d1 := dl_le n3 h4 (hp_in hN hV hm.1) (hp_in hN hV hm.2.1)
      have d2 := dl_le n3 h4 (hp_in hN hV hm.2.1) (hp_in hN hV hm.1)
      have hb : bta np (trC sz c) k = if dl sz (hp sz c (k % 4)) (hp sz c (k / 4)) < dl sz (hp sz c (k / 4)) (hp sz c (k % 4)) then 1 else 0 := by
        unfold bta
        rw [if_pos hm]
        by_cases q : k % 4 < k / 4
        · rw [if_pos q]
          unfold trC trt
          by_cases w : dl sz (hp sz c (k % 4)) (hp sz c (k / 4)) < dl sz (hp sz c (k / 4)) (hp sz c (k % 4))
          · rw [if_pos w, if_pos rfl, if_pos w]
          · rw [if_neg w, if_neg w, if_neg]
            by_cases w2 : dl sz (hp sz c (k / 4)) (hp sz c (k % 4)) < dl sz (hp sz c (k % 4)) (hp sz c (k / 4))
            · rw [if_pos w2]; omega
            · rw [if_neg w2]; omega
        · rw [if_neg q]
          unfold trC trt
          by_cases w : dl sz (hp sz c (k % 4)) (hp sz c (k / 4)) < dl sz (hp sz c (k / 4)) (hp sz c (k % 4))
          · rw [if_pos w, if_neg (show ¬ dl sz (hp sz c (k / 4)) (hp sz c (k % 4)) < dl sz (hp sz c (k % 4)) (hp sz c (k / 4)) by omega), if_pos rfl, if_pos w]
          · rw [if_neg w, if_neg w, if_neg]
            by_cases w2 : dl sz (hp sz c (k / 4)) (hp sz c (k % 4)) < dl sz (hp sz c (k % 4)) (hp sz c (k / 4))
            · rw [if_pos w2]; omega
            · rw [if_neg w2]; omega
      obtain ⟨p1, p2⟩ := put (pG τ1 0 f2) _ (EqM.pG _ _ _) rfl hb.symm
      refine ⟨(pA (pG τ1 0 f2) 7 k (nI (if dl sz (hp sz c (k % 4)) (hp sz c (k / 4)) < dl sz (hp sz c (k / 4)) (hp sz c (k % 4)) then 1 else 0)), nI (k + 1)), ⟨_, rfl, p1, p2⟩, fun rec => ?_⟩
      show D_X9_layBeats_L2_body rec τ1 (nI k) = _
      simp only [D_X9_layBeats_L2_body, c16, if_false, e4, e5, hP1.1, inle hm.1 (by omega), inle hm.2.1 (by omega), ieq hm.2.2 (show k / 4 < 2 ^ 31 by omega) (by omega), D_X9_layBeats_b42, i10, g1, Option.bind_some, g2, D_X9_layBeats_b73, D_X9_layBeats_b74, gin hk (by omega), cl (show k < 2 ^ 31 by omega), nI_1]
      by_cases w : dl sz (hp sz c (k % 4)) (hp sz c (k / 4)) < dl sz (hp sz c (k / 4)) (hp sz c (k % 4))
      · rw [if_neg (nI_ge w (by omega)), if_pos w]; rfl
      · rw [if_pos (nI_le (by omega) (by omega)), if_neg w]; rfl
    · obtain ⟨p1, p2⟩ := put τ1 0 EqM.rfl' rfl (by unfold bta; rw [if_neg hm])
      refine ⟨(pA τ1 7 k (nI 0), nI (k + 1)), ⟨_, rfl, p1, p2⟩, fun rec => ?_⟩
      show D_X9_layBeats_L2_body rec τ1 (nI k) = _
      have b41 : D_X9_layBeats_b41 rec τ1 (nI k) (nI (k / 4)) (nI (k % 4)) = rec (pA τ1 7 k (nI 0), nI (k + 1)) := by
        simp only [D_X9_layBeats_b41, D_X9_layBeats_b42, if_true, D_X9_layBeats_b73, D_X9_layBeats_b74, gin hk (by omega), cl (show k < 2 ^ 31 by omega), nI_1, if_false]
        rfl
      simp only [D_X9_layBeats_L2_body, c16, if_false, e4, e5, hP1.1]
      by_cases w1 : k / 4 < np
      · rw [if_neg (nI_ge w1 (by omega))]
        by_cases w2 : k % 4 < np
        · rw [if_neg (nI_ge w2 (by omega)), if_pos]
          · exact b41
          · rw [show k / 4 = k % 4 by omega]
        · rw [if_pos (nI_le (by omega) (by omega))]; exact b41
      · rw [if_pos (nI_le (by omega) (by omega))]; exact b41
  · rintro a ⟨τ1, rfl, hE, hA⟩
    refine ⟨_, ⟨τ1, rfl, hE, hA⟩, fun rec => ?_⟩
    show D_X9_layBeats_L2_body rec τ1 (nI 16) = _
    have c16 : ((16 : Int32) ≤ nI 16) = True := eq_true (by decide)
    simp only [D_X9_layBeats_L2_body, c16, if_true]
theorem xin_c {tr tr' : Nat → Nat → Nat} {one x : Nat} : ∀ j, (∀ q, q < j → tr one q = tr' one q) → xin tr one x j = xin tr' one x j
  | 0, _ => rfl
  | j + 1, h => by rw [xin_s, xin_s, xin_c j (fun q hq => h q (by omega)), h j (by omega)]
theorem xou_c {tr tr' : Nat → Nat → Nat} : ∀ np, (∀ i j, j < i → i < np → tr i j = tr' i j) → xou tr np = xou tr' np
  | 0, _ => rfl
  | i + 1, h => by
    show xin tr i (xou tr i) i = xin tr' i (xou tr' i) i
    rw [xou_c i (fun a b h1 h2 => h a b h1 (by omega)), xin_c i (fun q hq => h i q hq (by omega))]
theorem bta_c {tr tr' : Nat → Nat → Nat} {np : Nat} (h : ∀ i j, j < i → i < np → tr i j = tr' i j) (k : Nat) : bta np tr k = bta np tr' k := by
  unfold bta
  by_cases e : k / 4 < np ∧ k % 4 < np ∧ k / 4 ≠ k % 4
  · rw [if_pos e, if_pos e]
    by_cases q : k % 4 < k / 4
    · rw [if_pos q, if_pos q, h _ _ q e.1]
    · rw [if_neg q, if_neg q, h _ _ (by omega) e.2.1]
  · rw [if_neg e, if_neg e]
theorem trt_lt (a b : Nat) : trt a b < 3 := by
  unfold trt
  by_cases h : b < a
  · rw [if_pos h]; omega
  · rw [if_neg h]
    by_cases h2 : a < b
    · rw [if_pos h2]; omega
    · rw [if_neg h2]; omega
theorem rg4 (a b c d e f : Fin 3) : rgK (rgT4 (nI (xou (tri a.val b.val c.val d.val e.val f.val) 4))) (rgM 4 (tri a.val b.val c.val d.val e.val f.val)) = true := by
  match a, b with
  | ⟨0, _⟩, ⟨0, _⟩ => exact rg4_00 c d e f
  | ⟨0, _⟩, ⟨1, _⟩ => exact rg4_01 c d e f
  | ⟨0, _⟩, ⟨2, _⟩ => exact rg4_02 c d e f
  | ⟨1, _⟩, ⟨0, _⟩ => exact rg4_10 c d e f
  | ⟨1, _⟩, ⟨1, _⟩ => exact rg4_11 c d e f
  | ⟨1, _⟩, ⟨2, _⟩ => exact rg4_12 c d e f
  | ⟨2, _⟩, ⟨0, _⟩ => exact rg4_20 c d e f
  | ⟨2, _⟩, ⟨1, _⟩ => exact rg4_21 c d e f
  | ⟨2, _⟩, ⟨2, _⟩ => exact rg4_22 c d e f
theorem map_fst {ρ : Type} {o : Option (ρ × ST)} {v : ρ} {σ : ST} (h : o.map Prod.fst = some v) : o.map (fun r => (r.1, σ)) = some (v, σ) := by
  cases o with
  | none => cases h
  | some r => cases h; rfl
/-- both find the same ring -/
theorem rg_ok {np sz : Nat} (hN : NS np sz) (h0 : 0 < np) (tr : Nat → Nat → Nat) (ht : ∀ i j, tr i j < 3) : ∃ v, (∀ σ, gI σ 1 = nI np → D_X8_ring_L17 σ (nI (xou tr np)) 3 = some (v, σ)) ∧ ∀ τ, gI τ 1 = nI np → (∀ i, i < 16 → gA τ 7 i = nI (bta np tr i)) → D_X9_ringNow_L8 τ 0 2 = some (v, τ) := by
  have hM : ∀ (tr' : Nat → Nat → Nat) (v : Int32), (∀ i j, j < i → i < np → tr i j = tr' i j) → rgM np tr' = some v → ∀ τ, gI τ 1 = nI np → (∀ i, i < 16 → gA τ 7 i = nI (bta np tr i)) → D_X9_ringNow_L8 τ 0 2 = some (v, τ) := by
    intro tr' v hc hv τ h1 hA
    rw [ringM_hom (τc := pI (pF τ0 7 (fun i => nI (bta np tr' i))) 1 (nI np)) h1 (fun i hi => (hA i hi).trans (by rw [bta_c hc]; rfl))]
    exact map_fst hv
  have hT : ∀ (tr' : Nat → Nat → Nat) (v : Int32), (∀ i j, j < i → i < np → tr i j = tr' i j) → rgT np tr' = some v → ∀ σ, gI σ 1 = nI np → D_X8_ring_L17 σ (nI (xou tr np)) 3 = some (v, σ) := by
    intro tr' v hc hv σ h1
    rw [xou_c np hc, ringT_hom (τc := pI τ0 1 (nI np)) h1]
    exact map_fst hv
  have hn := hN.pos h0
  have hnp := hN.np
  rcases (show np = 2 ∨ np = 3 ∨ np = 4 by omega) with rfl | rfl | rfl
  · obtain ⟨v, e1, e2⟩ := rgK_ok (rg2 ⟨tr 1 0, ht 1 0⟩)
    have hc : ∀ i j, j < i → i < 2 → tr i j = tri (tr 1 0) 0 0 0 0 0 i j := fun i j h1 h2 => by
      obtain ⟨rfl, rfl⟩ : i = 1 ∧ j = 0 := by omega
      rfl
    exact ⟨v, hT _ v hc e1, hM _ v hc e2⟩
  · obtain ⟨v, e1, e2⟩ := rgK_ok (rg3 ⟨tr 1 0, ht 1 0⟩ ⟨tr 2 0, ht 2 0⟩ ⟨tr 2 1, ht 2 1⟩)
    have hc : ∀ i j, j < i → i < 3 → tr i j = tri (tr 1 0) (tr 2 0) (tr 2 1) 0 0 0 i j := fun i j h1 h2 => by
      rcases (show (i = 1 ∧ j = 0) ∨ (i = 2 ∧ j = 0) ∨ (i = 2 ∧ j = 1) by omega) with ⟨rfl, rfl⟩ | ⟨rfl, rfl⟩ | ⟨rfl, rfl⟩ <;> rfl
    exact ⟨v, hT _ v hc e1, hM _ v hc e2⟩
  · obtain ⟨v, e1, e2⟩ := rgK_ok (rg4 ⟨tr 1 0, ht 1 0⟩ ⟨tr 2 0, ht 2 0⟩ ⟨tr 2 1, ht 2 1⟩ ⟨tr 3 0, ht 3 0⟩ ⟨tr 3 1, ht 3 1⟩ ⟨tr 3 2, ht 3 2⟩)
    have hc : ∀ i j, j < i → i < 4 → tr i j = tri (tr 1 0) (tr 2 0) (tr 2 1) (tr 3 0) (tr 3 1) (tr 3 2) i j := fun i j h1 h2 => by
      rcases (show (i = 1 ∧ j = 0) ∨ (i = 2 ∧ j = 0) ∨ (i = 2 ∧ j = 1) ∨ (i = 3 ∧ j = 0) ∨ (i = 3 ∧ j = 1) ∨ (i = 3 ∧ j = 2) by omega) with ⟨rfl, rfl⟩ | ⟨rfl, rfl⟩ | ⟨rfl, rfl⟩ | ⟨rfl, rfl⟩ | ⟨rfl, rfl⟩ | ⟨rfl, rfl⟩ <;> rfl
    refine ⟨v, fun σ h1 => ?_, hM _ v hc e2⟩
    rw [xou_c 4 hc, ringT4 h1, show rgT4 (nI (xou (tri (tr 1 0) (tr 2 0) (tr 2 1) (tr 3 0) (tr 3 1) (tr 3 2)) 4)) = some v from e1]
    rfl
theorem ringB {np sz : Nat} {c : CO} (hN : NS np sz) (h0 : 0 < np) (hV : VC np sz c) : ∃ v, (∀ σ, PT np sz c σ → ∃ σ', D_X8_ring σ = some (v, σ') ∧ EqT σ σ') ∧ ∀ τ, PM np sz c τ → ∃ τ', D_X9_ringNow τ = some (v, τ') ∧ EqM τ τ' := by
  have hnp := hN.np
  obtain ⟨v, h1, h2⟩ := rg_ok hN h0 (trC sz c) (fun i j => trt_lt _ _)
  refine ⟨v, fun σ hP => ?_, fun τ hP => ?_⟩
  · obtain ⟨σ1, g, gE⟩ := beatsT hN hP hV
    refine ⟨σ1, ?_, gE⟩
    simp only [D_X8_ring, hP.1, in0 h0 (by omega), if_false, g, Option.bind_some]
    exact h1 σ1 (hP.eq gE).1
  · obtain ⟨τ1, g, gE, hA⟩ := layM hN hP hV
    refine ⟨τ1, ?_, gE⟩
    simp only [D_X9_ringNow, g, Option.bind_some]
    exact h2 τ1 (hP.eq gE).1 hA
theorem S_ring_ok : S_ring Rel := by
  intro n σ τ hR hn
  have hR' := hR
  obtain ⟨np, sz, pl, rd, pg, c, k, hH, hP, hT, hM, hV, hK⟩ := hR (by omega)
  have hPT : PT np sz c σ := ⟨hH.2.1, hH.2.2.2.1, hT.1, hT.2.1⟩
  have hPM : PM np sz c τ := ⟨hH.2.2.1, hH.2.2.2.2.1, hM.1, hM.2.1⟩
  by_cases h0 : np = 0
  · refine ⟨-103, σ, τ, ?_, ?_, Rel.query hR' hn EqT.rfl' EqM.rfl'⟩
    · simp only [D_X8_ring, hH.2.1, h0, show (nI 0 = 0) = True from eq_true rfl, if_true]
    · simp only [D_X9_ring, hH.2.2.1, h0, show (nI 0 = 0) = True from eq_true rfl, if_true]
  · have hnp := hH.1.np
    obtain ⟨v, h1, h2⟩ := ringB hH.1 (show 0 < np by omega) hV
    obtain ⟨σ', g1, gE⟩ := h1 σ hPT
    obtain ⟨τ', g2, gM⟩ := h2 τ hPM
    refine ⟨v, σ', τ', g1, ?_, Rel.query hR' hn gE gM⟩
    simp only [D_X9_ring, hH.2.2.1, in0 (show 0 < np by omega) (by omega), if_false, g2, Option.bind_some]
