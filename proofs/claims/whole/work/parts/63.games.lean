/-! games. -/
theorem EqT.pA (σ : ST) {a : Nat} (ha : 13 ≤ a) (i : Nat) (v : Int32) : EqT σ (pA σ a i v) := ⟨fun _ _ => rfl, fun b hb => by rw [gA_pA, if_neg (by omega)]⟩
theorem EqM.pA (τ : ST) {a : Nat} (ha : 7 ≤ a) (ha2 : a ≤ 10) (i : Nat) (v : Int32) : EqM τ (pA τ a i v) := ⟨fun _ _ _ _ => rfl, fun b hb => by rw [gA_pA, if_neg (by omega)], rfl⟩
theorem EqM.pJ (τ : ST) (v : Int64) : EqM τ (pJ τ 0 v) := ⟨fun _ _ _ _ => rfl, fun _ _ => rfl, rfl⟩
theorem EqT.pF (σ : ST) {a : Nat} (ha : 13 ≤ a) (f : Nat → Int32) : EqT σ (pF σ a f) := ⟨fun _ _ => rfl, fun b hb => by rw [gA_pF, if_neg (by omega)]⟩
def sd (d : Nat) : Nat := (1103515245 * d + 12345) % 2147483648
theorem sd_lt (d : Nat) : sd d < 2 ^ 31 := Nat.mod_lt _ (by omega)
theorem enc_and31 (a : Nat) : enc a &&& (2147483647 : Int64) = enc (a % 2147483648) := by
  apply Int64.toBitVec_inj.1
  show BitVec.ofNat 64 a &&& BitVec.ofNat 64 (2 ^ 31 - 1) = BitVec.ofNat 64 (a % 2 ^ 31)
  apply BitVec.eq_of_toNat_eq
  rw [BitVec.toNat_and, BitVec.toNat_ofNat, BitVec.toNat_ofNat, BitVec.toNat_ofNat, Nat.mod_eq_of_lt (show 2 ^ 31 - 1 < 2 ^ 64 by omega), Nat.and_two_pow_sub_one_eq_mod]
  omega
theorem seed64 (d : Nat) : ((1103515245 : Int64) * enc d + (12345 : Int64)) &&& (2147483647 : Int64) = enc (sd d) := by
  rw [show (1103515245 : Int64) = enc 1103515245 from rfl, show (12345 : Int64) = enc 12345 from rfl, enc_mul, enc_add, enc_and31]
  rfl
theorem seedT {d : Nat} (hd : d < 2 ^ 31) : D_X8_nextSeed (nI d) = some (nI (sd d)) := by
  unfold D_X8_nextSeed
  rw [i64 hd, seed64, enc_i32]
def sdd (d : Nat) : Nat := sd d / 65536 % 2
theorem sdd_lt (d : Nat) : sdd d < 2 := Nat.mod_lt _ (by omega)
theorem sideT (d : Nat) : (nI (sd d) / (65536 : Int32)) - (nI (sd d) / (65536 : Int32)) / (2 : Int32) * (2 : Int32) = nI (sdd d) := by
  have h := sd_lt d
  have e : nI (sd d) / (65536 : Int32) = nI (sd d / 65536) := pk_div (d := 65536) h (by omega) (by omega)
  rw [e]
  exact pk_rem (d := 2) (Nat.lt_of_le_of_lt (Nat.div_le_self _ _) h) (by omega) (by omega)
theorem drawM {τ : ST} {d : Nat} (h : gJ τ 0 = enc d) : D_X9_draw τ 2 = some (nI (sdd d), pJ τ 0 (enc (sd d))) := by
  have h1 := sd_lt d
  unfold D_X9_draw
  rw [if_neg (by decide), h, seed64]
  have e0 : gJ (pJ τ 0 (enc (sd d))) 0 = enc (sd d) := by rw [gJ_pJ, if_pos rfl]
  have e : enc (sd d) / (65536 : Int64) = enc (sd d / 65536) := pk_lDiv (a := sd d) (b := 65536) (by omega) (by omega) (by omega)
  have e2 : enc (sd d / 65536) - enc (sd d / 65536) / (2 : Int32).toInt64 * (2 : Int32).toInt64 = enc (sdd d) := pk_lRem (a := sd d / 65536) (b := 2) (by omega) (by omega) (by omega)
  rw [e0, e, e2, enc_i32]
/-- games by a seed: the seed, the tosses of the game, the latest, how many are over; who has won how many -/
def gs (np sz : Nat) (c : CO) (d : Nat) : Nat → Nat × Nat × Nat × Nat
  | 0 => (d, tg c, la c, 0)
  | i + 1 =>
    let s := gs np sz c d i
    let l := lat s.2.2.1 (sdd s.1)
    (sd s.1, (if whT np sz c (s.2.1 + 1) l = 0 then s.2.1 + 1 else 0), l, (if whT np sz c (s.2.1 + 1) l = 0 then s.2.2.2 else s.2.2.2 + 1))
/-- who hits by the toss behind the i-th -/
def gw (np sz : Nat) (c : CO) (d i : Nat) : Nat := whT np sz c ((gs np sz c d i).2.1 + 1) (lat (gs np sz c d i).2.2.1 (sdd (gs np sz c d i).1))
theorem gs_s (np sz : Nat) (c : CO) (d i : Nat) : gs np sz c d (i + 1) = (sd (gs np sz c d i).1, (if gw np sz c d i = 0 then (gs np sz c d i).2.1 + 1 else 0), lat (gs np sz c d i).2.2.1 (sdd (gs np sz c d i).1), (if gw np sz c d i = 0 then (gs np sz c d i).2.2.2 else (gs np sz c d i).2.2.2 + 1)) := rfl
def gW (np sz : Nat) (c : CO) (d : Nat) : Nat → Nat → Int32
  | 0 => fun _ => 0
  | i + 1 => fun p => gW np sz c d i p + nI (gw np sz c d i / 2 ^ p % 2)
theorem gs_ok {np sz : Nat} {c : CO} {d : Nat} (hd : d < 2 ^ 31) (hl : la c < 16) : ∀ i, (gs np sz c d i).1 < 2 ^ 31 ∧ (gs np sz c d i).2.1 ≤ tg c + i ∧ (gs np sz c d i).2.2.1 < 16 ∧ (gs np sz c d i).2.2.2 ≤ i
  | 0 => ⟨hd, Nat.le_refl _, hl, Nat.le_refl _⟩
  | i + 1 => by
    obtain ⟨h1, h2, h3, h4⟩ := gs_ok (np := np) (sz := sz) hd hl i
    rw [gs_s]
    refine ⟨sd_lt _, ?_, lat_lt _ _, ?_⟩
    · show (if gw np sz c d i = 0 then (gs np sz c d i).2.1 + 1 else 0) ≤ _
      by_cases e : gw np sz c d i = 0
      · rw [if_pos e]; omega
      · rw [if_neg e]; omega
    · show (if gw np sz c d i = 0 then (gs np sz c d i).2.2.2 else (gs np sz c d i).2.2.2 + 1) ≤ _
      by_cases e : gw np sz c d i = 0
      · rw [if_pos e]; omega
      · rw [if_neg e]; omega
/-- who has won most, the first of them -/
noncomputable def mw (W : Nat → Int32) : Nat → Nat
  | 0 => 0
  | i + 1 => if W (i + 1) ≤ W (mw W i) then mw W i else i + 1
theorem mw_s (W : Nat → Int32) (i : Nat) : mw W (i + 1) = if W (i + 1) ≤ W (mw W i) then mw W i else i + 1 := rfl
theorem mw_le (W : Nat → Int32) : ∀ i, mw W i ≤ i
  | 0 => Nat.le_refl _
  | i + 1 => by
    have h := mw_le W i
    rw [mw_s]
    by_cases e : W (i + 1) ≤ W (mw W i)
    · rw [if_pos e]; omega
    · rw [if_neg e]; omega
theorem mostT {np : Nat} {σ : ST} {W : Nat → Int32} (h1 : gI σ 1 = nI np) (h2 : 2 ≤ np) (h4 : np ≤ 4) (hW : ∀ p, p < np → gA σ 14 p = W p) : D_X8_mostWins σ = some (nI (mw W (np - 1))) := by
  unfold D_X8_mostWins D_X8_mostWins_L4
  refine itr_f (f := fun i => (nI (mw W i), nI (i + 1))) (N := np - 1) (by omega) (fun i hi rec => ?_) (fun rec => ?_)
  · show D_X8_mostWins_L4_body rec σ (nI (mw W i)) (nI (i + 1)) = rec (nI (mw W (i + 1)), nI (i + 1 + 1))
    have hm := mw_le W i
    simp only [D_X8_mostWins_L4_body, h1, inle (show i + 1 < np by omega) (by omega), L4, inle (show i + 1 < 4 by omega) (by omega), if_false, cl (show i + 1 < 2 ^ 31 by omega), gin (show i + 1 < 4 by omega) (by omega), cl (show mw W i < 2 ^ 31 by omega), gin (show mw W i < 4 by omega) (by omega), hW (i + 1) (by omega), hW (mw W i) (by omega), D_X8_mostWins_b38, nI_1]
    rw [mw_s]
    by_cases e : W (i + 1) ≤ W (mw W i)
    · rw [if_pos e, if_pos e]
    · rw [if_neg e, if_neg e]
  · show D_X8_mostWins_L4_body rec σ (nI (mw W (np - 1))) (nI (np - 1 + 1)) = _
    simp only [D_X8_mostWins_L4_body, h1, ile (show np ≤ np - 1 + 1 by omega) (by omega), if_true]
theorem mostWM {np : Nat} {τ : ST} {W : Nat → Int32} (h1 : gI τ 1 = nI np) (h2 : 2 ≤ np) (h4 : np ≤ 4) (hW : ∀ p, p < np → gA τ 10 p = W p) : D_X9_mostWon τ = some (nI (mw W (np - 1))) := by
  unfold D_X9_mostWon D_X9_mostWon_L4
  refine itr_f (f := fun i => (nI (mw W i), nI (i + 1))) (N := np - 1) (by omega) (fun i hi rec => ?_) (fun rec => ?_)
  · show D_X9_mostWon_L4_body rec τ (nI (mw W i)) (nI (i + 1)) = rec (nI (mw W (i + 1)), nI (i + 1 + 1))
    have hm := mw_le W i
    simp only [D_X9_mostWon_L4_body, h1, inle (show i + 1 < np by omega) (by omega), if_false, cl (show i + 1 < 2 ^ 31 by omega), gin (show i + 1 < 4 by omega) (by omega), cl (show mw W i < 2 ^ 31 by omega), gin (show mw W i < 4 by omega) (by omega), hW (i + 1) (by omega), hW (mw W i) (by omega), D_X9_mostWon_b32, nI_1]
    rw [mw_s]
    by_cases e : W (i + 1) ≤ W (mw W i)
    · rw [if_pos e, if_pos e]
    · rw [if_neg e, if_neg e]
  · show D_X9_mostWon_L4_body rec τ (nI (mw W (np - 1))) (nI (np - 1 + 1)) = _
    simp only [D_X9_mostWon_L4_body, h1, ile (show np ≤ np - 1 + 1 by omega) (by omega), if_true]
noncomputable def gv (np sz : Nat) (c : CO) (t d : Nat) (x : Int32) : Int32 := if x = 0 then nI (gs np sz c d t).2.2.2 else if x = 1 then nI (mw (gW np sz c d t) (np - 1)) else nI (gs np sz c d t).1
noncomputable def zr (a i : Nat) (t : ST) : ST := pA t a i 0
theorem zr_I (a N : Nat) (t : ST) (k : Nat) : gI (lp (zr a) N t) k = gI t k := lp_ind (P := fun _ u => gI u k = gI t k) rfl (fun i hi u hu => hu)
theorem zr_J (a N : Nat) (t : ST) (k : Nat) : gJ (lp (zr a) N t) k = gJ t k := lp_ind (P := fun _ u => gJ u k = gJ t k) rfl (fun i hi u hu => hu)
theorem zr_A (a N : Nat) (t : ST) (k : Nat) (hk : k ≠ a) : gA (lp (zr a) N t) k = gA t k := lp_ind (P := fun _ u => gA u k = gA t k) rfl (fun i hi u hu => by
  show gA (pA u a i _) k = _
  rw [gA_pA, if_neg hk]; exact hu)
theorem zr_Z (a N : Nat) (t : ST) : ∀ p, p < N → gA (lp (zr a) N t) a p = 0 := lp_ind (P := fun i u => ∀ p, p < i → gA u a p = 0) (fun p hp => absurd hp (Nat.not_lt_zero p)) (fun i hi u hu p hp => by
  show gA (pA u a i _) a p = _
  rw [gA_pA, if_pos rfl]
  by_cases e : p = i
  · rw [e, upd_at]
  · rw [upd_ne _ _ e]; exact hu p (by omega))
theorem zr_T {a : Nat} (ha : 13 ≤ a) (N : Nat) (t : ST) : EqT t (lp (zr a) N t) := ⟨fun k _ => zr_I a N t k, fun k hk => zr_A a N t k (by omega)⟩
theorem zr_M {a : Nat} (ha : 7 ≤ a) (ha2 : a ≤ 10) (N : Nat) (t : ST) : EqM t (lp (zr a) N t) := ⟨fun k _ _ _ => zr_I a N t k, fun k hk => zr_A a N t k (by omega), zr_J a N t 1⟩
theorem fill32 (σ : ST) : D_J7_fill_53178_32 σ 0 = some (lp (zr 14) 4 σ) := by
  unfold D_J7_fill_53178_32 D_J7_fill_53178_32_L5
  refine itr_f (f := fun i => (lp (zr 14) i σ, (0 : Int32), nI i, (4 : Int32))) (N := 4) (by omega) (fun i hi rec => ?_) (fun rec => ?_)
  · show D_J7_fill_53178_32_L5_body rec (lp (zr 14) i σ) 0 (nI i) 4 = rec (lp (zr 14) (i + 1) σ, 0, nI (i + 1), 4)
    simp only [D_J7_fill_53178_32_L5_body, L4, inle hi (by omega), if_false, cl (show i < 2 ^ 31 by omega), gin hi (by omega), nI_1, lp_s, zr]
  · show D_J7_fill_53178_32_L5_body rec (lp (zr 14) 4 σ) 0 (nI 4) 4 = _
    simp only [D_J7_fill_53178_32_L5_body, L4, ile (Nat.le_refl 4) (by omega), if_true]
theorem nxW_T {a : Nat} (ha : 13 ≤ a) (w N : Nat) (t : ST) : EqT t (lp (nxW a w) N t) := ⟨fun k _ => nxW_I a w N t k, fun k hk => nxW_A a w N t k (by omega)⟩
theorem nxW_M {a : Nat} (ha : 7 ≤ a) (ha2 : a ≤ 10) (w N : Nat) (t : ST) : EqM t (lp (nxW a w) N t) := ⟨fun k _ _ _ => nxW_I a w N t k, fun k hk => nxW_A a w N t k (by omega), nxW_J a w N t 1⟩
theorem trk00 (sz l : Nat) : trk sz 0 l = 1 := by unfold trk; simp [Nat.mod_one]
theorem gamesT {np sz t d : Nat} {c : CO} {σ : ST} {x : Int32} (hN : NS np sz) (h0 : 0 < np) (hF : FT np sz c σ) (hV : VC np sz c) (ht : t ≤ 99) (hd : d < 2 ^ 31) : ∃ σ', ((D_J7_fill_53178_32 σ 0).bind fun r1 => D_X8_games_L63 r1 (nI t) x (0 : Int32) (nI d) (gI r1 8) (0 : Int32)) = some (gv np sz c t d x, σ') ∧ EqT σ σ' := by
  have hnp := hN.np
  have h4 := hN.sz
  obtain ⟨n2, n3⟩ := hN.pos h0
  have hla := hV.2.2.2.2.2
  rw [fill32, Option.bind_some, zr_I, show gI σ 8 = nI (trk sz (tg c) (la c)) from hF.2.2.2.2.2.2.2.2.2.2.2]
  unfold D_X8_games_L63
  refine itr_i (fun i a => ∃ σ', a = (σ', nI t, x, nI (gs np sz c d i).2.2.2, nI (gs np sz c d i).1, nI (trk sz (gs np sz c d i).2.1 (gs np sz c d i).2.2.1), nI i) ∧ EqT σ σ' ∧ ∀ p, p < np → gA σ' 14 p = gW np sz c d i p) (fun r => ∃ σ', r = some (gv np sz c t d x, σ') ∧ EqT σ σ') (N := t) (by omega) ⟨lp (zr 14) 4 σ, rfl, zr_T (by omega) 4 σ, fun p hp => zr_Z 14 4 σ p (by omega)⟩ ?_ ?_
  · rintro i hi a ⟨σ', rfl, hE, hW⟩
    obtain ⟨g1, g2, g3, g4⟩ := gs_ok (np := np) (sz := sz) hd hla i
    have hP := hF.pt.eq hE
    have e1 := trackT (tg := (gs np sz c d i).2.1) hP.2.1 n3 h4 g3 (sdd_lt (gs np sz c d i).1)
    have e2 : D_X8_hittersAt σ' (nI (trk sz ((gs np sz c d i).2.1 + 1) (lat (gs np sz c d i).2.2.1 (sdd (gs np sz c d i).1)))) = some (nI (gw np sz c d i)) := hitTrk hN h0 hP hV
    have hw : gw np sz c d i < 16 := Nat.lt_of_lt_of_le (whT_lt _ _ _ _ _) (two_le (b := 4) hnp)
    by_cases e : gw np sz c d i = 0
    · refine ⟨(σ', nI t, x, nI (gs np sz c d (i + 1)).2.2.2, nI (gs np sz c d (i + 1)).1, nI (trk sz (gs np sz c d (i + 1)).2.1 (gs np sz c d (i + 1)).2.2.1), nI (i + 1)), ⟨σ', rfl, hE, fun p hp => ?_⟩, fun rec => ?_⟩
      · show _ = gW np sz c d i p + nI (gw np sz c d i / 2 ^ p % 2)
        rw [e, Nat.zero_div, hW p hp]; exact (Int32.add_zero _).symm
      · show D_X8_games_L63_body rec σ' (nI t) x (nI (gs np sz c d i).2.2.2) (nI (gs np sz c d i).1) (nI (trk sz (gs np sz c d i).2.1 (gs np sz c d i).2.2.1)) (nI i) = _
        simp only [D_X8_games_L63_body, inle hi (by omega), if_false, seedT g1, Option.bind_some, sideT, e1, e2, e, show (nI 0 = 0) = True from eq_true rfl, if_true, D_X8_games_b119, nI_1, gs_s]
    · refine ⟨(lp (nxW 14 (gw np sz c d i)) 4 σ', nI t, x, nI (gs np sz c d (i + 1)).2.2.2, nI (gs np sz c d (i + 1)).1, nI (trk sz (gs np sz c d (i + 1)).2.1 (gs np sz c d (i + 1)).2.2.1), nI (i + 1)), ⟨_, rfl, hE.trans (nxW_T (by omega) _ _ _), fun p hp => ?_⟩, fun rec => ?_⟩
      · show _ = gW np sz c d i p + nI (gw np sz c d i / 2 ^ p % 2)
        rw [nxW_W, if_pos (by omega), hW p hp]
      · show D_X8_games_L63_body rec σ' (nI t) x (nI (gs np sz c d i).2.2.2) (nI (gs np sz c d i).1) (nI (trk sz (gs np sz c d i).2.1 (gs np sz c d i).2.2.1)) (nI i) = _
        simp only [D_X8_games_L63_body, inle hi (by omega), if_false, seedT g1, Option.bind_some, sideT, e1, e2, e, in0 (show 0 < gw np sz c d i by omega) (by omega), addT2 σ' (show gw np sz c d i < 2 ^ 31 by omega), D_X8_games_b119, nI_1, gs_s, trk00]
        rfl
  · rintro a ⟨σ', rfl, hE, hW⟩
    have hP := hF.pt.eq hE
    refine ⟨some (gv np sz c t d x, σ'), ⟨σ', rfl, hE⟩, fun rec => ?_⟩
    show D_X8_games_L63_body rec σ' (nI t) x (nI (gs np sz c d t).2.2.2) (nI (gs np sz c d t).1) (nI (trk sz (gs np sz c d t).2.1 (gs np sz c d t).2.2.1)) (nI t) = _
    simp only [D_X8_games_L63_body, ile (Nat.le_refl t) (show t < 2 ^ 31 by omega), if_true, mostT hP.1 n2 hnp hW, Option.bind_some]
    unfold gv
    by_cases x0 : x = 0
    · rw [if_pos x0, if_pos x0]
    · rw [if_neg x0, if_neg x0]
      by_cases x1 : x = 1
      · rw [if_pos x1, if_pos x1]
      · rw [if_neg x1, if_neg x1]
theorem gamesM {np sz t d : Nat} {c : CO} {τ : ST} {x : Int32} (hN : NS np sz) (h0 : 0 < np) (hF : FM np sz c τ) (hV : VC np sz c) (ht : t ≤ 99) (hd : d < 2 ^ 31) : ∃ τ', D_X9_gamesNow τ (nI t) (nI d) x = some (gv np sz c t d x, τ') ∧ EqM τ τ' := by
  have hnp := hN.np
  have h4 := hN.sz
  obtain ⟨n2, n3⟩ := hN.pos h0
  have hla := hV.2.2.2.2.2
  have htg : tg c ≤ ts c := hV.2.2.2.2.1
  have hts : ts c ≤ 9999 := hV.2.2.2.1
  have eZ : D_X9_gamesNow τ (nI t) (nI d) x = D_X9_gamesNow_L47 (lp (zr 10) 4 (pJ τ 0 (enc d))) (nI t) x (nI (tg c)) (nI (la c)) 0 0 := by
    unfold D_X9_gamesNow D_X9_gamesNow_L24
    rw [gI_pJ, gI_pJ, show gI τ 3 = nI (tg c) from hF.2.2.2.2.2.2.2.2.2.2.1, show gI τ 4 = nI (la c) from hF.2.2.2.2.2.2.2.2.2.2.2, i64 hd]
    refine itr_f (f := fun i => (lp (zr 10) i (pJ τ 0 (enc d)), nI t, x, nI (tg c), nI (la c), (0 : Int32), nI i)) (N := 4) (by omega) (fun i hi rec => ?_) (fun rec => ?_)
    · show D_X9_gamesNow_L24_body rec (lp (zr 10) i (pJ τ 0 (enc d))) (nI t) x (nI (tg c)) (nI (la c)) 0 (nI i) = rec (lp (zr 10) (i + 1) (pJ τ 0 (enc d)), nI t, x, nI (tg c), nI (la c), 0, nI (i + 1))
      simp only [D_X9_gamesNow_L24_body, L4, inle hi (by omega), if_false, cl (show i < 2 ^ 31 by omega), gin hi (by omega), nI_1, lp_s, zr]
    · show D_X9_gamesNow_L24_body rec (lp (zr 10) 4 (pJ τ 0 (enc d))) (nI t) x (nI (tg c)) (nI (la c)) 0 (nI 4) = _
      simp only [D_X9_gamesNow_L24_body, L4, ile (Nat.le_refl 4) (by omega), if_true]
  rw [eZ]
  unfold D_X9_gamesNow_L47
  refine itr_i (fun i a => ∃ τ', a = (τ', nI t, x, nI (gs np sz c d i).2.1, nI (gs np sz c d i).2.2.1, nI (gs np sz c d i).2.2.2, nI i) ∧ EqM τ τ' ∧ gJ τ' 0 = enc (gs np sz c d i).1 ∧ ∀ p, p < np → gA τ' 10 p = gW np sz c d i p) (fun r => ∃ τ', r = some (gv np sz c t d x, τ') ∧ EqM τ τ') (N := t) (by omega) ⟨lp (zr 10) 4 (pJ τ 0 (enc d)), rfl, (EqM.pJ τ (enc d)).trans (zr_M (by omega) (by omega) 4 _), by rw [zr_J]; rfl, fun p hp => zr_Z 10 4 _ p (by omega)⟩ ?_ ?_
  · rintro i hi a ⟨τ', rfl, hE, hJ, hW⟩
    obtain ⟨g1, g2, g3, g4⟩ := gs_ok (np := np) (sz := sz) hd hla i
    have hw : gw np sz c d i < 16 := Nat.lt_of_lt_of_le (whT_lt _ _ _ _ _) (two_le (b := 4) hnp)
    obtain ⟨τ2, hτ2⟩ : ∃ τ2, τ2 = pJ τ' 0 (enc (sd (gs np sz c d i).1)) := ⟨_, rfl⟩
    have hE2 : EqM τ τ2 := by rw [hτ2]; exact hE.trans (EqM.pJ _ _)
    have hP := hF.pm.eq hE2
    have e1 : D_X9_whoHits τ2 (nI ((gs np sz c d i).2.1 + 1)) (nI (lat (gs np sz c d i).2.2.1 (sdd (gs np sz c d i).1))) = some (nI (gw np sz c d i)) := whoM hN h0 hP hV (by omega)
    refine ⟨(lp (nxW 10 (gw np sz c d i)) np τ2, nI t, x, nI (gs np sz c d (i + 1)).2.1, nI (gs np sz c d (i + 1)).2.2.1, nI (gs np sz c d (i + 1)).2.2.2, nI (i + 1)), ⟨_, rfl, hE2.trans (nxW_M (by omega) (by omega) _ _ _), ?_, fun p hp => ?_⟩, fun rec => ?_⟩
    · rw [nxW_J, hτ2, gJ_pJ, if_pos rfl]; rfl
    · show _ = gW np sz c d i p + nI (gw np sz c d i / 2 ^ p % 2)
      rw [nxW_W, if_pos hp, hτ2, gA_pJ, hW p hp]
    · show D_X9_gamesNow_L47_body rec τ' (nI t) x (nI (gs np sz c d i).2.1) (nI (gs np sz c d i).2.2.1) (nI (gs np sz c d i).2.2.2) (nI i) = _
      simp only [D_X9_gamesNow_L47_body, inle hi (by omega), if_false, drawM hJ, Option.bind_some, ← hτ2, nI_1]
      rw [show ((nI (gs np sz c d i).2.2.1 <<< ((1 : Int32) &&& 31)) ||| nI (sdd (gs np sz c d i).1)) &&& 15 = nI (lat (gs np sz c d i).2.2.1 (sdd (gs np sz c d i).1)) from lat_all ⟨(gs np sz c d i).2.2.1, g3⟩ ⟨sdd (gs np sz c d i).1, sdd_lt _⟩, e1, Option.bind_some]
      unfold D_X9_gamesNow_L84
      refine itr_f (f := fun p => (lp (nxW 10 (gw np sz c d i)) p τ2, nI t, x, nI ((gs np sz c d i).2.1 + 1), nI (lat (gs np sz c d i).2.2.1 (sdd (gs np sz c d i).1)), nI (gs np sz c d i).2.2.2, nI i, nI (gw np sz c d i), nI p)) (N := np) (by omega) (fun p hp rec2 => ?_) (fun rec2 => ?_)
      · show D_X9_gamesNow_L84_body rec rec2 (lp (nxW 10 (gw np sz c d i)) p τ2) (nI t) x (nI ((gs np sz c d i).2.1 + 1)) (nI (lat (gs np sz c d i).2.2.1 (sdd (gs np sz c d i).1))) (nI (gs np sz c d i).2.2.2) (nI i) (nI (gw np sz c d i)) (nI p) = rec2 (lp (nxW 10 (gw np sz c d i)) (p + 1) τ2, nI t, x, nI ((gs np sz c d i).2.1 + 1), nI (lat (gs np sz c d i).2.2.1 (sdd (gs np sz c d i).1)), nI (gs np sz c d i).2.2.2, nI i, nI (gw np sz c d i), nI (p + 1))
        simp only [D_X9_gamesNow_L84_body, nxW_I, hP.1, inle hp (by omega), if_false, cl (show p < 2 ^ 31 by omega), gin (show p < 4 by omega) (by omega), bitI (show gw np sz c d i < 2 ^ 31 by omega) (show p < 32 by omega), nI_1]
        rfl
      · show D_X9_gamesNow_L84_body rec rec2 (lp (nxW 10 (gw np sz c d i)) np τ2) (nI t) x (nI ((gs np sz c d i).2.1 + 1)) (nI (lat (gs np sz c d i).2.2.1 (sdd (gs np sz c d i).1))) (nI (gs np sz c d i).2.2.2) (nI i) (nI (gw np sz c d i)) (nI np) = _
        by_cases e : gw np sz c d i = 0
        · simp only [D_X9_gamesNow_L84_body, nxW_I, hP.1, ile (Nat.le_refl np) (show np < 2 ^ 31 by omega), if_true, e, show (nI 0 = 0) = True from eq_true rfl, D_X9_gamesNow_b128, D_X9_gamesNow_b142, nI_1, gs_s, Int32.add_zero]
        · simp only [D_X9_gamesNow_L84_body, nxW_I, hP.1, ile (Nat.le_refl np) (show np < 2 ^ 31 by omega), if_true, e, in0 (show 0 < gw np sz c d i by omega) (show gw np sz c d i < 2 ^ 31 by omega), if_false, D_X9_gamesNow_b128, D_X9_gamesNow_b142, nI_1, gs_s]
          rfl
  · rintro a ⟨τ', rfl, hE, hJ, hW⟩
    have hP := hF.pm.eq hE
    refine ⟨some (gv np sz c t d x, τ'), ⟨τ', rfl, hE⟩, fun rec => ?_⟩
    show D_X9_gamesNow_L47_body rec τ' (nI t) x (nI (gs np sz c d t).2.1) (nI (gs np sz c d t).2.2.1) (nI (gs np sz c d t).2.2.2) (nI t) = _
    simp only [D_X9_gamesNow_L47_body, ile (Nat.le_refl t) (show t < 2 ^ 31 by omega), if_true, mostWM hP.1 n2 hnp hW, Option.bind_some, hJ, enc_i32]
    unfold gv
    by_cases x0 : x = 0
    · rw [if_pos x0, if_pos x0]
    · rw [if_neg x0, if_neg x0]
      by_cases x1 : x = 1
      · rw [if_pos x1, if_pos x1]
      · rw [if_neg x1, if_neg x1]
theorem ilq {a b : Int32} : (a ≤ b) = ¬ b < a := by
  rw [Int32.lt_iff_toInt_lt, Int32.le_iff_toInt_le]
  exact propext (by omega)
theorem S_games_ok : S_games Rel := by
  intro n σ τ a b d hR hn
  have hR' := hR
  obtain ⟨np, sz, pl, rd, pg, c, k, hH, hP, hT, hM, hV, hK⟩ := hR (by omega)
  have hFT : FT np sz c σ := ⟨hH.2.1, hH.2.2.2.1, hT⟩
  have hFM : FM np sz c τ := ⟨hH.2.2.1, hH.2.2.2.2.1, hM⟩
  have out : D_X8_games σ a b d = some (-102, σ) → D_X9_games τ a b d = some (-102, τ) → ∃ (v : Int32) (σ' : ST) (τ' : ST), D_X8_games σ a b d = some (v, σ') ∧ D_X9_games τ a b d = some (v, τ') ∧ Rel (n + 1) σ' τ' := fun h1 h2 => ⟨_, _, _, h1, h2, Rel.query hR' hn EqT.rfl' EqM.rfl'⟩
  by_cases a1 : a < 1
  · apply out
    · simp only [D_X8_games, a1, if_true]
    · simp only [D_X9_games, D_X9_within, a1, if_true, Option.bind_some, i00]
  by_cases a2 : (99 : Int32) < a
  · apply out
    · simp only [D_X8_games, a1, a2, if_true, if_false]
    · simp only [D_X9_games, D_X9_within, a1, a2, if_true, if_false, Option.bind_some, i00]
  by_cases b1 : b < 0
  · apply out
    · simp only [D_X8_games, a1, a2, b1, if_true, if_false]
    · simp only [D_X9_games, D_X9_within, a1, a2, b1, if_true, if_false, Option.bind_some, i10]
  by_cases d1 : d < 0
  · apply out
    · simp only [D_X8_games, a1, a2, b1, d1, if_true, if_false]
    · simp only [D_X9_games, D_X9_within, a1, a2, b1, d1, if_true, if_false, Option.bind_some, i10, i00]
  by_cases d2 : (2 : Int32) < d
  · apply out
    · simp only [D_X8_games, a1, a2, b1, d1, ilq, d2, if_true, if_false, not_true_eq_false]
    · simp only [D_X9_games, D_X9_within, a1, a2, b1, d1, d2, if_true, if_false, Option.bind_some, i10, i00]
  by_cases h0 : np = 0
  · refine ⟨-103, σ, τ, ?_, ?_, Rel.query hR' hn EqT.rfl' EqM.rfl'⟩
    · simp only [D_X8_games, a1, a2, b1, d1, ilq, d2, if_true, if_false, not_false_eq_true, hH.2.1, h0, show (nI 0 = 0) = True from eq_true rfl]
    · simp only [D_X9_games, D_X9_within, a1, a2, b1, d1, d2, if_true, if_false, Option.bind_some, i10, hH.2.2.1, h0, show (nI 0 = 0) = True from eq_true rfl]
  · have hnp := hH.1.np
    have a0 : ¬ a < 0 := fun q => a1 (by rw [Int32.lt_iff_toInt_lt] at q ⊢; have e : (1 : Int32).toInt = 1 := by decide
                                         have e0 : (0 : Int32).toInt = 0 := by decide
                                         omega)
    obtain ⟨t, ht, rfl⟩ := nI_of2 (M := 99) (n := 99) rfl a0 (by rw [ilq]; exact a2)
    obtain ⟨s, hs, rfl⟩ := nI_of b1
    obtain ⟨σ', g1, gE⟩ := gamesT (x := d) hH.1 (show 0 < np by omega) hFT hV ht hs
    obtain ⟨τ', g2, gM⟩ := gamesM (x := d) hH.1 (show 0 < np by omega) hFM hV ht hs
    refine ⟨gv np sz c t s d, σ', τ', ?_, ?_, Rel.query hR' hn gE gM⟩
    · simp only [D_X8_games, a1, a2, b1, d1, ilq, d2, if_true, if_false, not_false_eq_true, hH.2.1, in0 (show 0 < np by omega) (show np < 2 ^ 31 by omega)]
      exact g1
    · simp only [D_X9_games, D_X9_within, a1, a2, b1, d1, d2, if_true, if_false, Option.bind_some, i10, hH.2.2.1, in0 (show 0 < np by omega) (show np < 2 ^ 31 by omega), g2]
