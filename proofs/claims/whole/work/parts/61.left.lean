/-! Which rows are left, which toss to try. -/
def FT (np sz : Nat) (c : CO) (σ : ST) : Prop := gI σ 1 = nI np ∧ gI σ 2 = nI sz ∧ CTn np sz c σ
def FM (np sz : Nat) (c : CO) (τ : ST) : Prop := gI τ 1 = nI np ∧ gI τ 2 = nI sz ∧ CMn np c τ
theorem FT.pt {np sz : Nat} {c : CO} {σ : ST} (h : FT np sz c σ) : PT np sz c σ := ⟨h.1, h.2.1, h.2.2.1, h.2.2.2.1⟩
theorem FM.pm {np sz : Nat} {c : CO} {σ : ST} (h : FM np sz c σ) : PM np sz c σ := ⟨h.1, h.2.1, h.2.2.1, h.2.2.2.1⟩
theorem FT.eq {np sz : Nat} {c : CO} {σ σ' : ST} (h : FT np sz c σ) (hE : EqT σ σ') : FT np sz c σ' := by
  obtain ⟨tI, tA⟩ := hE
  unfold FT CTn at *
  simp only [tI 1 (by decide), tI 2 (by decide), tI 5 (by decide), tI 6 (by decide), tI 7 (by decide), tI 8 (by decide), tA 1 (by decide), tA 2 (by decide), tA 3 (by decide), tA 4 (by decide), tA 5 (by decide), tA 6 (by decide)]
  exact h
theorem FM.eq {np sz : Nat} {c : CO} {σ σ' : ST} (h : FM np sz c σ) (hE : EqM σ σ') : FM np sz c σ' := by
  obtain ⟨mI, mA, -⟩ := hE
  unfold FM CMn at *
  simp only [mI 1 (by decide) (by decide) (by decide), mI 2 (by decide) (by decide) (by decide), mI 3 (by decide) (by decide) (by decide), mI 4 (by decide) (by decide) (by decide), mI 5 (by decide) (by decide) (by decide), mI 6 (by decide) (by decide) (by decide), mA 0 (by decide), mA 1 (by decide), mA 2 (by decide), mA 3 (by decide), mA 4 (by decide), mA 5 (by decide)]
  exact h
def hb (sz K r t : Nat) : Bool := decide (HB sz K r / 2 ^ t % 2 = 1)
theorem betsT {σ : ST} {sz K t : Nat} (hz : gI σ 2 = nI sz) (h2 : 2 ≤ sz) (h4 : sz ≤ 4) (hK : K < 5) (ht : t < 2 ^ sz) : D_X8_betsThatHit σ K (nI t) = some (nI (sB (fun r => hb sz K r t) (2 ^ sz))) := by
  have h16 := p2s h4
  unfold D_X8_betsThatHit D_X8_betsThatHit_L5
  refine itr_f (f := fun i : Nat => (K, nI t, nI (sB (fun r => hb sz K r t) i), nI i)) (N := 2 ^ sz) (by omega) (fun i hi rec => ?_) (fun rec => ?_)
  · show D_X8_betsThatHit_L5_body rec σ K (nI t) (nI (sB (fun r => hb sz K r t) i)) (nI i) = rec (K, nI t, nI (sB (fun r => hb sz K r t) (i + 1)), nI (i + 1))
    have hh := HB_16 h2 h4 hK hi
    simp only [D_X8_betsThatHit_L5_body, hz, sh1' (show sz < 31 by omega), inle hi (by omega), if_false, hitT σ h2 h4 hK hi, Option.bind_some, hasT (show HB sz K i < 2 ^ 31 by omega) (show t < 32 by omega), D_X8_betsThatHit_b40, sh1' (show i < 31 by omega), orI, nI_1, sB_s]
    unfold hb
    rcases bit01 (HB sz K i) t with q | q
    · rw [q, if_pos (show nI 0 = 0 from rfl)]
      show _ = rec (K, nI t, nI (_ ||| 0), nI (i + 1))
      rw [Nat.or_zero]
    · rw [q, if_neg (show ¬ nI 1 = 0 by decide)]; rfl
  · show D_X8_betsThatHit_L5_body rec σ K (nI t) (nI (sB (fun r => hb sz K r t) (2 ^ sz))) (nI (2 ^ sz)) = _
    simp only [D_X8_betsThatHit_L5_body, hz, sh1' (show sz < 31 by omega), ile (Nat.le_refl (2 ^ sz)) (by omega), if_true]
/-- whether a row agrees with the first that was seen -/
def okS (sz : Nat) (c : CO) (p r : Nat) : Nat → Bool
  | 0 => true
  | i + 1 => okS sz c p r i && (if sp c i = p then decide (HB sz (kd c p) r / 2 ^ stl c i % 2 = sh c i) else true)
theorem okS_s (sz : Nat) (c : CO) (p r i : Nat) : okS sz c p r (i + 1) = (okS sz c p r i && (if sp c i = p then decide (HB sz (kd c p) r / 2 ^ stl c i % 2 = sh c i) else true)) := rfl
noncomputable def lf (sz : Nat) (c : CO) (p : Nat) : Nat := sB (fun r => okS sz c p r (sn c)) (2 ^ sz)
theorem sB_16 {sz : Nat} (h4 : sz ≤ 4) (f : Nat → Bool) : sB f (2 ^ sz) < 65536 := Nat.lt_of_lt_of_le (sB_lt _ _) (Nat.le_trans (Nat.pow_le_pow_right (by omega) (p2s h4)) (Nat.le_refl _))
theorem lf_lt {sz : Nat} (h4 : sz ≤ 4) (c : CO) (p : Nat) : lf sz c p < 65536 := Nat.lt_of_lt_of_le (sB_lt _ _) (Nat.le_trans (Nat.pow_le_pow_right (by omega) (p2s h4)) (Nat.le_refl _))
theorem leftT {np sz p : Nat} {c : CO} {σ : ST} (hN : NS np sz) (hF : FT np sz c σ) (hV : VC np sz c) (hp0 : p < np) : D_X8_rowsLeft σ (nI p) = some (nI (lf sz c p)) := by
  have hnp := hN.np
  have h4 := hN.sz
  obtain ⟨n2, n3⟩ := hN.pos (show 0 < np by omega)
  have h16 := p2s h4
  have hsn := hV.2.1
  have hK := (hV.1 p hp0).1
  have e0 : ((1 : Int32) <<< (((1 : Int32) <<< (nI sz &&& 31)) &&& 31)) - (1 : Int32) = nI (sB (fun r => okS sz c p r 0) (2 ^ sz)) := by
    rw [sh1' (show sz < 31 by omega), sh1' (show 2 ^ sz < 31 by omega), show (1 : Int32) = nI 1 from rfl, pk_sub (Nat.pos_of_ne_zero (by simp)), show (fun r => okS sz c p r 0) = (fun _ => true) from rfl, sB_all]
  simp only [D_X8_rowsLeft, gin (show p < 4 by omega) (by omega), if_false, cl (show p < 2 ^ 31 by omega), hF.2.2.1 p hp0, kindAtT σ hK, Option.bind_some, hF.2.1, e0]
  unfold D_X8_rowsLeft_L28 lf
  refine itr_f (f := fun i : Nat => (nI p, kd c p, nI (sB (fun r => okS sz c p r i) (2 ^ sz)), nI i)) (N := sn c) (by omega) (fun i hi rec => ?_) (fun rec => ?_)
  · show D_X8_rowsLeft_L28_body rec σ (nI p) (kd c p) (nI (sB (fun r => okS sz c p r i) (2 ^ sz))) (nI i) = rec (nI p, kd c p, nI (sB (fun r => okS sz c p r (i + 1)) (2 ^ sz)), nI (i + 1))
    obtain ⟨v1, v2, v3⟩ := hV.2.2.1 i hi
    have c6 : ((6 : Int32) ≤ nI i) = False := inle (b := i) (a := 6) (by omega) (by omega)
    have x5 : gI σ 5 = nI (sn c) := hF.2.2.2.2.2.2.2.2.1
    have x4 : gA σ 4 i = nI (sp c i) := hF.2.2.2.2.2.1 i hi
    have xt : gA σ 5 i = nI (stl c i) := hF.2.2.2.2.2.2.1 i hi
    have xh : gA σ 6 i = nI (sh c i) := hF.2.2.2.2.2.2.2.1 i hi
    simp only [D_X8_rowsLeft_L28_body, x5, inle hi (by omega), if_false, c6, gin (show i < 6 by omega) (by omega), cl (show i < 2 ^ 31 by omega), x4, xt, xh, betsT hF.2.1 n3 h4 hK v2, Option.bind_some, D_X8_rowsLeft_b101, D_X8_rowsLeft_b103, nI_1]
    by_cases e : sp c i = p
    · rw [if_pos (show nI (sp c i) = nI p by rw [e])]
      rcases (show sh c i = 0 ∨ sh c i = 1 by omega) with q | q
      · rw [q, if_pos (show nI 0 = 0 from rfl), show (-1 : Int32) = nI 4294967295 by decide, xorI, andI, sB_not _ _ (by omega)]
        rw [sB_c (g := fun r => okS sz c p r (i + 1)) (2 ^ sz) (fun r _ => ?_)]
        rw [okS_s, if_pos e, q]
        unfold hb
        rcases bit01 (HB sz (kd c p) r) (stl c i) with z | z <;> rw [z] <;> rfl
      · rw [q, if_neg (show ¬ nI 1 = 0 by decide), andI, sB_and]
        rw [sB_c (g := fun r => okS sz c p r (i + 1)) (2 ^ sz) (fun r _ => ?_)]
        rw [okS_s, if_pos e, q]
        rfl
    · rw [if_neg (fun q => e ((nI_eq (by omega) (by omega)).mp q))]
      rw [sB_c (g := fun r => okS sz c p r (i + 1)) (2 ^ sz) (fun r _ => ?_)]
      rw [okS_s, if_neg e, Bool.and_true]
  · show D_X8_rowsLeft_L28_body rec σ (nI p) (kd c p) (nI (sB (fun r => okS sz c p r (sn c)) (2 ^ sz))) (nI (sn c)) = _
    have x5 : gI σ 5 = nI (sn c) := hF.2.2.2.2.2.2.2.2.1
    simp only [D_X8_rowsLeft_L28_body, x5, ile (Nat.le_refl (sn c)) (by omega), if_true]
def b2 (b : Bool) : Nat := cond b 1 0
theorem leftM {np sz p : Nat} {c : CO} {τ : ST} (hN : NS np sz) (hF : FM np sz c τ) (hV : VC np sz c) (hp0 : p < np) : D_X9_rowsOf τ (nI p) = some (nI (lf sz c p)) := by
  have hnp := hN.np
  have h4 := hN.sz
  obtain ⟨n2, n3⟩ := hN.pos (show 0 < np by omega)
  have h16 := p2s h4
  have hsn := hV.2.1
  have hK := (hV.1 p hp0).1
  have x6 : gI τ 6 = nI (sn c) := hF.2.2.2.2.2.2.2.2.1
  have inner : ∀ (rec4 : (Int32 × Int32 × Int32) → Option Int32) (x r : Nat), r < 2 ^ sz → D_X9_rowsOf_L18 rec4 τ (nI p) (nI x) (nI r) 1 0 = rec4 (nI p, nI (x ||| cond (okS sz c p r (sn c)) (2 ^ r) 0), nI (r + 1)) := by
    intro rec4 x r hr
    have hh := HB_16 n3 h4 hK hr
    unfold D_X9_rowsOf_L18
    refine itr_f (f := fun i : Nat => (nI p, nI x, nI r, nI (b2 (okS sz c p r i)), nI i)) (N := sn c) (by omega) (fun i hi rec => ?_) (fun rec => ?_)
    · show D_X9_rowsOf_L18_body rec4 rec τ (nI p) (nI x) (nI r) (nI (b2 (okS sz c p r i))) (nI i) = rec (nI p, nI x, nI r, nI (b2 (okS sz c p r (i + 1))), nI (i + 1))
      obtain ⟨v1, v2, v3⟩ := hV.2.2.1 i hi
      have x4 : gA τ 3 i = nI (sp c i) := hF.2.2.2.2.2.1 i hi
      have xt : gA τ 4 i = nI (stl c i) := hF.2.2.2.2.2.2.1 i hi
      have xh : gA τ 5 i = nI (sh c i) := hF.2.2.2.2.2.2.2.1 i hi
      have xk : gA τ 0 p = nI (kd c p) := hF.2.2.1 p hp0
      simp only [D_X9_rowsOf_L18_body, x6, inle hi (by omega), if_false, gin (show i < 6 by omega) (by omega), gin (show p < 4 by omega) (by omega), cl (show i < 2 ^ 31 by omega), cl (show p < 2 ^ 31 by omega), x4, xt, xh, xk, hitM hF.2.1 n3 h4 hK hr, Option.bind_some, bitI (show HB sz (kd c p) r < 2 ^ 31 by omega) (show stl c i < 32 by omega), D_X9_rowsOf_b78, D_X9_rowsOf_b74, D_X9_rowsOf_b79, nI_1]
      rw [okS_s]
      cases ho : okS sz c p r i with
      | false => rw [if_pos (show nI (b2 false) = 0 from rfl)]; rfl
      | true =>
        rw [if_neg (show ¬ nI (b2 true) = 0 by decide), Bool.true_and]
        by_cases e : sp c i = p
        · rw [if_pos (show nI (sp c i) = nI p by rw [e]), if_pos e]
          by_cases z : HB sz (kd c p) r / 2 ^ stl c i % 2 = sh c i
          · rw [z, if_pos rfl, decide_eq_true rfl]; rfl
          · rw [if_neg (fun q => z ((nI_eq (by omega) (by omega)).mp q)), decide_eq_false z]; rfl
        · rw [if_neg (fun q => e ((nI_eq (by omega) (by omega)).mp q)), if_neg e]; rfl
    · show D_X9_rowsOf_L18_body rec4 rec τ (nI p) (nI x) (nI r) (nI (b2 (okS sz c p r (sn c)))) (nI (sn c)) = _
      simp only [D_X9_rowsOf_L18_body, x6, ile (Nat.le_refl (sn c)) (by omega), if_true, D_X9_rowsOf_b100, nI_1, sh1' (show r < 31 by omega)]
      cases ho : okS sz c p r (sn c) with
      | false =>
        rw [if_pos (show nI (b2 false) = 0 from rfl), show (0 : Int32) = nI 0 from rfl, orI]; rfl
      | true =>
        rw [if_neg (show ¬ nI (b2 true) = 0 by decide), orI]; rfl
  unfold D_X9_rowsOf D_X9_rowsOf_L4 lf
  refine itr_f (f := fun r : Nat => (nI p, nI (sB (fun r => okS sz c p r (sn c)) r), nI r)) (N := 2 ^ sz) (by omega) (fun r hr rec => ?_) (fun rec => ?_)
  · show D_X9_rowsOf_L4_body rec τ (nI p) (nI (sB (fun r => okS sz c p r (sn c)) r)) (nI r) = rec (nI p, nI (sB (fun r => okS sz c p r (sn c)) (r + 1)), nI (r + 1))
    simp only [D_X9_rowsOf_L4_body, rowsM hF.2.1 h4, Option.bind_some, inle hr (by omega), if_false]
    rw [inner rec _ r hr]; rfl
  · show D_X9_rowsOf_L4_body rec τ (nI p) (nI (sB (fun r => okS sz c p r (sn c)) (2 ^ sz))) (nI (2 ^ sz)) = _
    simp only [D_X9_rowsOf_L4_body, rowsM hF.2.1 h4, Option.bind_some, ile (Nat.le_refl (2 ^ sz)) (by omega), if_true]
/-- how many of the rows left hit by a tail; and how many at worst -/
noncomputable def ys (sz : Nat) (c : CO) (p t n : Nat) : Nat := cn (fun r => okS sz c p r (sn c) && hb sz (kd c p) r t) n
noncomputable def mc (sz : Nat) (c : CO) (p : Nat) : Nat := cn (fun r => okS sz c p r (sn c)) (2 ^ sz)
noncomputable def wv (sz : Nat) (c : CO) (p t : Nat) : Nat := if ys sz c p t (2 ^ sz) < mc sz c p - ys sz c p t (2 ^ sz) then mc sz c p - ys sz c p t (2 ^ sz) else ys sz c p t (2 ^ sz)
theorem cn_and (f g : Nat → Bool) : ∀ n, cn (fun r => f r && g r) n ≤ cn f n
  | 0 => Nat.le_refl 0
  | n + 1 => by
    rw [cn_s, cn_s]
    have := cn_and f g n
    cases f n <;> cases g n <;> simp only [Bool.false_and, Bool.true_and, cond_true, cond_false] <;> omega
theorem cn_le (f : Nat → Bool) : ∀ n, cn f n ≤ n
  | 0 => Nat.le_refl 0
  | n + 1 => by
    rw [cn_s]
    have := cn_le f n
    cases f n <;> simp only [cond_true, cond_false] <;> omega
theorem wv_le {sz : Nat} (h4 : sz ≤ 4) (c : CO) (p t : Nat) : ys sz c p t (2 ^ sz) ≤ mc sz c p ∧ wv sz c p t ≤ mc sz c p ∧ mc sz c p ≤ 16 := by
  have h1 : ys sz c p t (2 ^ sz) ≤ mc sz c p := cn_and _ _ _
  have h2 : mc sz c p ≤ 2 ^ sz := cn_le _ _
  have h16 := p2s h4
  refine ⟨h1, ?_, by omega⟩
  unfold wv
  by_cases e : ys sz c p t (2 ^ sz) < mc sz c p - ys sz c p t (2 ^ sz)
  · rw [if_pos e]; omega
  · rw [if_neg e]; exact h1
noncomputable def tb (sz : Nat) (c : CO) (p : Nat) : Nat → Nat × Nat
  | 0 => (0, mc sz c p + 1)
  | t + 1 => if (tb sz c p t).2 ≤ wv sz c p t then tb sz c p t else (t, wv sz c p t)
theorem tb_0 (sz : Nat) (c : CO) (p : Nat) : tb sz c p 0 = (0, mc sz c p + 1) := rfl
theorem tb_s (sz : Nat) (c : CO) (p t : Nat) : tb sz c p (t + 1) = if (tb sz c p t).2 ≤ wv sz c p t then tb sz c p t else (t, wv sz c p t) := rfl
theorem tb_le {sz : Nat} (h4 : sz ≤ 4) (c : CO) (p : Nat) : ∀ t, (tb sz c p t).2 ≤ 17
  | 0 => by have := (wv_le h4 c p 0).2.2; show mc sz c p + 1 ≤ 17; omega
  | t + 1 => by
    rw [tb_s]
    have := wv_le h4 c p t
    by_cases e : (tb sz c p t).2 ≤ wv sz c p t
    · rw [if_pos e]; exact tb_le h4 c p t
    · rw [if_neg e]; show wv sz c p t ≤ 17; omega
noncomputable def tv (sz : Nat) (c : CO) (p : Nat) : Int32 := if lf sz c p = 0 then -1 else nI (tb sz c p (2 ^ sz)).1
theorem tryT {np sz p : Nat} {c : CO} {σ : ST} (hN : NS np sz) (hF : FT np sz c σ) (hV : VC np sz c) (hp0 : p < np) : D_X8_nextTry σ (nI p) = some (tv sz c p) := by
  have hnp := hN.np
  have h4 := hN.sz
  obtain ⟨n2, n3⟩ := hN.pos (show 0 < np by omega)
  have h16 := p2s h4
  have hK := (hV.1 p hp0).1
  have hl := lf_lt h4 c p
  unfold tv
  by_cases h0 : lf sz c p = 0
  · simp only [D_X8_nextTry, leftT hN hF hV hp0, Option.bind_some, h0, show (nI 0 = 0) = True from eq_true rfl, if_true]
  · have em : ps 16 (lf sz c p) = mc sz c p := by
      unfold lf mc
      rw [ps_sB, show min 16 (2 ^ sz) = 2 ^ sz by omega]
    simp only [D_X8_nextTry, leftT hN hF hV hp0, Option.bind_some, in0 (show 0 < lf sz c p by omega) (by omega), if_false, gin (show p < 4 by omega) (by omega), cl (show p < 2 ^ 31 by omega), hF.2.2.1 p hp0, kindAtT σ hK, bitT hl, em, h0, nI_1]
    unfold D_X8_nextTry_L44
    have e0 : (nI (lf sz c p), kd c p, nI (mc sz c p), (0 : Int32), nI (mc sz c p + 1), (0 : Int32)) = (fun t : Nat => (nI (lf sz c p), kd c p, nI (mc sz c p), nI (tb sz c p t).1, nI (tb sz c p t).2, nI t)) 0 := by
      show _ = (nI (lf sz c p), kd c p, nI (mc sz c p), nI (tb sz c p 0).1, nI (tb sz c p 0).2, nI 0)
      rw [tb_0, nI_0]
    rw [e0]
    refine itr_f (f := fun t : Nat => (nI (lf sz c p), kd c p, nI (mc sz c p), nI (tb sz c p t).1, nI (tb sz c p t).2, nI t)) (N := 2 ^ sz) (by omega) (fun t ht rec => ?_) (fun rec => ?_)
    · show D_X8_nextTry_L44_body rec σ (nI (lf sz c p)) (kd c p) (nI (mc sz c p)) (nI (tb sz c p t).1) (nI (tb sz c p t).2) (nI t) = rec (nI (lf sz c p), kd c p, nI (mc sz c p), nI (tb sz c p (t + 1)).1, nI (tb sz c p (t + 1)).2, nI (t + 1))
      have hw := wv_le h4 c p t
      have htb := tb_le h4 c p t
      have ea : lf sz c p &&& sB (fun r => hb sz (kd c p) r t) (2 ^ sz) = sB (fun r => okS sz c p r (sn c) && hb sz (kd c p) r t) (2 ^ sz) := by
        unfold lf
        rw [sB_and]
      have ey : ps 16 (sB (fun r => okS sz c p r (sn c) && hb sz (kd c p) r t) (2 ^ sz)) = ys sz c p t (2 ^ sz) := by
        rw [ps_sB, show min 16 (2 ^ sz) = 2 ^ sz by omega]; rfl
      have hl2 : sB (fun r => okS sz c p r (sn c) && hb sz (kd c p) r t) (2 ^ sz) < 65536 := sB_16 h4 _
      have ew : (if nI (ys sz c p t (2 ^ sz)) < nI (mc sz c p - ys sz c p t (2 ^ sz)) then nI (mc sz c p - ys sz c p t (2 ^ sz)) else nI (ys sz c p t (2 ^ sz))) = nI (wv sz c p t) := by
        unfold wv
        by_cases e : ys sz c p t (2 ^ sz) < mc sz c p - ys sz c p t (2 ^ sz)
        · rw [if_pos (nI_lt e (by omega)), if_pos e]
        · rw [if_neg (nI_nlt (by omega) (by omega)), if_neg e]
      have e1 := betsT hF.2.1 n3 h4 hK ht
      have e2 : D_J6_bitCount_0f7a4 (nI (lf sz c p) &&& nI (sB (fun r => hb sz (kd c p) r t) (2 ^ sz))) = some (nI (ys sz c p t (2 ^ sz))) := by rw [andI, ea, bitT hl2, ey]
      have e3 : nI (mc sz c p) - nI (ys sz c p t (2 ^ sz)) = nI (mc sz c p - ys sz c p t (2 ^ sz)) := pk_sub hw.1
      have et := tb_s sz c p t
      have c1 : ¬ ((1 : Int32) <<< (gI σ 2 &&& 31)) ≤ nI t := by rw [hF.2.1, sh1' (show sz < 31 by omega)]; exact nI_ge ht (by omega)
      clear ea ey hl2
      generalize tb sz c p (t + 1) = B' at et ⊢
      generalize tb sz c p t = B at htb et ⊢
      generalize wv sz c p t = w at hw ew et ⊢
      generalize ys sz c p t (2 ^ sz) = y at hw ew e2 e3 ⊢
      generalize sB (fun r => hb sz (kd c p) r t) (2 ^ sz) = S at e1 e2
      generalize mc sz c p = m at hw ew e3 ⊢
      generalize lf sz c p = L at e2 ⊢
      unfold D_X8_nextTry_L44_body
      rw [if_neg c1, e1, Option.bind_some, e2, Option.bind_some, e3, ew]
      unfold D_X8_nextTry_b96
      rw [nI_1, et]
      by_cases e : B.2 ≤ w
      · rw [if_pos (nI_le e (by omega)), if_pos e]
      · rw [if_neg (nI_ge (by omega) (by omega)), if_neg e]
    · show D_X8_nextTry_L44_body rec σ (nI (lf sz c p)) (kd c p) (nI (mc sz c p)) (nI (tb sz c p (2 ^ sz)).1) (nI (tb sz c p (2 ^ sz)).2) (nI (2 ^ sz)) = _
      simp only [D_X8_nextTry_L44_body, hF.2.1, sh1' (show sz < 31 by omega), ile (Nat.le_refl (2 ^ sz)) (by omega), if_true]
noncomputable def tB (sz : Nat) (c : CO) (p i : Nat) : Int32 := if i = 0 then -1 else nI (tb sz c p i).1
noncomputable def tL (sz : Nat) (c : CO) (p i : Nat) : Int32 := if i = 0 then 268435456 else nI (tb sz c p i).2
theorem tryM {np sz p : Nat} {c : CO} {τ : ST} (hN : NS np sz) (hF : FM np sz c τ) (hV : VC np sz c) (hp0 : p < np) : D_X9_tryFor τ (nI p) = some (tv sz c p) := by
  have hnp := hN.np
  have h4 := hN.sz
  obtain ⟨n2, n3⟩ := hN.pos (show 0 < np by omega)
  have h16 := p2s h4
  have hpos : 0 < 2 ^ sz := Nat.pos_of_ne_zero (by simp)
  have hK := (hV.1 p hp0).1
  have hl := lf_lt h4 c p
  have xk : gA τ 0 p = nI (kd c p) := hF.2.2.1 p hp0
  unfold tv D_X9_tryFor D_X9_tryFor_L15
  rw [leftM hN hF hV hp0, Option.bind_some]
  by_cases h0 : lf sz c p = 0
  · rw [if_pos h0, h0]
    refine itr_f (f := fun _ : Nat => (nI p, nI 0, (-1 : Int32), (268435456 : Int32), (0 : Int32))) (N := 0) (by omega) (fun i hi => absurd hi (Nat.not_lt_zero i)) (fun rec => ?_)
    show D_X9_tryFor_L15_body rec τ (nI p) (nI 0) (-1) 268435456 (nI 0) = _
    simp only [D_X9_tryFor_L15_body, rowsM hF.2.1 h4, Option.bind_some, inle hpos (by omega), if_false, show (nI 0 = 0) = True from eq_true rfl, if_true]
  · rw [if_neg h0]
    have em : ps 16 (lf sz c p) = mc sz c p := by
      unfold lf mc
      rw [ps_sB, show min 16 (2 ^ sz) = 2 ^ sz by omega]
    have inner : ∀ (rec15 : (Int32 × Int32 × Int32 × Int32 × Int32) → Option Int32) (x3 x4 : Int32) (t : Nat), t < 2 ^ sz → D_X9_tryFor_L34 rec15 τ (nI p) (nI (lf sz c p)) x3 x4 (nI t) 0 0 = D_X9_tryFor_b107 rec15 τ (nI p) (nI (lf sz c p)) x3 x4 (nI t) (nI (wv sz c p t)) := by
      intro rec15 x3 x4 t ht
      have hw := wv_le h4 c p t
      unfold D_X9_tryFor_L34
      refine itr_f (f := fun r : Nat => (nI p, nI (lf sz c p), x3, x4, nI t, nI (ys sz c p t r), nI r)) (N := 2 ^ sz) (by omega) (fun r hr rec => ?_) (fun rec => ?_)
      · show D_X9_tryFor_L34_body rec15 rec τ (nI p) (nI (lf sz c p)) x3 x4 (nI t) (nI (ys sz c p t r)) (nI r) = rec (nI p, nI (lf sz c p), x3, x4, nI t, nI (ys sz c p t (r + 1)), nI (r + 1))
        have hh := HB_16 n3 h4 hK hr
        have eb : lf sz c p / 2 ^ r % 2 = if okS sz c p r (sn c) = true then 1 else 0 := by
          unfold lf
          rw [sB_bit]
          exact ifc ⟨fun q => q.2, fun q => ⟨hr, q⟩⟩
        have ey : ys sz c p t (r + 1) = ys sz c p t r + cond (okS sz c p r (sn c) && hb sz (kd c p) r t) 1 0 := rfl
        simp only [D_X9_tryFor_L34_body, rowsM hF.2.1 h4, Option.bind_some, inle hr (by omega), if_false, isInM (show lf sz c p < 2 ^ 31 by omega) (show r < 32 by omega), gin (show p < 4 by omega) (by omega), cl (show p < 2 ^ 31 by omega), xk, hitM hF.2.1 n3 h4 hK hr, bitI (show HB sz (kd c p) r < 2 ^ 31 by omega) (show t < 32 by omega), D_X9_tryFor_b75, nI_1, ey]
        rw [eb]
        cases ho : okS sz c p r (sn c) with
        | false =>
          rw [show (if false = true then (1 : Nat) else 0) = 0 from rfl, if_pos (show nI 0 = 0 from rfl), show (0 : Int32) = nI 0 from rfl, nI_add]; rfl
        | true =>
          rw [if_pos rfl, if_neg (show ¬ nI 1 = 0 by decide), nI_add, Bool.true_and]
          unfold hb
          rcases bit01 (HB sz (kd c p) r) t with q | q <;> rw [q] <;> rfl
      · show D_X9_tryFor_L34_body rec15 rec τ (nI p) (nI (lf sz c p)) x3 x4 (nI t) (nI (ys sz c p t (2 ^ sz))) (nI (2 ^ sz)) = _
        simp only [D_X9_tryFor_L34_body, rowsM hF.2.1 h4, Option.bind_some, ile (Nat.le_refl (2 ^ sz)) (by omega), if_true, sizeM (show lf sz c p < 2 ^ 31 by omega), em, pk_sub hw.1]
        unfold wv
        by_cases e : ys sz c p t (2 ^ sz) < mc sz c p - ys sz c p t (2 ^ sz)
        · rw [if_pos (nI_le (by omega) (by omega)), if_pos e]
        · rw [if_neg e]
          by_cases e2 : ys sz c p t (2 ^ sz) = mc sz c p - ys sz c p t (2 ^ sz)
          · rw [if_pos (nI_le (by omega) (by omega)), ← e2]
          · rw [if_neg (nI_ge (by omega) (by omega))]
    refine itr_f (f := fun t : Nat => (nI p, nI (lf sz c p), tB sz c p t, tL sz c p t, nI t)) (N := 2 ^ sz) (by omega) (fun t ht rec => ?_) (fun rec => ?_)
    · show D_X9_tryFor_L15_body rec τ (nI p) (nI (lf sz c p)) (tB sz c p t) (tL sz c p t) (nI t) = rec (nI p, nI (lf sz c p), tB sz c p (t + 1), tL sz c p (t + 1), nI (t + 1))
      have hw := wv_le h4 c p t
      have htb := tb_le h4 c p t
      simp only [D_X9_tryFor_L15_body, rowsM hF.2.1 h4, Option.bind_some, inle ht (by omega), if_false, in0 (show 0 < lf sz c p by omega) (by omega), inner rec _ _ t ht, D_X9_tryFor_b107, D_X9_tryFor_b122, D_X9_tryFor_b137, nI_1]
      rw [show tB sz c p (t + 1) = nI (tb sz c p (t + 1)).1 from if_neg (Nat.succ_ne_zero t), show tL sz c p (t + 1) = nI (tb sz c p (t + 1)).2 from if_neg (Nat.succ_ne_zero t)]
      by_cases z : t = 0
      · subst z
        have m0 : (tb sz c p 0).2 = mc sz c p + 1 := rfl
        have eq : tb sz c p (0 + 1) = (0, wv sz c p 0) := by rw [tb_s, if_neg (by omega)]
        rw [eq]
        have n1 : ¬ tL sz c p 0 ≤ nI (wv sz c p 0) := fun q => by
          have q : nI 268435456 ≤ nI (wv sz c p 0) := q
          have := (nI_leI (by omega) (by omega)).mp q
          omega
        rw [if_neg n1, if_neg n1]
      · rw [show tB sz c p t = nI (tb sz c p t).1 from if_neg z, show tL sz c p t = nI (tb sz c p t).2 from if_neg z]
        by_cases e : (tb sz c p t).2 ≤ wv sz c p t
        · have eq : tb sz c p (t + 1) = tb sz c p t := by rw [tb_s, if_pos e]
          rw [if_pos (nI_le e (by omega)), if_pos (nI_le e (by omega)), eq]
        · have eq : tb sz c p (t + 1) = (t, wv sz c p t) := by rw [tb_s, if_neg e]
          rw [if_neg (nI_ge (by omega) (by omega)), if_neg (nI_ge (by omega) (by omega)), eq]
    · show D_X9_tryFor_L15_body rec τ (nI p) (nI (lf sz c p)) (tB sz c p (2 ^ sz)) (tL sz c p (2 ^ sz)) (nI (2 ^ sz)) = _
      rw [show tB sz c p (2 ^ sz) = nI (tb sz c p (2 ^ sz)).1 from if_neg (by omega)]
      simp only [D_X9_tryFor_L15_body, rowsM hF.2.1 h4, Option.bind_some, ile (Nat.le_refl (2 ^ sz)) (by omega), if_true]
