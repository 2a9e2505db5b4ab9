noncomputable def frL {α : Type} (xs : List Nat) (k : List Nat → α) : α := List.rec (fun k => k []) (fun x _ ih k => frc x fun v => ih fun vs => k (v :: vs)) xs k
theorem frL_eq {α : Type} : ∀ (xs : List Nat) (k : List Nat → α), frL xs k = k xs
  | [], _ => rfl
  | x :: xs, k => by
    show frc x (fun v => frL xs fun vs => k (v :: vs)) = _
    rw [frc_eq, frL_eq xs]
noncomputable def chR (sz a b : Nat) (R : List Nat) : Option Nat := frc R.length fun m => cond (Nat.ble m 6) ((br m 0 1 (M0T sz R)).bind fun r => frc (smN (a ||| b) m R r.1 m) fun s => cond (Nat.beq (s % 18446744073709551616) 0) none (frc (smN a m R r.1 m) fun o => some (sdivN (1000000 * o) s))) none
noncomputable def wtR (sz a : Nat) (R : List Nat) : Option Nat := frc R.length fun m => cond (Nat.ble m 6) ((br m 0 1 (M0T sz R)).bind fun r => frc (smN a m R r.1 m) fun s => cond (Nat.beq (s % 18446744073709551616) 0) none (some (sdivN (1000 * r.2) s))) none
noncomputable def chT (sz a b : Nat) : Option Nat := frL (rws (a ||| b) (2 ^ sz)) (chR sz a b)
noncomputable def wtT (sz a : Nat) : Option Nat := frL (rws a (2 ^ sz)) (wtR sz a)
theorem raceT {σ : ST} {sz bits d' : Nat} {M' : List (List Nat)} (hb : bits < 2 ^ 31) (h2 : 2 ≤ sz) (h4 : sz ≤ 4) (hl : (rws bits (2 ^ sz)).length ≤ 6) (hbr : br (rws bits (2 ^ sz)).length 0 1 (M0T sz (rws bits (2 ^ sz))) = some (M', d')) : ∃ σ', D_X7_run σ (nI bits) (nI sz) = some (enc d', σ') ∧ EqT σ σ' ∧ ∀ one, one < 2 ^ 31 → D_X7_sharesOf σ' (nI one) = some (enc (smN one (rws bits (2 ^ sz)).length (rws bits (2 ^ sz)) M' (rws bits (2 ^ sz)).length)) := by
  have h1 := setRowsT (σ := σ) hb h4 hl
  generalize hR : rws bits (2 ^ sz) = R at hl hbr
  have hRr : ∀ i, i < R.length → gA (srS σ bits (2 ^ sz)) 13 i = nI (gt R i) ∧ gt R i < 2 ^ sz := by
    intro i hi
    subst hR
    refine ⟨?_, rws_lt _ _ _ hi⟩
    show (if i < _ then _ else _) = _
    rw [if_pos hi]
  have hm : gI (srS σ bits (2 ^ sz)) 13 = nI R.length := by rw [gI_srS, hR]
  have h2s := setSumsT (σ := srS σ bits (2 ^ sz)) (R := R) h2 h4 hm hl hRr
  obtain ⟨hA, hS⟩ := M0T_ok (σ := srS σ bits (2 ^ sz)) (sz := sz) (R := R)
  obtain ⟨σ', h3, hA', q1, q2, q3⟩ := runT hl R.length 0 (ssS (srS σ bits (2 ^ sz)) sz R.length R R.length 0) 1 _ M' d' (by omega) hm hA hS (by decide) hbr 200 (by omega)
  have gi : ∀ k, gI σ' k = gI (srS σ bits (2 ^ sz)) k := fun k => congrFun q1 k
  have ga : ∀ k, gA σ' k = gA (srS σ bits (2 ^ sz)) k := fun k => congrFun q3 k
  refine ⟨σ', ?_, ⟨fun k hk => ?_, fun k hk => ?_⟩, fun one ho => ?_⟩
  · unfold D_X7_run D_X7_run_L16
    rw [h1, Option.bind_some, h2s, Option.bind_some]
    exact h3
  · rw [gi]
    show (if k = 13 then _ else _) = _
    rw [if_neg hk]; rfl
  · rw [ga]
    show (if k = 13 then _ else _) = _
    rw [if_neg (by omega)]; rfl
  · exact sharesT (σ := σ') (sz := sz) h4 ho (by rw [gi]; exact hm) hl (fun i hi => by rw [ga]; exact hRr i hi) hA'
theorem beq_f {a b : Nat} (h : Nat.beq a b = false) : a ≠ b := fun e => by rw [e, Nat.beq_refl] at h; cases h
theorem chanceT {σ : ST} {sz a b v : Nat} (ha : a < 2 ^ 31) (hab : a ||| b < 2 ^ 31) (h2 : 2 ≤ sz) (h4 : sz ≤ 4) (hv : chT sz a b = some v) : ∃ σ', D_X7_chance σ (nI a) (nI b) (nI sz) = some (nI v, σ') ∧ EqT σ σ' := by
  unfold chT at hv
  rw [frL_eq] at hv
  unfold chR at hv
  rw [frc_eq] at hv
  cases c1 : Nat.ble (rws (a ||| b) (2 ^ sz)).length 6 with
  | false => rw [c1] at hv; cases hv
  | true =>
    rw [c1] at hv
    simp only [cond_true] at hv
    cases c2 : br (rws (a ||| b) (2 ^ sz)).length 0 1 (M0T sz (rws (a ||| b) (2 ^ sz))) with
    | none => rw [c2] at hv; cases hv
    | some r =>
      rw [c2, Option.bind_some, frc_eq] at hv
      obtain ⟨σ', h1, hE, hs⟩ := raceT (σ := σ) hab h2 h4 (Nat.le_of_ble_eq_true c1) c2
      cases c3 : Nat.beq (smN (a ||| b) (rws (a ||| b) (2 ^ sz)).length (rws (a ||| b) (2 ^ sz)) r.1 (rws (a ||| b) (2 ^ sz)).length % 18446744073709551616) 0 with
      | true => rw [c3] at hv; cases hv
      | false =>
        rw [c3, cond_false, frc_eq] at hv
        cases hv
        refine ⟨σ', ?_, hE⟩
        have n0 : ¬ enc (smN (a ||| b) (rws (a ||| b) (2 ^ sz)).length (rws (a ||| b) (2 ^ sz)) r.1 (rws (a ||| b) (2 ^ sz)).length) = 0 := fun q => beq_f c3 (enc_0.mp q)
        unfold D_X7_chance
        rw [orI, h1, Option.bind_some, hs _ hab, Option.bind_some, if_neg (fun q => n0 ((lcmp0 _).mp q)), hs _ ha, Option.bind_some, if_neg n0]
        rw [show (1000000 : Int64) = enc 1000000 from rfl, enc_mul, enc_div, enc_i32]
theorem waitT {σ : ST} {sz a v : Nat} (ha : a < 2 ^ 31) (h2 : 2 ≤ sz) (h4 : sz ≤ 4) (hv : wtT sz a = some v) : ∃ σ', D_X7_waitFor σ (nI a) (nI sz) = some (nI v, σ') ∧ EqT σ σ' := by
  unfold wtT at hv
  rw [frL_eq] at hv
  unfold wtR at hv
  rw [frc_eq] at hv
  cases c1 : Nat.ble (rws a (2 ^ sz)).length 6 with
  | false => rw [c1] at hv; cases hv
  | true =>
    rw [c1] at hv
    simp only [cond_true] at hv
    cases c2 : br (rws a (2 ^ sz)).length 0 1 (M0T sz (rws a (2 ^ sz))) with
    | none => rw [c2] at hv; cases hv
    | some r =>
      rw [c2, Option.bind_some, frc_eq] at hv
      obtain ⟨σ', h1, hE, hs⟩ := raceT (σ := σ) ha h2 h4 (Nat.le_of_ble_eq_true c1) c2
      cases c3 : Nat.beq (smN a (rws a (2 ^ sz)).length (rws a (2 ^ sz)) r.1 (rws a (2 ^ sz)).length % 18446744073709551616) 0 with
      | true => rw [c3] at hv; cases hv
      | false =>
        rw [c3, cond_false] at hv
        cases hv
        refine ⟨σ', ?_, hE⟩
        have n0 : ¬ enc (smN a (rws a (2 ^ sz)).length (rws a (2 ^ sz)) r.1 (rws a (2 ^ sz)).length) = 0 := fun q => beq_f c3 (enc_0.mp q)
        unfold D_X7_waitFor
        rw [h1, Option.bind_some, hs _ ha, Option.bind_some, if_neg (fun q => n0 ((lcmp0 _).mp q)), if_neg n0]
        rw [show (1000 : Int64) = enc 1000 from rfl, enc_mul, enc_div, enc_i32]
