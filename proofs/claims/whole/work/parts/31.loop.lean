theorem vp_in_k {k j L : Nat} (h : 4 * k + j < L) (hL : L ≤ 2048) : vp_in (nI (4 * k) + nI j) L := by
  rw [nI_add]
  exact vp_in_nI h (by omega)
theorem law_ge {L k : Nat} (hL : L ≤ 2048) (hk : 4 * k ≤ 2052) : ¬ (Int32.ofNat L - 4 < nI (4 * k)) → 4 * k + 4 ≤ L := by
  intro h
  rw [Int32.lt_iff_toInt_lt] at h
  have h1 : (Int32.ofNat L - 4).toInt = (L : Int) - 4 := pk_sub_toInt (a := L) (b := 4) (by omega) (by omega)
  rw [h1, nI_toInt (by omega)] at h
  omega
set_option maxHeartbeats 8000000 in
set_option maxRecDepth 100000 in
theorem law_loop {x : CX} {cy : Nat → ClassId} {ad a2 : Nat → Nat} {cs sl b L : Nat} {xs : Nat → Int32} {Rel : Nat → ST → ST → Prop} (E : Ev x cy cL_law RL 4 2000 80000) (hX : va_X b L xs (xS x) (xS x).heap ∧ b < (xS x).heap.size ∧ ¬ xA x b) (hf : cs ≤ (xR x).cells ∧ sl ≤ (xR x).slots) (hL : L ≤ 2048) (hm : ∀ n σ τ, Rel n σ τ → Rel (n + 1) σ τ) (h_letter : S_letter Rel) (h_blank : S_blank Rel) (h_fault : S_fault Rel) (h_table : S_table Rel) (h_player : S_player Rel) (h_as : S_as Rel) (h_hits : S_hits Rel) (h_toss : S_toss Rel) (h_anew : S_anew Rel) (h_bet : S_bet Rel) (h_be : S_be Rel) (h_duel : S_duel Rel) (h_answer : S_answer Rel) (h_open : S_open Rel) (h_ring : S_ring Rel) (h_odds : S_odds Rel) (h_see : S_see Rel) (h_forget : S_forget Rel) (h_games : S_games Rel) (h_image : S_image Rel) (h_restore : S_restore Rel) (h_count : S_count Rel) (h_digest : S_digest Rel) (Kend : ∀ (lv : List (Nat × Value)) (ws : va_W), G x cs sl 732 lv [] ws) :
    ∀ (m k : Nat) (σ τ : ST), 4 * k ≤ L + 3 → L + 4 ≤ 4 * (k + m) → Rel k σ τ → G x cs sl 18 [(0, .ref b), (1, .ref (ad 0)), (2, .ref (a2 0)), (3, .int (nI (4 * k)))] [] (wT ad cy σ ++ wM a2 cy τ) := by
  intro m
  induction m with
  | zero => intro k σ τ h1 h2; exact absurd h2 (by omega)
  | succ m ih =>
    intro k σ τ hk hkm hR
    refine G.iload_n E dL_law_18 rfl 3 rfl ?_
    refine G.aload_n E dL_law_19 rfl 0 rfl ?_
    refine G.slen E hX dL_law_20 ?_
    refine G.iconst (v := 4) E dL_law_21 (by decide) ?_
    refine G.isub E dL_law_22 ?_
    refine G.icmp_gt (tgt := 732) E dL_law_23 (by decide) (fun _ => Kend _ _) (fun q => ?_)
    have hkL := law_ge hL (by omega) q
    have hi0 : vp_in (nI (4 * k)) L := vp_in_nI (by omega) (by omega)
    have hi1 : vp_in (nI (4 * k) + 1) L := vp_in_k (j := 1) (by omega) hL
    have hi2 : vp_in (nI (4 * k) + 2) L := vp_in_k (j := 2) (by omega) hL
    have hi3 : vp_in (nI (4 * k) + 3) L := vp_in_k (j := 3) (by omega) hL
    have hn : k < 512 := by omega
    have KK : ∀ σ' τ' : ST, Rel (k + 1) σ' τ' → G x cs sl 726 [(0, .ref b), (1, .ref (ad 0)), (2, .ref (a2 0)), (3, .int (nI (4 * k)))] [] (wT ad cy σ' ++ wM a2 cy τ') := fun σ' τ' hR' => by
      refine G.iinc (w := nI (4 * (k + 1))) (lv' := [(3, .int (nI (4 * (k + 1)))), (0, .ref b), (1, .ref (ad 0)), (2, .ref (a2 0))]) E dL_law_726 3 rfl (nI_add (4 * k) 4) (by decide) rfl ?_
      refine G.goto (tgt := 18) E dL_law_729 (by decide) ?_
      refine G.sub (lv' := [(0, .ref b), (1, .ref (ad 0)), (2, .ref (a2 0)), (3, .int (nI (4 * (k + 1))))]) [1, 2, 3, 0] rfl ?_
      exact ih (k + 1) σ' τ' (by omega) (by omega) hR'
    refine G.aload_n E dL_law_26 rfl 0 rfl ?_
    refine G.iload_n E dL_law_27 rfl 3 rfl ?_
    refine G.sld E hX hi0 dL_law_28 ?_
    refine G.bipush (v := 31) E dL_law_29 (by decide) ?_
    refine G.iand E dL_law_31 ?_
    generalize xs (nI (4 * k)).toNatClampNeg &&& 31 = a
    by_cases q : a.toInt < 0 ∨ 22 < a.toInt
    · exact G.tableOut (tgt := 726) E dL_law_32 q (by decide) (KK σ τ (hm k σ τ hR))
    by_cases q0 : a = 0
    · exact G.tableAt (n := 0) (off := 108) (tgt := 140) E q0 dL_law_32 (by decide) (by decide) (by decide) (by decide) (L_letter E hX hf hi1 hi2 hi3 h_letter hR hn KK)
    by_cases q1 : a = 1
    · exact G.tableAt (n := 1) (off := 131) (tgt := 163) E q1 dL_law_32 (by decide) (by decide) (by decide) (by decide) (L_blank E hX hf hi1 hi2 hi3 h_blank hR hn KK)
    by_cases q2 : a = 2
    · exact G.tableAt (n := 2) (off := 144) (tgt := 176) E q2 dL_law_32 (by decide) (by decide) (by decide) (by decide) (L_fault E hX hf hi1 hi2 hi3 h_fault hR hn KK)
    by_cases q3 : a = 3
    · exact G.tableAt (n := 3) (off := 157) (tgt := 189) E q3 dL_law_32 (by decide) (by decide) (by decide) (by decide) (L_table E hX hf hi1 hi2 hi3 h_table hR hn KK)
    by_cases q4 : a = 4
    · exact G.tableAt (n := 4) (off := 170) (tgt := 202) E q4 dL_law_32 (by decide) (by decide) (by decide) (by decide) (L_player E hX hf hi1 hi2 hi3 h_player hR hn KK)
    by_cases q5 : a = 5
    · exact G.tableAt (n := 5) (off := 203) (tgt := 235) E q5 dL_law_32 (by decide) (by decide) (by decide) (by decide) (L_as E hX hf hi1 hi2 hi3 h_as hR hn KK)
    by_cases q6 : a = 6
    · exact G.tableAt (n := 6) (off := 236) (tgt := 268) E q6 dL_law_32 (by decide) (by decide) (by decide) (by decide) (L_hits E hX hf hi1 hi2 hi3 h_hits hR hn KK)
    by_cases q7 : a = 7
    · exact G.tableAt (n := 7) (off := 269) (tgt := 301) E q7 dL_law_32 (by decide) (by decide) (by decide) (by decide) (L_toss E hX hf hi1 hi2 hi3 h_toss hR hn KK)
    by_cases q8 : a = 8
    · exact G.tableAt (n := 8) (off := 292) (tgt := 324) E q8 dL_law_32 (by decide) (by decide) (by decide) (by decide) (L_anew E hX hf hi1 hi2 hi3 h_anew hR hn KK)
    by_cases q9 : a = 9
    · exact G.tableAt (n := 9) (off := 305) (tgt := 337) E q9 dL_law_32 (by decide) (by decide) (by decide) (by decide) (L_bet E hX hf hi1 hi2 hi3 h_bet hR hn KK)
    by_cases q10 : a = 10
    · exact G.tableAt (n := 10) (off := 338) (tgt := 370) E q10 dL_law_32 (by decide) (by decide) (by decide) (by decide) (L_be E hX hf hi1 hi2 hi3 h_be hR hn KK)
    by_cases q11 : a = 11
    · exact G.tableAt (n := 11) (off := 371) (tgt := 403) E q11 dL_law_32 (by decide) (by decide) (by decide) (by decide) (L_duel E hX hf hi1 hi2 hi3 h_duel hR hn KK)
    by_cases q12 : a = 12
    · exact G.tableAt (n := 12) (off := 404) (tgt := 436) E q12 dL_law_32 (by decide) (by decide) (by decide) (by decide) (L_answer E hX hf hi1 hi2 hi3 h_answer hR hn KK)
    by_cases q13 : a = 13
    · exact G.tableAt (n := 13) (off := 437) (tgt := 469) E q13 dL_law_32 (by decide) (by decide) (by decide) (by decide) (L_open E hX hf hi1 hi2 hi3 h_open hR hn KK)
    by_cases q14 : a = 14
    · exact G.tableAt (n := 14) (off := 460) (tgt := 492) E q14 dL_law_32 (by decide) (by decide) (by decide) (by decide) (L_ring E hX hf hi1 hi2 hi3 h_ring hR hn KK)
    by_cases q15 : a = 15
    · exact G.tableAt (n := 15) (off := 473) (tgt := 505) E q15 dL_law_32 (by decide) (by decide) (by decide) (by decide) (L_odds E hX hf hi1 hi2 hi3 h_odds hR hn KK)
    by_cases q16 : a = 16
    · exact G.tableAt (n := 16) (off := 516) (tgt := 548) E q16 dL_law_32 (by decide) (by decide) (by decide) (by decide) (L_see E hX hf hi1 hi2 hi3 h_see hR hn KK)
    by_cases q17 : a = 17
    · exact G.tableAt (n := 17) (off := 575) (tgt := 607) E q17 dL_law_32 (by decide) (by decide) (by decide) (by decide) (L_forget E hX hf hi1 hi2 hi3 h_forget hR hn KK)
    by_cases q18 : a = 18
    · exact G.tableAt (n := 18) (off := 588) (tgt := 620) E q18 dL_law_32 (by decide) (by decide) (by decide) (by decide) (L_games E hX hf hi1 hi2 hi3 h_games hR hn KK)
    by_cases q19 : a = 19
    · exact G.tableAt (n := 19) (off := 631) (tgt := 663) E q19 dL_law_32 (by decide) (by decide) (by decide) (by decide) (L_image E hX hf hi1 hi2 hi3 h_image hR hn KK)
    by_cases q20 : a = 20
    · exact G.tableAt (n := 20) (off := 644) (tgt := 676) E q20 dL_law_32 (by decide) (by decide) (by decide) (by decide) (L_restore E hX hf hi1 hi2 hi3 h_restore hR hn KK)
    by_cases q21 : a = 21
    · exact G.tableAt (n := 21) (off := 657) (tgt := 689) E q21 dL_law_32 (by decide) (by decide) (by decide) (by decide) (L_count E hX hf hi1 hi2 hi3 h_count hR hn KK)
    by_cases q22 : a = 22
    · exact G.tableAt (n := 22) (off := 680) (tgt := 712) E q22 dL_law_32 (by decide) (by decide) (by decide) (by decide) (L_digest E hX hf hi1 hi2 hi3 h_digest hR hn KK)
    exfalso
    apply q
    have e : ∀ j : Nat, j < 2147483648 → ¬ a = nI j → a.toInt ≠ (j : Int) := fun j hj h e => h (Int32.toInt_inj.mp (e.trans (nI_toInt hj).symm))
    have e0 := e 0 (by omega) q0
    have e1 := e 1 (by omega) q1
    have e2 := e 2 (by omega) q2
    have e3 := e 3 (by omega) q3
    have e4 := e 4 (by omega) q4
    have e5 := e 5 (by omega) q5
    have e6 := e 6 (by omega) q6
    have e7 := e 7 (by omega) q7
    have e8 := e 8 (by omega) q8
    have e9 := e 9 (by omega) q9
    have e10 := e 10 (by omega) q10
    have e11 := e 11 (by omega) q11
    have e12 := e 12 (by omega) q12
    have e13 := e 13 (by omega) q13
    have e14 := e 14 (by omega) q14
    have e15 := e 15 (by omega) q15
    have e16 := e 16 (by omega) q16
    have e17 := e 17 (by omega) q17
    have e18 := e 18 (by omega) q18
    have e19 := e 19 (by omega) q19
    have e20 := e 20 (by omega) q20
    have e21 := e 21 (by omega) q21
    have e22 := e 22 (by omega) q22
    omega
