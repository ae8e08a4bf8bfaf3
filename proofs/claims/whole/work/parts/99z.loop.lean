/-! the law's loop -/
theorem nI_s8 {n : Nat} (h : n ≤ 4096) : (nI n - 8).toInt = (n : Int) - 8 := by
  rw [Int32.toInt_sub, nI_toInt (by omega)]
  have h8 : (8 : Int32).toInt = 8 := by decide
  rw [h8]
  exact Int.bmod_eq_of_le (by omega) (by omega)
theorem and63 (x : Int32) : ∃ k : Nat, k < 64 ∧ (x &&& 63).toInt = (k : Int) := by
  have h : (x &&& 63).toInt = ((x.toBitVec &&& 63#32).toNat : Int) := by
    show ((x.toBitVec &&& 63#32)).toInt = _
    rw [BitVec.toInt_eq_toNat_of_lt]
    have : (x.toBitVec &&& 63#32).toNat ≤ 63 := by
      rw [BitVec.toNat_and]
      exact Nat.and_le_right
    omega
  refine ⟨_, ?_, h⟩
  rw [BitVec.toNat_and]
  exact Nat.lt_of_le_of_lt Nat.and_le_right (by decide)
theorem law_hd {M : MT} {E : Ev} {b Ln : Nat} {xs : Nat → Int32} {base kc ks n : Nat} {Q : State → Prop} {am : Nat → Nat} {σ μ : St} {I : Im} (K : OKl M E b Ln xs base) (hn : n < 2 ^ 20) (he : Ln < n + 8 → VZ M (bA base) 8 kc ks Q (Wl E am σ I μ) 5060 (LL b E am n) []) (go : n + 8 ≤ Ln → VZ M (bA base) 8 kc ks Q (Wl E am σ I μ) 33 (LL b E am n) []) : VZ M (bA base) 8 kc ks Q (Wl E am σ I μ) 23 (LL b E am n) [] := by
  have hl := K.ln
  refine z_iload4 (pc := 23) K.z dL_law_23 ?_
  refine z_aload0 (pc := 25) K.z dL_law_25 ?_
  refine z_slen (pc := 26) K dL_law_26 ?_
  refine z_bipush (pc := 27) (v := 8) K.z dL_law_27 (by decide) ?_
  refine z_isub (pc := 29) K.z dL_law_29 ?_
  refine z_icmp_gt (pc := 30) (tgt := 5060) K.z dL_law_30 (by decide) (fun q => he ?_) (fun q => go ?_)
  · rw [Int32.lt_iff_toInt_lt, nI_s8 hl, nI_toInt (by omega)] at q
    omega
  · rw [Int32.lt_iff_toInt_lt, nI_s8 hl, nI_toInt (by omega)] at q
    omega
theorem law_inc {M : MT} {E : Ev} {b Ln : Nat} {xs : Nat → Int32} {base kc ks n : Nat} {Q : State → Prop} {am : Nat → Nat} (K : OKl M E b Ln xs base) (kk : ∀ (σ μ : St) (I : Im), DJ E am I base → Rl (JI I) σ μ → VZ M (bA base) 8 kc ks Q (Wl E am σ I μ) 23 (LL b E am (n + 8)) []) : Kn M E am b base n kc ks Q := by
  intro σ μ I hD h
  refine z_iinc4 (pc := 5054) (w := nI 8) K.z dL_law_5054 rfl (by decide) (by decide) ?_
  rw [nI_pl]
  exact z_goto (pc := 5057) (tgt := 23) K.z dL_law_5057 (by decide) (kk σ μ I hD h)
theorem law_sw {M : MT} {E : Ev} {b Ln : Nat} {xs : Nat → Int32} {base kc ks n : Nat} {Q : State → Prop} {am : Nat → Nat} {σ μ : St} {I : Im} (K : OKl M E b Ln xs base) (hD : DJ E am I base) (h : Rl (JI I) σ μ) (hn : n + 8 ≤ Ln) (h1 : kc + 20 ≤ 603072) (h2 : ks + 1300 ≤ 7211114) (kk : Kn M E am b base n (kc + 20) (ks + 1300) Q) : VZ M (bA base) 8 kc ks Q (Wl E am σ I μ) 33 (LL b E am n) [] := by
  refine z_aload0 (pc := 33) K.z dL_law_33 ?_
  refine z_iload4 (pc := 34) K.z dL_law_34 ?_
  refine z_sl0 (pc := 36) K dL_law_36 (by omega) ?_
  refine z_bipush (pc := 37) (v := 63) K.z dL_law_37 (by decide) ?_
  refine z_iand (pc := 39) K.z dL_law_39 ?_
  obtain ⟨k, hk, e⟩ := and63 (xs n)
  by_cases q0 : k = 0
  · rw [q0] at e
    exact z_tsIn (pc := 40) (k := 0) (tgt := 288) K.z dL_law_40 e (by decide) rfl (by decide) (cs_0 K hD h hn h1 h2 kk)
  by_cases q1 : k = 1
  · rw [q1] at e
    exact z_tsIn (pc := 40) (k := 1) (tgt := 344) K.z dL_law_40 e (by decide) rfl (by decide) (cs_1 K hD h hn h1 h2 kk)
  by_cases q2 : k = 2
  · rw [q2] at e
    exact z_tsIn (pc := 40) (k := 2) (tgt := 400) K.z dL_law_40 e (by decide) rfl (by decide) (cs_2 K hD h hn h1 h2 kk)
  by_cases q3 : k = 3
  · rw [q3] at e
    exact z_tsIn (pc := 40) (k := 3) (tgt := 456) K.z dL_law_40 e (by decide) rfl (by decide) (cs_3 K hD h hn h1 h2 kk)
  by_cases q4 : k = 4
  · rw [q4] at e
    exact z_tsIn (pc := 40) (k := 4) (tgt := 568) K.z dL_law_40 e (by decide) rfl (by decide) (cs_4 K hD h hn h1 h2 kk)
  by_cases q5 : k = 5
  · rw [q5] at e
    exact z_tsIn (pc := 40) (k := 5) (tgt := 636) K.z dL_law_40 e (by decide) rfl (by decide) (cs_5 K hD h hn h1 h2 kk)
  by_cases q6 : k = 6
  · rw [q6] at e
    exact z_tsIn (pc := 40) (k := 6) (tgt := 703) K.z dL_law_40 e (by decide) rfl (by decide) (cs_6 K hD h hn h1 h2 kk)
  by_cases q7 : k = 7
  · rw [q7] at e
    exact z_tsIn (pc := 40) (k := 7) (tgt := 728) K.z dL_law_40 e (by decide) rfl (by decide) (cs_7 K hD h hn h1 h2 kk)
  by_cases q8 : k = 8
  · rw [q8] at e
    exact z_tsIn (pc := 40) (k := 8) (tgt := 796) K.z dL_law_40 e (by decide) rfl (by decide) (cs_8 K hD h hn h1 h2 kk)
  by_cases q9 : k = 9
  · rw [q9] at e
    exact z_tsIn (pc := 40) (k := 9) (tgt := 875) K.z dL_law_40 e (by decide) rfl (by decide) (cs_9 K hD h hn h1 h2 kk)
  by_cases q10 : k = 10
  · rw [q10] at e
    exact z_tsIn (pc := 40) (k := 10) (tgt := 967) K.z dL_law_40 e (by decide) rfl (by decide) (cs_10 K hD h hn h1 h2 kk)
  by_cases q11 : k = 11
  · rw [q11] at e
    exact z_tsIn (pc := 40) (k := 11) (tgt := 1079) K.z dL_law_40 e (by decide) rfl (by decide) (cs_11 K hD h hn h1 h2 kk)
  by_cases q12 : k = 12
  · rw [q12] at e
    exact z_tsIn (pc := 40) (k := 12) (tgt := 1171) K.z dL_law_40 e (by decide) rfl (by decide) (cs_12 K hD h hn h1 h2 kk)
  by_cases q13 : k = 13
  · rw [q13] at e
    exact z_tsIn (pc := 40) (k := 13) (tgt := 1239) K.z dL_law_40 e (by decide) rfl (by decide) (cs_13 K hD h hn h1 h2 kk)
  by_cases q14 : k = 14
  · rw [q14] at e
    exact z_tsIn (pc := 40) (k := 14) (tgt := 1377) K.z dL_law_40 e (by decide) rfl (by decide) (cs_14 K hD h hn h1 h2 kk)
  by_cases q15 : k = 15
  · rw [q15] at e
    exact z_tsIn (pc := 40) (k := 15) (tgt := 1481) K.z dL_law_40 e (by decide) rfl (by decide) (cs_15 K hD h hn h1 h2 kk)
  by_cases q16 : k = 16
  · rw [q16] at e
    exact z_tsIn (pc := 40) (k := 16) (tgt := 1561) K.z dL_law_40 e (by decide) rfl (by decide) (cs_16 K hD h hn h1 h2 kk)
  by_cases q17 : k = 17
  · rw [q17] at e
    exact z_tsIn (pc := 40) (k := 17) (tgt := 1653) K.z dL_law_40 e (by decide) rfl (by decide) (cs_17 K hD h hn h1 h2 kk)
  by_cases q18 : k = 18
  · rw [q18] at e
    exact z_tsIn (pc := 40) (k := 18) (tgt := 1771) K.z dL_law_40 e (by decide) rfl (by decide) (cs_18 K hD h hn h1 h2 kk)
  by_cases q19 : k = 19
  · rw [q19] at e
    exact z_tsIn (pc := 40) (k := 19) (tgt := 1851) K.z dL_law_40 e (by decide) rfl (by decide) (cs_19 K hD h hn h1 h2 kk)
  by_cases q20 : k = 20
  · rw [q20] at e
    exact z_tsIn (pc := 40) (k := 20) (tgt := 1919) K.z dL_law_40 e (by decide) rfl (by decide) (cs_20 K hD h hn h1 h2 kk)
  by_cases q21 : k = 21
  · rw [q21] at e
    exact z_tsIn (pc := 40) (k := 21) (tgt := 1987) K.z dL_law_40 e (by decide) rfl (by decide) (cs_21 K hD h hn h1 h2 kk)
  by_cases q22 : k = 22
  · rw [q22] at e
    exact z_tsIn (pc := 40) (k := 22) (tgt := 2055) K.z dL_law_40 e (by decide) rfl (by decide) (cs_22 K hD h hn h1 h2 kk)
  by_cases q23 : k = 23
  · rw [q23] at e
    exact z_tsIn (pc := 40) (k := 23) (tgt := 2123) K.z dL_law_40 e (by decide) rfl (by decide) (cs_23 K hD h hn h1 h2 kk)
  by_cases q24 : k = 24
  · rw [q24] at e
    exact z_tsIn (pc := 40) (k := 24) (tgt := 2190) K.z dL_law_40 e (by decide) rfl (by decide) (cs_24 K hD h hn h1 h2 kk)
  by_cases q25 : k = 25
  · rw [q25] at e
    exact z_tsIn (pc := 40) (k := 25) (tgt := 2258) K.z dL_law_40 e (by decide) rfl (by decide) (cs_25 K hD h hn h1 h2 kk)
  by_cases q26 : k = 26
  · rw [q26] at e
    exact z_tsIn (pc := 40) (k := 26) (tgt := 2325) K.z dL_law_40 e (by decide) rfl (by decide) (cs_26 K hD h hn h1 h2 kk)
  by_cases q27 : k = 27
  · rw [q27] at e
    exact z_tsIn (pc := 40) (k := 27) (tgt := 2404) K.z dL_law_40 e (by decide) rfl (by decide) (cs_27 K hD h hn h1 h2 kk)
  by_cases q28 : k = 28
  · rw [q28] at e
    exact z_tsIn (pc := 40) (k := 28) (tgt := 2483) K.z dL_law_40 e (by decide) rfl (by decide) (cs_28 K hD h hn h1 h2 kk)
  by_cases q29 : k = 29
  · rw [q29] at e
    exact z_tsIn (pc := 40) (k := 29) (tgt := 2574) K.z dL_law_40 e (by decide) rfl (by decide) (cs_29 K hD h hn h1 h2 kk)
  by_cases q30 : k = 30
  · rw [q30] at e
    exact z_tsIn (pc := 40) (k := 30) (tgt := 2642) K.z dL_law_40 e (by decide) rfl (by decide) (cs_30 K hD h hn h1 h2 kk)
  by_cases q31 : k = 31
  · rw [q31] at e
    exact z_tsIn (pc := 40) (k := 31) (tgt := 2766) K.z dL_law_40 e (by decide) rfl (by decide) (cs_31 K hD h hn h1 h2 kk)
  by_cases q32 : k = 32
  · rw [q32] at e
    exact z_tsIn (pc := 40) (k := 32) (tgt := 2845) K.z dL_law_40 e (by decide) rfl (by decide) (cs_32 K hD h hn h1 h2 kk)
  by_cases q33 : k = 33
  · rw [q33] at e
    exact z_tsIn (pc := 40) (k := 33) (tgt := 2925) K.z dL_law_40 e (by decide) rfl (by decide) (cs_33 K hD h hn h1 h2 kk)
  by_cases q34 : k = 34
  · rw [q34] at e
    exact z_tsIn (pc := 40) (k := 34) (tgt := 3037) K.z dL_law_40 e (by decide) rfl (by decide) (cs_34 K hD h hn h1 h2 kk)
  by_cases q35 : k = 35
  · rw [q35] at e
    exact z_tsIn (pc := 40) (k := 35) (tgt := 3116) K.z dL_law_40 e (by decide) rfl (by decide) (cs_35 K hD h hn h1 h2 kk)
  by_cases q36 : k = 36
  · rw [q36] at e
    exact z_tsIn (pc := 40) (k := 36) (tgt := 3183) K.z dL_law_40 e (by decide) rfl (by decide) (cs_36 K hD h hn h1 h2 kk)
  by_cases q37 : k = 37
  · rw [q37] at e
    exact z_tsIn (pc := 40) (k := 37) (tgt := 3262) K.z dL_law_40 e (by decide) rfl (by decide) (cs_37 K hD h hn h1 h2 kk)
  by_cases q38 : k = 38
  · rw [q38] at e
    exact z_tsIn (pc := 40) (k := 38) (tgt := 3341) K.z dL_law_40 e (by decide) rfl (by decide) (cs_38 K hD h hn h1 h2 kk)
  by_cases q39 : k = 39
  · rw [q39] at e
    exact z_tsIn (pc := 40) (k := 39) (tgt := 3408) K.z dL_law_40 e (by decide) rfl (by decide) (cs_39 K hD h hn h1 h2 kk)
  by_cases q40 : k = 40
  · rw [q40] at e
    exact z_tsIn (pc := 40) (k := 40) (tgt := 3519) K.z dL_law_40 e (by decide) rfl (by decide) (cs_40 K hD h hn h1 h2 kk)
  by_cases q41 : k = 41
  · rw [q41] at e
    exact z_tsIn (pc := 40) (k := 41) (tgt := 3691) K.z dL_law_40 e (by decide) rfl (by decide) (cs_41 K hD h hn h1 h2 kk)
  by_cases q42 : k = 42
  · rw [q42] at e
    exact z_tsIn (pc := 40) (k := 42) (tgt := 3803) K.z dL_law_40 e (by decide) rfl (by decide) (cs_42 K hD h hn h1 h2 kk)
  by_cases q43 : k = 43
  · rw [q43] at e
    exact z_tsIn (pc := 40) (k := 43) (tgt := 3911) K.z dL_law_40 e (by decide) rfl (by decide) (cs_43 K hD h hn h1 h2 kk)
  by_cases q44 : k = 44
  · rw [q44] at e
    exact z_tsIn (pc := 40) (k := 44) (tgt := 3991) K.z dL_law_40 e (by decide) rfl (by decide) (cs_44 K hD h hn h1 h2 kk)
  by_cases q45 : k = 45
  · rw [q45] at e
    exact z_tsIn (pc := 40) (k := 45) (tgt := 4071) K.z dL_law_40 e (by decide) rfl (by decide) (cs_45 K hD h hn h1 h2 kk)
  by_cases q46 : k = 46
  · rw [q46] at e
    exact z_tsIn (pc := 40) (k := 46) (tgt := 4229) K.z dL_law_40 e (by decide) rfl (by decide) (cs_46 K hD h hn h1 h2 kk)
  by_cases q47 : k = 47
  · rw [q47] at e
    exact z_tsIn (pc := 40) (k := 47) (tgt := 4341) K.z dL_law_40 e (by decide) rfl (by decide) (cs_47 K hD h hn h1 h2 kk)
  by_cases q48 : k = 48
  · rw [q48] at e
    exact z_tsIn (pc := 40) (k := 48) (tgt := 4421) K.z dL_law_40 e (by decide) rfl (by decide) (cs_48 K hD h hn h1 h2 kk)
  by_cases q49 : k = 49
  · rw [q49] at e
    exact z_tsIn (pc := 40) (k := 49) (tgt := 4529) K.z dL_law_40 e (by decide) rfl (by decide) (cs_49 K hD h hn h1 h2 kk)
  by_cases q50 : k = 50
  · rw [q50] at e
    exact z_tsIn (pc := 40) (k := 50) (tgt := 4597) K.z dL_law_40 e (by decide) rfl (by decide) (cs_50 K hD h hn h1 h2 kk)
  by_cases q51 : k = 51
  · rw [q51] at e
    exact z_tsIn (pc := 40) (k := 51) (tgt := 4665) K.z dL_law_40 e (by decide) rfl (by decide) (cs_51 K hD h hn h1 h2 kk)
  by_cases q52 : k = 52
  · rw [q52] at e
    exact z_tsIn (pc := 40) (k := 52) (tgt := 4721) K.z dL_law_40 e (by decide) rfl (by decide) (cs_52 K hD h hn h1 h2 kk)
  by_cases q53 : k = 53
  · rw [q53] at e
    exact z_tsIn (pc := 40) (k := 53) (tgt := 4777) K.z dL_law_40 e (by decide) rfl (by decide) (cs_53 K hD h hn h1 h2 kk)
  by_cases q54 : k = 54
  · rw [q54] at e
    exact z_tsIn (pc := 40) (k := 54) (tgt := 4861) K.z dL_law_40 e (by decide) rfl (by decide) (cs_54 K hD h hn h1 h2 kk)
  by_cases q55 : k = 55
  · rw [q55] at e
    exact z_tsIn (pc := 40) (k := 55) (tgt := 4874) K.z dL_law_40 e (by decide) rfl (by decide) (cs_55 K hD h hn h1 h2 kk)
  by_cases q56 : k = 56
  · rw [q56] at e
    exact z_tsIn (pc := 40) (k := 56) (tgt := 4942) K.z dL_law_40 e (by decide) rfl (by decide) (cs_56 K hD h hn h1 h2 kk)
  by_cases q57 : k = 57
  · rw [q57] at e
    exact z_tsIn (pc := 40) (k := 57) (tgt := 4998) K.z dL_law_40 e (by decide) rfl (by decide) (cs_57 K hD h hn h1 h2 kk)
  exact z_tsOut (pc := 40) (tgt := 5054) K.z dL_law_40 (Or.inr (by rw [e]; omega)) (by decide) (z_w (Nat.le_add_right _ _) (Nat.le_add_right _ _) (kk _ _ _ hD h))
theorem law_go {M : MT} {E : Ev} {b Ln : Nat} {xs : Nat → Int32} {base : Nat} {Q : State → Prop} {am : Nat → Nat} (K : OKl M E b Ln xs base) {c0 s0 : Nat} (hc : c0 + 10280 ≤ 603072) (hs : s0 + 668200 ≤ 7211114)
    (he : ∀ (σ μ : St) (I : Im) (n kc ks : Nat), kc ≤ 603072 → ks ≤ 7211114 → VZ M (bA base) 8 kc ks Q (Wl E am σ I μ) 5060 (LL b E am n) []) :
    ∀ (f i : Nat) (σ μ : St) (I : Im), i + f = 513 → DJ E am I base → Rl (JI I) σ μ → VZ M (bA base) 8 (c0 + 20 * i) (s0 + 1300 * i) Q (Wl E am σ I μ) 23 (LL b E am (8 * i)) [] := by
  intro f
  induction f with
  | zero =>
    intro i σ μ I hi hD h
    have hl := K.ln
    exact law_hd K (by omega) (fun _ => he σ μ I _ _ _ (by omega) (by omega)) (fun q => absurd q (by omega))
  | succ f ih =>
    intro i σ μ I hi hD h
    refine law_hd K (by omega) (fun _ => he σ μ I _ _ _ (by omega) (by omega)) (fun q => ?_)
    refine law_sw K hD h q (by omega) (by omega) (law_inc K (fun σ μ I hD h => ?_))
    have g := ih (i + 1) σ μ I (by omega) hD h
    rw [show c0 + 20 * (i + 1) = c0 + 20 * i + 20 from by omega, show s0 + 1300 * (i + 1) = s0 + 1300 * i + 1300 from by omega, show 8 * (i + 1) = 8 * i + 8 from by omega] at g
    exact g
