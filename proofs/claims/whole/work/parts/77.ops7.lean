/-! ===== scale, shift ===== -/
def absL (x : Int64) : Int64 := if (0 : Int64) ≤ x then x else -x
theorem abs_eq (σ : St) (x : Int64) : c_J9_abs_067f4 σ x = some (absL x) := by
  unfold c_J9_abs_067f4 absL
  split <;> rfl
theorem amountOf_eq (σ : St) (x : Int64) : m_X4_amountOf σ x = some (absL x) := by
  unfold m_X4_amountOf absL
  split <;> rfl
theorem absL_T {x : Int64} (h : -9223372036854775808 < x.toInt) : (absL x).toInt = if 0 ≤ x.toInt then x.toInt else -x.toInt := by
  unfold absL
  simp only [fa_le64, L_0]
  split
  · rfl
  · exact negT h
/-- n taken as an amount -/
def amtN (n : Int32) : Int64 := if (0 : Int32) ≤ n then n.toInt64 else (-n).toInt64
def prodG (x : Int64) (n : Int32) : Int64 := if n = 0 then 0 else if (4611686018427387904 : Int64) / amtN n < absL x then 9223372036854775807 else x * n.toInt64
theorem amtN_T {n : Int32} (hn : -9 ≤ n.toInt ∧ n.toInt ≤ 9) : (amtN n).toInt = if 0 ≤ n.toInt then n.toInt else -n.toInt := by
  unfold amtN
  simp only [fa_le, I_0]
  split
  · exact t64 n
  · rw [t64, fb_negI (by omega)]
theorem amtN_0 {n : Int32} (hn : -9 ≤ n.toInt ∧ n.toInt ≤ 9) (h : ¬ n = 0) : ¬ amtN n = 0 := by
  have h0 : ¬ n.toInt = 0 := fun q => h (by rw [fa_eq, q, I_0])
  intro q
  have := congrArg Int64.toInt q
  rw [L_0, amtN_T hn] at this
  split at this <;> omega
theorem prodOr_eq (σ : St) (x : Int64) (n : Int32) (hn : -9 ≤ n.toInt ∧ n.toInt ≤ 9) : c_X3_productOrTooGreat σ x n = some (prodG x n) := by
  unfold c_X3_productOrTooGreat prodG
  by_cases h : n = 0
  · rw [if_pos h, if_pos h]
  · have hz := amtN_0 hn h
    have e : c_J9_abs_0f7a4 σ n = some (if (0 : Int32) ≤ n then n else -n) := by
      unfold c_J9_abs_0f7a4
      split <;> rfl
    have e2 : (if (0 : Int32) ≤ n then n else -n).toInt64 = amtN n := by
      unfold amtN
      split <;> rfl
    rw [if_neg h, if_neg h, e, Option.bind_some, e2, if_neg hz, abs_eq, Option.bind_some]
    split <;> rfl
theorem prodG_N {a : Nat} {x : Int64} {n : Int32} (ha : a ≤ 63) (h1 : -4611686018427387904 ≤ x.toInt) (h2 : x.toInt < 4611686018427387904) (hn : -9 ≤ n.toInt ∧ n.toInt ≤ 9) : prodG x n ≠ ((-9223372036854775808) : Int64) := by
  unfold prodG
  by_cases h : n = 0
  · rw [if_pos h]; decide
  · rw [if_neg h]
    split
    · decide
    · rename_i q
      intro e
      have e2 := congrArg Int64.toInt e
      have l1 : (((-9223372036854775808) : Int64)).toInt = -9223372036854775808 := by decide
      rw [l1] at e2
      -- the amount is at most 2^62 through |n|
      have hx := absL_T (x := x) (by omega)
      have hd : ∀ d : Int, 1 ≤ d → d ≤ 9 → (amtN n).toInt = d → (absL x).toInt * d ≤ 4611686018427387904 := by
        intro d d1 d2 d3
        have l2 : (4611686018427387904 : Int64).toInt = 4611686018427387904 := by decide
        have q2 : ¬ ((4611686018427387904 : Int64) / amtN n).toInt < (absL x).toInt := fun z => q ((fa_lt64 _ _).mpr z)
        have ed : ((4611686018427387904 : Int64) / amtN n).toInt = Int.tdiv 4611686018427387904 d := by
          rw [Int64.toInt_div, l2, d3]
          have h4 : Int.tdiv 4611686018427387904 d = 4611686018427387904 / d := Int.tdiv_eq_ediv_of_nonneg (by decide)
          have h5 : 0 ≤ (4611686018427387904 : Int) / d := Int.ediv_nonneg (by decide) (by omega)
          have h6 : (4611686018427387904 : Int) / d ≤ 4611686018427387904 := Int.ediv_le_self d (by decide)
          rw [h4]
          exact fb_bmodL (by omega) (by omega)
        rw [ed, Int.tdiv_eq_ediv_of_nonneg (by decide)] at q2
        have h7 := Int.mul_ediv_add_emod 4611686018427387904 d
        have h8 := Int.emod_nonneg 4611686018427387904 (show d ≠ 0 by omega)
        have h9 : (absL x).toInt * d ≤ (4611686018427387904 / d) * d := Int.mul_le_mul_of_nonneg_right (by omega) (by omega)
        rw [Int.mul_comm (4611686018427387904 / d) d] at h9
        omega
      have hm : ∀ z : Int, -4611686018427387904 ≤ x.toInt * z → x.toInt * z ≤ 4611686018427387904 → n.toInt = z → False := by
        intro z z1 z2 z3
        rw [fb_mulL (by rw [t64, z3]; omega) (by rw [t64, z3]; omega), t64, z3] at e2
        omega
      have hnn : n.toInt ≠ 0 := fun q => h (by rw [fa_eq, q, I_0])
      by_cases hs : 0 ≤ n.toInt
      · have ea : (amtN n).toInt = n.toInt := by
          rw [amtN_T hn, if_pos hs]
        have := hd n.toInt (by omega) hn.2 ea
        have h3 : (absL x).toInt * n.toInt = x.toInt * n.toInt ∨ (absL x).toInt * n.toInt = -(x.toInt * n.toInt) := by
          rw [hx]
          split
          · exact Or.inl rfl
          · exact Or.inr (Int.neg_mul _ _)
        have h4 : 0 ≤ (absL x).toInt * n.toInt := Int.mul_nonneg (by rw [hx]; split <;> omega) hs
        refine hm n.toInt ?_ ?_ rfl <;> omega
      · have ea : (amtN n).toInt = -n.toInt := by
          rw [amtN_T hn, if_neg hs]
        have := hd (-n.toInt) (by omega) (by omega) ea
        have h3 : (absL x).toInt * (-n.toInt) = x.toInt * n.toInt ∨ (absL x).toInt * (-n.toInt) = -(x.toInt * n.toInt) := by
          rw [hx, Int.mul_neg]
          split
          · exact Or.inr rfl
          · left; rw [Int.neg_mul, Int.neg_neg]
        have h4 : 0 ≤ (absL x).toInt * (-n.toInt) := Int.mul_nonneg (by rw [hx]; split <;> omega) (by omega)
        refine hm n.toInt ?_ ?_ rfl <;> omega
theorem op_scale (I : Ims) (s u : St) (a0 a1 a2 : Int32) (h : Rl I s u) : Agr ["java/lang/IndexOutOfBoundsException", "java/lang/IllegalArgumentException", "java/lang/ArithmeticException"] (Rl I) (c_X3_scale s a0 a1 a2) (m_X4_scale u a0 a1 a2) := by
  obtain ⟨n, k, w, C, M, q, J, hW, hC, hM0, hI⟩ := h
  unfold c_X3_scale m_X4_scale
  have hM : RM n k w C M q J (sI u 0 0 0) := hM0.sI0 (Or.inl rfl)
  have ht : (sI u 0 0 0).1 0 0 = 0 := sIs
  generalize sI u 0 0 0 = u0 at hM ht ⊢
  simp only [needMask_eq, needWord_eq, needImage_eq, needColumn_eq hC hW, needRow_eq hC hW, needWidth_eq, xB_gX, isMask_eq, isWord_eq, isColumn_eq hM hW, isRow_eq hM hW, areIn_eq hM hW, isIn_eq, rg_if, needArgument_eq, needState_eq, Option.bind_some, if_bI, fails_eq, t64, I_m192, I_m62, I_m9, I_0, I_1, I_2, I_3, I_5, I_9, I_16, I_62, I_63, I_64, I_192, I_1000, L_m192, L_m62, L_m9, L_0, L_1, L_2, L_3, L_5, L_9, L_16, L_62, L_63, L_64, L_192, L_1000]
  by_cases h1 : inB a0 k = true
  case neg =>
    rw [Bool.not_eq_true] at h1
    simp only [h1, Bool.false_and, Bool.and_false, Bool.and_self, Bool.true_and, Bool.and_true, Bool.false_eq_true, eq_self, if_true, if_false, reduceIte, ite_self]
    exact Agr.err hW hI 0 rfl rfl rfl sIs hC (hM.sI0 (Or.inl rfl))
  by_cases h2 : inB a2 8 = true
  case neg =>
    rw [Bool.not_eq_true] at h2
    simp only [h1, h2, Bool.false_and, Bool.and_false, Bool.and_self, Bool.true_and, Bool.and_true, Bool.false_eq_true, eq_self, if_true, if_false, reduceIte, ite_self]
    exact Agr.err hW hI 0 rfl rfl rfl sIs hC (hM.sI0 (Or.inl rfl))
  by_cases h3 : rg a1.toInt (-9) 9 = true
  case neg =>
    rw [Bool.not_eq_true] at h3
    simp only [h1, h2, h3, Bool.false_and, Bool.and_false, Bool.and_self, Bool.true_and, Bool.and_true, Bool.false_eq_true, eq_self, if_true, if_false, reduceIte, ite_self]
    exact Agr.err hW hI 1 rfl rfl rfl sIs hC (hM.sI0 (Or.inl rfl))
  simp only [h1, h2, h3, Bool.false_and, Bool.and_false, Bool.and_self, Bool.true_and, Bool.and_true, Bool.false_eq_true, eq_self, if_true, if_false, reduceIte, ite_self]
  obtain ⟨c, hc, rfl⟩ := inB_ex hW.k31 h1
  obtain ⟨m, hm, rfl⟩ := inB_ex (by decide) h2
  have hb := rg_t h3
  have hc6 := hW.c6 hc
  have hw := hW.hw hc
  have hF := @prodOr_eq
  generalize c_X3_productOrTooGreat = F at hF ⊢
  refine Agr.bindC (expect_eq hC hW hc) (fun σ1 h1 => ?_)
  refine Agr.bindC (cact (c := c) (fun r => C c r != ((-9223372036854775808) : Int64) && M m r) (fun r => prodG (C c r) a1) hW (hC.oc (by decide) h1.1) h1.2 (fun i a σ' hi hC' => ?_) (fun a σ' hC' => ?_)) (fun z hz => ?_)
  · simp only [hC'.rows, if_neg (ltL n hW.n31 hi), isNumbered_eq hC' hW hc hi hm, Option.bind_some, if_bI]
    by_cases e : (C c i != ((-9223372036854775808) : Int64) && M m i) = true
    · rw [if_pos e, if_pos e, ix6 hc6, Option.bind_some, ix192 (hW.r192 hi), Option.bind_some, hC'.cell hc hi, hF _ _ _ hb, Option.bind_some, Option.bind_some, Option.bind_some, nI_s]
    · rw [if_neg e, if_neg e, Option.bind_some, nI_s]
  · simp only [hC'.rows]
    exact if_pos (geL n hW.n31)
  refine Agr.bindM (begins_wp hM ht) (fun u1 hu1 => ?_)
  obtain ⟨hM1, ht1, h14, h9⟩ := hu1
  have e9 : (if 0 ≤ a1 then some (a1.toInt64) else some ((-a1).toInt64)) = some (amtN a1) := by
    unfold amtN
    split <;> rfl
  rw [e9, Option.bind_some]
  refine Agr.bindM (mact (c := c) (fun r => C c r != ((-9223372036854775808) : Int64) && M m r) (fun r => prodG (C c r) a1) hW hM1 ht1 h14 h9 (fun i u' hi hM' => ?_) (fun u' hM' => ?_)) (fun u2 hu2 => ?_)
  · have hi2 := hW.r192 hi
    simp only [hM'.rows, if_neg (ltL n hW.n31 hi), hasUnder_eq hM' hW hc hi2 hm, Option.bind_some, if_bI]
    by_cases e : (C c i != ((-9223372036854775808) : Int64) && M m i) = true
    · have hN := nbN (Bool.and_eq_true_iff.mp e).1
      rw [if_pos e, at_eq, Option.bind_some, ixA hc6 hi2, Option.bind_some, hM'.cell hc hi hN, nI_s]
      have key : prodG (C c i) a1 = C c i * a1.toInt64 → wp (((m_X4_lays u' (nI c) (nI i) (C c i * a1.toInt64)).bind fun v46 => some v46).bind fun t21 => some (.inl (nI (i + 1), t21) : (Int32 × St) ⊕ St)) (fun o => ∃ u'', o = .inl (nI (i + 1), u'') ∧ stepM (w c) (fun r => C c r != ((-9223372036854775808) : Int64) && M m r) (fun r => prodG (C c r) a1) i u' u'') := by
        intro eg
        rw [lays_eq hM' hW hc hi2, Option.bind_some, Option.bind_some, ← eg]
        by_cases q : fitB (w c) (prodG (C c i) a1) = true
        · rw [if_pos q]
          exact wp_some ⟨_, rfl, Or.inr (Or.inl ⟨e, q, rfl⟩)⟩
        · rw [if_neg q]
          rw [Bool.not_eq_true] at q
          exact wp_some ⟨_, rfl, Or.inr (Or.inr ⟨e, q, Or.inr ⟨_, rfl⟩⟩)⟩
      by_cases q0 : a1 = 0
      · rw [if_pos q0]
        refine key ?_
        unfold prodG
        rw [if_pos q0, q0, show (0 : Int32).toInt64 = 0 from rfl, Int64.mul_zero]
      · rw [if_neg q0, amountOf_eq, Option.bind_some, if_neg (amtN_0 hb q0)]
        by_cases q1 : absL (C c i) ≤ 4611686018427387904 / amtN a1
        · rw [if_pos q1]
          refine key ?_
          unfold prodG
          rw [if_neg q0, if_neg (by rw [fa_lt64]; rw [fa_le64] at q1; omega)]
        · rw [if_neg q1, Option.bind_some]
          refine wp_some ⟨_, rfl, Or.inr (Or.inr ⟨e, ?_, Or.inl rfl⟩)⟩
          show fitB (w c) (prodG (C c i) a1) = false
          unfold prodG
          rw [if_neg q0, if_pos (by rw [fa_lt64]; rw [fa_le64] at q1; omega)]
          exact fit_max hw.2
    · rw [if_neg e, Option.bind_some, nI_s]
      rw [Bool.not_eq_true] at e
      exact wp_some ⟨_, rfl, Or.inl ⟨e, rfl⟩⟩
  · simp only [hM'.rows]
    exact if_pos (geL n hW.n31)
  exact act_end hW hI hc 2 rfl hz (fun r hr e _ => by
    have b := cell_in hW hc hr (nbN (Bool.and_eq_true_iff.mp e).1)
    exact prodG_N (a := 63) (by decide) b.1 b.2 hb) hu2
