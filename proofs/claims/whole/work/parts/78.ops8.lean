/-! ===== shift, fill, wipe, hold ===== -/
theorem shl_mul {j : Nat} (hj : j < 64) (x : Int64) : x <<< ((nI j).toInt64 &&& 63) = x * lN (2 ^ j) := by
  obtain ⟨N, hN, rfl⟩ := wb_of x
  rw [wb_shl N hj, lN_mul]
def shG (x : Int64) (n : Int32) : Int64 := if 0 ≤ n then (if x < ((-4611686018427387904 : Int64) >>> (n.toInt64 &&& 63)) ∨ ((4611686018427387903 : Int64) >>> (n.toInt64 &&& 63)) < x then 9223372036854775807 else x <<< (n.toInt64 &&& 63)) else x >>> ((-n).toInt64 &&& 63)
theorem shOr_eq (σ : St) (x : Int64) (n : Int32) : c_X3_shiftedOrTooGreat σ x n = some (shG x n) := by
  unfold c_X3_shiftedOrTooGreat shG
  by_cases h : 0 ≤ n
  · rw [if_pos h, if_pos h]
    by_cases h1 : x < ((-4611686018427387904 : Int64) >>> (n.toInt64 &&& 63))
    · rw [if_pos h1, if_pos (Or.inl h1)]; rfl
    · rw [if_neg h1]
      by_cases h2 : ((4611686018427387903 : Int64) >>> (n.toInt64 &&& 63)) < x
      · rw [if_pos h2, if_pos (Or.inr h2)]; rfl
      · rw [if_neg h2, if_neg (by rintro (q | q); exact h1 q; exact h2 q)]; rfl
  · rw [if_neg h, if_neg h]
theorem abs_le {x Q : Int} : (if 0 ≤ x then x else -x) ≤ Q ↔ -Q ≤ x ∧ x ≤ Q := by split <;> omega
theorem sh_a {x Q : Int} (e : x < -Q ∨ Q - 1 < x) (q : -Q ≤ x ∧ x ≤ Q) : x = Q := by omega
theorem sh_b {x Q : Int} (e : ¬ (x < -Q ∨ Q - 1 < x)) : -Q ≤ x ∧ x ≤ Q := by omega
/-- the reference's own bound, and what it lays -/
theorem shG_up {a j : Nat} {x : Int64} (ha : a ≤ 63) (hj1 : 1 ≤ j) (hj : j ≤ 62) (h1 : -4611686018427387904 ≤ x.toInt) (h2 : x.toInt < 4611686018427387904) : (absL x ≤ ((4611686018427387904 : Int64) >>> ((nI j).toInt64 &&& 63)) → (fitB a (shG x (nI j)) = fitB a (x <<< ((nI j).toInt64 &&& 63)) ∧ (fitB a (shG x (nI j)) = true → shG x (nI j) = x <<< ((nI j).toInt64 &&& 63)))) ∧ (¬ absL x ≤ ((4611686018427387904 : Int64) >>> ((nI j).toInt64 &&& 63)) → fitB a (shG x (nI j)) = false) ∧ shG x (nI j) ≠ ((-9223372036854775808) : Int64) := by
  have hx := absL_T (x := x) (by omega)
  have hj64 : j < 64 := by omega
  have hn0 : (0 : Int32) ≤ nI j := nI_pos' (by omega)
  have l1 : (-4611686018427387904 : Int64).toInt = -4611686018427387904 := by decide
  have l2 : (4611686018427387903 : Int64).toInt = 4611686018427387903 := by decide
  have l3 : (4611686018427387904 : Int64).toInt = 4611686018427387904 := by decide
  have l4 : (((-9223372036854775808) : Int64)).toInt = -9223372036854775808 := by decide
  have PQ : 2 ^ j * 2 ^ (62 - j) = 4611686018427387904 := by rw [← Nat.pow_add, show j + (62 - j) = 62 by omega]
  have P2 : ((2 ^ j : Nat) : Int) ≤ 4611686018427387904 := Int.ofNat_le.mpr (p2_62 hj)
  have P1 : (2 : Int) ≤ ((2 ^ j : Nat) : Int) := Int.ofNat_le.mpr (Nat.le_trans (by decide) (Nat.pow_le_pow_right (n := 2) (by decide) hj1))
  have Q1 : (1 : Int) ≤ ((2 ^ (62 - j) : Nat) : Int) := Int.ofNat_le.mpr (Nat.pow_pos (by decide))
  have PQi : ((2 ^ j : Nat) : Int) * ((2 ^ (62 - j) : Nat) : Int) = 4611686018427387904 := by
    rw [← Int.natCast_mul, PQ]; rfl
  have m1 : (lN (2 ^ j)).toInt = ((2 ^ j : Nat) : Int) := pk_lT (Nat.lt_of_le_of_lt (p2_62 hj) (by decide))
  have t1 := sar_toInt hj64 (-4611686018427387904 : Int64)
  have t2 := sar_toInt hj64 (4611686018427387903 : Int64)
  have t3 := sar_toInt hj64 (4611686018427387904 : Int64)
  have hp : ((2 ^ (a - 1) : Nat) : Int) ≤ 4611686018427387904 := Int.ofNat_le.mpr (p2_62 (j := a - 1) (by omega))
  have hfit : ∀ y : Int64, fitB a y = true ↔ -((2 ^ (a - 1) : Nat) : Int) ≤ y.toInt ∧ y.toInt < ((2 ^ (a - 1) : Nat) : Int) := fun y => fitB_t
  clear PQ
  generalize ((2 ^ (a - 1) : Nat) : Int) = R at hp hfit
  generalize ((2 ^ (62 - j) : Nat) : Int) = Q at Q1 PQi
  generalize ((2 ^ j : Nat) : Int) = P at P2 P1 PQi m1 t1 t2 t3
  have s1 : ((-4611686018427387904 : Int64) >>> ((nI j).toInt64 &&& 63)).toInt = -Q := by
    rw [t1, l1, ← PQi, show -(P * Q) = P * -Q from (Int.mul_neg _ _).symm]
    exact Int.mul_ediv_cancel_left _ (by omega)
  have s3 : ((4611686018427387904 : Int64) >>> ((nI j).toInt64 &&& 63)).toInt = Q := by
    rw [t3, l3, ← PQi]
    exact Int.mul_ediv_cancel_left _ (by omega)
  have s2 : ((4611686018427387903 : Int64) >>> ((nI j).toInt64 &&& 63)).toInt = Q - 1 := by
    rw [t2, l2, show (4611686018427387903 : Int) = (P - 1) + P * (Q - 1) by rw [Int.mul_sub, PQi]; omega, Int.add_mul_ediv_left _ _ (by omega), Int.ediv_eq_zero_of_lt (by omega) (by omega), Int.zero_add]
  have hmul : ∀ z : Int, -Q ≤ z → z ≤ Q → -4611686018427387904 ≤ z * P ∧ z * P ≤ 4611686018427387904 := by
    intro z z1 z2
    have a1 := Int.mul_le_mul_of_nonneg_right z1 (show (0 : Int) ≤ P by omega)
    have a2 := Int.mul_le_mul_of_nonneg_right z2 (show (0 : Int) ≤ P by omega)
    rw [Int.neg_mul, Int.mul_comm Q, PQi] at a1
    rw [Int.mul_comm Q, PQi] at a2
    exact ⟨a1, a2⟩
  have shT : -Q ≤ x.toInt → x.toInt ≤ Q → (x <<< ((nI j).toInt64 &&& 63)).toInt = x.toInt * P := by
    intro z1 z2
    have hz := hmul x.toInt z1 z2
    have := fb_mulL (x := x) (y := lN (2 ^ j)) (by rw [m1]; omega) (by rw [m1]; omega)
    rw [shl_mul hj64, this, m1]
  have gv : shG x (nI j) = if x.toInt < -Q ∨ Q - 1 < x.toInt then 9223372036854775807 else x <<< ((nI j).toInt64 &&& 63) := by
    unfold shG
    rw [if_pos hn0]
    simp only [fa_lt64, s1, s2]
  rw [gv]
  have amt : (absL x ≤ ((4611686018427387904 : Int64) >>> ((nI j).toInt64 &&& 63))) ↔ -Q ≤ x.toInt ∧ x.toInt ≤ Q := by
    rw [fa_le64, s3, hx]
    exact abs_le
  rw [amt]
  by_cases e : x.toInt < -Q ∨ Q - 1 < x.toInt
  · rw [if_pos e, fit_max ha]
    refine ⟨fun q => ⟨?_, fun z => (by cases z)⟩, fun _ => rfl, by decide⟩
    have ex : x.toInt = Q := sh_a e q
    have eT := shT q.1 q.2
    rw [ex, Int.mul_comm, PQi] at eT
    cases qf : fitB a (x <<< ((nI j).toInt64 &&& 63))
    · rfl
    · rw [hfit] at qf
      have h9 := qf.2
      rw [eT] at h9
      exact absurd hp (Int.not_le.mpr h9)
  · rw [if_neg e]
    have eb := sh_b e
    refine ⟨fun q => ⟨rfl, fun _ => rfl⟩, fun q => absurd eb q, fun q => ?_⟩
    have eT := shT eb.1 eb.2
    have hb := (hmul x.toInt eb.1 eb.2).1
    rw [q, l4] at eT
    rw [← eT] at hb
    exact absurd hb (by decide)
theorem op_shift (I : Ims) (s u : St) (a0 a1 a2 : Int32) (h : Rl I s u) : Agr ["java/lang/IndexOutOfBoundsException", "java/lang/IllegalArgumentException", "java/lang/ArithmeticException"] (Rl I) (c_X3_shift s a0 a1 a2) (m_X4_shift u a0 a1 a2) := by
  obtain ⟨n, k, w, C, M, q, J, hW, hC, hM0, hI⟩ := h
  unfold c_X3_shift m_X4_shift
  have hM : RM n k w C M q J (sI u 0 0 0) := hM0.sI0 (Or.inl rfl)
  have ht : (sI u 0 0 0).1 0 0 = 0 := sIs
  generalize sI u 0 0 0 = u0 at hM ht ⊢
  simp only [needMask_eq, needWord_eq, needImage_eq, needColumn_eq hC hW, needRow_eq hC hW, needWidth_eq, xB_gX, isMask_eq, isWord_eq, isColumn_eq hM hW, isRow_eq hM hW, areIn_eq hM hW, isIn_eq, rg_if, needArgument_eq, needState_eq, Option.bind_some, if_bI, fails_eq, t64, I_m192, I_m62, I_m9, I_0, I_1, I_2, I_3, I_5, I_9, I_16, I_62, I_63, I_64, I_192, I_1000, L_m192, L_m62, L_m9, L_0, L_1, L_2, L_3, L_5, L_9, L_16, L_62, L_63, L_64, L_192, L_1000]
  by_cases h1 : inB a0 k = true
  case neg =>
    rw [Bool.not_eq_true] at h1
    simp only [h1, Bool.false_and, Bool.and_false, Bool.and_self, Bool.true_and, Bool.and_true, Bool.false_eq_true, eq_self, if_true, if_false, reduceIte, ite_self]
    exact Agr.err hW hI 0 rfl rfl rfl sIs hC (hM.sI0 (Or.inl rfl))
  by_cases h2 : inB a2 8 = true
  case neg =>
    rw [Bool.not_eq_true] at h2
    simp only [h1, h2, Bool.false_and, Bool.and_false, Bool.and_self, Bool.true_and, Bool.and_true, Bool.false_eq_true, eq_self, if_true, if_false, reduceIte, ite_self]
    exact Agr.err hW hI 0 rfl rfl rfl sIs hC (hM.sI0 (Or.inl rfl))
  simp only [h1, h2, Bool.false_and, Bool.and_false, Bool.and_self, Bool.true_and, Bool.and_true, Bool.false_eq_true, eq_self, if_true, if_false, reduceIte, ite_self]
  obtain ⟨c, hc, rfl⟩ := inB_ex hW.k31 h1
  obtain ⟨m, hm, rfl⟩ := inB_ex (by decide) h2
  have hc6 := hW.c6 hc
  have hw := hW.hw hc
  by_cases q0 : a1 = 0
  · simp only [if_pos q0, Option.bind_some]
    rw [show c_X3_needArgument s (0 : Int32) = some (gX false "java/lang/IllegalArgumentException", s) from rfl]
    exact Agr.err hW hI 1 rfl rfl rfl sIs hC (hM.sI0 (Or.inl rfl))
  simp only [if_neg q0, Option.bind_some, needArgument_eq, xB_gX]
  by_cases h3 : rg a1.toInt (-62) 62 = true
  case neg =>
    rw [Bool.not_eq_true] at h3
    simp only [h1, h2, h3, Bool.false_and, Bool.and_false, Bool.and_self, Bool.true_and, Bool.and_true, Bool.false_eq_true, eq_self, if_true, if_false, reduceIte, ite_self]
    exact Agr.err hW hI 1 rfl rfl rfl sIs hC (hM.sI0 (Or.inl rfl))
  simp only [h1, h2, h3, Bool.false_and, Bool.and_false, Bool.and_self, Bool.true_and, Bool.and_true, Bool.false_eq_true, eq_self, if_true, if_false, reduceIte, ite_self]
  have hb := rg_t h3
  have hF := @shOr_eq
  generalize c_X3_shiftedOrTooGreat = F at hF ⊢
  refine Agr.bindC (expect_eq hC hW hc) (fun σ1 h1 => ?_)
  refine Agr.bindC (cact (c := c) (fun r => C c r != ((-9223372036854775808) : Int64) && M m r) (fun r => shG (C c r) a1) hW (hC.oc (by decide) h1.1) h1.2 (fun i a σ' hi hC' => ?_) (fun a σ' hC' => ?_)) (fun z hz => ?_)
  · simp only [hC'.rows, if_neg (ltL n hW.n31 hi), isNumbered_eq hC' hW hc hi hm, Option.bind_some, if_bI]
    by_cases e : (C c i != ((-9223372036854775808) : Int64) && M m i) = true
    · rw [if_pos e, if_pos e, ix6 hc6, Option.bind_some, ix192 (hW.r192 hi), Option.bind_some, hC'.cell hc hi, hF, Option.bind_some, Option.bind_some, Option.bind_some, nI_s]
    · rw [if_neg e, if_neg e, Option.bind_some, nI_s]
  · simp only [hC'.rows]
    exact if_pos (geL n hW.n31)
  refine Agr.bindM (begins_wp hM ht) (fun u1 hu1 => ?_)
  obtain ⟨hM1, ht1, h14, h9⟩ := hu1
  have up : ∀ hp : 0 ≤ a1, ∃ j, 1 ≤ j ∧ j ≤ 62 ∧ a1 = nI j := fun hp => by
    have h0 : a1.toInt ≠ 0 := fun q => q0 (by rw [fa_eq, q, I_0])
    rw [fa_le, I_0] at hp
    refine ⟨a1.toInt.toNat, by omega, by omega, ?_⟩
    rw [fa_eq, nI_toInt (by omega)]
    omega
  refine Agr.bindM (mact (c := c) (fun r => C c r != ((-9223372036854775808) : Int64) && M m r) (fun r => shG (C c r) a1) hW hM1 ht1 h14 h9 (fun i u' hi hM' => ?_) (fun u' hM' => ?_)) (fun u2 hu2 => ?_)
  · have hi2 := hW.r192 hi
    simp only [hM'.rows, if_neg (ltL n hW.n31 hi), hasUnder_eq hM' hW hc hi2 hm, Option.bind_some, if_bI]
    by_cases e : (C c i != ((-9223372036854775808) : Int64) && M m i) = true
    · have hN := nbN (Bool.and_eq_true_iff.mp e).1
      have b := cell_in hW hc hi hN
      rw [if_pos e, at_eq, Option.bind_some, ixA hc6 hi2, Option.bind_some, hM'.cell hc hi hN, nI_s]
      have key : ∀ y : Int64, fitB (w c) (shG (C c i) a1) = fitB (w c) y → (fitB (w c) (shG (C c i) a1) = true → shG (C c i) a1 = y) → wp (((m_X4_lays u' (nI c) (nI i) y).bind fun v46 => some v46).bind fun t21 => some (.inl (nI (i + 1), t21) : (Int32 × St) ⊕ St)) (fun o => ∃ u'', o = .inl (nI (i + 1), u'') ∧ stepM (w c) (fun r => C c r != ((-9223372036854775808) : Int64) && M m r) (fun r => shG (C c r) a1) i u' u'') := by
        intro y ey eg
        rw [lays_eq hM' hW hc hi2, Option.bind_some, Option.bind_some]
        by_cases q : fitB (w c) (shG (C c i) a1) = true
        · rw [if_pos (ey.symm.trans q), ← eg q]
          exact wp_some ⟨_, rfl, Or.inr (Or.inl ⟨e, q, rfl⟩)⟩
        · rw [Bool.not_eq_true] at q
          rw [if_neg (by rw [← ey, q]; decide)]
          exact wp_some ⟨_, rfl, Or.inr (Or.inr ⟨e, q, Or.inr ⟨_, rfl⟩⟩)⟩
      by_cases hp : 0 ≤ a1
      · obtain ⟨j, j1, j2, ej⟩ := up hp
        rw [if_pos hp, amountOf_eq, Option.bind_some]
        obtain ⟨k1, k2, k3⟩ := shG_up (x := C c i) hw.2 j1 j2 b.1 b.2
        rw [← ej] at k1 k2 k3
        by_cases q1 : absL (C c i) ≤ ((4611686018427387904 : Int64) >>> (a1.toInt64 &&& 63))
        · rw [if_pos q1]
          exact key _ (k1 q1).1 (k1 q1).2
        · rw [if_neg q1, Option.bind_some]
          exact wp_some ⟨_, rfl, Or.inr (Or.inr ⟨e, k2 q1, Or.inl rfl⟩)⟩
      · rw [if_neg hp]
        have eg : shG (C c i) a1 = C c i >>> ((-a1).toInt64 &&& 63) := by
          unfold shG
          rw [if_neg hp]
        exact key _ (by rw [eg]) (fun _ => eg)
    · rw [if_neg e, Option.bind_some, nI_s]
      rw [Bool.not_eq_true] at e
      exact wp_some ⟨_, rfl, Or.inl ⟨e, rfl⟩⟩
  · simp only [hM'.rows]
    exact if_pos (geL n hW.n31)
  refine act_end hW hI hc 2 rfl hz (fun r hr e _ => ?_) hu2
  have b := cell_in hW hc hr (nbN (Bool.and_eq_true_iff.mp e).1)
  by_cases hp : 0 ≤ a1
  · obtain ⟨j, j1, j2, ej⟩ := up hp
    obtain ⟨k1, k2, k3⟩ := shG_up (x := C c r) hw.2 j1 j2 b.1 b.2
    rw [← ej] at k3
    exact k3
  · show shG (C c r) a1 ≠ ((-9223372036854775808) : Int64)
    unfold shG
    rw [if_neg hp]
    obtain ⟨j, hj, ej⟩ : ∃ j, j < 64 ∧ -a1 = nI j := by
      rw [fa_le, I_0] at hp
      refine ⟨(-a1.toInt).toNat, by omega, ?_⟩
      rw [fa_eq, fb_negI (by omega), nI_toInt (by omega)]
      omega
    rw [ej]
    intro q
    have := congrArg Int64.toInt q
    have l4 : (((-9223372036854775808) : Int64)).toInt = -9223372036854775808 := by decide
    rw [sar_toInt hj, l4] at this
    have P0 : (0 : Int) < ((2 ^ j : Nat) : Int) := p2pos j
    have h3 := Int.mul_ediv_add_emod (C c r).toInt ((2 ^ j : Nat) : Int)
    have h4 := Int.emod_nonneg (C c r).toInt (Int.ne_of_gt P0)
    have h5 := Int.emod_lt_of_pos (C c r).toInt P0
    rw [this] at h3
    have h6 : ((2 ^ j : Nat) : Int) * -9223372036854775808 ≤ 1 * -9223372036854775808 := Int.mul_le_mul_of_nonpos_right (by omega) (by decide)
    omega
