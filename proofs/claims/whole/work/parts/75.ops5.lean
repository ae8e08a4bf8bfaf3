/-! ===== add, plus, scale, shift ===== -/
theorem cell_in {n k : Nat} {w : Nat → Nat} {C : Nat → Nat → Int64} {M : Nat → Nat → Bool} {c r : Nat} (hW : Wf n k w C M) (hc : c < k) (hr : r < n) (hN : C c r ≠ ((-9223372036854775808) : Int64)) : -4611686018427387904 ≤ (C c r).toInt ∧ (C c r).toInt < 4611686018427387904 := by
  have h := fitB_t.mp (fit63 hW hc hr hN)
  unfold Fit at h
  have e : (2 ^ (63 - 1) : Nat) = 4611686018427387904 := by decide
  rw [e] at h
  omega
theorem fit_max {a : Nat} (h : a ≤ 63) : fitB a (9223372036854775807 : Int64) = false := by
  cases e : fitB a (9223372036854775807 : Int64)
  · rfl
  · rw [fitB_t] at e
    have h1 := p2_62 (j := a - 1) (by omega)
    unfold Fit at e
    have h2 : (9223372036854775807 : Int64).toInt = 9223372036854775807 := by decide
    omega
def sumG (x v : Int64) : Int64 := if v.toInt < -4611686018427387904 - x.toInt ∨ 4611686018427387903 - x.toInt < v.toInt then 9223372036854775807 else x + v
theorem sumOr_eq (σ : St) {x : Int64} (v : Int64) (h1 : -4611686018427387904 ≤ x.toInt) (h2 : x.toInt < 4611686018427387904) : c_X3_sumOrTooGreat σ x v = some (sumG x v) := by
  unfold c_X3_sumOrTooGreat sumG
  have l1 : (-4611686018427387904 : Int64).toInt = -4611686018427387904 := by decide
  have l2 : (4611686018427387903 : Int64).toInt = 4611686018427387903 := by decide
  have e1 : ((-4611686018427387904 : Int64) - x).toInt = -4611686018427387904 - x.toInt := by
    rw [fb_subL (by rw [l1]; omega) (by rw [l1]; omega), l1]
  have e2 : ((4611686018427387903 : Int64) - x).toInt = 4611686018427387903 - x.toInt := by
    rw [fb_subL (by rw [l2]; omega) (by rw [l2]; omega), l2]
  simp only [fa_lt64, e1, e2]
  by_cases a1 : v.toInt < -4611686018427387904 - x.toInt
  · simp [a1]
  · by_cases a2 : 4611686018427387903 - x.toInt < v.toInt
    · simp [a1, a2]
    · simp [a1, a2]
/-- the sum fits just if it does as a whole number -/
theorem sumG_fit {a : Nat} {x v : Int64} (ha : a ≤ 63) (h1 : -4611686018427387904 ≤ x.toInt) (h2 : x.toInt < 4611686018427387904) : fitB a (sumG x v) = true ↔ -((2 ^ (a - 1) : Nat) : Int) ≤ x.toInt + v.toInt ∧ x.toInt + v.toInt < ((2 ^ (a - 1) : Nat) : Int) := by
  have hp := p2_62 (j := a - 1) (by omega)
  unfold sumG
  by_cases e : v.toInt < -4611686018427387904 - x.toInt ∨ 4611686018427387903 - x.toInt < v.toInt
  · rw [if_pos e, fit_max ha]
    refine ⟨fun q => (by cases q), fun q => ?_⟩
    omega
  · rw [if_neg e, fitB_t]
    unfold Fit
    rw [fb_addL (by omega) (by omega)]
theorem sumG_ok {a : Nat} {x v : Int64} (ha : a ≤ 63) (h : fitB a (sumG x v) = true) : sumG x v = x + v := by
  unfold sumG at h ⊢
  split
  · rename_i q
    rw [if_pos q, fit_max ha] at h; cases h
  · rfl
theorem sumG_N {x v : Int64} (h1 : -4611686018427387904 ≤ x.toInt) (h2 : x.toInt < 4611686018427387904) : sumG x v ≠ ((-9223372036854775808) : Int64) := by
  unfold sumG
  have l1 : (((-9223372036854775808) : Int64)).toInt = -9223372036854775808 := by decide
  split
  · decide
  · intro q
    have := congrArg Int64.toInt q
    rw [fb_addL (by omega) (by omega), l1] at this
    omega
theorem op_add (I : Ims) (s u : St) (a0 : Int32) (a1 : Int64) (a2 : Int32) (h : Rl I s u) : Agr ["java/lang/IndexOutOfBoundsException", "java/lang/ArithmeticException"] (Rl I) (c_X3_add s a0 a1 a2) (m_X4_add u a0 a1 a2) := by
  obtain ⟨n, k, w, C, M, q, J, hW, hC, hM0, hI⟩ := h
  unfold c_X3_add m_X4_add
  have hM : RM n k w C M q J (sI u 0 0 0) := hM0.sI0 (Or.inl rfl)
  have ht : (sI u 0 0 0).1 0 0 = 0 := sIs
  generalize sI u 0 0 0 = u0 at hM ht ⊢
  simp only [needMask_eq, needWord_eq, needImage_eq, needColumn_eq hC hW, needRow_eq hC hW, needWidth_eq, xB_gX, isMask_eq, isWord_eq, isColumn_eq hM hW, isRow_eq hM hW, areIn_eq hM hW, isIn_eq, rg_if, needArgument_eq, needState_eq, Option.bind_some, if_bI, fails_eq, t64, I_m192, I_m62, I_m9, I_0, I_1, I_2, I_3, I_5, I_9, I_16, I_62, I_63, I_64, I_192, I_1000, L_m192, L_m62, L_m9, L_0, L_1, L_2, L_3, L_5, L_9, L_16, L_62, L_63, L_64, L_192, L_1000]
  by_cases h1 : inB a0 k = true
  case neg =>
    rw [Bool.not_eq_true] at h1
    simp only [h1, Bool.false_and, Bool.and_false, Bool.and_self, Bool.true_and, Bool.and_true, Bool.false_eq_true, eq_self, if_true, if_false, reduceIte, ite_self]
    exact Agr.err hW hI 0 rfl rfl rfl sIs hC (hM.sI0 (Or.inl rfl))
  by_cases h2 : inB a2 8 = true
  case neg =>
    rw [Bool.not_eq_true] at h2
    simp only [h1, h2, Bool.false_and, Bool.and_false, Bool.and_self, Bool.true_and, Bool.and_true, Bool.false_eq_true, eq_self, if_true, if_false, reduceIte, ite_self]
    exact Agr.err hW hI 0 rfl rfl rfl sIs hC (hM.sI0 (Or.inl rfl))
  simp only [h1, h2, Bool.false_and, Bool.and_false, Bool.and_self, Bool.true_and, Bool.and_true, Bool.false_eq_true, eq_self, if_true, if_false, reduceIte, ite_self]
  obtain ⟨c, hc, rfl⟩ := inB_ex hW.k31 h1
  obtain ⟨m, hm, rfl⟩ := inB_ex (by decide) h2
  have hc6 := hW.c6 hc
  have hw := hW.hw hc
  have hF := @sumOr_eq
  generalize c_X3_sumOrTooGreat = F at hF ⊢
  refine Agr.bindC (expect_eq hC hW hc) (fun σ1 h1 => ?_)
  refine Agr.bindC (cact (c := c) (fun r => C c r != ((-9223372036854775808) : Int64) && M m r) (fun r => sumG (C c r) a1) hW (hC.oc (by decide) h1.1) h1.2 (fun i a σ' hi hC' => ?_) (fun a σ' hC' => ?_)) (fun z hz => ?_)
  · simp only [hC'.rows, if_neg (ltL n hW.n31 hi), isNumbered_eq hC' hW hc hi hm, Option.bind_some, if_bI]
    by_cases e : (C c i != ((-9223372036854775808) : Int64) && M m i) = true
    · have b := cell_in hW hc hi (nbN (Bool.and_eq_true_iff.mp e).1)
      rw [if_pos e, if_pos e, ix6 hc6, Option.bind_some, ix192 (hW.r192 hi), Option.bind_some, hC'.cell hc hi, hF σ' a1 b.1 b.2, Option.bind_some, Option.bind_some, Option.bind_some, nI_s]
    · rw [if_neg e, if_neg e, Option.bind_some, nI_s]
  · simp only [hC'.rows]
    exact if_pos (geL n hW.n31)
  refine Agr.bindM (begins_wp hM ht) (fun u1 hu1 => ?_)
  obtain ⟨hM1, ht1, h14, h9⟩ := hu1
  refine Agr.bindM (mact (c := c) (fun r => C c r != ((-9223372036854775808) : Int64) && M m r) (fun r => sumG (C c r) a1) hW hM1 ht1 h14 h9 (fun i u' hi hM' => ?_) (fun u' hM' => ?_)) (fun u2 hu2 => ?_)
  · have hi2 := hW.r192 hi
    simp only [hM'.rows, if_neg (ltL n hW.n31 hi), hasUnder_eq hM' hW hc hi2 hm, Option.bind_some, if_bI]
    by_cases e : (C c i != ((-9223372036854775808) : Int64) && M m i) = true
    · have hN := nbN (Bool.and_eq_true_iff.mp e).1
      have b := cell_in hW hc hi hN
      have hT := most_T (j := w c - 1) (by omega)
      have hp := p2_62 (j := w c - 1) (by omega)
      have hp0 : 0 < 2 ^ (w c - 1) := Nat.pow_pos (by decide)
      have f1 := sumG_fit (a := w c) (v := a1) hw.2 b.1 b.2
      have lo : ((-(lN (2 ^ (w c - 1) - 1)) - (1 : Int64)) - C c i).toInt = -((2 ^ (w c - 1) : Nat) : Int) - (C c i).toInt := by
        have := fb_subL (x := -(lN (2 ^ (w c - 1) - 1)) - (1 : Int64)) (y := C c i) (by rw [hT.2]; omega) (by rw [hT.2]; omega)
        rw [this, hT.2]
      have hi' : (lN (2 ^ (w c - 1) - 1) - C c i).toInt = ((2 ^ (w c - 1) : Nat) : Int) - 1 - (C c i).toInt := by
        have := fb_subL (x := lN (2 ^ (w c - 1) - 1)) (y := C c i) (by rw [hT.1]; omega) (by rw [hT.1]; omega)
        rw [this, hT.1]
      rw [if_pos e, at_eq, Option.bind_some, ixA hc6 hi2, Option.bind_some, most_eq hM' hW hc, Option.bind_some, Option.bind_some, hM'.cell hc hi hN, lo, hi', lays_eq hM' hW hc hi2, nI_s]
      clear lo hi' hT
      by_cases er : rg a1.toInt (-((2 ^ (w c - 1) : Nat) : Int) - (C c i).toInt) (((2 ^ (w c - 1) : Nat) : Int) - 1 - (C c i).toInt) = true
      · have er' := rg_t er
        have ef : fitB (w c) (sumG (C c i) a1) = true := f1.mpr (by omega)
        have eg := sumG_ok hw.2 ef
        rw [if_pos er, ← eg, if_pos ef, Option.bind_some, Option.bind_some]
        exact wp_some ⟨_, rfl, Or.inr (Or.inl ⟨e, ef, rfl⟩)⟩
      · have er' := rg_f er
        have ef : fitB (w c) (sumG (C c i) a1) = false := by
          cases q : fitB (w c) (sumG (C c i) a1)
          · rfl
          · have := f1.mp q; omega
        rw [if_neg er, Option.bind_some]
        exact wp_some ⟨_, rfl, Or.inr (Or.inr ⟨e, ef, Or.inl rfl⟩)⟩
    · rw [if_neg e, Option.bind_some, nI_s]
      rw [Bool.not_eq_true] at e
      exact wp_some ⟨_, rfl, Or.inl ⟨e, rfl⟩⟩
  · simp only [hM'.rows]
    exact if_pos (geL n hW.n31)
  exact act_end hW hI hc 1 rfl hz (fun r hr e _ => by
    have b := cell_in hW hc hr (nbN (Bool.and_eq_true_iff.mp e).1)
    exact sumG_N b.1 b.2) hu2
