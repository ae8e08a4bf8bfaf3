/-! ===== fill, wipe, hold ===== -/
theorem dP_t {C : Nat → Nat → Int64} {c : Nat} {p : Nat → Bool} {g : Nat → Int64} {r : Nat} (h : p r = true) : dP C c p g r = g r := if_pos h
theorem dP_f {C : Nat → Nat → Int64} {c : Nat} {p : Nat → Bool} {g : Nat → Int64} {r : Nat} (h : ¬ p r = true) : dP C c p g r = C c r := if_neg h
theorem ct_s (p : Nat → Bool) (i : Nat) : nI (fb_ct p i) + bI (p i) = nI (fb_ct p (i + 1)) := by
  rw [bI_nI, nI_add, fb_ct_succ]
theorem ct_t {p : Nat → Bool} {i : Nat} (h : p i = true) : nI (fb_ct p i) + 1 = nI (fb_ct p (i + 1)) := by
  rw [← ct_s, h]; rfl
theorem ct_f {p : Nat → Bool} {i : Nat} (h : p i = false) : nI (fb_ct p i) = nI (fb_ct p (i + 1)) := by
  rw [fb_ct_succ, h]; rfl
theorem op_fill (I : Ims) (s u : St) (a0 : Int32) (a1 : Int64) (a2 : Int32) (h : Rl I s u) : Agr ["java/lang/IndexOutOfBoundsException", "java/lang/ArithmeticException"] (Rl I) (c_X3_fill s a0 a1 a2) (m_X4_fill u a0 a1 a2) := by
  obtain ⟨n, k, w, C, M, q, J, hW, hC, hM0, hI⟩ := h
  unfold c_X3_fill m_X4_fill
  have hM : RM n k w C M q J (sI u 0 0 0) := hM0.sI0 (Or.inl rfl)
  have ht : (sI u 0 0 0).1 0 0 = 0 := sIs
  generalize sI u 0 0 0 = u0 at hM ht ⊢
  simp only [needMask_eq, needWord_eq, needImage_eq, needColumn_eq hC hW, needRow_eq hC hW, needWidth_eq, xB_gX, isMask_eq, isWord_eq, isColumn_eq hM hW, isRow_eq hM hW, areIn_eq hM hW, isIn_eq, rg_if, needArgument_eq, needState_eq, Option.bind_some, if_bI, fails_eq, t64, I_m192, I_m62, I_m9, I_0, I_1, I_2, I_3, I_5, I_9, I_16, I_62, I_63, I_64, I_192, I_1000, L_m192, L_m62, L_m9, L_0, L_1, L_2, L_3, L_5, L_9, L_16, L_62, L_63, L_64, L_192, L_1000]
  by_cases h1 : inB a0 k = true
  case neg =>
    rw [Bool.not_eq_true] at h1
    simp only [h1, Bool.false_and, Bool.and_false, Bool.and_self, Bool.true_and, Bool.and_true, Bool.false_eq_true, eq_self, if_true, if_false, reduceIte, ite_self]
    exact Agr.err hW hI 0 rfl rfl rfl sIs hC (hM.sI0 (Or.inl rfl))
  by_cases h2 : inB a2 8 = true
  case neg =>
    rw [Bool.not_eq_true] at h2
    simp only [h1, h2, Bool.false_and, Bool.and_false, Bool.and_self, Bool.true_and, Bool.and_true, Bool.false_eq_true, eq_self, if_true, if_false, reduceIte, ite_self]
    exact Agr.err hW hI 0 rfl rfl rfl sIs hC (hM.sI0 (Or.inl rfl))
  simp only [h1, h2, Bool.false_and, Bool.and_false, Bool.and_self, Bool.true_and, Bool.and_true, Bool.false_eq_true, eq_self, if_true, if_false, reduceIte, ite_self]
  obtain ⟨c, hc, rfl⟩ := inB_ex hW.k31 h1
  obtain ⟨m, hm, rfl⟩ := inB_ex (by decide) h2
  have hc6 := hW.c6 hc
  have hn := hW.hn
  rw [needFit_eq hC hW hc, xB_if, mfits_eq hM hW hc, Option.bind_some, if_bI, tooGreat_eq]
  by_cases h3 : fitB (w c) a1 = true
  case neg =>
    rw [if_neg h3, if_neg h3]
    exact Agr.act hW hI 1 rfl rfl rfl hC hM
  rw [if_pos h3, if_pos h3]
  have hN := fit_N (hW.hw hc).2 h3
  have hD : ∀ r, r < n → dP C c (M m) (fun _ => a1) r = ((-9223372036854775808) : Int64) ∨ Fit (w c) (dP C c (M m) (fun _ => a1) r) := fun r hr => by
    by_cases e : M m r = true
    · rw [dP_t e]; exact Or.inr (fitB_t.mp h3)
    · rw [dP_f e]; exact hW.hf hc hr
  refine Agr.bindC (P := fun z => z.1 = nI (fb_ct (fun r => M m r && C c r == ((-9223372036854775808) : Int64)) n) ∧ RC n k w (colT C c (dP C c (M m) (fun _ => a1)) n) M q z.2) (wp_lp n (fun i (z : Int32 × Int32 × St) => z.1 = nI (fb_ct (fun r => M m r && C c r == ((-9223372036854775808) : Int64)) i) ∧ z.2.1 = nI i ∧ RC n k w (colT C c (dP C c (M m) (fun _ => a1)) i) M q z.2.2) hW.n5 ⟨rfl, rfl, by rw [colT_0]; exact hC⟩ (fun i z hi hJ => ?_) (fun z hJ => ?_)) (fun z hz => ?_)
  · obtain ⟨z1, z2, τ⟩ := z
    obtain ⟨e1, e2, h1⟩ := hJ
    simp only at e1 e2 h1
    subst e1 e2
    have hi2 := hW.r192 hi
    have ec : τ.2 (4 + c) i = C c i := by rw [h1.cell hc hi, colT_o]
    simp only [h1.rows, if_neg (ltL n hW.n31 hi), isUnder_eq h1 hm hi2, Option.bind_some, if_bI]
    by_cases e : M m i = true
    · rw [if_pos e, ix6 hc6, Option.bind_some, ix192 hi2, Option.bind_some, ec, s10, Option.bind_some, Option.bind_some, Option.bind_some, Option.bind_some, nI_s i]
      refine wp_some ⟨?_, rfl, ?_⟩
      · rw [← ct_s]
        show nI _ + bI (decide (C c i = ((-9223372036854775808) : Int64))) = nI _ + bI (M m i && C c i == ((-9223372036854775808) : Int64))
        rw [e, Bool.true_and]
        rfl
      · rw [← colT_s, dP_t e]
        exact rc_set h1 hc
    · rw [if_neg e, Option.bind_some, nI_s i]
      refine wp_some ⟨ct_f (by rw [Bool.not_eq_true] at e; show (M m i && C c i == ((-9223372036854775808) : Int64)) = false; rw [e]; rfl), rfl, ?_⟩
      rw [← colT_e C c _ i (dP_f e)]
      exact h1
  · obtain ⟨z1, z2, τ⟩ := z
    obtain ⟨e1, e2, h1⟩ := hJ
    simp only at e1 e2 h1
    subst e1 e2
    simp only [h1.rows]
    exact wp_eq (if_pos (geL n hW.n31)) ⟨rfl, h1⟩
  obtain ⟨z1, σ'⟩ := z
  obtain ⟨e1, hC'⟩ := hz
  simp only at e1 hC'
  subst e1
  refine Agr.bindM (P := fun z => z.1 = nI (fb_ct (fun r => M m r && C c r == ((-9223372036854775808) : Int64)) n) ∧ z.2.1 0 0 = 0 ∧ RM n k w (colT C c (dP C c (M m) (fun _ => a1)) n) M q J z.2) (wp_lp n (fun i (z : Int32 × Int32 × St) => z.1 = nI (fb_ct (fun r => M m r && C c r == ((-9223372036854775808) : Int64)) i) ∧ z.2.1 = nI i ∧ z.2.2.1 0 0 = 0 ∧ RM n k w (colT C c (dP C c (M m) (fun _ => a1)) i) M q J z.2.2) hW.n5 ⟨rfl, rfl, ht, by rw [colT_0]; exact hM⟩ (fun i z hi hJ => ?_) (fun z hJ => ?_)) (fun z hz => ?_)
  · obtain ⟨z1, z2, τ⟩ := z
    obtain ⟨e1, e2, h0, h1⟩ := hJ
    simp only at e1 e2 h0 h1
    subst e1 e2
    have hi2 := hW.r192 hi
    have hWi := hW.colD hD i
    simp only [h1.rows, if_neg (ltL n hW.n31 hi), at_eq, Option.bind_some, ixB hm hi2, h1.msk hm hi2, if_bI]
    by_cases e : M m i = true
    · rw [if_pos e, ixA hc6 hi2, Option.bind_some, h1.has' hWi hc hi, colT_o, if_bI]
      have eb : (if (C c i != ((-9223372036854775808) : Int64)) = true then some (0 : Int32) else some 1) = some (bI (C c i == ((-9223372036854775808) : Int64))) := by
        by_cases q : C c i = ((-9223372036854775808) : Int64)
        · rw [q]; simp; rfl
        · have q1 : (C c i != ((-9223372036854775808) : Int64)) = true := by simpa using q
          have q2 : (C c i == ((-9223372036854775808) : Int64)) = false := by simpa using q
          rw [q1, q2]; rfl
      rw [eb, Option.bind_some, flag_eq, Option.bind_some, Option.bind_some, Option.bind_some, nz_1, nI_s i]
      refine wp_some ⟨?_, rfl, h0, ?_⟩
      · rw [← ct_s]
        show nI _ + bI (C c i == ((-9223372036854775808) : Int64)) = nI _ + bI (M m i && C c i == ((-9223372036854775808) : Int64))
        rw [e, Bool.true_and]
      · rw [← colT_s, dP_t e]
        exact h1.setCell hi hn hN
    · rw [if_neg e, Option.bind_some, nI_s i]
      refine wp_some ⟨ct_f (by rw [Bool.not_eq_true] at e; show (M m i && C c i == ((-9223372036854775808) : Int64)) = false; rw [e]; rfl), rfl, h0, ?_⟩
      rw [← colT_e C c _ i (dP_f e)]
      exact h1
  · obtain ⟨z1, z2, τ⟩ := z
    obtain ⟨e1, e2, h0, h1⟩ := hJ
    simp only at e1 e2 h0 h1
    subst e1 e2
    simp only [h1.rows]
    exact wp_eq (if_pos (geL n hW.n31)) ⟨rfl, h0, h1⟩
  obtain ⟨z1, u'⟩ := z
  obtain ⟨e1, h0, hM'⟩ := hz
  simp only at e1 h0 hM'
  subst e1
  exact Agr.ok (hW.colD hD n) hI rfl rfl h0 hC' hM'
theorem op_wipe (I : Ims) (s u : St) (a0 a1 : Int32) (h : Rl I s u) : Agr ["java/lang/IndexOutOfBoundsException"] (Rl I) (c_X3_wipe s a0 a1) (m_X4_wipe u a0 a1) := by
  obtain ⟨n, k, w, C, M, q, J, hW, hC, hM0, hI⟩ := h
  unfold c_X3_wipe m_X4_wipe
  have hM : RM n k w C M q J (sI u 0 0 0) := hM0.sI0 (Or.inl rfl)
  have ht : (sI u 0 0 0).1 0 0 = 0 := sIs
  generalize sI u 0 0 0 = u0 at hM ht ⊢
  simp only [needMask_eq, needWord_eq, needImage_eq, needColumn_eq hC hW, needRow_eq hC hW, needWidth_eq, xB_gX, isMask_eq, isWord_eq, isColumn_eq hM hW, isRow_eq hM hW, areIn_eq hM hW, isIn_eq, rg_if, needArgument_eq, needState_eq, Option.bind_some, if_bI, fails_eq, t64, I_m192, I_m62, I_m9, I_0, I_1, I_2, I_3, I_5, I_9, I_16, I_62, I_63, I_64, I_192, I_1000, L_m192, L_m62, L_m9, L_0, L_1, L_2, L_3, L_5, L_9, L_16, L_62, L_63, L_64, L_192, L_1000]
  by_cases h1 : inB a0 k = true
  case neg =>
    rw [Bool.not_eq_true] at h1
    simp only [h1, Bool.false_and, Bool.and_false, Bool.and_self, Bool.true_and, Bool.and_true, Bool.false_eq_true, eq_self, if_true, if_false, reduceIte, ite_self]
    exact Agr.err hW hI 0 rfl rfl rfl sIs hC (hM.sI0 (Or.inl rfl))
  by_cases h2 : inB a1 8 = true
  case neg =>
    rw [Bool.not_eq_true] at h2
    simp only [h1, h2, Bool.false_and, Bool.and_false, Bool.and_self, Bool.true_and, Bool.and_true, Bool.false_eq_true, eq_self, if_true, if_false, reduceIte, ite_self]
    exact Agr.err hW hI 0 rfl rfl rfl sIs hC (hM.sI0 (Or.inl rfl))
  simp only [h1, h2, Bool.false_and, Bool.and_false, Bool.and_self, Bool.true_and, Bool.and_true, Bool.false_eq_true, eq_self, if_true, if_false, reduceIte, ite_self]
  obtain ⟨c, hc, rfl⟩ := inB_ex hW.k31 h1
  obtain ⟨m, hm, rfl⟩ := inB_ex (by decide) h2
  have hc6 := hW.c6 hc
  have hn := hW.hn
  have hD : ∀ r, r < n → dP C c (fun r => C c r != ((-9223372036854775808) : Int64) && M m r) (fun _ => ((-9223372036854775808) : Int64)) r = ((-9223372036854775808) : Int64) ∨ Fit (w c) (dP C c (fun r => C c r != ((-9223372036854775808) : Int64) && M m r) (fun _ => ((-9223372036854775808) : Int64)) r) := fun r hr => by
    by_cases e : (C c r != ((-9223372036854775808) : Int64) && M m r) = true
    · rw [dP_t (p := fun r => C c r != ((-9223372036854775808) : Int64) && M m r) e]; exact Or.inl rfl
    · rw [dP_f (p := fun r => C c r != ((-9223372036854775808) : Int64) && M m r) e]; exact hW.hf hc hr
  refine Agr.bindC (P := fun z => z.1 = nI (fb_ct (fun r => C c r != ((-9223372036854775808) : Int64) && M m r) n) ∧ RC n k w (colT C c (dP C c (fun r => C c r != ((-9223372036854775808) : Int64) && M m r) (fun _ => ((-9223372036854775808) : Int64))) n) M q z.2) (wp_lp n (fun i (z : Int32 × Int32 × St) => z.1 = nI (fb_ct (fun r => C c r != ((-9223372036854775808) : Int64) && M m r) i) ∧ z.2.1 = nI i ∧ RC n k w (colT C c (dP C c (fun r => C c r != ((-9223372036854775808) : Int64) && M m r) (fun _ => ((-9223372036854775808) : Int64))) i) M q z.2.2) hW.n5 ⟨rfl, rfl, by rw [colT_0]; exact hC⟩ (fun i z hi hJ => ?_) (fun z hJ => ?_)) (fun z hz => ?_)
  · obtain ⟨z1, z2, τ⟩ := z
    obtain ⟨e1, e2, h1⟩ := hJ
    simp only at e1 e2 h1
    subst e1 e2
    have hi2 := hW.r192 hi
    have hWi := hW.colD hD i
    simp only [h1.rows, if_neg (ltL n hW.n31 hi), isNumbered_eq h1 hWi hc hi hm, colT_o, Option.bind_some, if_bI]
    by_cases e : (C c i != ((-9223372036854775808) : Int64) && M m i) = true
    · rw [if_pos e, ix6 hc6, Option.bind_some, ix192 hi2, Option.bind_some, Option.bind_some, nI_s i]
      refine wp_some ⟨ct_t e, rfl, ?_⟩
      rw [← colT_s, dP_t (p := fun r => C c r != ((-9223372036854775808) : Int64) && M m r) e]
      exact rc_set h1 hc
    · rw [if_neg e, Option.bind_some, nI_s i]
      refine wp_some ⟨ct_f (by rw [Bool.not_eq_true] at e; exact e), rfl, ?_⟩
      rw [← colT_e C c _ i (dP_f (p := fun r => C c r != ((-9223372036854775808) : Int64) && M m r) e)]
      exact h1
  · obtain ⟨z1, z2, τ⟩ := z
    obtain ⟨e1, e2, h1⟩ := hJ
    simp only at e1 e2 h1
    subst e1 e2
    simp only [h1.rows]
    exact wp_eq (if_pos (geL n hW.n31)) ⟨rfl, h1⟩
  obtain ⟨z1, σ'⟩ := z
  obtain ⟨e1, hC'⟩ := hz
  simp only at e1 hC'
  subst e1
  refine Agr.bindM (P := fun z => z.1 = nI (fb_ct (fun r => C c r != ((-9223372036854775808) : Int64) && M m r) n) ∧ z.2.1 0 0 = 0 ∧ RM n k w (colT C c (dP C c (fun r => C c r != ((-9223372036854775808) : Int64) && M m r) (fun _ => ((-9223372036854775808) : Int64))) n) M q J z.2) (wp_lp n (fun i (z : Int32 × Int32 × St) => z.1 = nI (fb_ct (fun r => C c r != ((-9223372036854775808) : Int64) && M m r) i) ∧ z.2.1 = nI i ∧ z.2.2.1 0 0 = 0 ∧ RM n k w (colT C c (dP C c (fun r => C c r != ((-9223372036854775808) : Int64) && M m r) (fun _ => ((-9223372036854775808) : Int64))) i) M q J z.2.2) hW.n5 ⟨rfl, rfl, ht, by rw [colT_0]; exact hM⟩ (fun i z hi hJ => ?_) (fun z hJ => ?_)) (fun z hz => ?_)
  · obtain ⟨z1, z2, τ⟩ := z
    obtain ⟨e1, e2, h0, h1⟩ := hJ
    simp only at e1 e2 h0 h1
    subst e1 e2
    have hi2 := hW.r192 hi
    have hWi := hW.colD hD i
    simp only [h1.rows, if_neg (ltL n hW.n31 hi), hasUnder_eq h1 hWi hc hi2 hm, colT_o, Option.bind_some, if_bI]
    by_cases e : (C c i != ((-9223372036854775808) : Int64) && M m i) = true
    · rw [if_pos e, at_eq, Option.bind_some, ixA hc6 hi2, Option.bind_some, Option.bind_some, nz_0, nI_s i]
      refine wp_some ⟨ct_t e, rfl, h0, ?_⟩
      rw [← colT_s, dP_t (p := fun r => C c r != ((-9223372036854775808) : Int64) && M m r) e]
      exact h1.clrCell hi hn
    · rw [if_neg e, Option.bind_some, nI_s i]
      refine wp_some ⟨ct_f (by rw [Bool.not_eq_true] at e; exact e), rfl, h0, ?_⟩
      rw [← colT_e C c _ i (dP_f (p := fun r => C c r != ((-9223372036854775808) : Int64) && M m r) e)]
      exact h1
  · obtain ⟨z1, z2, τ⟩ := z
    obtain ⟨e1, e2, h0, h1⟩ := hJ
    simp only at e1 e2 h0 h1
    subst e1 e2
    simp only [h1.rows]
    exact wp_eq (if_pos (geL n hW.n31)) ⟨rfl, h0, h1⟩
  obtain ⟨z1, u'⟩ := z
  obtain ⟨e1, h0, hM'⟩ := hz
  simp only at e1 h0 hM'
  subst e1
  exact Agr.ok (hW.colD hD n) hI rfl rfl h0 hC' hM'
theorem maxL_eq (σ : St) (x y : Int64) : c_J9_max_f86c9 σ x y = some (if x < y then y else x) := by
  unfold c_J9_max_f86c9
  split <;> rfl
theorem minL_eq (σ : St) (x y : Int64) : c_J9_min_f86c9 σ x y = some (if y < x then y else x) := by
  unfold c_J9_min_f86c9
  split <;> rfl
/-- a number held between two -/
def clampL (lo hi x : Int64) : Int64 := if lo < (if x < hi then x else hi) then (if x < hi then x else hi) else lo
theorem clamp_in {lo hi x : Int64} (h1 : lo ≤ x) (h2 : x ≤ hi) : clampL lo hi x = x := by
  unfold clampL
  rw [fa_le64] at h1 h2
  by_cases q : x < hi
  · rw [if_pos q]
    by_cases q2 : lo < x
    · rw [if_pos q2]
    · rw [if_neg q2, fa_eq64]
      rw [fa_lt64] at q2
      omega
  · rw [if_neg q]
    rw [fa_lt64] at q
    have e : hi = x := by rw [fa_eq64]; omega
    rw [e]
    by_cases q2 : lo < x
    · rw [if_pos q2]
    · rw [if_neg q2, fa_eq64]
      rw [fa_lt64] at q2
      omega
theorem clamp_lo {lo hi x : Int64} (h : lo ≤ hi) (h1 : x < lo) : clampL lo hi x = lo := by
  unfold clampL
  rw [fa_le64] at h
  rw [fa_lt64] at h1
  rw [if_pos (show x < hi by rw [fa_lt64]; omega), if_neg (by rw [fa_lt64]; omega)]
theorem clamp_hi {lo hi x : Int64} (h : lo ≤ hi) (h1 : hi < x) : clampL lo hi x = hi := by
  unfold clampL
  rw [fa_le64] at h
  rw [fa_lt64] at h1
  rw [if_neg (show ¬ x < hi by rw [fa_lt64]; omega)]
  by_cases q : lo < hi
  · rw [if_pos q]
  · rw [if_neg q, fa_eq64]
    rw [fa_lt64] at q
    omega
theorem op_hold (I : Ims) (s u : St) (a0 : Int32) (a1 a2 : Int64) (a3 : Int32) (h : Rl I s u) : Agr ["java/lang/IndexOutOfBoundsException", "java/lang/IllegalArgumentException", "java/lang/ArithmeticException"] (Rl I) (c_X3_hold s a0 a1 a2 a3) (m_X4_hold u a0 a1 a2 a3) := by
  obtain ⟨n, k, w, C, M, q, J, hW, hC, hM0, hI⟩ := h
  unfold c_X3_hold m_X4_hold
  have hM : RM n k w C M q J (sI u 0 0 0) := hM0.sI0 (Or.inl rfl)
  have ht : (sI u 0 0 0).1 0 0 = 0 := sIs
  generalize sI u 0 0 0 = u0 at hM ht ⊢
  simp only [needMask_eq, needWord_eq, needImage_eq, needColumn_eq hC hW, needRow_eq hC hW, needWidth_eq, xB_gX, isMask_eq, isWord_eq, isColumn_eq hM hW, isRow_eq hM hW, areIn_eq hM hW, isIn_eq, rg_if, needArgument_eq, needState_eq, Option.bind_some, if_bI, fails_eq, t64, I_m192, I_m62, I_m9, I_0, I_1, I_2, I_3, I_5, I_9, I_16, I_62, I_63, I_64, I_192, I_1000, L_m192, L_m62, L_m9, L_0, L_1, L_2, L_3, L_5, L_9, L_16, L_62, L_63, L_64, L_192, L_1000]
  by_cases h1 : inB a0 k = true
  case neg =>
    rw [Bool.not_eq_true] at h1
    simp only [h1, Bool.false_and, Bool.and_false, Bool.and_self, Bool.true_and, Bool.and_true, Bool.false_eq_true, eq_self, if_true, if_false, reduceIte, ite_self]
    exact Agr.err hW hI 0 rfl rfl rfl sIs hC (hM.sI0 (Or.inl rfl))
  by_cases h2 : inB a3 8 = true
  case neg =>
    rw [Bool.not_eq_true] at h2
    simp only [h1, h2, Bool.false_and, Bool.and_false, Bool.and_self, Bool.true_and, Bool.and_true, Bool.false_eq_true, eq_self, if_true, if_false, reduceIte, ite_self]
    exact Agr.err hW hI 0 rfl rfl rfl sIs hC (hM.sI0 (Or.inl rfl))
  simp only [h1, h2, Bool.false_and, Bool.and_false, Bool.and_self, Bool.true_and, Bool.and_true, Bool.false_eq_true, eq_self, if_true, if_false, reduceIte, ite_self]
  obtain ⟨c, hc, rfl⟩ := inB_ex hW.k31 h1
  obtain ⟨m, hm, rfl⟩ := inB_ex (by decide) h2
  have hc6 := hW.c6 hc
  have hn := hW.hn
  have hw := hW.hw hc
  by_cases h3 : a1 ≤ a2
  case neg =>
    have q : a2 < a1 := by rw [fa_lt64]; rw [fa_le64] at h3; omega
    rw [if_neg h3, if_pos q]
    exact Agr.err hW hI 1 rfl rfl rfl sIs hC (hM.sI0 (Or.inl rfl))
  rw [if_pos h3, if_neg (show ¬ a2 < a1 by rw [fa_lt64]; rw [fa_le64] at h3; omega), Option.bind_some, show c_X3_needArgument s (1 : Int32) = some (gX true "java/lang/IllegalArgumentException", s) from rfl, xB_gX, if_pos rfl, needFit_eq hC hW hc, xB_if, mfits_eq hM hW hc, Option.bind_some, if_bI, tooGreat_eq]
  by_cases f1 : fitB (w c) a1 = true
  case neg =>
    rw [if_neg f1, if_neg f1]
    exact Agr.act hW hI 2 rfl rfl rfl hC hM
  rw [if_pos f1, if_pos f1, needFit_eq hC hW hc, xB_if, mfits_eq hM hW hc, Option.bind_some, if_bI]
  by_cases f2 : fitB (w c) a2 = true
  case neg =>
    rw [if_neg f2, if_neg f2]
    exact Agr.act hW hI 2 rfl rfl rfl hC hM
  rw [if_pos f2, if_pos f2]
  have fitc : ∀ x, fitB (w c) x = true → fitB (w c) (clampL a1 a2 x) = true := fun x hx => by
    by_cases q1 : x < a1
    · rw [clamp_lo h3 q1]; exact f1
    · by_cases q2 : a2 < x
      · rw [clamp_hi h3 q2]; exact f2
      · rw [clamp_in (by rw [fa_le64]; rw [fa_lt64] at q1; omega) (by rw [fa_le64]; rw [fa_lt64] at q2; omega)]; exact hx
  have hok : okD (w c) (dP C c (fun r => C c r != ((-9223372036854775808) : Int64) && M m r) (fun r => clampL a1 a2 (C c r))) n = true := decide_eq_true fun r hr => by
    by_cases e : (C c r != ((-9223372036854775808) : Int64) && M m r) = true
    · rw [dP_t (p := fun r => C c r != ((-9223372036854775808) : Int64) && M m r) e, fitc _ (fitB_t.mpr ((hW.hf hc hr).resolve_left (nbN (Bool.and_eq_true_iff.mp e).1))), Bool.or_true]
    · rw [dP_f (p := fun r => C c r != ((-9223372036854775808) : Int64) && M m r) e, Bool.or_eq_true]
      rcases hW.hf hc hr with q | q
      · left; rw [q]; simp
      · right; exact fitB_t.mpr q
  refine Agr.bindC (expect_eq hC hW hc) (fun σ1 h1 => ?_)
  refine Agr.bindC (cact0 (c := c) (fun r => C c r != ((-9223372036854775808) : Int64) && M m r) (fun r => clampL a1 a2 (C c r)) hW (hC.oc (by decide) h1.1) h1.2 (fun i σ' hi hC' => ?_) (fun σ' hC' => ?_)) (fun σ2 hσ => ?_)
  · simp only [hC'.rows, if_neg (ltL n hW.n31 hi), isNumbered_eq hC' hW hc hi hm, Option.bind_some, if_bI]
    by_cases e : (C c i != ((-9223372036854775808) : Int64) && M m i) = true
    · rw [if_pos e, if_pos e, ix6 hc6, Option.bind_some, ix192 (hW.r192 hi), Option.bind_some, hC'.cell hc hi, minL_eq, Option.bind_some, maxL_eq, Option.bind_some, Option.bind_some, Option.bind_some, nI_s i]
      rfl
    · rw [if_neg e, if_neg e, Option.bind_some, nI_s i]
  · simp only [hC'.rows]
    exact if_pos (geL n hW.n31)
  obtain ⟨y, ey, hy⟩ := come_wp hσ.1 hW hc hσ.2
  rw [ey]
  rcases hy with ⟨b1, τ, rfl, b2⟩ | ⟨b1, rfl⟩
  case inr => rw [hok] at b1; cases b1
  have hD := fun r hr => by
    have := of_decide_eq_true hok r hr
    rw [Bool.or_eq_true] at this
    exact this.imp (fun q => (by simpa using q : dP C c (fun r => C c r != ((-9223372036854775808) : Int64) && M m r) (fun r => clampL a1 a2 (C c r)) r = ((-9223372036854775808) : Int64))) fitB_t.mp
  refine Agr.bindM (P := fun z => z.1 = nI (fb_ct (fun r => C c r != dP C c (fun r => C c r != ((-9223372036854775808) : Int64) && M m r) (fun r => clampL a1 a2 (C c r)) r) n) ∧ z.2.1 0 0 = 0 ∧ RM n k w (colT C c (dP C c (fun r => C c r != ((-9223372036854775808) : Int64) && M m r) (fun r => clampL a1 a2 (C c r))) n) M q J z.2) (wp_lp n (fun i (z : Int32 × Int32 × St) => z.1 = nI (fb_ct (fun r => C c r != dP C c (fun r => C c r != ((-9223372036854775808) : Int64) && M m r) (fun r => clampL a1 a2 (C c r)) r) i) ∧ z.2.1 = nI i ∧ z.2.2.1 0 0 = 0 ∧ RM n k w (colT C c (dP C c (fun r => C c r != ((-9223372036854775808) : Int64) && M m r) (fun r => clampL a1 a2 (C c r))) i) M q J z.2.2) hW.n5 ⟨rfl, rfl, ht, by rw [colT_0]; exact hM⟩ (fun i z hi hJ => ?_) (fun z hJ => ?_)) (fun z hz => ?_)
  · obtain ⟨z1, z2, v⟩ := z
    obtain ⟨e1, e2, h0, h1⟩ := hJ
    simp only at e1 e2 h0 h1
    subst e1 e2
    have hi2 := hW.r192 hi
    have hWi := hW.colD hD i
    simp only [h1.rows, if_neg (ltL n hW.n31 hi), hasUnder_eq h1 hWi hc hi2 hm, colT_o, Option.bind_some, if_bI]
    by_cases e : (C c i != ((-9223372036854775808) : Int64) && M m i) = true
    · have hN := nbN (Bool.and_eq_true_iff.mp e).1
      have ec : v.2 1 (192 * c + i) = C c i := by
        have := h1.cell hc hi (by rw [colT_o]; exact hN)
        rwa [colT_o] at this
      have hasI : v.1 2 (192 * c + i) = bI true := by
        have := h1.has' hWi hc hi
        rw [colT_o] at this
        rw [this, (Bool.and_eq_true_iff.mp e).1]
      have hdp : dP C c (fun r => C c r != ((-9223372036854775808) : Int64) && M m r) (fun r => clampL a1 a2 (C c r)) i = clampL a1 a2 (C c i) := dP_t (p := fun r => C c r != ((-9223372036854775808) : Int64) && M m r) e
      rw [if_pos e, at_eq, Option.bind_some, ixA hc6 hi2, Option.bind_some, ec]
      by_cases er : rg (C c i).toInt a1.toInt a2.toInt = true
      · have eb := rg_t er
        have ein : clampL a1 a2 (C c i) = C c i := clamp_in ((fa_le64 _ _).mpr eb.1) ((fa_le64 _ _).mpr eb.2)
        rw [if_pos er, Option.bind_some, nI_s i]
        refine wp_some ⟨ct_f (by show (C c i != dP C c (fun r => C c r != ((-9223372036854775808) : Int64) && M m r) (fun r => clampL a1 a2 (C c r)) i) = false; rw [hdp, ein]; simp), rfl, h0, ?_⟩
        rw [← colT_e C c _ i (hdp.trans ein)]
        exact h1
      · have eb := rg_f er
        rw [if_neg er, Option.bind_some, Option.bind_some, ixA hc6 hi2, Option.bind_some, ec]
        have fin : ∀ y : Int64, y = clampL a1 a2 (C c i) → C c i ≠ y → wp (some (.inl (nI (fb_ct (fun r => C c r != dP C c (fun r => C c r != ((-9223372036854775808) : Int64) && M m r) (fun r => clampL a1 a2 (C c r)) r) i) + 1, nI (i + 1), sL v 1 (192 * c + i) y) : (Int32 × Int32 × St) ⊕ (Int32 × St))) (lpP (fun z => z.1 = nI (fb_ct (fun r => C c r != dP C c (fun r => C c r != ((-9223372036854775808) : Int64) && M m r) (fun r => clampL a1 a2 (C c r)) r) (i + 1)) ∧ z.2.1 = nI (i + 1) ∧ z.2.2.1 0 0 = 0 ∧ RM n k w (colT C c (dP C c (fun r => C c r != ((-9223372036854775808) : Int64) && M m r) (fun r => clampL a1 a2 (C c r))) (i + 1)) M q J z.2.2) (fun z => z.1 = nI (fb_ct (fun r => C c r != dP C c (fun r => C c r != ((-9223372036854775808) : Int64) && M m r) (fun r => clampL a1 a2 (C c r)) r) n) ∧ z.2.1 0 0 = 0 ∧ RM n k w (colT C c (dP C c (fun r => C c r != ((-9223372036854775808) : Int64) && M m r) (fun r => clampL a1 a2 (C c r))) n) M q J z.2)) := by
          intro y ey en
          refine wp_some ⟨ct_t (by show (C c i != dP C c (fun r => C c r != ((-9223372036854775808) : Int64) && M m r) (fun r => clampL a1 a2 (C c r)) i) = true; rw [hdp, ← ey]; simpa using en), rfl, h0, ?_⟩
          rw [← colT_s, hdp, ← ey]
          have hs := h1.setCell (c := c) (v := y) hi hn (by rw [ey]; exact fit_N hw.2 (fitc _ (fitB_t.mpr ((hW.hf hc hi).resolve_left hN))))
          have : sI v 2 (192 * c + i) (bI true) = v := by
            refine Prod.ext (funext fun a => funext fun b => ?_) rfl
            show (if a = 2 ∧ b = 192 * c + i then bI true else v.1 a b) = v.1 a b
            by_cases q : a = 2 ∧ b = 192 * c + i
            · rw [if_pos q, q.1, q.2, hasI]
            · rw [if_neg q]
          rw [this] at hs
          exact hs
        by_cases ql : a1 ≤ C c i
        · have q2 : a2 < C c i := by rw [fa_lt64]; rw [fa_le64] at ql; omega
          rw [if_pos ql, Option.bind_some, Option.bind_some, Option.bind_some, nI_s i]
          exact fin a2 (clamp_hi h3 q2).symm (fun q => by rw [fa_lt64, q] at q2; omega)
        · have q2 : C c i < a1 := by rw [fa_lt64]; rw [fa_le64] at ql; omega
          rw [if_neg ql, Option.bind_some, Option.bind_some, Option.bind_some, nI_s i]
          exact fin a1 (clamp_lo h3 q2).symm (fun q => by rw [fa_lt64, q] at q2; omega)
    · rw [if_neg e, Option.bind_some, nI_s i]
      have hdp : dP C c (fun r => C c r != ((-9223372036854775808) : Int64) && M m r) (fun r => clampL a1 a2 (C c r)) i = C c i := dP_f (p := fun r => C c r != ((-9223372036854775808) : Int64) && M m r) e
      refine wp_some ⟨ct_f (by show (C c i != dP C c (fun r => C c r != ((-9223372036854775808) : Int64) && M m r) (fun r => clampL a1 a2 (C c r)) i) = false; rw [hdp]; simp), rfl, h0, ?_⟩
      rw [← colT_e C c _ i hdp]
      exact h1
  · obtain ⟨z1, z2, τ⟩ := z
    obtain ⟨e1, e2, h0, h1⟩ := hJ
    simp only at e1 e2 h0 h1
    subst e1 e2
    simp only [h1.rows]
    exact wp_eq (if_pos (geL n hW.n31)) ⟨rfl, h0, h1⟩
  obtain ⟨z1, u'⟩ := z
  obtain ⟨e1, h0, hM'⟩ := hz
  simp only at e1 h0 hM'
  subst e1
  exact Agr.ok (hW.colD hD n) hI rfl rfl h0 b2 hM'
